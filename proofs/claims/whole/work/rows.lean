section
-- ===== PART A: goes FIRST, ahead of the names: the tables' words, and 'selects' of the private methods out of them =====
/-- a private method of a class that the tables say can be made, by its rows of tables_1 -/
def lw_okq (q : MethodName × Nat) : Prop := (q.1.cls ≠ "java/lang/invoke/MethodHandle" ∧ q.1.cls ≠ "java/lang/invoke/VarHandle") ∧ Cond.instantiable q.1.cls q.2 ∈ tables_1 ∧ Cond.privateMethod q.1 ∈ tables_1 ∧ Cond.instanceMethod q.1 ∈ tables_1
theorem lw_p0 : lw_okq (⟨"NetBorders$Paths", "closeOnward", "()V"⟩, 3) := ⟨⟨by decide +kernel, by decide +kernel⟩, List.mem_of_getElem? (i := 100) (by decide +kernel), List.mem_of_getElem? (i := 280) (by decide +kernel), List.mem_of_getElem? (i := 281) (by decide +kernel)⟩
theorem lw_p1 : lw_okq (⟨"NetBorders$Paths", "turnToBack", "()V"⟩, 3) := ⟨⟨by decide +kernel, by decide +kernel⟩, List.mem_of_getElem? (i := 100) (by decide +kernel), List.mem_of_getElem? (i := 284) (by decide +kernel), List.mem_of_getElem? (i := 285) (by decide +kernel)⟩
theorem lw_p2 : lw_okq (⟨"NetBorders", "isWhole", "()Z"⟩, 5) := ⟨⟨by decide +kernel, by decide +kernel⟩, List.mem_of_getElem? (i := 14) (by decide +kernel), List.mem_of_getElem? (i := 302) (by decide +kernel), List.mem_of_getElem? (i := 303) (by decide +kernel)⟩
theorem lw_p3 : lw_okq (⟨"NetBorders$Sides", "gatherArcs", "(LNetBorders$Net;)V"⟩, 5) := ⟨⟨by decide +kernel, by decide +kernel⟩, List.mem_of_getElem? (i := 118) (by decide +kernel), List.mem_of_getElem? (i := 318) (by decide +kernel), List.mem_of_getElem? (i := 319) (by decide +kernel)⟩
theorem lw_p4 : lw_okq (⟨"NetBorders$Net", "arcsAt", "([II)I"⟩, 5) := ⟨⟨by decide +kernel, by decide +kernel⟩, List.mem_of_getElem? (i := 28) (by decide +kernel), List.mem_of_getElem? (i := 326) (by decide +kernel), List.mem_of_getElem? (i := 327) (by decide +kernel)⟩
theorem lw_p5 : lw_okq (⟨"NetBorders", "imagesMade", "()I"⟩, 5) := ⟨⟨by decide +kernel, by decide +kernel⟩, List.mem_of_getElem? (i := 14) (by decide +kernel), List.mem_of_getElem? (i := 342) (by decide +kernel), List.mem_of_getElem? (i := 343) (by decide +kernel)⟩
theorem lw_p6 : lw_okq (⟨"NetBorders", "prepareSearch", "()V"⟩, 5) := ⟨⟨by decide +kernel, by decide +kernel⟩, List.mem_of_getElem? (i := 14) (by decide +kernel), List.mem_of_getElem? (i := 365) (by decide +kernel), List.mem_of_getElem? (i := 366) (by decide +kernel)⟩
theorem lw_p7 : lw_okq (⟨"NetBorders$Search", "takeBorder", "(I)V"⟩, 10) := ⟨⟨by decide +kernel, by decide +kernel⟩, List.mem_of_getElem? (i := 145) (by decide +kernel), List.mem_of_getElem? (i := 373) (by decide +kernel), List.mem_of_getElem? (i := 374) (by decide +kernel)⟩
theorem lw_p8 : lw_okq (⟨"NetBorders$Search", "boundOf", "(II)I"⟩, 10) := ⟨⟨by decide +kernel, by decide +kernel⟩, List.mem_of_getElem? (i := 145) (by decide +kernel), List.mem_of_getElem? (i := 389) (by decide +kernel), List.mem_of_getElem? (i := 390) (by decide +kernel)⟩
theorem lw_p9 : lw_okq (⟨"NetBorders$Search", "drawFromSlack", "(I)I"⟩, 10) := ⟨⟨by decide +kernel, by decide +kernel⟩, List.mem_of_getElem? (i := 145) (by decide +kernel), List.mem_of_getElem? (i := 396) (by decide +kernel), List.mem_of_getElem? (i := 397) (by decide +kernel)⟩
theorem lw_p10 : lw_okq (⟨"NetBorders$Search", "timesBy", "(III)I"⟩, 10) := ⟨⟨by decide +kernel, by decide +kernel⟩, List.mem_of_getElem? (i := 145) (by decide +kernel), List.mem_of_getElem? (i := 444) (by decide +kernel), List.mem_of_getElem? (i := 445) (by decide +kernel)⟩
theorem lw_p11 : lw_okq (⟨"NetBorders$Family", "firstCrossing", "(I)I"⟩, 4) := ⟨⟨by decide +kernel, by decide +kernel⟩, List.mem_of_getElem? (i := 63) (by decide +kernel), List.mem_of_getElem? (i := 484) (by decide +kernel), List.mem_of_getElem? (i := 485) (by decide +kernel)⟩
theorem lw_p12 : lw_okq (⟨"NetBorders$Family", "crossedBy", "(I)I"⟩, 4) := ⟨⟨by decide +kernel, by decide +kernel⟩, List.mem_of_getElem? (i := 63) (by decide +kernel), List.mem_of_getElem? (i := 488) (by decide +kernel), List.mem_of_getElem? (i := 489) (by decide +kernel)⟩
theorem lw_p13 : lw_okq (⟨"NetBorders$Family", "areCrossing", "(II)Z"⟩, 4) := ⟨⟨by decide +kernel, by decide +kernel⟩, List.mem_of_getElem? (i := 63) (by decide +kernel), List.mem_of_getElem? (i := 492) (by decide +kernel), List.mem_of_getElem? (i := 493) (by decide +kernel)⟩
theorem lw_p14 : lw_okq (⟨"NetBorders$Family", "uncrossPair", "(II)V"⟩, 4) := ⟨⟨by decide +kernel, by decide +kernel⟩, List.mem_of_getElem? (i := 63) (by decide +kernel), List.mem_of_getElem? (i := 496) (by decide +kernel), List.mem_of_getElem? (i := 497) (by decide +kernel)⟩
theorem lw_p15 : lw_okq (⟨"NetBordersModel", "changed", "()V"⟩, 34) := ⟨⟨by decide +kernel, by decide +kernel⟩, List.mem_of_getElem? (i := 531) (by decide +kernel), List.mem_of_getElem? (i := 649) (by decide +kernel), List.mem_of_getElem? (i := 650) (by decide +kernel)⟩
def lw_privs_1 : List (MethodName × Nat) := [(⟨"NetBorders$Paths", "closeOnward", "()V"⟩, 3), (⟨"NetBorders$Paths", "turnToBack", "()V"⟩, 3), (⟨"NetBorders", "isWhole", "()Z"⟩, 5), (⟨"NetBorders$Sides", "gatherArcs", "(LNetBorders$Net;)V"⟩, 5), (⟨"NetBorders$Net", "arcsAt", "([II)I"⟩, 5), (⟨"NetBorders", "imagesMade", "()I"⟩, 5), (⟨"NetBorders", "prepareSearch", "()V"⟩, 5), (⟨"NetBorders$Search", "takeBorder", "(I)V"⟩, 10), (⟨"NetBorders$Search", "boundOf", "(II)I"⟩, 10), (⟨"NetBorders$Search", "drawFromSlack", "(I)I"⟩, 10), (⟨"NetBorders$Search", "timesBy", "(III)I"⟩, 10), (⟨"NetBorders$Family", "firstCrossing", "(I)I"⟩, 4), (⟨"NetBorders$Family", "crossedBy", "(I)I"⟩, 4), (⟨"NetBorders$Family", "areCrossing", "(II)Z"⟩, 4), (⟨"NetBorders$Family", "uncrossPair", "(II)V"⟩, 4), (⟨"NetBordersModel", "changed", "()V"⟩, 34)]
theorem lw_r1 : ∀ q ∈ lw_privs_1, lw_okq q := List.forall_mem_cons.mpr ⟨lw_p0, List.forall_mem_cons.mpr ⟨lw_p1, List.forall_mem_cons.mpr ⟨lw_p2, List.forall_mem_cons.mpr ⟨lw_p3, List.forall_mem_cons.mpr ⟨lw_p4, List.forall_mem_cons.mpr ⟨lw_p5, List.forall_mem_cons.mpr ⟨lw_p6, List.forall_mem_cons.mpr ⟨lw_p7, List.forall_mem_cons.mpr ⟨lw_p8, List.forall_mem_cons.mpr ⟨lw_p9, List.forall_mem_cons.mpr ⟨lw_p10, List.forall_mem_cons.mpr ⟨lw_p11, List.forall_mem_cons.mpr ⟨lw_p12, List.forall_mem_cons.mpr ⟨lw_p13, List.forall_mem_cons.mpr ⟨lw_p14, List.forall_mem_cons.mpr ⟨lw_p15, fun _ h => absurd h List.not_mem_nil⟩⟩⟩⟩⟩⟩⟩⟩⟩⟩⟩⟩⟩⟩⟩⟩
theorem lw_p16 : lw_okq (⟨"NetBordersModel", "isArc", "(I)Z"⟩, 34) := ⟨⟨by decide +kernel, by decide +kernel⟩, List.mem_of_getElem? (i := 531) (by decide +kernel), List.mem_of_getElem? (i := 661) (by decide +kernel), List.mem_of_getElem? (i := 662) (by decide +kernel)⟩
theorem lw_p17 : lw_okq (⟨"NetBordersModel", "isNode", "(I)Z"⟩, 34) := ⟨⟨by decide +kernel, by decide +kernel⟩, List.mem_of_getElem? (i := 531) (by decide +kernel), List.mem_of_getElem? (i := 677) (by decide +kernel), List.mem_of_getElem? (i := 678) (by decide +kernel)⟩
theorem lw_p18 : lw_okq (⟨"NetBordersModel", "partOf", "(I)I"⟩, 34) := ⟨⟨by decide +kernel, by decide +kernel⟩, List.mem_of_getElem? (i := 531) (by decide +kernel), List.mem_of_getElem? (i := 692) (by decide +kernel), List.mem_of_getElem? (i := 693) (by decide +kernel)⟩
theorem lw_p19 : lw_okq (⟨"NetBordersModel", "reach", "(IIZ)I"⟩, 34) := ⟨⟨by decide +kernel, by decide +kernel⟩, List.mem_of_getElem? (i := 531) (by decide +kernel), List.mem_of_getElem? (i := 696) (by decide +kernel), List.mem_of_getElem? (i := 697) (by decide +kernel)⟩
theorem lw_p20 : lw_okq (⟨"NetBordersModel", "isWhole", "()Z"⟩, 34) := ⟨⟨by decide +kernel, by decide +kernel⟩, List.mem_of_getElem? (i := 531) (by decide +kernel), List.mem_of_getElem? (i := 708) (by decide +kernel), List.mem_of_getElem? (i := 709) (by decide +kernel)⟩
theorem lw_p21 : lw_okq (⟨"NetBordersModel", "all", "()I"⟩, 34) := ⟨⟨by decide +kernel, by decide +kernel⟩, List.mem_of_getElem? (i := 531) (by decide +kernel), List.mem_of_getElem? (i := 712) (by decide +kernel), List.mem_of_getElem? (i := 713) (by decide +kernel)⟩
theorem lw_p22 : lw_okq (⟨"NetBordersModel", "isStrongWith", "(I)Z"⟩, 34) := ⟨⟨by decide +kernel, by decide +kernel⟩, List.mem_of_getElem? (i := 531) (by decide +kernel), List.mem_of_getElem? (i := 716) (by decide +kernel), List.mem_of_getElem? (i := 717) (by decide +kernel)⟩
theorem lw_p23 : lw_okq (⟨"NetBordersModel", "makeSides", "()V"⟩, 34) := ⟨⟨by decide +kernel, by decide +kernel⟩, List.mem_of_getElem? (i := 531) (by decide +kernel), List.mem_of_getElem? (i := 720) (by decide +kernel), List.mem_of_getElem? (i := 721) (by decide +kernel)⟩
theorem lw_p24 : lw_okq (⟨"NetBordersModel", "isSide", "(I)Z"⟩, 34) := ⟨⟨by decide +kernel, by decide +kernel⟩, List.mem_of_getElem? (i := 531) (by decide +kernel), List.mem_of_getElem? (i := 724) (by decide +kernel), List.mem_of_getElem? (i := 725) (by decide +kernel)⟩
theorem lw_p25 : lw_okq (⟨"NetBordersModel", "borderOf", "(I)I"⟩, 34) := ⟨⟨by decide +kernel, by decide +kernel⟩, List.mem_of_getElem? (i := 531) (by decide +kernel), List.mem_of_getElem? (i := 728) (by decide +kernel), List.mem_of_getElem? (i := 729) (by decide +kernel)⟩
theorem lw_p26 : lw_okq (⟨"NetBordersModel", "members", "()I"⟩, 34) := ⟨⟨by decide +kernel, by decide +kernel⟩, List.mem_of_getElem? (i := 531) (by decide +kernel), List.mem_of_getElem? (i := 732) (by decide +kernel), List.mem_of_getElem? (i := 733) (by decide +kernel)⟩
theorem lw_p27 : lw_okq (⟨"NetBordersModel", "makeSets", "()V"⟩, 34) := ⟨⟨by decide +kernel, by decide +kernel⟩, List.mem_of_getElem? (i := 531) (by decide +kernel), List.mem_of_getElem? (i := 756) (by decide +kernel), List.mem_of_getElem? (i := 757) (by decide +kernel)⟩
theorem lw_p28 : lw_okq (⟨"NetBordersModel", "hasNoneToSpare", "(I)Z"⟩, 34) := ⟨⟨by decide +kernel, by decide +kernel⟩, List.mem_of_getElem? (i := 531) (by decide +kernel), List.mem_of_getElem? (i := 760) (by decide +kernel), List.mem_of_getElem? (i := 761) (by decide +kernel)⟩
theorem lw_p29 : lw_okq (⟨"NetBordersModel", "weightOf", "(I)I"⟩, 34) := ⟨⟨by decide +kernel, by decide +kernel⟩, List.mem_of_getElem? (i := 531) (by decide +kernel), List.mem_of_getElem? (i := 764) (by decide +kernel), List.mem_of_getElem? (i := 765) (by decide +kernel)⟩
theorem lw_p30 : lw_okq (⟨"NetBordersModel", "oftenAtMost", "(II)I"⟩, 34) := ⟨⟨by decide +kernel, by decide +kernel⟩, List.mem_of_getElem? (i := 531) (by decide +kernel), List.mem_of_getElem? (i := 780) (by decide +kernel), List.mem_of_getElem? (i := 781) (by decide +kernel)⟩
theorem lw_p31 : lw_okq (⟨"NetBordersModel", "firstCross", "()I"⟩, 34) := ⟨⟨by decide +kernel, by decide +kernel⟩, List.mem_of_getElem? (i := 531) (by decide +kernel), List.mem_of_getElem? (i := 796) (by decide +kernel), List.mem_of_getElem? (i := 797) (by decide +kernel)⟩
def lw_privs_2 : List (MethodName × Nat) := [(⟨"NetBordersModel", "isArc", "(I)Z"⟩, 34), (⟨"NetBordersModel", "isNode", "(I)Z"⟩, 34), (⟨"NetBordersModel", "partOf", "(I)I"⟩, 34), (⟨"NetBordersModel", "reach", "(IIZ)I"⟩, 34), (⟨"NetBordersModel", "isWhole", "()Z"⟩, 34), (⟨"NetBordersModel", "all", "()I"⟩, 34), (⟨"NetBordersModel", "isStrongWith", "(I)Z"⟩, 34), (⟨"NetBordersModel", "makeSides", "()V"⟩, 34), (⟨"NetBordersModel", "isSide", "(I)Z"⟩, 34), (⟨"NetBordersModel", "borderOf", "(I)I"⟩, 34), (⟨"NetBordersModel", "members", "()I"⟩, 34), (⟨"NetBordersModel", "makeSets", "()V"⟩, 34), (⟨"NetBordersModel", "hasNoneToSpare", "(I)Z"⟩, 34), (⟨"NetBordersModel", "weightOf", "(I)I"⟩, 34), (⟨"NetBordersModel", "oftenAtMost", "(II)I"⟩, 34), (⟨"NetBordersModel", "firstCross", "()I"⟩, 34)]
theorem lw_r2 : ∀ q ∈ lw_privs_2, lw_okq q := List.forall_mem_cons.mpr ⟨lw_p16, List.forall_mem_cons.mpr ⟨lw_p17, List.forall_mem_cons.mpr ⟨lw_p18, List.forall_mem_cons.mpr ⟨lw_p19, List.forall_mem_cons.mpr ⟨lw_p20, List.forall_mem_cons.mpr ⟨lw_p21, List.forall_mem_cons.mpr ⟨lw_p22, List.forall_mem_cons.mpr ⟨lw_p23, List.forall_mem_cons.mpr ⟨lw_p24, List.forall_mem_cons.mpr ⟨lw_p25, List.forall_mem_cons.mpr ⟨lw_p26, List.forall_mem_cons.mpr ⟨lw_p27, List.forall_mem_cons.mpr ⟨lw_p28, List.forall_mem_cons.mpr ⟨lw_p29, List.forall_mem_cons.mpr ⟨lw_p30, List.forall_mem_cons.mpr ⟨lw_p31, fun _ h => absurd h List.not_mem_nil⟩⟩⟩⟩⟩⟩⟩⟩⟩⟩⟩⟩⟩⟩⟩⟩
theorem lw_p32 : lw_okq (⟨"NetBordersModel", "cross", "(II)Z"⟩, 34) := ⟨⟨by decide +kernel, by decide +kernel⟩, List.mem_of_getElem? (i := 531) (by decide +kernel), List.mem_of_getElem? (i := 800) (by decide +kernel), List.mem_of_getElem? (i := 801) (by decide +kernel)⟩
def lw_privs_3 : List (MethodName × Nat) := [(⟨"NetBordersModel", "cross", "(II)Z"⟩, 34)]
theorem lw_r3 : ∀ q ∈ lw_privs_3, lw_okq q := List.forall_mem_cons.mpr ⟨lw_p32, fun _ h => absurd h List.not_mem_nil⟩
def lw_privs : List (MethodName × Nat) := lw_privs_1 ++ (lw_privs_2 ++ (lw_privs_3))
def lw_tbl : List Cond := k2_sels lw_privs ++ tables_1
theorem lw_privs_ok : ∀ q ∈ lw_privs, lw_okq q := by
  show ∀ q ∈ lw_privs_1 ++ (lw_privs_2 ++ (lw_privs_3)), lw_okq q
  exact List.forall_mem_append.mpr ⟨lw_r1, List.forall_mem_append.mpr ⟨lw_r2, lw_r3⟩⟩
end
section
/-! ===== BEGIN words of one list among another's, by their places ===== -/
theorem goodIn_r {big : List Cond} (ws : List Cond) (ps : List Nat) (hp : ws = ps.filterMap (fun i => big[i]?)) (h : ws.all goodWord = true) : GoodIn big ws := by
  intro w hw
  have h1 := List.all_eq_true.mp h w hw
  rw [hp] at hw
  obtain ⟨i, -, hi⟩ := List.mem_filterMap.mp hw
  have hm : w ∈ big := by first | exact List.mem_of_getElem? hi | exact List.getElem?_mem hi
  exact ⟨hm, good_of_word h1⟩
theorem goodIn_app {big a b : List Cond} (ha : GoodIn big a) (hb : GoodIn big b) : GoodIn big (a ++ b) := fun w h => (List.mem_append.mp h).elim (ha w) (hb w)
theorem goodIn_ca {big a b : List Cond} {c : Cond} (ha : GoodIn big (c :: a)) (hb : GoodIn big b) : GoodIn big (c :: (a ++ b)) := fun w h => (List.mem_cons.mp h).elim (fun e => ha w (List.mem_cons.mpr (Or.inl e))) (fun h => (List.mem_append.mp h).elim (fun h => ha w (List.mem_cons.mpr (Or.inr h))) (hb w))
theorem goodIn_sub {big ws : List Cond} (hm : ∀ w ∈ ws, w ∈ big) (h : ws.all goodWord = true) : GoodIn big ws := fun w hw => ⟨hm w hw, good_of_word (List.all_eq_true.mp h w hw)⟩
/-! ===== END ===== -/

/-! ===== BEGIN printed: names, fields, word lists, decode rows ===== -/
def RX0 : String := "NetBorders$Bench"
def TX0 : u_T := fun k => match k with
  | 0 => ("NetBorders$Bench", "net", "LNetBorders$Net;", true)
  | 1 => ("NetBorders$Bench", "family", "LNetBorders$Family;", true)
  | _ => ("NetBorders$Bench", "chosen", "I", false)
def tyX0 : Nat → FieldType := fun k => match k with
  | 0 => .object "NetBorders$Net"
  | 1 => .object "NetBorders$Family"
  | _ => .int
abbrev wsX00 : List Cond := u_ws RX0 TX0 3
theorem nmX0 : ∀ a, a < 3 → ∀ b, b < 3 → a ≠ b → (TX0 a).2.1 ≠ (TX0 b).2.1 := by decide +kernel
theorem tyX0_ok : ∀ k, k < 3 → parseFieldDescriptor (TX0 k).2.2.1 = some (tyX0 k) := by decide +kernel
abbrev cX0_init : ByteArray := prog_2_method_1_code
def yX0_init : MethodName := ⟨RX0, "<init>", "()V"⟩
abbrev cX0_copyFrom : ByteArray := prog_2_method_2_code
def yX0_copyFrom : MethodName := ⟨RX0, "copyFrom", "(LNetBorders$Bench;)V"⟩
def RX1 : String := "NetBorders$Family"
def TX1 : u_T := fun k => match k with
  | 0 => ("NetBorders$Family", "atHand", "Z", false)
  | 1 => ("NetBorders$Family", "nodes", "I", false)
  | 2 => ("NetBorders$Family", "times", "[I", true)
  | _ => ("NetBorders$Family", "load", "[I", true)
def tyX1 : Nat → FieldType := fun k => match k with
  | 0 => .boolean
  | 1 => .int
  | 2 => .array .int
  | _ => .array .int
abbrev wsX10 : List Cond := u_ws RX1 TX1 4
theorem nmX1 : ∀ a, a < 4 → ∀ b, b < 4 → a ≠ b → (TX1 a).2.1 ≠ (TX1 b).2.1 := by decide +kernel
theorem tyX1_ok : ∀ k, k < 4 → parseFieldDescriptor (TX1 k).2.2.1 = some (tyX1 k) := by decide +kernel
abbrev cX1_init : ByteArray := prog_3_method_1_code
def yX1_init : MethodName := ⟨RX1, "<init>", "()V"⟩
abbrev cX1_putAway : ByteArray := prog_3_method_2_code
def yX1_putAway : MethodName := ⟨RX1, "putAway", "()V"⟩
abbrev cX1_open : ByteArray := prog_3_method_3_code
def yX1_open : MethodName := ⟨RX1, "open", "(I)V"⟩
abbrev cX1_change : ByteArray := prog_3_method_4_code
def yX1_change : MethodName := ⟨RX1, "change", "(III)V"⟩
abbrev cX1_size : ByteArray := prog_3_method_5_code
def yX1_size : MethodName := ⟨RX1, "size", "()I"⟩
abbrev cX1_memberAt : ByteArray := prog_3_method_6_code
def yX1_memberAt : MethodName := ⟨RX1, "memberAt", "(I)I"⟩
abbrev cX1_uncrossAll : ByteArray := prog_3_method_7_code
def yX1_uncrossAll : MethodName := ⟨RX1, "uncrossAll", "()I"⟩
abbrev cX1_firstCrossing : ByteArray := prog_3_method_8_code
def yX1_firstCrossing : MethodName := ⟨RX1, "firstCrossing", "(I)I"⟩
abbrev cX1_crossedBy : ByteArray := prog_3_method_9_code
def yX1_crossedBy : MethodName := ⟨RX1, "crossedBy", "(I)I"⟩
abbrev cX1_areCrossing : ByteArray := prog_3_method_10_code
def yX1_areCrossing : MethodName := ⟨RX1, "areCrossing", "(II)Z"⟩
abbrev cX1_uncrossPair : ByteArray := prog_3_method_11_code
def yX1_uncrossPair : MethodName := ⟨RX1, "uncrossPair", "(II)V"⟩
abbrev cX1_copyFrom : ByteArray := prog_3_method_12_code
def yX1_copyFrom : MethodName := ⟨RX1, "copyFrom", "(LNetBorders$Family;)V"⟩
def RX2 : String := "NetBorders$Net"
def TX2 : u_T := fun k => match k with
  | 0 => ("NetBorders$Net", "nodes", "I", false)
  | 1 => ("NetBorders$Net", "arcs", "I", false)
  | 2 => ("NetBorders$Net", "tail", "[I", true)
  | 3 => ("NetBorders$Net", "head", "[I", true)
  | _ => ("NetBorders$Net", "weight", "[I", true)
def tyX2 : Nat → FieldType := fun k => match k with
  | 0 => .int
  | 1 => .int
  | 2 => .array .int
  | 3 => .array .int
  | _ => .array .int
abbrev wsX20 : List Cond := u_ws RX2 TX2 5
theorem nmX2 : ∀ a, a < 5 → ∀ b, b < 5 → a ≠ b → (TX2 a).2.1 ≠ (TX2 b).2.1 := by decide +kernel
theorem tyX2_ok : ∀ k, k < 5 → parseFieldDescriptor (TX2 k).2.2.1 = some (tyX2 k) := by decide +kernel
abbrev cX2_init : ByteArray := prog_4_method_1_code
def yX2_init : MethodName := ⟨RX2, "<init>", "()V"⟩
abbrev cX2_clear : ByteArray := prog_4_method_2_code
def yX2_clear : MethodName := ⟨RX2, "clear", "(I)V"⟩
abbrev cX2_hasNode : ByteArray := prog_4_method_3_code
def yX2_hasNode : MethodName := ⟨RX2, "hasNode", "(I)Z"⟩
abbrev cX2_hasArc : ByteArray := prog_4_method_4_code
def yX2_hasArc : MethodName := ⟨RX2, "hasArc", "(I)Z"⟩
abbrev cX2_allNodes : ByteArray := prog_4_method_5_code
def yX2_allNodes : MethodName := ⟨RX2, "allNodes", "()I"⟩
abbrev cX2_append : ByteArray := prog_4_method_6_code
def yX2_append : MethodName := ⟨RX2, "append", "(III)I"⟩
abbrev cX2_remove : ByteArray := prog_4_method_7_code
def yX2_remove : MethodName := ⟨RX2, "remove", "(I)V"⟩
abbrev cX2_merge : ByteArray := prog_4_method_8_code
def yX2_merge : MethodName := ⟨RX2, "merge", "(II)V"⟩
abbrev cX2_renumbered : ByteArray := prog_4_method_9_code
def yX2_renumbered : MethodName := ⟨RX2, "renumbered", "(III)I"⟩
abbrev cX2_isSide : ByteArray := prog_4_method_10_code
def yX2_isSide : MethodName := ⟨RX2, "isSide", "(I)Z"⟩
abbrev cX2_entering : ByteArray := prog_4_method_11_code
def yX2_entering : MethodName := ⟨RX2, "entering", "(I)I"⟩
abbrev cX2_leaving : ByteArray := prog_4_method_12_code
def yX2_leaving : MethodName := ⟨RX2, "leaving", "(I)I"⟩
abbrev cX2_arcsFrom : ByteArray := prog_4_method_13_code
def yX2_arcsFrom : MethodName := ⟨RX2, "arcsFrom", "(I)I"⟩
abbrev cX2_arcsTo : ByteArray := prog_4_method_14_code
def yX2_arcsTo : MethodName := ⟨RX2, "arcsTo", "(I)I"⟩
abbrev cX2_arcsAt : ByteArray := prog_4_method_15_code
def yX2_arcsAt : MethodName := ⟨RX2, "arcsAt", "([II)I"⟩
abbrev cX2_copyFrom : ByteArray := prog_4_method_16_code
def yX2_copyFrom : MethodName := ⟨RX2, "copyFrom", "(LNetBorders$Net;)V"⟩
def RX3 : String := "NetBorders$Paths"
def TX3 : u_T := fun k => match k with
  | 0 => ("NetBorders$Paths", "onward", "[I", true)
  | 1 => ("NetBorders$Paths", "back", "[I", true)
  | _ => ("NetBorders$Paths", "nodes", "I", false)
def tyX3 : Nat → FieldType := fun k => match k with
  | 0 => .array .int
  | 1 => .array .int
  | _ => .int
abbrev wsX30 : List Cond := u_ws RX3 TX3 3
theorem nmX3 : ∀ a, a < 3 → ∀ b, b < 3 → a ≠ b → (TX3 a).2.1 ≠ (TX3 b).2.1 := by decide +kernel
theorem tyX3_ok : ∀ k, k < 3 → parseFieldDescriptor (TX3 k).2.2.1 = some (tyX3 k) := by decide +kernel
abbrev cX3_init : ByteArray := prog_5_method_1_code
def yX3_init : MethodName := ⟨RX3, "<init>", "()V"⟩
abbrev cX3_follow : ByteArray := prog_5_method_2_code
def yX3_follow : MethodName := ⟨RX3, "follow", "(LNetBorders$Net;I)V"⟩
abbrev cX3_closeOnward : ByteArray := prog_5_method_3_code
def yX3_closeOnward : MethodName := ⟨RX3, "closeOnward", "()V"⟩
abbrev cX3_turnToBack : ByteArray := prog_5_method_4_code
def yX3_turnToBack : MethodName := ⟨RX3, "turnToBack", "()V"⟩
abbrev cX3_areStrong : ByteArray := prog_5_method_5_code
def yX3_areStrong : MethodName := ⟨RX3, "areStrong", "()Z"⟩
abbrev cX3_part : ByteArray := prog_5_method_6_code
def yX3_part : MethodName := ⟨RX3, "part", "(I)I"⟩
abbrev cX3_parts : ByteArray := prog_5_method_7_code
def yX3_parts : MethodName := ⟨RX3, "parts", "()I"⟩
def RX4 : String := "NetBorders$Search"
def TX4 : u_T := fun k => match k with
  | 0 => ("NetBorders$Search", "best", "I", false)
  | 1 => ("NetBorders$Search", "bestArcs", "I", false)
  | 2 => ("NetBorders$Search", "size", "I", false)
  | 3 => ("NetBorders$Search", "tightest", "I", false)
  | 4 => ("NetBorders$Search", "dry", "I", false)
  | 5 => ("NetBorders$Search", "barred", "I", false)
  | 6 => ("NetBorders$Search", "arcs", "I", false)
  | 7 => ("NetBorders$Search", "border", "[I", true)
  | 8 => ("NetBorders$Search", "price", "[I", true)
  | _ => ("NetBorders$Search", "slack", "[I", true)
def tyX4 : Nat → FieldType := fun k => match k with
  | 0 => .int
  | 1 => .int
  | 2 => .int
  | 3 => .int
  | 4 => .int
  | 5 => .int
  | 6 => .int
  | 7 => .array .int
  | 8 => .array .int
  | _ => .array .int
abbrev wsX40 : List Cond := u_ws RX4 TX4 10
theorem nmX4 : ∀ a, a < 10 → ∀ b, b < 10 → a ≠ b → (TX4 a).2.1 ≠ (TX4 b).2.1 := by decide +kernel
theorem tyX4_ok : ∀ k, k < 10 → parseFieldDescriptor (TX4 k).2.2.1 = some (tyX4 k) := by decide +kernel
abbrev cX4_init : ByteArray := prog_6_method_1_code
def yX4_init : MethodName := ⟨RX4, "<init>", "()V"⟩
abbrev cX4_takeBorders : ByteArray := prog_6_method_2_code
def yX4_takeBorders : MethodName := ⟨RX4, "takeBorders", "(LNetBorders$Sides;)V"⟩
abbrev cX4_takeBorder : ByteArray := prog_6_method_3_code
def yX4_takeBorder : MethodName := ⟨RX4, "takeBorder", "(I)V"⟩
abbrev cX4_priceByWeight : ByteArray := prog_6_method_4_code
def yX4_priceByWeight : MethodName := ⟨RX4, "priceByWeight", "(LNetBorders$Net;)V"⟩
abbrev cX4_priceWithTies : ByteArray := prog_6_method_5_code
def yX4_priceWithTies : MethodName := ⟨RX4, "priceWithTies", "(LNetBorders$Net;)V"⟩
abbrev cX4_reprice : ByteArray := prog_6_method_6_code
def yX4_reprice : MethodName := ⟨RX4, "reprice", "(II)V"⟩
abbrev cX4_spend : ByteArray := prog_6_method_7_code
def yX4_spend : MethodName := ⟨RX4, "spend", "(II)V"⟩
abbrev cX4_findBelow : ByteArray := prog_6_method_8_code
def yX4_findBelow : MethodName := ⟨RX4, "findBelow", "(I)Z"⟩
abbrev cX4_descend : ByteArray := prog_6_method_9_code
def yX4_descend : MethodName := ⟨RX4, "descend", "(LNetBorders$Search;IIII)V"⟩
abbrev cX4_boundOf : ByteArray := prog_6_method_10_code
def yX4_boundOf : MethodName := ⟨RX4, "boundOf", "(II)I"⟩
abbrev cX4_drawFromSlack : ByteArray := prog_6_method_11_code
def yX4_drawFromSlack : MethodName := ⟨RX4, "drawFromSlack", "(I)I"⟩
abbrev cX4_mostTimes : ByteArray := prog_6_method_12_code
def yX4_mostTimes : MethodName := ⟨RX4, "mostTimes", "(II)I"⟩
abbrev cX4_timesBy : ByteArray := prog_6_method_13_code
def yX4_timesBy : MethodName := ⟨RX4, "timesBy", "(III)I"⟩
def RX5 : String := "NetBorders$Sides"
def TX5 : u_T := fun k => match k with
  | 0 => ("NetBorders$Sides", "size", "I", false)
  | 1 => ("NetBorders$Sides", "bits", "[I", true)
  | 2 => ("NetBorders$Sides", "border", "[I", true)
  | 3 => ("NetBorders$Sides", "tailWithin", "[I", true)
  | _ => ("NetBorders$Sides", "headWithin", "[I", true)
def tyX5 : Nat → FieldType := fun k => match k with
  | 0 => .int
  | 1 => .array .int
  | 2 => .array .int
  | 3 => .array .int
  | _ => .array .int
abbrev wsX50 : List Cond := u_ws RX5 TX5 5
theorem nmX5 : ∀ a, a < 5 → ∀ b, b < 5 → a ≠ b → (TX5 a).2.1 ≠ (TX5 b).2.1 := by decide +kernel
theorem tyX5_ok : ∀ k, k < 5 → parseFieldDescriptor (TX5 k).2.2.1 = some (tyX5 k) := by decide +kernel
abbrev cX5_init : ByteArray := prog_7_method_1_code
def yX5_init : MethodName := ⟨RX5, "<init>", "()V"⟩
abbrev cX5_find : ByteArray := prog_7_method_2_code
def yX5_find : MethodName := ⟨RX5, "find", "(LNetBorders$Net;)V"⟩
abbrev cX5_gatherArcs : ByteArray := prog_7_method_3_code
def yX5_gatherArcs : MethodName := ⟨RX5, "gatherArcs", "(LNetBorders$Net;)V"⟩
def RX6 : String := "NetBorders"
def TX6 : u_T := fun k => match k with
  | 0 => ("NetBorders", "now", "LNetBorders$Bench;", true)
  | 1 => ("NetBorders", "images", "[LNetBorders$Bench;", true)
  | 2 => ("NetBorders", "paths", "LNetBorders$Paths;", true)
  | 3 => ("NetBorders", "sides", "LNetBorders$Sides;", true)
  | _ => ("NetBorders", "search", "LNetBorders$Search;", true)
def tyX6 : Nat → FieldType := fun k => match k with
  | 0 => .object "NetBorders$Bench"
  | 1 => .array (.object "NetBorders$Bench")
  | 2 => .object "NetBorders$Paths"
  | 3 => .object "NetBorders$Sides"
  | _ => .object "NetBorders$Search"
abbrev wsX60 : List Cond := u_ws RX6 TX6 5
theorem nmX6 : ∀ a, a < 5 → ∀ b, b < 5 → a ≠ b → (TX6 a).2.1 ≠ (TX6 b).2.1 := by decide +kernel
theorem tyX6_ok : ∀ k, k < 5 → parseFieldDescriptor (TX6 k).2.2.1 = some (tyX6 k) := by decide +kernel
abbrev cX6_init : ByteArray := prog_1_method_1_code
def yX6_init : MethodName := ⟨RX6, "<init>", "()V"⟩
abbrev cX6_begin : ByteArray := prog_1_method_2_code
def yX6_begin : MethodName := ⟨RX6, "begin", "(I)Z"⟩
abbrev cX6_arc : ByteArray := prog_1_method_3_code
def yX6_arc : MethodName := ⟨RX6, "arc", "(III)I"⟩
abbrev cX6_drop : ByteArray := prog_1_method_4_code
def yX6_drop : MethodName := ⟨RX6, "drop", "(I)I"⟩
abbrev cX6_weigh : ByteArray := prog_1_method_5_code
def yX6_weigh : MethodName := ⟨RX6, "weigh", "(II)I"⟩
abbrev cX6_turn : ByteArray := prog_1_method_6_code
def yX6_turn : MethodName := ⟨RX6, "turn", "(I)Z"⟩
abbrev cX6_join : ByteArray := prog_1_method_7_code
def yX6_join : MethodName := ⟨RX6, "join", "(II)I"⟩
abbrev cX6_tell : ByteArray := prog_1_method_8_code
def yX6_tell : MethodName := ⟨RX6, "tell", "(II)I"⟩
abbrev cX6_node : ByteArray := prog_1_method_9_code
def yX6_node : MethodName := ⟨RX6, "node", "(II)I"⟩
abbrev cX6_count : ByteArray := prog_1_method_10_code
def yX6_count : MethodName := ⟨RX6, "count", "(I)I"⟩
abbrev cX6_side : ByteArray := prog_1_method_11_code
def yX6_side : MethodName := ⟨RX6, "side", "(II)I"⟩
abbrev cX6_bounds : ByteArray := prog_1_method_12_code
def yX6_bounds : MethodName := ⟨RX6, "bounds", "(IZ)I"⟩
abbrev cX6_isDijoin : ByteArray := prog_1_method_13_code
def yX6_isDijoin : MethodName := ⟨RX6, "isDijoin", "(I)Z"⟩
abbrev cX6_isStrong : ByteArray := prog_1_method_14_code
def yX6_isStrong : MethodName := ⟨RX6, "isStrong", "(I)Z"⟩
abbrev cX6_dijoin : ByteArray := prog_1_method_15_code
def yX6_dijoin : MethodName := ⟨RX6, "dijoin", "()I"⟩
abbrev cX6_chosen : ByteArray := prog_1_method_16_code
def yX6_chosen : MethodName := ⟨RX6, "chosen", "()I"⟩
abbrev cX6_cost : ByteArray := prog_1_method_17_code
def yX6_cost : MethodName := ⟨RX6, "cost", "(II)I"⟩
abbrev cX6_packing : ByteArray := prog_1_method_18_code
def yX6_packing : MethodName := ⟨RX6, "packing", "()I"⟩
abbrev cX6_draw : ByteArray := prog_1_method_19_code
def yX6_draw : MethodName := ⟨RX6, "draw", "(II)I"⟩
abbrev cX6_uncross : ByteArray := prog_1_method_20_code
def yX6_uncross : MethodName := ⟨RX6, "uncross", "()I"⟩
abbrev cX6_member : ByteArray := prog_1_method_21_code
def yX6_member : MethodName := ⟨RX6, "member", "(II)I"⟩
abbrev cX6_image : ByteArray := prog_1_method_22_code
def yX6_image : MethodName := ⟨RX6, "image", "(I)Z"⟩
abbrev cX6_again : ByteArray := prog_1_method_23_code
def yX6_again : MethodName := ⟨RX6, "again", "(I)Z"⟩
abbrev cX6_isWeight : ByteArray := prog_1_method_24_code
def yX6_isWeight : MethodName := ⟨RX6, "isWeight", "(I)Z"⟩
abbrev cX6_contains : ByteArray := prog_1_method_25_code
def yX6_contains : MethodName := ⟨RX6, "contains", "(II)Z"⟩
abbrev cX6_sumOver : ByteArray := prog_1_method_26_code
def yX6_sumOver : MethodName := ⟨RX6, "sumOver", "([II)I"⟩
abbrev cX6_isWhole : ByteArray := prog_1_method_27_code
def yX6_isWhole : MethodName := ⟨RX6, "isWhole", "()Z"⟩
abbrev cX6_imagesMade : ByteArray := prog_1_method_28_code
def yX6_imagesMade : MethodName := ⟨RX6, "imagesMade", "()I"⟩
abbrev cX6_prepareSearch : ByteArray := prog_1_method_29_code
def yX6_prepareSearch : MethodName := ⟨RX6, "prepareSearch", "()V"⟩
def RX7 : String := "NetBordersModel"
def TX7 : u_T := fun k => match k with
  | 0 => ("NetBordersModel", "code", "I", false)
  | 1 => ("NetBordersModel", "nodes", "I", false)
  | 2 => ("NetBordersModel", "arcs", "I", false)
  | 3 => ("NetBordersModel", "tail", "[I", true)
  | 4 => ("NetBordersModel", "head", "[I", true)
  | 5 => ("NetBordersModel", "weight", "[I", true)
  | 6 => ("NetBordersModel", "hasSet", "Z", false)
  | 7 => ("NetBordersModel", "set", "I", false)
  | 8 => ("NetBordersModel", "hasFamily", "Z", false)
  | 9 => ("NetBordersModel", "familyNodes", "I", false)
  | 10 => ("NetBordersModel", "load", "[I", true)
  | 11 => ("NetBordersModel", "times", "[I", true)
  | 12 => ("NetBordersModel", "has", "[Z", true)
  | 13 => ("NetBordersModel", "iNodes", "[I", true)
  | 14 => ("NetBordersModel", "iArcs", "[I", true)
  | 15 => ("NetBordersModel", "iTail", "[I", true)
  | 16 => ("NetBordersModel", "iHead", "[I", true)
  | 17 => ("NetBordersModel", "iWeight", "[I", true)
  | 18 => ("NetBordersModel", "iHasSet", "[Z", true)
  | 19 => ("NetBordersModel", "iSet", "[I", true)
  | 20 => ("NetBordersModel", "iHasFamily", "[Z", true)
  | 21 => ("NetBordersModel", "iFamilyNodes", "[I", true)
  | 22 => ("NetBordersModel", "iLoad", "[I", true)
  | 23 => ("NetBordersModel", "iTimes", "[I", true)
  | 24 => ("NetBordersModel", "made", "Z", false)
  | 25 => ("NetBordersModel", "sides", "I", false)
  | 26 => ("NetBordersModel", "sideBits", "[I", true)
  | 27 => ("NetBordersModel", "sideBorder", "[I", true)
  | 28 => ("NetBordersModel", "misses", "[Z", true)
  | 29 => ("NetBordersModel", "least", "I", false)
  | 30 => ("NetBordersModel", "leastSets", "[I", true)
  | 31 => ("NetBordersModel", "setsMade", "Z", false)
  | 32 => ("NetBordersModel", "left", "[I", true)
  | _ => ("NetBordersModel", "spare", "[I", true)
def tyX7 : Nat → FieldType := fun k => match k with
  | 0 => .int
  | 1 => .int
  | 2 => .int
  | 3 => .array .int
  | 4 => .array .int
  | 5 => .array .int
  | 6 => .boolean
  | 7 => .int
  | 8 => .boolean
  | 9 => .int
  | 10 => .array .int
  | 11 => .array .int
  | 12 => .array .boolean
  | 13 => .array .int
  | 14 => .array .int
  | 15 => .array .int
  | 16 => .array .int
  | 17 => .array .int
  | 18 => .array .boolean
  | 19 => .array .int
  | 20 => .array .boolean
  | 21 => .array .int
  | 22 => .array .int
  | 23 => .array .int
  | 24 => .boolean
  | 25 => .int
  | 26 => .array .int
  | 27 => .array .int
  | 28 => .array .boolean
  | 29 => .int
  | 30 => .array .int
  | 31 => .boolean
  | 32 => .array .int
  | _ => .array .int
abbrev wsX70 : List Cond := u_ws RX7 TX7 34
theorem nmX7 : ∀ a, a < 34 → ∀ b, b < 34 → a ≠ b → (TX7 a).2.1 ≠ (TX7 b).2.1 := by decide +kernel
theorem tyX7_ok : ∀ k, k < 34 → parseFieldDescriptor (TX7 k).2.2.1 = some (tyX7 k) := by decide +kernel
abbrev cX7_init : ByteArray := prog_9_method_1_code
def yX7_init : MethodName := ⟨RX7, "<init>", "()V"⟩
abbrev cX7_in : ByteArray := prog_9_method_3_code
def yX7_in : MethodName := ⟨RX7, "in", "(III)Z"⟩
abbrev cX7_all : ByteArray := prog_9_method_4_code
def yX7_all : MethodName := ⟨RX7, "all", "()I"⟩
abbrev cX7_ones : ByteArray := prog_9_method_5_code
def yX7_ones : MethodName := ⟨RX7, "ones", "(I)I"⟩
abbrev cX7_changed : ByteArray := prog_9_method_6_code
def yX7_changed : MethodName := ⟨RX7, "changed", "()V"⟩
abbrev cX7_isSide : ByteArray := prog_9_method_7_code
def yX7_isSide : MethodName := ⟨RX7, "isSide", "(I)Z"⟩
abbrev cX7_borderOf : ByteArray := prog_9_method_8_code
def yX7_borderOf : MethodName := ⟨RX7, "borderOf", "(I)I"⟩
abbrev cX7_makeSides : ByteArray := prog_9_method_9_code
def yX7_makeSides : MethodName := ⟨RX7, "makeSides", "()V"⟩
abbrev cX7_makeSets : ByteArray := prog_9_method_10_code
def yX7_makeSets : MethodName := ⟨RX7, "makeSets", "()V"⟩
abbrev cX7_hasNoneToSpare : ByteArray := prog_9_method_11_code
def yX7_hasNoneToSpare : MethodName := ⟨RX7, "hasNoneToSpare", "(I)Z"⟩
abbrev cX7_reach : ByteArray := prog_9_method_12_code
def yX7_reach : MethodName := ⟨RX7, "reach", "(IIZ)I"⟩
abbrev cX7_isWhole : ByteArray := prog_9_method_13_code
def yX7_isWhole : MethodName := ⟨RX7, "isWhole", "()Z"⟩
abbrev cX7_isStrongWith : ByteArray := prog_9_method_14_code
def yX7_isStrongWith : MethodName := ⟨RX7, "isStrongWith", "(I)Z"⟩
abbrev cX7_lowest : ByteArray := prog_9_method_15_code
def yX7_lowest : MethodName := ⟨RX7, "lowest", "(I)I"⟩
abbrev cX7_partOf : ByteArray := prog_9_method_16_code
def yX7_partOf : MethodName := ⟨RX7, "partOf", "(I)I"⟩
abbrev cX7_begin : ByteArray := prog_9_method_17_code
def yX7_begin : MethodName := ⟨RX7, "begin", "(I)Z"⟩
abbrev cX7_arc : ByteArray := prog_9_method_18_code
def yX7_arc : MethodName := ⟨RX7, "arc", "(III)I"⟩
abbrev cX7_isArc : ByteArray := prog_9_method_19_code
def yX7_isArc : MethodName := ⟨RX7, "isArc", "(I)Z"⟩
abbrev cX7_isNode : ByteArray := prog_9_method_20_code
def yX7_isNode : MethodName := ⟨RX7, "isNode", "(I)Z"⟩
abbrev cX7_drop : ByteArray := prog_9_method_21_code
def yX7_drop : MethodName := ⟨RX7, "drop", "(I)I"⟩
abbrev cX7_weigh : ByteArray := prog_9_method_22_code
def yX7_weigh : MethodName := ⟨RX7, "weigh", "(II)I"⟩
abbrev cX7_turn : ByteArray := prog_9_method_23_code
def yX7_turn : MethodName := ⟨RX7, "turn", "(I)Z"⟩
abbrev cX7_join : ByteArray := prog_9_method_24_code
def yX7_join : MethodName := ⟨RX7, "join", "(II)I"⟩
abbrev cX7_joined : ByteArray := prog_9_method_25_code
def yX7_joined : MethodName := ⟨RX7, "joined", "(III)I"⟩
abbrev cX7_tell : ByteArray := prog_9_method_26_code
def yX7_tell : MethodName := ⟨RX7, "tell", "(II)I"⟩
abbrev cX7_node : ByteArray := prog_9_method_27_code
def yX7_node : MethodName := ⟨RX7, "node", "(II)I"⟩
abbrev cX7_count : ByteArray := prog_9_method_28_code
def yX7_count : MethodName := ⟨RX7, "count", "(I)I"⟩
abbrev cX7_side : ByteArray := prog_9_method_29_code
def yX7_side : MethodName := ⟨RX7, "side", "(II)I"⟩
abbrev cX7_bounds : ByteArray := prog_9_method_30_code
def yX7_bounds : MethodName := ⟨RX7, "bounds", "(IZ)I"⟩
abbrev cX7_isDijoin : ByteArray := prog_9_method_31_code
def yX7_isDijoin : MethodName := ⟨RX7, "isDijoin", "(I)Z"⟩
abbrev cX7_isStrong : ByteArray := prog_9_method_32_code
def yX7_isStrong : MethodName := ⟨RX7, "isStrong", "(I)Z"⟩
abbrev cX7_weightOf : ByteArray := prog_9_method_33_code
def yX7_weightOf : MethodName := ⟨RX7, "weightOf", "(I)I"⟩
abbrev cX7_dijoin : ByteArray := prog_9_method_34_code
def yX7_dijoin : MethodName := ⟨RX7, "dijoin", "()I"⟩
abbrev cX7_chosen : ByteArray := prog_9_method_35_code
def yX7_chosen : MethodName := ⟨RX7, "chosen", "()I"⟩
abbrev cX7_cost : ByteArray := prog_9_method_36_code
def yX7_cost : MethodName := ⟨RX7, "cost", "(II)I"⟩
abbrev cX7_packing : ByteArray := prog_9_method_37_code
def yX7_packing : MethodName := ⟨RX7, "packing", "()I"⟩
abbrev cX7_oftenAtMost : ByteArray := prog_9_method_38_code
def yX7_oftenAtMost : MethodName := ⟨RX7, "oftenAtMost", "(II)I"⟩
abbrev cX7_draw : ByteArray := prog_9_method_39_code
def yX7_draw : MethodName := ⟨RX7, "draw", "(II)I"⟩
abbrev cX7_members : ByteArray := prog_9_method_40_code
def yX7_members : MethodName := ⟨RX7, "members", "()I"⟩
abbrev cX7_cross : ByteArray := prog_9_method_41_code
def yX7_cross : MethodName := ⟨RX7, "cross", "(II)Z"⟩
abbrev cX7_firstCross : ByteArray := prog_9_method_42_code
def yX7_firstCross : MethodName := ⟨RX7, "firstCross", "()I"⟩
abbrev cX7_uncross : ByteArray := prog_9_method_43_code
def yX7_uncross : MethodName := ⟨RX7, "uncross", "()I"⟩
abbrev cX7_member : ByteArray := prog_9_method_44_code
def yX7_member : MethodName := ⟨RX7, "member", "(II)I"⟩
abbrev cX7_image : ByteArray := prog_9_method_45_code
def yX7_image : MethodName := ⟨RX7, "image", "(I)Z"⟩
abbrev cX7_again : ByteArray := prog_9_method_46_code
def yX7_again : MethodName := ⟨RX7, "again", "(I)Z"⟩
def RJ6 : String := "java/lang/Integer"
def TJ6 : u_T := fun k => match k with
  | _ => ("", "", "", false)
def tyJ6 : Nat → FieldType := fun k => match k with
  | _ => .int
abbrev wsJ60 : List Cond := u_ws RJ6 TJ6 0
theorem nmJ6 : ∀ a, a < 0 → ∀ b, b < 0 → a ≠ b → (TJ6 a).2.1 ≠ (TJ6 b).2.1 := by decide +kernel
theorem tyJ6_ok : ∀ k, k < 0 → parseFieldDescriptor (TJ6 k).2.2.1 = some (tyJ6 k) := by decide +kernel
abbrev cJ6_bitCount_0f7a4 : ByteArray := prog_10_method_49_code
def yJ6_bitCount_0f7a4 : MethodName := ⟨RJ6, "bitCount", "(I)I"⟩
def RJ9 : String := "java/lang/Math"
def TJ9 : u_T := fun k => match k with
  | _ => ("", "", "", false)
def tyJ9 : Nat → FieldType := fun k => match k with
  | _ => .int
abbrev wsJ90 : List Cond := u_ws RJ9 TJ9 0
theorem nmJ9 : ∀ a, a < 0 → ∀ b, b < 0 → a ≠ b → (TJ9 a).2.1 ≠ (TJ9 b).2.1 := by decide +kernel
theorem tyJ9_ok : ∀ k, k < 0 → parseFieldDescriptor (TJ9 k).2.2.1 = some (tyJ9 k) := by decide +kernel
abbrev cJ9_min_7cf53 : ByteArray := prog_11_method_69_code
def yJ9_min_7cf53 : MethodName := ⟨RJ9, "min", "(II)I"⟩
def RJ10 : String := "java/lang/System"
def TJ10 : u_T := fun k => match k with
  | _ => ("", "", "", false)
def tyJ10 : Nat → FieldType := fun k => match k with
  | _ => .int
abbrev wsJ100 : List Cond := u_ws RJ10 TJ10 0
theorem nmJ10 : ∀ a, a < 0 → ∀ b, b < 0 → a ≠ b → (TJ10 a).2.1 ≠ (TJ10 b).2.1 := by decide +kernel
theorem tyJ10_ok : ∀ k, k < 0 → parseFieldDescriptor (TJ10 k).2.2.1 = some (tyJ10 k) := by decide +kernel
def RJ7 : String := "java/util/Arrays"
def TJ7 : u_T := fun k => match k with
  | _ => ("", "", "", false)
def tyJ7 : Nat → FieldType := fun k => match k with
  | _ => .int
abbrev wsJ70 : List Cond := u_ws RJ7 TJ7 0
theorem nmJ7 : ∀ a, a < 0 → ∀ b, b < 0 → a ≠ b → (TJ7 a).2.1 ≠ (TJ7 b).2.1 := by decide +kernel
theorem tyJ7_ok : ∀ k, k < 0 → parseFieldDescriptor (TJ7 k).2.2.1 = some (tyJ7 k) := by decide +kernel
abbrev cJ7_fill_53178 : ByteArray := prog_13_method_103_code
def yJ7_fill_53178 : MethodName := ⟨RJ7, "fill", "([II)V"⟩
def RL : String := "NetBordersLaw"
abbrev cL_law : ByteArray := code
def yL_law : MethodName := ⟨RL, "law", "([I)Z"⟩
def wsX2_init : List Cond := .code yX2_init cX2_init 1 none :: ([.methodLink RX2 3 objectInit, .instanceMethod objectInit, .code objectInit ⟨#[0xb1]⟩ 1 none, .arrayClass .int, .fieldLink RX2 9 "NetBorders$Net" "tail" "[I", .fieldLink RX2 15 "NetBorders$Net" "head" "[I", .fieldLink RX2 18 "NetBorders$Net" "weight" "[I"] ++ wsX20)
def wsX1_init : List Cond := .code yX1_init cX1_init 1 none :: ([.methodLink RX1 3 objectInit, .instanceMethod objectInit, .code objectInit ⟨#[0xb1]⟩ 1 none, .arrayClass .int, .fieldLink RX1 9 "NetBorders$Family" "times" "[I", .fieldLink RX1 15 "NetBorders$Family" "load" "[I"] ++ wsX10)
def wsX0_init : List Cond := .code yX0_init cX0_init 1 none :: ([.methodLink RX0 1 objectInit, .instanceMethod objectInit, .code objectInit ⟨#[0xb1]⟩ 1 none, .classLink RX0 7 RX2, .instantiable RX2 5, .initialized RX2, .fieldLink RX0 10 "NetBorders$Bench" "net" "LNetBorders$Net;", .classLink RX0 16 RX1, .instantiable RX1 4, .initialized RX1, .fieldLink RX0 19 "NetBorders$Bench" "family" "LNetBorders$Family;", .instanceMethod yX2_init, .code yX2_init cX2_init 1 none, .methodLink RX2 3 objectInit, .arrayClass .int, .fieldLink RX2 9 "NetBorders$Net" "tail" "[I", .fieldLink RX2 15 "NetBorders$Net" "head" "[I", .fieldLink RX2 18 "NetBorders$Net" "weight" "[I", .instanceMethod yX1_init, .code yX1_init cX1_init 1 none, .methodLink RX1 3 objectInit, .fieldLink RX1 9 "NetBorders$Family" "times" "[I", .fieldLink RX1 15 "NetBorders$Family" "load" "[I"] ++ wsX20 ++ wsX00 ++ wsX10)
def wsX2_copyFrom : List Cond := .code yX2_copyFrom cX2_copyFrom 2 none :: ([.fieldLink RX2 21 "NetBorders$Net" "nodes" "I", .fieldLink RX2 25 "NetBorders$Net" "arcs" "I", .fieldLink RX2 9 "NetBorders$Net" "tail" "[I", .methodLink RX2 51 arraycopyName, .native arraycopyName, .static arraycopyName, .initialized "java/lang/System", .fieldLink RX2 15 "NetBorders$Net" "head" "[I", .fieldLink RX2 18 "NetBorders$Net" "weight" "[I"] ++ wsX20)
def wsX1_copyFrom : List Cond := .code yX1_copyFrom cX1_copyFrom 2 none :: ([.fieldLink RX1 22 "NetBorders$Family" "atHand" "Z", .fieldLink RX1 26 "NetBorders$Family" "nodes" "I", .fieldLink RX1 9 "NetBorders$Family" "times" "[I", .methodLink RX1 61 arraycopyName, .native arraycopyName, .static arraycopyName, .initialized "java/lang/System", .fieldLink RX1 15 "NetBorders$Family" "load" "[I"] ++ wsX10)
def wsX0_copyFrom_r1 : List Cond := [Cond.fieldLink RX0 10 "NetBorders$Bench" "net" "LNetBorders$Net;", Cond.fieldLink RX0 19 "NetBorders$Bench" "family" "LNetBorders$Family;", Cond.fieldLink RX0 30 "NetBorders$Bench" "chosen" "I", Cond.methodLink RX0 23 yX2_copyFrom, Cond.instanceMethod yX2_copyFrom, Cond.selects RX2 yX2_copyFrom yX2_copyFrom, Cond.initialized RX2, Cond.code yX2_copyFrom cX2_copyFrom 2 none, Cond.fieldLink RX2 21 "NetBorders$Net" "nodes" "I", Cond.fieldLink RX2 25 "NetBorders$Net" "arcs" "I", Cond.fieldLink RX2 9 "NetBorders$Net" "tail" "[I", Cond.methodLink RX2 51 arraycopyName, Cond.native arraycopyName, Cond.static arraycopyName, Cond.initialized "java/lang/System", Cond.fieldLink RX2 15 "NetBorders$Net" "head" "[I", Cond.fieldLink RX2 18 "NetBorders$Net" "weight" "[I", Cond.methodLink RX0 27 yX1_copyFrom, Cond.instanceMethod yX1_copyFrom, Cond.selects RX1 yX1_copyFrom yX1_copyFrom, Cond.initialized RX1, Cond.code yX1_copyFrom cX1_copyFrom 2 none, Cond.fieldLink RX1 22 "NetBorders$Family" "atHand" "Z", Cond.fieldLink RX1 26 "NetBorders$Family" "nodes" "I"]
def wsX0_copyFrom_r2 : List Cond := [Cond.fieldLink RX1 9 "NetBorders$Family" "times" "[I", Cond.methodLink RX1 61 arraycopyName, Cond.fieldLink RX1 15 "NetBorders$Family" "load" "[I"]
def wsX0_copyFrom : List Cond := .code yX0_copyFrom cX0_copyFrom 2 none :: ((wsX0_copyFrom_r1 ++ wsX0_copyFrom_r2) ++ wsX00 ++ wsX20 ++ wsX10)
def wsJ7_fill_53178 : List Cond := .code yJ7_fill_53178 cJ7_fill_53178 4 none :: ([])
def wsX1_open : List Cond := .code yX1_open cX1_open 2 none :: ([.fieldLink RX1 22 "NetBorders$Family" "atHand" "Z", .fieldLink RX1 26 "NetBorders$Family" "nodes" "I", .fieldLink RX1 9 "NetBorders$Family" "times" "[I", .fieldLink RX1 15 "NetBorders$Family" "load" "[I", .methodLink RX1 30 yJ7_fill_53178, .static yJ7_fill_53178, .initialized RJ7, .code yJ7_fill_53178 cJ7_fill_53178 4 none] ++ wsX10)
def wsX1_putAway : List Cond := .code yX1_putAway cX1_putAway 1 none :: ([.fieldLink RX1 22 "NetBorders$Family" "atHand" "Z", .methodLink RX1 18 yX1_open, .instanceMethod yX1_open, .selects RX1 yX1_open yX1_open, .initialized RX1, .code yX1_open cX1_open 2 none, .fieldLink RX1 26 "NetBorders$Family" "nodes" "I", .fieldLink RX1 9 "NetBorders$Family" "times" "[I", .fieldLink RX1 15 "NetBorders$Family" "load" "[I", .methodLink RX1 30 yJ7_fill_53178, .static yJ7_fill_53178, .initialized RJ7, .code yJ7_fill_53178 cJ7_fill_53178 4 none] ++ wsX10)
def wsX6_contains : List Cond := .code yX6_contains cX6_contains 2 (some .boolean) :: ([])
def wsX1_change : List Cond := .code yX1_change cX1_change 5 none :: ([.fieldLink RX1 9 "NetBorders$Family" "times" "[I", .fieldLink RX1 15 "NetBorders$Family" "load" "[I", .static yX6_contains, .initialized RX6, .code yX6_contains cX6_contains 2 (some .boolean)] ++ wsX10)
def wsX1_size : List Cond := .code yX1_size cX1_size 3 (some .int) :: ([.fieldLink RX1 9 "NetBorders$Family" "times" "[I"] ++ wsX10)
def wsX1_memberAt : List Cond := .code yX1_memberAt cX1_memberAt 4 (some .int) :: ([.fieldLink RX1 9 "NetBorders$Family" "times" "[I"] ++ wsX10)
def wsX1_areCrossing : List Cond := .code yX1_areCrossing cX1_areCrossing 5 (some .boolean) :: ([.fieldLink RX1 26 "NetBorders$Family" "nodes" "I"] ++ wsX10)
def wsX1_crossedBy : List Cond := .code yX1_crossedBy cX1_crossedBy 3 (some .int) :: ([.fieldLink RX1 9 "NetBorders$Family" "times" "[I", .methodLink RX1 52 yX1_areCrossing, .instanceMethod yX1_areCrossing, .selects RX1 yX1_areCrossing yX1_areCrossing, .initialized RX1, .code yX1_areCrossing cX1_areCrossing 5 (some .boolean), .fieldLink RX1 26 "NetBorders$Family" "nodes" "I"] ++ wsX10)
def wsX1_firstCrossing : List Cond := .code yX1_firstCrossing cX1_firstCrossing 3 (some .int) :: ([.methodLink RX1 45 yX1_crossedBy, .instanceMethod yX1_crossedBy, .selects RX1 yX1_crossedBy yX1_crossedBy, .initialized RX1, .code yX1_crossedBy cX1_crossedBy 3 (some .int), .fieldLink RX1 9 "NetBorders$Family" "times" "[I", .methodLink RX1 52 yX1_areCrossing, .instanceMethod yX1_areCrossing, .selects RX1 yX1_areCrossing yX1_areCrossing, .code yX1_areCrossing cX1_areCrossing 5 (some .boolean), .fieldLink RX1 26 "NetBorders$Family" "nodes" "I"] ++ wsX10)
def wsX1_uncrossPair : List Cond := .code yX1_uncrossPair cX1_uncrossPair 4 none :: ([.fieldLink RX1 9 "NetBorders$Family" "times" "[I", .methodLink RX1 55 Lib.Math.min.name, .static Lib.Math.min.name, .initialized "java/lang/Math", .code Lib.Math.min.name Lib.Math.min.code 2 (some .int)] ++ wsX10)
def wsX1_uncrossAll : List Cond := .code yX1_uncrossAll cX1_uncrossAll 5 (some .int) :: ([.constant RX1 40 (1000000), .methodLink RX1 41 yX1_firstCrossing, .instanceMethod yX1_firstCrossing, .selects RX1 yX1_firstCrossing yX1_firstCrossing, .initialized RX1, .code yX1_firstCrossing cX1_firstCrossing 3 (some .int), .methodLink RX1 45 yX1_crossedBy, .instanceMethod yX1_crossedBy, .selects RX1 yX1_crossedBy yX1_crossedBy, .code yX1_crossedBy cX1_crossedBy 3 (some .int), .fieldLink RX1 9 "NetBorders$Family" "times" "[I", .methodLink RX1 52 yX1_areCrossing, .instanceMethod yX1_areCrossing, .selects RX1 yX1_areCrossing yX1_areCrossing, .code yX1_areCrossing cX1_areCrossing 5 (some .boolean), .fieldLink RX1 26 "NetBorders$Family" "nodes" "I", .methodLink RX1 48 yX1_uncrossPair, .instanceMethod yX1_uncrossPair, .selects RX1 yX1_uncrossPair yX1_uncrossPair, .code yX1_uncrossPair cX1_uncrossPair 4 none, .methodLink RX1 55 Lib.Math.min.name, .static Lib.Math.min.name, .initialized "java/lang/Math", .code Lib.Math.min.name Lib.Math.min.code 2 (some .int)] ++ wsX10)
def wsX2_clear : List Cond := .code yX2_clear cX2_clear 2 none :: ([.fieldLink RX2 21 "NetBorders$Net" "nodes" "I", .fieldLink RX2 25 "NetBorders$Net" "arcs" "I"] ++ wsX20)
def wsX2_hasNode : List Cond := .code yX2_hasNode cX2_hasNode 2 (some .boolean) :: ([.fieldLink RX2 21 "NetBorders$Net" "nodes" "I"] ++ wsX20)
def wsX2_hasArc : List Cond := .code yX2_hasArc cX2_hasArc 2 (some .boolean) :: ([.fieldLink RX2 25 "NetBorders$Net" "arcs" "I"] ++ wsX20)
def wsX2_allNodes : List Cond := .code yX2_allNodes cX2_allNodes 1 (some .int) :: ([.fieldLink RX2 21 "NetBorders$Net" "nodes" "I"] ++ wsX20)
def wsX2_append : List Cond := .code yX2_append cX2_append 4 (some .int) :: ([.fieldLink RX2 9 "NetBorders$Net" "tail" "[I", .fieldLink RX2 25 "NetBorders$Net" "arcs" "I", .fieldLink RX2 15 "NetBorders$Net" "head" "[I", .fieldLink RX2 18 "NetBorders$Net" "weight" "[I"] ++ wsX20)
def wsX2_remove : List Cond := .code yX2_remove cX2_remove 3 none :: ([.fieldLink RX2 25 "NetBorders$Net" "arcs" "I", .fieldLink RX2 9 "NetBorders$Net" "tail" "[I", .fieldLink RX2 15 "NetBorders$Net" "head" "[I", .fieldLink RX2 18 "NetBorders$Net" "weight" "[I"] ++ wsX20)
def wsX2_renumbered : List Cond := .code yX2_renumbered cX2_renumbered 4 (some .int) :: ([])
def wsX2_merge : List Cond := .code yX2_merge cX2_merge 4 none :: ([.fieldLink RX2 25 "NetBorders$Net" "arcs" "I", .fieldLink RX2 9 "NetBorders$Net" "tail" "[I", .fieldLink RX2 15 "NetBorders$Net" "head" "[I", .fieldLink RX2 21 "NetBorders$Net" "nodes" "I", .methodLink RX2 28 yX2_renumbered, .static yX2_renumbered, .initialized RX2, .code yX2_renumbered cX2_renumbered 4 (some .int)] ++ wsX20)
def wsX2_entering : List Cond := .code yX2_entering cX2_entering 4 (some .int) :: ([.fieldLink RX2 25 "NetBorders$Net" "arcs" "I", .fieldLink RX2 15 "NetBorders$Net" "head" "[I", .fieldLink RX2 9 "NetBorders$Net" "tail" "[I", .static yX6_contains, .initialized RX6, .code yX6_contains cX6_contains 2 (some .boolean)] ++ wsX20)
def wsX2_leaving : List Cond := .code yX2_leaving cX2_leaving 2 (some .int) :: ([.methodLink RX2 32 yX2_allNodes, .instanceMethod yX2_allNodes, .selects RX2 yX2_allNodes yX2_allNodes, .initialized RX2, .code yX2_allNodes cX2_allNodes 1 (some .int), .fieldLink RX2 21 "NetBorders$Net" "nodes" "I", .methodLink RX2 44 yX2_entering, .instanceMethod yX2_entering, .selects RX2 yX2_entering yX2_entering, .code yX2_entering cX2_entering 4 (some .int), .fieldLink RX2 25 "NetBorders$Net" "arcs" "I", .fieldLink RX2 15 "NetBorders$Net" "head" "[I", .fieldLink RX2 9 "NetBorders$Net" "tail" "[I", .static yX6_contains, .initialized RX6, .code yX6_contains cX6_contains 2 (some .boolean)] ++ wsX20)
def wsX2_isSide : List Cond := .code yX2_isSide cX2_isSide 2 (some .boolean) :: ([.methodLink RX2 32 yX2_allNodes, .instanceMethod yX2_allNodes, .selects RX2 yX2_allNodes yX2_allNodes, .initialized RX2, .code yX2_allNodes cX2_allNodes 1 (some .int), .fieldLink RX2 21 "NetBorders$Net" "nodes" "I", .methodLink RX2 36 yX2_leaving, .instanceMethod yX2_leaving, .selects RX2 yX2_leaving yX2_leaving, .code yX2_leaving cX2_leaving 2 (some .int), .methodLink RX2 44 yX2_entering, .instanceMethod yX2_entering, .selects RX2 yX2_entering yX2_entering, .code yX2_entering cX2_entering 4 (some .int), .fieldLink RX2 25 "NetBorders$Net" "arcs" "I", .fieldLink RX2 15 "NetBorders$Net" "head" "[I", .fieldLink RX2 9 "NetBorders$Net" "tail" "[I", .static yX6_contains, .initialized RX6, .code yX6_contains cX6_contains 2 (some .boolean)] ++ wsX20)
def wsX2_arcsAt : List Cond := .code yX2_arcsAt cX2_arcsAt 5 (some .int) :: ([.fieldLink RX2 25 "NetBorders$Net" "arcs" "I"] ++ wsX20)
def wsX2_arcsFrom : List Cond := .code yX2_arcsFrom cX2_arcsFrom 2 (some .int) :: ([.fieldLink RX2 9 "NetBorders$Net" "tail" "[I", .methodLink RX2 47 yX2_arcsAt, .instanceMethod yX2_arcsAt, .selects RX2 yX2_arcsAt yX2_arcsAt, .initialized RX2, .code yX2_arcsAt cX2_arcsAt 5 (some .int), .fieldLink RX2 25 "NetBorders$Net" "arcs" "I"] ++ wsX20)
def wsX2_arcsTo : List Cond := .code yX2_arcsTo cX2_arcsTo 2 (some .int) :: ([.fieldLink RX2 15 "NetBorders$Net" "head" "[I", .methodLink RX2 47 yX2_arcsAt, .instanceMethod yX2_arcsAt, .selects RX2 yX2_arcsAt yX2_arcsAt, .initialized RX2, .code yX2_arcsAt cX2_arcsAt 5 (some .int), .fieldLink RX2 25 "NetBorders$Net" "arcs" "I"] ++ wsX20)
def wsX3_init : List Cond := .code yX3_init cX3_init 1 none :: ([.methodLink RX3 3 objectInit, .instanceMethod objectInit, .code objectInit ⟨#[0xb1]⟩ 1 none, .arrayClass .int, .fieldLink RX3 9 "NetBorders$Paths" "onward" "[I", .fieldLink RX3 15 "NetBorders$Paths" "back" "[I"] ++ wsX30)
def wsX3_closeOnward : List Cond := .code yX3_closeOnward cX3_closeOnward 3 none :: ([.fieldLink RX3 24 "NetBorders$Paths" "nodes" "I", .fieldLink RX3 9 "NetBorders$Paths" "onward" "[I", .static yX6_contains, .initialized RX6, .code yX6_contains cX6_contains 2 (some .boolean)] ++ wsX30)
def wsX3_turnToBack : List Cond := .code yX3_turnToBack cX3_turnToBack 3 none :: ([.fieldLink RX3 24 "NetBorders$Paths" "nodes" "I", .fieldLink RX3 15 "NetBorders$Paths" "back" "[I", .fieldLink RX3 9 "NetBorders$Paths" "onward" "[I"] ++ wsX30)
def wsX3_follow : List Cond := .code yX3_follow cX3_follow 4 none :: ([.fieldLink RX3 18 "NetBorders$Net" "nodes" "I", .fieldLink RX3 24 "NetBorders$Paths" "nodes" "I", .fieldLink RX3 9 "NetBorders$Paths" "onward" "[I", .fieldLink RX3 25 "NetBorders$Net" "arcs" "I", .fieldLink RX3 28 "NetBorders$Net" "tail" "[I", .fieldLink RX3 31 "NetBorders$Net" "head" "[I", .static yX6_contains, .initialized RX6, .code yX6_contains cX6_contains 2 (some .boolean), .methodLink RX3 38 yX3_closeOnward, .instanceMethod yX3_closeOnward, .selects RX3 yX3_closeOnward yX3_closeOnward, .initialized RX3, .code yX3_closeOnward cX3_closeOnward 3 none, .methodLink RX3 41 yX3_turnToBack, .instanceMethod yX3_turnToBack, .selects RX3 yX3_turnToBack yX3_turnToBack, .code yX3_turnToBack cX3_turnToBack 3 none, .fieldLink RX3 15 "NetBorders$Paths" "back" "[I"] ++ wsX20 ++ wsX30)
def wsX3_areStrong : List Cond := .code yX3_areStrong cX3_areStrong 2 (some .boolean) :: ([.fieldLink RX3 24 "NetBorders$Paths" "nodes" "I", .fieldLink RX3 9 "NetBorders$Paths" "onward" "[I", .fieldLink RX3 15 "NetBorders$Paths" "back" "[I"] ++ wsX30)
def wsX3_part : List Cond := .code yX3_part cX3_part 4 (some .int) :: ([.fieldLink RX3 9 "NetBorders$Paths" "onward" "[I", .fieldLink RX3 15 "NetBorders$Paths" "back" "[I", .static yX6_contains, .initialized RX6, .code yX6_contains cX6_contains 2 (some .boolean)] ++ wsX30)
def wsX3_parts : List Cond := .code yX3_parts cX3_parts 3 (some .int) :: ([.fieldLink RX3 24 "NetBorders$Paths" "nodes" "I", .methodLink RX3 44 yX3_part, .instanceMethod yX3_part, .selects RX3 yX3_part yX3_part, .initialized RX3, .code yX3_part cX3_part 4 (some .int), .fieldLink RX3 9 "NetBorders$Paths" "onward" "[I", .fieldLink RX3 15 "NetBorders$Paths" "back" "[I", .static yX6_contains, .initialized RX6, .code yX6_contains cX6_contains 2 (some .boolean)] ++ wsX30)
def wsX4_init : List Cond := .code yX4_init cX4_init 1 none :: ([.methodLink RX4 3 objectInit, .instanceMethod objectInit, .code objectInit ⟨#[0xb1]⟩ 1 none, .arrayClass .int, .fieldLink RX4 9 "NetBorders$Search" "border" "[I", .fieldLink RX4 15 "NetBorders$Search" "price" "[I", .fieldLink RX4 18 "NetBorders$Search" "slack" "[I"] ++ wsX40)
def wsX4_takeBorder : List Cond := .code yX4_takeBorder cX4_takeBorder 4 none :: ([.fieldLink RX4 21 "NetBorders$Search" "size" "I", .fieldLink RX4 9 "NetBorders$Search" "border" "[I"] ++ wsX40)
def wsX4_takeBorders : List Cond := .code yX4_takeBorders cX4_takeBorders 3 none :: ([.fieldLink RX4 21 "NetBorders$Search" "size" "I", .fieldLink RX4 25 "NetBorders$Sides" "size" "I", .fieldLink RX4 28 "NetBorders$Sides" "border" "[I", .methodLink RX4 29 yX4_takeBorder, .instanceMethod yX4_takeBorder, .selects RX4 yX4_takeBorder yX4_takeBorder, .initialized RX4, .code yX4_takeBorder cX4_takeBorder 4 none, .fieldLink RX4 9 "NetBorders$Search" "border" "[I"] ++ wsX40 ++ wsX50)
def wsX4_priceByWeight : List Cond := .code yX4_priceByWeight cX4_priceByWeight 2 none :: ([.fieldLink RX4 33 "NetBorders$Net" "arcs" "I", .fieldLink RX4 38 "NetBorders$Search" "arcs" "I", .fieldLink RX4 39 "NetBorders$Search" "barred" "I", .fieldLink RX4 42 "NetBorders$Net" "weight" "[I", .fieldLink RX4 15 "NetBorders$Search" "price" "[I", .methodLink RX4 45 arraycopyName, .native arraycopyName, .static arraycopyName, .initialized "java/lang/System"] ++ wsX20 ++ wsX40)
def wsX4_priceWithTies : List Cond := .code yX4_priceWithTies cX4_priceWithTies 3 none :: ([.fieldLink RX4 33 "NetBorders$Net" "arcs" "I", .fieldLink RX4 38 "NetBorders$Search" "arcs" "I", .fieldLink RX4 39 "NetBorders$Search" "barred" "I", .fieldLink RX4 15 "NetBorders$Search" "price" "[I", .fieldLink RX4 42 "NetBorders$Net" "weight" "[I"] ++ wsX20 ++ wsX40)
def wsX4_reprice : List Cond := .code yX4_reprice cX4_reprice 3 none :: ([.fieldLink RX4 39 "NetBorders$Search" "barred" "I", .fieldLink RX4 15 "NetBorders$Search" "price" "[I"] ++ wsX40)
def wsX4_spend : List Cond := .code yX4_spend cX4_spend 4 none :: ([.fieldLink RX4 38 "NetBorders$Search" "arcs" "I", .fieldLink RX4 15 "NetBorders$Search" "price" "[I", .static yX6_contains, .initialized RX6, .code yX6_contains cX6_contains 2 (some .boolean)] ++ wsX40)
def wsX4_drawFromSlack : List Cond := .code yX4_drawFromSlack cX4_drawFromSlack 4 (some .int) :: ([.fieldLink RX4 72 "NetBorders$Search" "dry" "I", .constant RX4 84 (2147483647), .fieldLink RX4 38 "NetBorders$Search" "arcs" "I", .fieldLink RX4 18 "NetBorders$Search" "slack" "[I", .methodLink RX4 85 Lib.Math.min.name, .static Lib.Math.min.name, .initialized "java/lang/Math", .code Lib.Math.min.name Lib.Math.min.code 2 (some .int), .static yX6_contains, .initialized RX6, .code yX6_contains cX6_contains 2 (some .boolean)] ++ wsX40)
def wsJ6_bitCount_0f7a4 : List Cond := .code yJ6_bitCount_0f7a4 cJ6_bitCount_0f7a4 1 (some .int) :: ([.constant RJ6 265 (1431655765), .constant RJ6 266 (858993459), .constant RJ6 267 (252645135)])
def wsX4_boundOf_r1 : List Cond := [Cond.fieldLink RX4 69 "NetBorders$Search" "tightest" "I", Cond.fieldLink RX4 72 "NetBorders$Search" "dry" "I", Cond.fieldLink RX4 15 "NetBorders$Search" "price" "[I", Cond.fieldLink RX4 18 "NetBorders$Search" "slack" "[I", Cond.methodLink RX4 45 arraycopyName, Cond.native arraycopyName, Cond.static arraycopyName, Cond.initialized "java/lang/System", Cond.fieldLink RX4 21 "NetBorders$Search" "size" "I", Cond.fieldLink RX4 9 "NetBorders$Search" "border" "[I", Cond.methodLink RX4 75 yX4_drawFromSlack, Cond.instanceMethod yX4_drawFromSlack, Cond.selects RX4 yX4_drawFromSlack yX4_drawFromSlack, Cond.initialized RX4, Cond.code yX4_drawFromSlack cX4_drawFromSlack 4 (some .int), Cond.constant RX4 84 (2147483647), Cond.fieldLink RX4 38 "NetBorders$Search" "arcs" "I", Cond.methodLink RX4 85 Lib.Math.min.name, Cond.static Lib.Math.min.name, Cond.initialized "java/lang/Math", Cond.code Lib.Math.min.name Lib.Math.min.code 2 (some .int), Cond.static yX6_contains, Cond.initialized RX6, Cond.code yX6_contains cX6_contains 2 (some .boolean)]
def wsX4_boundOf_r2 : List Cond := [Cond.methodLink RX4 79 yJ6_bitCount_0f7a4, Cond.static yJ6_bitCount_0f7a4, Cond.initialized RJ6, Cond.code yJ6_bitCount_0f7a4 cJ6_bitCount_0f7a4 1 (some .int), Cond.constant RJ6 265 (1431655765), Cond.constant RJ6 266 (858993459), Cond.constant RJ6 267 (252645135)]
def wsX4_boundOf : List Cond := .code yX4_boundOf cX4_boundOf 7 (some .int) :: ((wsX4_boundOf_r1 ++ wsX4_boundOf_r2) ++ wsX40)
def wsX4_descend_r1 : List Cond := [Cond.fieldLink RX4 55 "NetBorders$Search" "best" "I", Cond.fieldLink RX4 69 "NetBorders$Search" "tightest" "I", Cond.fieldLink RX4 58 "NetBorders$Search" "bestArcs" "I", Cond.fieldLink RX4 15 "NetBorders$Search" "price" "[I", Cond.methodLink RX4 65 yX4_boundOf, Cond.instanceMethod yX4_boundOf, Cond.selects RX4 yX4_boundOf yX4_boundOf, Cond.initialized RX4, Cond.code yX4_boundOf cX4_boundOf 7 (some .int), Cond.fieldLink RX4 72 "NetBorders$Search" "dry" "I", Cond.fieldLink RX4 18 "NetBorders$Search" "slack" "[I", Cond.methodLink RX4 45 arraycopyName, Cond.native arraycopyName, Cond.static arraycopyName, Cond.initialized "java/lang/System", Cond.fieldLink RX4 21 "NetBorders$Search" "size" "I", Cond.fieldLink RX4 9 "NetBorders$Search" "border" "[I", Cond.methodLink RX4 75 yX4_drawFromSlack, Cond.instanceMethod yX4_drawFromSlack, Cond.selects RX4 yX4_drawFromSlack yX4_drawFromSlack, Cond.code yX4_drawFromSlack cX4_drawFromSlack 4 (some .int), Cond.constant RX4 84 (2147483647), Cond.fieldLink RX4 38 "NetBorders$Search" "arcs" "I", Cond.methodLink RX4 85 Lib.Math.min.name]
def wsX4_descend_r2 : List Cond := [Cond.static Lib.Math.min.name, Cond.initialized "java/lang/Math", Cond.code Lib.Math.min.name Lib.Math.min.code 2 (some .int), Cond.static yX6_contains, Cond.initialized RX6, Cond.code yX6_contains cX6_contains 2 (some .boolean), Cond.methodLink RX4 79 yJ6_bitCount_0f7a4, Cond.static yJ6_bitCount_0f7a4, Cond.initialized RJ6, Cond.code yJ6_bitCount_0f7a4 cJ6_bitCount_0f7a4 1 (some .int), Cond.constant RJ6 265 (1431655765), Cond.constant RJ6 266 (858993459), Cond.constant RJ6 267 (252645135), Cond.methodLink RX4 61 yX4_descend, Cond.static yX4_descend]
def wsX4_descend : List Cond := .code yX4_descend cX4_descend 9 none :: ((wsX4_descend_r1 ++ wsX4_descend_r2) ++ wsX40)
def wsX4_findBelow_r1 : List Cond := [Cond.fieldLink RX4 55 "NetBorders$Search" "best" "I", Cond.fieldLink RX4 58 "NetBorders$Search" "bestArcs" "I", Cond.fieldLink RX4 38 "NetBorders$Search" "arcs" "I", Cond.fieldLink RX4 15 "NetBorders$Search" "price" "[I", Cond.fieldLink RX4 39 "NetBorders$Search" "barred" "I", Cond.methodLink RX4 61 yX4_descend, Cond.static yX4_descend, Cond.initialized RX4, Cond.code yX4_descend cX4_descend 9 none, Cond.fieldLink RX4 69 "NetBorders$Search" "tightest" "I", Cond.methodLink RX4 65 yX4_boundOf, Cond.instanceMethod yX4_boundOf, Cond.selects RX4 yX4_boundOf yX4_boundOf, Cond.code yX4_boundOf cX4_boundOf 7 (some .int), Cond.fieldLink RX4 72 "NetBorders$Search" "dry" "I", Cond.fieldLink RX4 18 "NetBorders$Search" "slack" "[I", Cond.methodLink RX4 45 arraycopyName, Cond.native arraycopyName, Cond.static arraycopyName, Cond.initialized "java/lang/System", Cond.fieldLink RX4 21 "NetBorders$Search" "size" "I", Cond.fieldLink RX4 9 "NetBorders$Search" "border" "[I", Cond.methodLink RX4 75 yX4_drawFromSlack, Cond.instanceMethod yX4_drawFromSlack]
def wsX4_findBelow_r2 : List Cond := [Cond.selects RX4 yX4_drawFromSlack yX4_drawFromSlack, Cond.code yX4_drawFromSlack cX4_drawFromSlack 4 (some .int), Cond.constant RX4 84 (2147483647), Cond.methodLink RX4 85 Lib.Math.min.name, Cond.static Lib.Math.min.name, Cond.initialized "java/lang/Math", Cond.code Lib.Math.min.name Lib.Math.min.code 2 (some .int), Cond.static yX6_contains, Cond.initialized RX6, Cond.code yX6_contains cX6_contains 2 (some .boolean), Cond.methodLink RX4 79 yJ6_bitCount_0f7a4, Cond.static yJ6_bitCount_0f7a4, Cond.initialized RJ6, Cond.code yJ6_bitCount_0f7a4 cJ6_bitCount_0f7a4 1 (some .int), Cond.constant RJ6 265 (1431655765), Cond.constant RJ6 266 (858993459), Cond.constant RJ6 267 (252645135)]
def wsX4_findBelow : List Cond := .code yX4_findBelow cX4_findBelow 4 (some .boolean) :: ((wsX4_findBelow_r1 ++ wsX4_findBelow_r2) ++ wsX40)
def wsX6_sumOver : List Cond := .code yX6_sumOver cX6_sumOver 4 (some .int) :: ([.methodLink RX6 148 yX6_contains, .static yX6_contains, .initialized RX6, .code yX6_contains cX6_contains 2 (some .boolean)])
def wsX4_timesBy : List Cond := .code yX4_timesBy cX4_timesBy 5 (some .int) :: ([.fieldLink RX4 15 "NetBorders$Search" "price" "[I", .methodLink RX4 79 yJ6_bitCount_0f7a4, .static yJ6_bitCount_0f7a4, .initialized RJ6, .code yJ6_bitCount_0f7a4 cJ6_bitCount_0f7a4 1 (some .int), .constant RJ6 265 (1431655765), .constant RJ6 266 (858993459), .constant RJ6 267 (252645135), .static yX6_sumOver, .initialized RX6, .code yX6_sumOver cX6_sumOver 4 (some .int), .methodLink RX6 148 yX6_contains, .static yX6_contains, .code yX6_contains cX6_contains 2 (some .boolean)] ++ wsX40)
def wsX4_mostTimes_r1 : List Cond := [Cond.fieldLink RX4 38 "NetBorders$Search" "arcs" "I", Cond.fieldLink RX4 15 "NetBorders$Search" "price" "[I", Cond.methodLink RX4 85 Lib.Math.min.name, Cond.static Lib.Math.min.name, Cond.initialized "java/lang/Math", Cond.code Lib.Math.min.name Lib.Math.min.code 2 (some .int), Cond.fieldLink RX4 58 "NetBorders$Search" "bestArcs" "I", Cond.static yX6_contains, Cond.initialized RX6, Cond.code yX6_contains cX6_contains 2 (some .boolean), Cond.methodLink RX4 90 yX4_spend, Cond.instanceMethod yX4_spend, Cond.selects RX4 yX4_spend yX4_spend, Cond.initialized RX4, Cond.code yX4_spend cX4_spend 4 none, Cond.methodLink RX4 94 yX4_findBelow, Cond.instanceMethod yX4_findBelow, Cond.selects RX4 yX4_findBelow yX4_findBelow, Cond.code yX4_findBelow cX4_findBelow 4 (some .boolean), Cond.fieldLink RX4 55 "NetBorders$Search" "best" "I", Cond.fieldLink RX4 39 "NetBorders$Search" "barred" "I", Cond.methodLink RX4 61 yX4_descend, Cond.static yX4_descend, Cond.code yX4_descend cX4_descend 9 none]
def wsX4_mostTimes_r2 : List Cond := [Cond.fieldLink RX4 69 "NetBorders$Search" "tightest" "I", Cond.methodLink RX4 65 yX4_boundOf, Cond.instanceMethod yX4_boundOf, Cond.selects RX4 yX4_boundOf yX4_boundOf, Cond.code yX4_boundOf cX4_boundOf 7 (some .int), Cond.fieldLink RX4 72 "NetBorders$Search" "dry" "I", Cond.fieldLink RX4 18 "NetBorders$Search" "slack" "[I", Cond.methodLink RX4 45 arraycopyName, Cond.native arraycopyName, Cond.static arraycopyName, Cond.initialized "java/lang/System", Cond.fieldLink RX4 21 "NetBorders$Search" "size" "I", Cond.fieldLink RX4 9 "NetBorders$Search" "border" "[I", Cond.methodLink RX4 75 yX4_drawFromSlack, Cond.instanceMethod yX4_drawFromSlack, Cond.selects RX4 yX4_drawFromSlack yX4_drawFromSlack, Cond.code yX4_drawFromSlack cX4_drawFromSlack 4 (some .int), Cond.constant RX4 84 (2147483647), Cond.methodLink RX4 79 yJ6_bitCount_0f7a4, Cond.static yJ6_bitCount_0f7a4, Cond.initialized RJ6, Cond.code yJ6_bitCount_0f7a4 cJ6_bitCount_0f7a4 1 (some .int), Cond.constant RJ6 265 (1431655765), Cond.constant RJ6 266 (858993459)]
def wsX4_mostTimes_r3 : List Cond := [Cond.constant RJ6 267 (252645135), Cond.methodLink RX4 98 yX4_timesBy, Cond.instanceMethod yX4_timesBy, Cond.selects RX4 yX4_timesBy yX4_timesBy, Cond.code yX4_timesBy cX4_timesBy 5 (some .int), Cond.static yX6_sumOver, Cond.code yX6_sumOver cX6_sumOver 4 (some .int), Cond.methodLink RX6 148 yX6_contains]
def wsX4_mostTimes : List Cond := .code yX4_mostTimes cX4_mostTimes 6 (some .int) :: ((wsX4_mostTimes_r1 ++ (wsX4_mostTimes_r2 ++ wsX4_mostTimes_r3)) ++ wsX40)
def wsX5_init : List Cond := .code yX5_init cX5_init 1 none :: ([.methodLink RX5 3 objectInit, .instanceMethod objectInit, .code objectInit ⟨#[0xb1]⟩ 1 none, .arrayClass .int, .fieldLink RX5 9 "NetBorders$Sides" "bits" "[I", .fieldLink RX5 15 "NetBorders$Sides" "border" "[I", .fieldLink RX5 18 "NetBorders$Sides" "tailWithin" "[I", .fieldLink RX5 21 "NetBorders$Sides" "headWithin" "[I"] ++ wsX50)
def wsX5_gatherArcs : List Cond := .code yX5_gatherArcs cX5_gatherArcs 7 none :: ([.fieldLink RX5 38 "NetBorders$Net" "nodes" "I", .fieldLink RX5 18 "NetBorders$Sides" "tailWithin" "[I", .fieldLink RX5 21 "NetBorders$Sides" "headWithin" "[I", .methodLink RX5 41 yX2_arcsFrom, .instanceMethod yX2_arcsFrom, .selects RX2 yX2_arcsFrom yX2_arcsFrom, .initialized RX2, .code yX2_arcsFrom cX2_arcsFrom 2 (some .int), .fieldLink RX2 9 "NetBorders$Net" "tail" "[I", .methodLink RX2 47 yX2_arcsAt, .instanceMethod yX2_arcsAt, .selects RX2 yX2_arcsAt yX2_arcsAt, .code yX2_arcsAt cX2_arcsAt 5 (some .int), .fieldLink RX2 25 "NetBorders$Net" "arcs" "I", .methodLink RX5 45 yX2_arcsTo, .instanceMethod yX2_arcsTo, .selects RX2 yX2_arcsTo yX2_arcsTo, .code yX2_arcsTo cX2_arcsTo 2 (some .int), .fieldLink RX2 15 "NetBorders$Net" "head" "[I"] ++ wsX20 ++ wsX50)
def wsX5_find_r1 : List Cond := [Cond.fieldLink RX5 28 "NetBorders$Sides" "size" "I", Cond.fieldLink RX5 18 "NetBorders$Sides" "tailWithin" "[I", Cond.fieldLink RX5 21 "NetBorders$Sides" "headWithin" "[I", Cond.fieldLink RX5 9 "NetBorders$Sides" "bits" "[I", Cond.fieldLink RX5 15 "NetBorders$Sides" "border" "[I", Cond.methodLink RX5 24 yX5_gatherArcs, Cond.instanceMethod yX5_gatherArcs, Cond.selects RX5 yX5_gatherArcs yX5_gatherArcs, Cond.initialized RX5, Cond.code yX5_gatherArcs cX5_gatherArcs 7 none, Cond.fieldLink RX5 38 "NetBorders$Net" "nodes" "I", Cond.methodLink RX5 41 yX2_arcsFrom, Cond.instanceMethod yX2_arcsFrom, Cond.selects RX2 yX2_arcsFrom yX2_arcsFrom, Cond.initialized RX2, Cond.code yX2_arcsFrom cX2_arcsFrom 2 (some .int), Cond.fieldLink RX2 9 "NetBorders$Net" "tail" "[I", Cond.methodLink RX2 47 yX2_arcsAt, Cond.instanceMethod yX2_arcsAt, Cond.selects RX2 yX2_arcsAt yX2_arcsAt, Cond.code yX2_arcsAt cX2_arcsAt 5 (some .int), Cond.fieldLink RX2 25 "NetBorders$Net" "arcs" "I", Cond.methodLink RX5 45 yX2_arcsTo, Cond.instanceMethod yX2_arcsTo]
def wsX5_find_r2 : List Cond := [Cond.selects RX2 yX2_arcsTo yX2_arcsTo, Cond.code yX2_arcsTo cX2_arcsTo 2 (some .int), Cond.fieldLink RX2 15 "NetBorders$Net" "head" "[I", Cond.methodLink RX5 32 yX2_allNodes, Cond.instanceMethod yX2_allNodes, Cond.selects RX2 yX2_allNodes yX2_allNodes, Cond.code yX2_allNodes cX2_allNodes 1 (some .int), Cond.fieldLink RX2 21 "NetBorders$Net" "nodes" "I"]
def wsX5_find : List Cond := .code yX5_find cX5_find 4 none :: ((wsX5_find_r1 ++ wsX5_find_r2) ++ wsX50 ++ wsX20)
def wsX6_init_r1 : List Cond := [Cond.methodLink RX6 1 objectInit, Cond.instanceMethod objectInit, Cond.code objectInit ⟨#[0xb1]⟩ 1 none, Cond.classLink RX6 7 RX0, Cond.instantiable RX0 3, Cond.initialized RX0, Cond.fieldLink RX6 10 "NetBorders" "now" "LNetBorders$Bench;", Cond.fieldLink RX6 16 "NetBorders" "images" "[LNetBorders$Bench;", Cond.classLink RX6 20 RX3, Cond.instantiable RX3 3, Cond.initialized RX3, Cond.fieldLink RX6 23 "NetBorders" "paths" "LNetBorders$Paths;", Cond.classLink RX6 27 RX5, Cond.instantiable RX5 5, Cond.initialized RX5, Cond.fieldLink RX6 30 "NetBorders" "sides" "LNetBorders$Sides;", Cond.classLink RX6 34 RX4, Cond.instantiable RX4 10, Cond.initialized RX4, Cond.fieldLink RX6 37 "NetBorders" "search" "LNetBorders$Search;", Cond.fieldLink RX6 41 "NetBorders$Bench" "net" "LNetBorders$Net;", Cond.instanceMethod yX0_init, Cond.code yX0_init cX0_init 1 none, Cond.methodLink RX0 1 objectInit]
def wsX6_init_r2 : List Cond := [Cond.classLink RX0 7 RX2, Cond.instantiable RX2 5, Cond.initialized RX2, Cond.fieldLink RX0 10 "NetBorders$Bench" "net" "LNetBorders$Net;", Cond.classLink RX0 16 RX1, Cond.instantiable RX1 4, Cond.initialized RX1, Cond.fieldLink RX0 19 "NetBorders$Bench" "family" "LNetBorders$Family;", Cond.instanceMethod yX2_init, Cond.code yX2_init cX2_init 1 none, Cond.methodLink RX2 3 objectInit, Cond.arrayClass .int, Cond.fieldLink RX2 9 "NetBorders$Net" "tail" "[I", Cond.fieldLink RX2 15 "NetBorders$Net" "head" "[I", Cond.fieldLink RX2 18 "NetBorders$Net" "weight" "[I", Cond.instanceMethod yX1_init, Cond.code yX1_init cX1_init 1 none, Cond.methodLink RX1 3 objectInit, Cond.fieldLink RX1 9 "NetBorders$Family" "times" "[I", Cond.fieldLink RX1 15 "NetBorders$Family" "load" "[I", Cond.instanceMethod yX3_init, Cond.code yX3_init cX3_init 1 none, Cond.methodLink RX3 3 objectInit, Cond.fieldLink RX3 9 "NetBorders$Paths" "onward" "[I"]
def wsX6_init_r3 : List Cond := [Cond.fieldLink RX3 15 "NetBorders$Paths" "back" "[I", Cond.instanceMethod yX5_init, Cond.code yX5_init cX5_init 1 none, Cond.methodLink RX5 3 objectInit, Cond.fieldLink RX5 9 "NetBorders$Sides" "bits" "[I", Cond.fieldLink RX5 15 "NetBorders$Sides" "border" "[I", Cond.fieldLink RX5 18 "NetBorders$Sides" "tailWithin" "[I", Cond.fieldLink RX5 21 "NetBorders$Sides" "headWithin" "[I", Cond.instanceMethod yX4_init, Cond.code yX4_init cX4_init 1 none, Cond.methodLink RX4 3 objectInit, Cond.fieldLink RX4 9 "NetBorders$Search" "border" "[I", Cond.fieldLink RX4 15 "NetBorders$Search" "price" "[I", Cond.fieldLink RX4 18 "NetBorders$Search" "slack" "[I", Cond.methodLink RX6 45 yX2_clear, Cond.instanceMethod yX2_clear, Cond.selects RX2 yX2_clear yX2_clear, Cond.code yX2_clear cX2_clear 2 none, Cond.fieldLink RX2 21 "NetBorders$Net" "nodes" "I", Cond.fieldLink RX2 25 "NetBorders$Net" "arcs" "I"]
def wsX6_init : List Cond := .code yX6_init cX6_init 1 none :: ((wsX6_init_r1 ++ (wsX6_init_r2 ++ wsX6_init_r3)) ++ wsX00 ++ wsX60 ++ wsX30 ++ wsX50 ++ wsX40 ++ wsX20 ++ wsX10)
def wsX6_begin_r1 : List Cond := [Cond.fieldLink RX6 10 "NetBorders" "now" "LNetBorders$Bench;", Cond.fieldLink RX6 41 "NetBorders$Bench" "net" "LNetBorders$Net;", Cond.fieldLink RX6 51 "NetBorders$Bench" "chosen" "I", Cond.fieldLink RX6 55 "NetBorders$Bench" "family" "LNetBorders$Family;", Cond.methodLink RX6 45 yX2_clear, Cond.instanceMethod yX2_clear, Cond.selects RX2 yX2_clear yX2_clear, Cond.initialized RX2, Cond.code yX2_clear cX2_clear 2 none, Cond.fieldLink RX2 21 "NetBorders$Net" "nodes" "I", Cond.fieldLink RX2 25 "NetBorders$Net" "arcs" "I", Cond.methodLink RX6 59 yX1_putAway, Cond.instanceMethod yX1_putAway, Cond.selects RX1 yX1_putAway yX1_putAway, Cond.initialized RX1, Cond.code yX1_putAway cX1_putAway 1 none, Cond.fieldLink RX1 22 "NetBorders$Family" "atHand" "Z", Cond.methodLink RX1 18 yX1_open, Cond.instanceMethod yX1_open, Cond.selects RX1 yX1_open yX1_open, Cond.code yX1_open cX1_open 2 none, Cond.fieldLink RX1 26 "NetBorders$Family" "nodes" "I", Cond.fieldLink RX1 9 "NetBorders$Family" "times" "[I", Cond.fieldLink RX1 15 "NetBorders$Family" "load" "[I"]
def wsX6_begin_r2 : List Cond := [Cond.methodLink RX1 30 yJ7_fill_53178, Cond.static yJ7_fill_53178, Cond.initialized RJ7, Cond.code yJ7_fill_53178 cJ7_fill_53178 4 none]
def wsX6_begin : List Cond := .code yX6_begin cX6_begin 2 (some .boolean) :: ((wsX6_begin_r1 ++ wsX6_begin_r2) ++ wsX60 ++ wsX00 ++ wsX20 ++ wsX10)
def wsX6_isWeight : List Cond := .code yX6_isWeight cX6_isWeight 1 (some .boolean) :: ([])
def wsX6_arc : List Cond := .code yX6_arc cX6_arc 5 (some .int) :: ([.fieldLink RX6 10 "NetBorders" "now" "LNetBorders$Bench;", .fieldLink RX6 41 "NetBorders$Bench" "net" "LNetBorders$Net;", .fieldLink RX6 64 "NetBorders$Net" "arcs" "I", .methodLink RX6 67 yX2_hasNode, .instanceMethod yX2_hasNode, .selects RX2 yX2_hasNode yX2_hasNode, .initialized RX2, .code yX2_hasNode cX2_hasNode 2 (some .boolean), .fieldLink RX2 21 "NetBorders$Net" "nodes" "I", .methodLink RX6 71 yX6_isWeight, .static yX6_isWeight, .initialized RX6, .code yX6_isWeight cX6_isWeight 1 (some .boolean), .methodLink RX6 74 yX2_append, .instanceMethod yX2_append, .selects RX2 yX2_append yX2_append, .code yX2_append cX2_append 4 (some .int), .fieldLink RX2 9 "NetBorders$Net" "tail" "[I", .fieldLink RX2 25 "NetBorders$Net" "arcs" "I", .fieldLink RX2 15 "NetBorders$Net" "head" "[I", .fieldLink RX2 18 "NetBorders$Net" "weight" "[I"] ++ wsX60 ++ wsX00 ++ wsX20)
def wsX6_drop : List Cond := .code yX6_drop cX6_drop 2 (some .int) :: ([.fieldLink RX6 10 "NetBorders" "now" "LNetBorders$Bench;", .fieldLink RX6 41 "NetBorders$Bench" "net" "LNetBorders$Net;", .fieldLink RX6 64 "NetBorders$Net" "arcs" "I", .methodLink RX6 78 yX2_hasArc, .instanceMethod yX2_hasArc, .selects RX2 yX2_hasArc yX2_hasArc, .initialized RX2, .code yX2_hasArc cX2_hasArc 2 (some .boolean), .fieldLink RX2 25 "NetBorders$Net" "arcs" "I", .methodLink RX6 81 yX2_remove, .instanceMethod yX2_remove, .selects RX2 yX2_remove yX2_remove, .code yX2_remove cX2_remove 3 none, .fieldLink RX2 9 "NetBorders$Net" "tail" "[I", .fieldLink RX2 15 "NetBorders$Net" "head" "[I", .fieldLink RX2 18 "NetBorders$Net" "weight" "[I"] ++ wsX60 ++ wsX00 ++ wsX20)
def wsX6_weigh : List Cond := .code yX6_weigh cX6_weigh 4 (some .int) :: ([.fieldLink RX6 10 "NetBorders" "now" "LNetBorders$Bench;", .fieldLink RX6 41 "NetBorders$Bench" "net" "LNetBorders$Net;", .fieldLink RX6 84 "NetBorders$Net" "weight" "[I", .methodLink RX6 78 yX2_hasArc, .instanceMethod yX2_hasArc, .selects RX2 yX2_hasArc yX2_hasArc, .initialized RX2, .code yX2_hasArc cX2_hasArc 2 (some .boolean), .fieldLink RX2 25 "NetBorders$Net" "arcs" "I", .methodLink RX6 71 yX6_isWeight, .static yX6_isWeight, .initialized RX6, .code yX6_isWeight cX6_isWeight 1 (some .boolean)] ++ wsX60 ++ wsX00 ++ wsX20)
def wsX6_turn : List Cond := .code yX6_turn cX6_turn 3 (some .boolean) :: ([.fieldLink RX6 10 "NetBorders" "now" "LNetBorders$Bench;", .fieldLink RX6 41 "NetBorders$Bench" "net" "LNetBorders$Net;", .fieldLink RX6 88 "NetBorders$Net" "tail" "[I", .fieldLink RX6 91 "NetBorders$Net" "head" "[I", .methodLink RX6 78 yX2_hasArc, .instanceMethod yX2_hasArc, .selects RX2 yX2_hasArc yX2_hasArc, .initialized RX2, .code yX2_hasArc cX2_hasArc 2 (some .boolean), .fieldLink RX2 25 "NetBorders$Net" "arcs" "I"] ++ wsX60 ++ wsX00 ++ wsX20)
def wsX6_join : List Cond := .code yX6_join cX6_join 3 (some .int) :: ([.fieldLink RX6 10 "NetBorders" "now" "LNetBorders$Bench;", .fieldLink RX6 41 "NetBorders$Bench" "net" "LNetBorders$Net;", .fieldLink RX6 98 "NetBorders$Net" "nodes" "I", .methodLink RX6 67 yX2_hasNode, .instanceMethod yX2_hasNode, .selects RX2 yX2_hasNode yX2_hasNode, .initialized RX2, .code yX2_hasNode cX2_hasNode 2 (some .boolean), .fieldLink RX2 21 "NetBorders$Net" "nodes" "I", .methodLink RX6 94 yX2_merge, .instanceMethod yX2_merge, .selects RX2 yX2_merge yX2_merge, .code yX2_merge cX2_merge 4 none, .fieldLink RX2 25 "NetBorders$Net" "arcs" "I", .fieldLink RX2 9 "NetBorders$Net" "tail" "[I", .fieldLink RX2 15 "NetBorders$Net" "head" "[I", .methodLink RX2 28 yX2_renumbered, .static yX2_renumbered, .code yX2_renumbered cX2_renumbered 4 (some .int)] ++ wsX60 ++ wsX00 ++ wsX20)
def wsX6_tell : List Cond := .code yX6_tell cX6_tell 3 (some .int) :: ([.fieldLink RX6 10 "NetBorders" "now" "LNetBorders$Bench;", .fieldLink RX6 41 "NetBorders$Bench" "net" "LNetBorders$Net;", .fieldLink RX6 88 "NetBorders$Net" "tail" "[I", .fieldLink RX6 91 "NetBorders$Net" "head" "[I", .fieldLink RX6 84 "NetBorders$Net" "weight" "[I", .fieldLink RX6 55 "NetBorders$Bench" "family" "LNetBorders$Family;", .fieldLink RX6 101 "NetBorders$Family" "load" "[I", .fieldLink RX6 51 "NetBorders$Bench" "chosen" "I", .methodLink RX6 78 yX2_hasArc, .instanceMethod yX2_hasArc, .selects RX2 yX2_hasArc yX2_hasArc, .initialized RX2, .code yX2_hasArc cX2_hasArc 2 (some .boolean), .fieldLink RX2 25 "NetBorders$Net" "arcs" "I"] ++ wsX60 ++ wsX00 ++ wsX20 ++ wsX10)
def wsX6_node_r1 : List Cond := [Cond.fieldLink RX6 10 "NetBorders" "now" "LNetBorders$Bench;", Cond.fieldLink RX6 41 "NetBorders$Bench" "net" "LNetBorders$Net;", Cond.fieldLink RX6 23 "NetBorders" "paths" "LNetBorders$Paths;", Cond.constant RX6 112 (65535), Cond.fieldLink RX6 113 "NetBorders$Paths" "onward" "[I", Cond.fieldLink RX6 116 "NetBorders$Paths" "back" "[I", Cond.methodLink RX6 67 yX2_hasNode, Cond.instanceMethod yX2_hasNode, Cond.selects RX2 yX2_hasNode yX2_hasNode, Cond.initialized RX2, Cond.code yX2_hasNode cX2_hasNode 2 (some .boolean), Cond.fieldLink RX2 21 "NetBorders$Net" "nodes" "I", Cond.methodLink RX6 104 yX3_follow, Cond.instanceMethod yX3_follow, Cond.selects RX3 yX3_follow yX3_follow, Cond.initialized RX3, Cond.code yX3_follow cX3_follow 4 none, Cond.fieldLink RX3 18 "NetBorders$Net" "nodes" "I", Cond.fieldLink RX3 24 "NetBorders$Paths" "nodes" "I", Cond.fieldLink RX3 9 "NetBorders$Paths" "onward" "[I", Cond.fieldLink RX3 25 "NetBorders$Net" "arcs" "I", Cond.fieldLink RX3 28 "NetBorders$Net" "tail" "[I", Cond.fieldLink RX3 31 "NetBorders$Net" "head" "[I", Cond.static yX6_contains]
def wsX6_node_r2 : List Cond := [Cond.initialized RX6, Cond.code yX6_contains cX6_contains 2 (some .boolean), Cond.methodLink RX3 38 yX3_closeOnward, Cond.instanceMethod yX3_closeOnward, Cond.selects RX3 yX3_closeOnward yX3_closeOnward, Cond.code yX3_closeOnward cX3_closeOnward 3 none, Cond.methodLink RX3 41 yX3_turnToBack, Cond.instanceMethod yX3_turnToBack, Cond.selects RX3 yX3_turnToBack yX3_turnToBack, Cond.code yX3_turnToBack cX3_turnToBack 3 none, Cond.fieldLink RX3 15 "NetBorders$Paths" "back" "[I", Cond.methodLink RX6 108 yX3_part, Cond.instanceMethod yX3_part, Cond.selects RX3 yX3_part yX3_part, Cond.code yX3_part cX3_part 4 (some .int)]
def wsX6_node : List Cond := .code yX6_node cX6_node 3 (some .int) :: ((wsX6_node_r1 ++ wsX6_node_r2) ++ wsX60 ++ wsX00 ++ wsX30 ++ wsX20)
def wsX6_isStrong_r1 : List Cond := [Cond.fieldLink RX6 23 "NetBorders" "paths" "LNetBorders$Paths;", Cond.fieldLink RX6 10 "NetBorders" "now" "LNetBorders$Bench;", Cond.fieldLink RX6 41 "NetBorders$Bench" "net" "LNetBorders$Net;", Cond.methodLink RX6 104 yX3_follow, Cond.instanceMethod yX3_follow, Cond.selects RX3 yX3_follow yX3_follow, Cond.initialized RX3, Cond.code yX3_follow cX3_follow 4 none, Cond.fieldLink RX3 18 "NetBorders$Net" "nodes" "I", Cond.fieldLink RX3 24 "NetBorders$Paths" "nodes" "I", Cond.fieldLink RX3 9 "NetBorders$Paths" "onward" "[I", Cond.fieldLink RX3 25 "NetBorders$Net" "arcs" "I", Cond.fieldLink RX3 28 "NetBorders$Net" "tail" "[I", Cond.fieldLink RX3 31 "NetBorders$Net" "head" "[I", Cond.static yX6_contains, Cond.initialized RX6, Cond.code yX6_contains cX6_contains 2 (some .boolean), Cond.methodLink RX3 38 yX3_closeOnward, Cond.instanceMethod yX3_closeOnward, Cond.selects RX3 yX3_closeOnward yX3_closeOnward, Cond.code yX3_closeOnward cX3_closeOnward 3 none, Cond.methodLink RX3 41 yX3_turnToBack, Cond.instanceMethod yX3_turnToBack, Cond.selects RX3 yX3_turnToBack yX3_turnToBack]
def wsX6_isStrong_r2 : List Cond := [Cond.code yX3_turnToBack cX3_turnToBack 3 none, Cond.fieldLink RX3 15 "NetBorders$Paths" "back" "[I", Cond.methodLink RX6 155 yX3_areStrong, Cond.instanceMethod yX3_areStrong, Cond.selects RX3 yX3_areStrong yX3_areStrong, Cond.code yX3_areStrong cX3_areStrong 2 (some .boolean)]
def wsX6_isStrong : List Cond := .code yX6_isStrong cX6_isStrong 2 (some .boolean) :: ((wsX6_isStrong_r1 ++ wsX6_isStrong_r2) ++ wsX60 ++ wsX00 ++ wsX20 ++ wsX30)
def wsX6_isWhole_r1 : List Cond := [Cond.constant RX6 112 (65535), Cond.methodLink RX6 127 yX6_isStrong, Cond.instanceMethod yX6_isStrong, Cond.selects RX6 yX6_isStrong yX6_isStrong, Cond.initialized RX6, Cond.code yX6_isStrong cX6_isStrong 2 (some .boolean), Cond.fieldLink RX6 23 "NetBorders" "paths" "LNetBorders$Paths;", Cond.fieldLink RX6 10 "NetBorders" "now" "LNetBorders$Bench;", Cond.fieldLink RX6 41 "NetBorders$Bench" "net" "LNetBorders$Net;", Cond.methodLink RX6 104 yX3_follow, Cond.instanceMethod yX3_follow, Cond.selects RX3 yX3_follow yX3_follow, Cond.initialized RX3, Cond.code yX3_follow cX3_follow 4 none, Cond.fieldLink RX3 18 "NetBorders$Net" "nodes" "I", Cond.fieldLink RX3 24 "NetBorders$Paths" "nodes" "I", Cond.fieldLink RX3 9 "NetBorders$Paths" "onward" "[I", Cond.fieldLink RX3 25 "NetBorders$Net" "arcs" "I", Cond.fieldLink RX3 28 "NetBorders$Net" "tail" "[I", Cond.fieldLink RX3 31 "NetBorders$Net" "head" "[I", Cond.static yX6_contains, Cond.code yX6_contains cX6_contains 2 (some .boolean), Cond.methodLink RX3 38 yX3_closeOnward, Cond.instanceMethod yX3_closeOnward]
def wsX6_isWhole_r2 : List Cond := [Cond.selects RX3 yX3_closeOnward yX3_closeOnward, Cond.code yX3_closeOnward cX3_closeOnward 3 none, Cond.methodLink RX3 41 yX3_turnToBack, Cond.instanceMethod yX3_turnToBack, Cond.selects RX3 yX3_turnToBack yX3_turnToBack, Cond.code yX3_turnToBack cX3_turnToBack 3 none, Cond.fieldLink RX3 15 "NetBorders$Paths" "back" "[I", Cond.methodLink RX6 155 yX3_areStrong, Cond.instanceMethod yX3_areStrong, Cond.selects RX3 yX3_areStrong yX3_areStrong, Cond.code yX3_areStrong cX3_areStrong 2 (some .boolean)]
def wsX6_isWhole : List Cond := .code yX6_isWhole cX6_isWhole 1 (some .boolean) :: ((wsX6_isWhole_r1 ++ wsX6_isWhole_r2) ++ wsX60 ++ wsX00 ++ wsX20 ++ wsX30)
def wsX6_imagesMade : List Cond := .code yX6_imagesMade cX6_imagesMade 3 (some .int) :: ([.fieldLink RX6 16 "NetBorders" "images" "[LNetBorders$Bench;"] ++ wsX60)
def wsX6_count_r1 : List Cond := [Cond.fieldLink RX6 10 "NetBorders" "now" "LNetBorders$Bench;", Cond.fieldLink RX6 41 "NetBorders$Bench" "net" "LNetBorders$Net;", Cond.fieldLink RX6 98 "NetBorders$Net" "nodes" "I", Cond.fieldLink RX6 64 "NetBorders$Net" "arcs" "I", Cond.fieldLink RX6 23 "NetBorders" "paths" "LNetBorders$Paths;", Cond.fieldLink RX6 30 "NetBorders" "sides" "LNetBorders$Sides;", Cond.fieldLink RX6 134 "NetBorders$Sides" "size" "I", Cond.fieldLink RX6 55 "NetBorders$Bench" "family" "LNetBorders$Family;", Cond.methodLink RX6 104 yX3_follow, Cond.instanceMethod yX3_follow, Cond.selects RX3 yX3_follow yX3_follow, Cond.initialized RX3, Cond.code yX3_follow cX3_follow 4 none, Cond.fieldLink RX3 18 "NetBorders$Net" "nodes" "I", Cond.fieldLink RX3 24 "NetBorders$Paths" "nodes" "I", Cond.fieldLink RX3 9 "NetBorders$Paths" "onward" "[I", Cond.fieldLink RX3 25 "NetBorders$Net" "arcs" "I", Cond.fieldLink RX3 28 "NetBorders$Net" "tail" "[I", Cond.fieldLink RX3 31 "NetBorders$Net" "head" "[I", Cond.static yX6_contains, Cond.initialized RX6, Cond.code yX6_contains cX6_contains 2 (some .boolean), Cond.methodLink RX3 38 yX3_closeOnward, Cond.instanceMethod yX3_closeOnward]
def wsX6_count_r2 : List Cond := [Cond.selects RX3 yX3_closeOnward yX3_closeOnward, Cond.code yX3_closeOnward cX3_closeOnward 3 none, Cond.methodLink RX3 41 yX3_turnToBack, Cond.instanceMethod yX3_turnToBack, Cond.selects RX3 yX3_turnToBack yX3_turnToBack, Cond.code yX3_turnToBack cX3_turnToBack 3 none, Cond.fieldLink RX3 15 "NetBorders$Paths" "back" "[I", Cond.methodLink RX6 119 yX3_parts, Cond.instanceMethod yX3_parts, Cond.selects RX3 yX3_parts yX3_parts, Cond.code yX3_parts cX3_parts 3 (some .int), Cond.methodLink RX3 44 yX3_part, Cond.instanceMethod yX3_part, Cond.selects RX3 yX3_part yX3_part, Cond.code yX3_part cX3_part 4 (some .int), Cond.methodLink RX6 123 yX6_isWhole, Cond.instanceMethod yX6_isWhole, Cond.selects RX6 yX6_isWhole yX6_isWhole, Cond.code yX6_isWhole cX6_isWhole 1 (some .boolean), Cond.constant RX6 112 (65535), Cond.methodLink RX6 127 yX6_isStrong, Cond.instanceMethod yX6_isStrong, Cond.selects RX6 yX6_isStrong yX6_isStrong, Cond.code yX6_isStrong cX6_isStrong 2 (some .boolean)]
def wsX6_count_r3 : List Cond := [Cond.methodLink RX6 155 yX3_areStrong, Cond.instanceMethod yX3_areStrong, Cond.selects RX3 yX3_areStrong yX3_areStrong, Cond.code yX3_areStrong cX3_areStrong 2 (some .boolean), Cond.methodLink RX6 130 yX5_find, Cond.instanceMethod yX5_find, Cond.selects RX5 yX5_find yX5_find, Cond.initialized RX5, Cond.code yX5_find cX5_find 4 none, Cond.fieldLink RX5 28 "NetBorders$Sides" "size" "I", Cond.fieldLink RX5 18 "NetBorders$Sides" "tailWithin" "[I", Cond.fieldLink RX5 21 "NetBorders$Sides" "headWithin" "[I", Cond.fieldLink RX5 9 "NetBorders$Sides" "bits" "[I", Cond.fieldLink RX5 15 "NetBorders$Sides" "border" "[I", Cond.methodLink RX5 24 yX5_gatherArcs, Cond.instanceMethod yX5_gatherArcs, Cond.selects RX5 yX5_gatherArcs yX5_gatherArcs, Cond.code yX5_gatherArcs cX5_gatherArcs 7 none, Cond.fieldLink RX5 38 "NetBorders$Net" "nodes" "I", Cond.methodLink RX5 41 yX2_arcsFrom, Cond.instanceMethod yX2_arcsFrom, Cond.selects RX2 yX2_arcsFrom yX2_arcsFrom, Cond.initialized RX2, Cond.code yX2_arcsFrom cX2_arcsFrom 2 (some .int)]
def wsX6_count_r4 : List Cond := [Cond.fieldLink RX2 9 "NetBorders$Net" "tail" "[I", Cond.methodLink RX2 47 yX2_arcsAt, Cond.instanceMethod yX2_arcsAt, Cond.selects RX2 yX2_arcsAt yX2_arcsAt, Cond.code yX2_arcsAt cX2_arcsAt 5 (some .int), Cond.fieldLink RX2 25 "NetBorders$Net" "arcs" "I", Cond.methodLink RX5 45 yX2_arcsTo, Cond.instanceMethod yX2_arcsTo, Cond.selects RX2 yX2_arcsTo yX2_arcsTo, Cond.code yX2_arcsTo cX2_arcsTo 2 (some .int), Cond.fieldLink RX2 15 "NetBorders$Net" "head" "[I", Cond.methodLink RX5 32 yX2_allNodes, Cond.instanceMethod yX2_allNodes, Cond.selects RX2 yX2_allNodes yX2_allNodes, Cond.code yX2_allNodes cX2_allNodes 1 (some .int), Cond.fieldLink RX2 21 "NetBorders$Net" "nodes" "I", Cond.methodLink RX6 137 yX1_size, Cond.instanceMethod yX1_size, Cond.selects RX1 yX1_size yX1_size, Cond.initialized RX1, Cond.code yX1_size cX1_size 3 (some .int), Cond.fieldLink RX1 9 "NetBorders$Family" "times" "[I", Cond.methodLink RX6 139 yX6_imagesMade, Cond.instanceMethod yX6_imagesMade]
def wsX6_count_r5 : List Cond := [Cond.selects RX6 yX6_imagesMade yX6_imagesMade, Cond.code yX6_imagesMade cX6_imagesMade 3 (some .int), Cond.fieldLink RX6 16 "NetBorders" "images" "[LNetBorders$Bench;"]
def wsX6_count : List Cond := .code yX6_count cX6_count 2 (some .int) :: ((wsX6_count_r1 ++ (wsX6_count_r2 ++ (wsX6_count_r3 ++ (wsX6_count_r4 ++ wsX6_count_r5)))) ++ wsX60 ++ wsX00 ++ wsX20 ++ wsX50 ++ wsX30 ++ wsX10)
def wsX6_side_r1 : List Cond := [Cond.fieldLink RX6 30 "NetBorders" "sides" "LNetBorders$Sides;", Cond.fieldLink RX6 10 "NetBorders" "now" "LNetBorders$Bench;", Cond.fieldLink RX6 41 "NetBorders$Bench" "net" "LNetBorders$Net;", Cond.fieldLink RX6 134 "NetBorders$Sides" "size" "I", Cond.fieldLink RX6 142 "NetBorders$Sides" "bits" "[I", Cond.fieldLink RX6 145 "NetBorders$Sides" "border" "[I", Cond.methodLink RX6 130 yX5_find, Cond.instanceMethod yX5_find, Cond.selects RX5 yX5_find yX5_find, Cond.initialized RX5, Cond.code yX5_find cX5_find 4 none, Cond.fieldLink RX5 28 "NetBorders$Sides" "size" "I", Cond.fieldLink RX5 18 "NetBorders$Sides" "tailWithin" "[I", Cond.fieldLink RX5 21 "NetBorders$Sides" "headWithin" "[I", Cond.fieldLink RX5 9 "NetBorders$Sides" "bits" "[I", Cond.fieldLink RX5 15 "NetBorders$Sides" "border" "[I", Cond.methodLink RX5 24 yX5_gatherArcs, Cond.instanceMethod yX5_gatherArcs, Cond.selects RX5 yX5_gatherArcs yX5_gatherArcs, Cond.code yX5_gatherArcs cX5_gatherArcs 7 none, Cond.fieldLink RX5 38 "NetBorders$Net" "nodes" "I", Cond.methodLink RX5 41 yX2_arcsFrom, Cond.instanceMethod yX2_arcsFrom, Cond.selects RX2 yX2_arcsFrom yX2_arcsFrom]
def wsX6_side_r2 : List Cond := [Cond.initialized RX2, Cond.code yX2_arcsFrom cX2_arcsFrom 2 (some .int), Cond.fieldLink RX2 9 "NetBorders$Net" "tail" "[I", Cond.methodLink RX2 47 yX2_arcsAt, Cond.instanceMethod yX2_arcsAt, Cond.selects RX2 yX2_arcsAt yX2_arcsAt, Cond.code yX2_arcsAt cX2_arcsAt 5 (some .int), Cond.fieldLink RX2 25 "NetBorders$Net" "arcs" "I", Cond.methodLink RX5 45 yX2_arcsTo, Cond.instanceMethod yX2_arcsTo, Cond.selects RX2 yX2_arcsTo yX2_arcsTo, Cond.code yX2_arcsTo cX2_arcsTo 2 (some .int), Cond.fieldLink RX2 15 "NetBorders$Net" "head" "[I", Cond.methodLink RX5 32 yX2_allNodes, Cond.instanceMethod yX2_allNodes, Cond.selects RX2 yX2_allNodes yX2_allNodes, Cond.code yX2_allNodes cX2_allNodes 1 (some .int), Cond.fieldLink RX2 21 "NetBorders$Net" "nodes" "I"]
def wsX6_side : List Cond := .code yX6_side cX6_side 3 (some .int) :: ((wsX6_side_r1 ++ wsX6_side_r2) ++ wsX60 ++ wsX00 ++ wsX50 ++ wsX20)
def wsX6_bounds_r1 : List Cond := [Cond.fieldLink RX6 10 "NetBorders" "now" "LNetBorders$Bench;", Cond.fieldLink RX6 41 "NetBorders$Bench" "net" "LNetBorders$Net;", Cond.fieldLink RX6 88 "NetBorders$Net" "tail" "[I", Cond.fieldLink RX6 91 "NetBorders$Net" "head" "[I", Cond.fieldLink RX6 23 "NetBorders" "paths" "LNetBorders$Paths;", Cond.fieldLink RX6 113 "NetBorders$Paths" "onward" "[I", Cond.fieldLink RX6 116 "NetBorders$Paths" "back" "[I", Cond.methodLink RX6 78 yX2_hasArc, Cond.instanceMethod yX2_hasArc, Cond.selects RX2 yX2_hasArc yX2_hasArc, Cond.initialized RX2, Cond.code yX2_hasArc cX2_hasArc 2 (some .boolean), Cond.fieldLink RX2 25 "NetBorders$Net" "arcs" "I", Cond.methodLink RX6 104 yX3_follow, Cond.instanceMethod yX3_follow, Cond.selects RX3 yX3_follow yX3_follow, Cond.initialized RX3, Cond.code yX3_follow cX3_follow 4 none, Cond.fieldLink RX3 18 "NetBorders$Net" "nodes" "I", Cond.fieldLink RX3 24 "NetBorders$Paths" "nodes" "I", Cond.fieldLink RX3 9 "NetBorders$Paths" "onward" "[I", Cond.fieldLink RX3 25 "NetBorders$Net" "arcs" "I", Cond.fieldLink RX3 28 "NetBorders$Net" "tail" "[I", Cond.fieldLink RX3 31 "NetBorders$Net" "head" "[I"]
def wsX6_bounds_r2 : List Cond := [Cond.static yX6_contains, Cond.initialized RX6, Cond.code yX6_contains cX6_contains 2 (some .boolean), Cond.methodLink RX3 38 yX3_closeOnward, Cond.instanceMethod yX3_closeOnward, Cond.selects RX3 yX3_closeOnward yX3_closeOnward, Cond.code yX3_closeOnward cX3_closeOnward 3 none, Cond.methodLink RX3 41 yX3_turnToBack, Cond.instanceMethod yX3_turnToBack, Cond.selects RX3 yX3_turnToBack yX3_turnToBack, Cond.code yX3_turnToBack cX3_turnToBack 3 none, Cond.fieldLink RX3 15 "NetBorders$Paths" "back" "[I", Cond.methodLink RX6 148 yX6_contains, Cond.methodLink RX6 152 yX2_allNodes, Cond.instanceMethod yX2_allNodes, Cond.selects RX2 yX2_allNodes yX2_allNodes, Cond.code yX2_allNodes cX2_allNodes 1 (some .int), Cond.fieldLink RX2 21 "NetBorders$Net" "nodes" "I"]
def wsX6_bounds : List Cond := .code yX6_bounds cX6_bounds 5 (some .int) :: ((wsX6_bounds_r1 ++ wsX6_bounds_r2) ++ wsX60 ++ wsX00 ++ wsX20 ++ wsX30)
def wsX6_isDijoin_r1 : List Cond := [Cond.fieldLink RX6 30 "NetBorders" "sides" "LNetBorders$Sides;", Cond.fieldLink RX6 10 "NetBorders" "now" "LNetBorders$Bench;", Cond.fieldLink RX6 41 "NetBorders$Bench" "net" "LNetBorders$Net;", Cond.fieldLink RX6 134 "NetBorders$Sides" "size" "I", Cond.fieldLink RX6 145 "NetBorders$Sides" "border" "[I", Cond.methodLink RX6 130 yX5_find, Cond.instanceMethod yX5_find, Cond.selects RX5 yX5_find yX5_find, Cond.initialized RX5, Cond.code yX5_find cX5_find 4 none, Cond.fieldLink RX5 28 "NetBorders$Sides" "size" "I", Cond.fieldLink RX5 18 "NetBorders$Sides" "tailWithin" "[I", Cond.fieldLink RX5 21 "NetBorders$Sides" "headWithin" "[I", Cond.fieldLink RX5 9 "NetBorders$Sides" "bits" "[I", Cond.fieldLink RX5 15 "NetBorders$Sides" "border" "[I", Cond.methodLink RX5 24 yX5_gatherArcs, Cond.instanceMethod yX5_gatherArcs, Cond.selects RX5 yX5_gatherArcs yX5_gatherArcs, Cond.code yX5_gatherArcs cX5_gatherArcs 7 none, Cond.fieldLink RX5 38 "NetBorders$Net" "nodes" "I", Cond.methodLink RX5 41 yX2_arcsFrom, Cond.instanceMethod yX2_arcsFrom, Cond.selects RX2 yX2_arcsFrom yX2_arcsFrom, Cond.initialized RX2]
def wsX6_isDijoin_r2 : List Cond := [Cond.code yX2_arcsFrom cX2_arcsFrom 2 (some .int), Cond.fieldLink RX2 9 "NetBorders$Net" "tail" "[I", Cond.methodLink RX2 47 yX2_arcsAt, Cond.instanceMethod yX2_arcsAt, Cond.selects RX2 yX2_arcsAt yX2_arcsAt, Cond.code yX2_arcsAt cX2_arcsAt 5 (some .int), Cond.fieldLink RX2 25 "NetBorders$Net" "arcs" "I", Cond.methodLink RX5 45 yX2_arcsTo, Cond.instanceMethod yX2_arcsTo, Cond.selects RX2 yX2_arcsTo yX2_arcsTo, Cond.code yX2_arcsTo cX2_arcsTo 2 (some .int), Cond.fieldLink RX2 15 "NetBorders$Net" "head" "[I", Cond.methodLink RX5 32 yX2_allNodes, Cond.instanceMethod yX2_allNodes, Cond.selects RX2 yX2_allNodes yX2_allNodes, Cond.code yX2_allNodes cX2_allNodes 1 (some .int), Cond.fieldLink RX2 21 "NetBorders$Net" "nodes" "I"]
def wsX6_isDijoin : List Cond := .code yX6_isDijoin cX6_isDijoin 3 (some .boolean) :: ((wsX6_isDijoin_r1 ++ wsX6_isDijoin_r2) ++ wsX60 ++ wsX00 ++ wsX50 ++ wsX20)
def wsX6_prepareSearch_r1 : List Cond := [Cond.fieldLink RX6 30 "NetBorders" "sides" "LNetBorders$Sides;", Cond.fieldLink RX6 10 "NetBorders" "now" "LNetBorders$Bench;", Cond.fieldLink RX6 41 "NetBorders$Bench" "net" "LNetBorders$Net;", Cond.fieldLink RX6 37 "NetBorders" "search" "LNetBorders$Search;", Cond.methodLink RX6 130 yX5_find, Cond.instanceMethod yX5_find, Cond.selects RX5 yX5_find yX5_find, Cond.initialized RX5, Cond.code yX5_find cX5_find 4 none, Cond.fieldLink RX5 28 "NetBorders$Sides" "size" "I", Cond.fieldLink RX5 18 "NetBorders$Sides" "tailWithin" "[I", Cond.fieldLink RX5 21 "NetBorders$Sides" "headWithin" "[I", Cond.fieldLink RX5 9 "NetBorders$Sides" "bits" "[I", Cond.fieldLink RX5 15 "NetBorders$Sides" "border" "[I", Cond.methodLink RX5 24 yX5_gatherArcs, Cond.instanceMethod yX5_gatherArcs, Cond.selects RX5 yX5_gatherArcs yX5_gatherArcs, Cond.code yX5_gatherArcs cX5_gatherArcs 7 none, Cond.fieldLink RX5 38 "NetBorders$Net" "nodes" "I", Cond.methodLink RX5 41 yX2_arcsFrom, Cond.instanceMethod yX2_arcsFrom, Cond.selects RX2 yX2_arcsFrom yX2_arcsFrom, Cond.initialized RX2, Cond.code yX2_arcsFrom cX2_arcsFrom 2 (some .int)]
def wsX6_prepareSearch_r2 : List Cond := [Cond.fieldLink RX2 9 "NetBorders$Net" "tail" "[I", Cond.methodLink RX2 47 yX2_arcsAt, Cond.instanceMethod yX2_arcsAt, Cond.selects RX2 yX2_arcsAt yX2_arcsAt, Cond.code yX2_arcsAt cX2_arcsAt 5 (some .int), Cond.fieldLink RX2 25 "NetBorders$Net" "arcs" "I", Cond.methodLink RX5 45 yX2_arcsTo, Cond.instanceMethod yX2_arcsTo, Cond.selects RX2 yX2_arcsTo yX2_arcsTo, Cond.code yX2_arcsTo cX2_arcsTo 2 (some .int), Cond.fieldLink RX2 15 "NetBorders$Net" "head" "[I", Cond.methodLink RX5 32 yX2_allNodes, Cond.instanceMethod yX2_allNodes, Cond.selects RX2 yX2_allNodes yX2_allNodes, Cond.code yX2_allNodes cX2_allNodes 1 (some .int), Cond.fieldLink RX2 21 "NetBorders$Net" "nodes" "I", Cond.methodLink RX6 224 yX4_takeBorders, Cond.instanceMethod yX4_takeBorders, Cond.selects RX4 yX4_takeBorders yX4_takeBorders, Cond.initialized RX4, Cond.code yX4_takeBorders cX4_takeBorders 3 none, Cond.fieldLink RX4 21 "NetBorders$Search" "size" "I", Cond.fieldLink RX4 25 "NetBorders$Sides" "size" "I", Cond.fieldLink RX4 28 "NetBorders$Sides" "border" "[I"]
def wsX6_prepareSearch_r3 : List Cond := [Cond.methodLink RX4 29 yX4_takeBorder, Cond.instanceMethod yX4_takeBorder, Cond.selects RX4 yX4_takeBorder yX4_takeBorder, Cond.code yX4_takeBorder cX4_takeBorder 4 none, Cond.fieldLink RX4 9 "NetBorders$Search" "border" "[I"]
def wsX6_prepareSearch : List Cond := .code yX6_prepareSearch cX6_prepareSearch 1 none :: ((wsX6_prepareSearch_r1 ++ (wsX6_prepareSearch_r2 ++ wsX6_prepareSearch_r3)) ++ wsX60 ++ wsX00 ++ wsX50 ++ wsX20 ++ wsX40)
def wsX6_dijoin_r1 : List Cond := [Cond.fieldLink RX6 37 "NetBorders" "search" "LNetBorders$Search;", Cond.fieldLink RX6 10 "NetBorders" "now" "LNetBorders$Bench;", Cond.fieldLink RX6 41 "NetBorders$Bench" "net" "LNetBorders$Net;", Cond.constant RX6 164 (2147483647), Cond.fieldLink RX6 168 "NetBorders$Search" "bestArcs" "I", Cond.fieldLink RX6 51 "NetBorders$Bench" "chosen" "I", Cond.fieldLink RX6 84 "NetBorders$Net" "weight" "[I", Cond.methodLink RX6 123 yX6_isWhole, Cond.instanceMethod yX6_isWhole, Cond.selects RX6 yX6_isWhole yX6_isWhole, Cond.initialized RX6, Cond.code yX6_isWhole cX6_isWhole 1 (some .boolean), Cond.constant RX6 112 (65535), Cond.methodLink RX6 127 yX6_isStrong, Cond.instanceMethod yX6_isStrong, Cond.selects RX6 yX6_isStrong yX6_isStrong, Cond.code yX6_isStrong cX6_isStrong 2 (some .boolean), Cond.fieldLink RX6 23 "NetBorders" "paths" "LNetBorders$Paths;", Cond.methodLink RX6 104 yX3_follow, Cond.instanceMethod yX3_follow, Cond.selects RX3 yX3_follow yX3_follow, Cond.initialized RX3, Cond.code yX3_follow cX3_follow 4 none, Cond.fieldLink RX3 18 "NetBorders$Net" "nodes" "I"]
def wsX6_dijoin_r2 : List Cond := [Cond.fieldLink RX3 24 "NetBorders$Paths" "nodes" "I", Cond.fieldLink RX3 9 "NetBorders$Paths" "onward" "[I", Cond.fieldLink RX3 25 "NetBorders$Net" "arcs" "I", Cond.fieldLink RX3 28 "NetBorders$Net" "tail" "[I", Cond.fieldLink RX3 31 "NetBorders$Net" "head" "[I", Cond.static yX6_contains, Cond.code yX6_contains cX6_contains 2 (some .boolean), Cond.methodLink RX3 38 yX3_closeOnward, Cond.instanceMethod yX3_closeOnward, Cond.selects RX3 yX3_closeOnward yX3_closeOnward, Cond.code yX3_closeOnward cX3_closeOnward 3 none, Cond.methodLink RX3 41 yX3_turnToBack, Cond.instanceMethod yX3_turnToBack, Cond.selects RX3 yX3_turnToBack yX3_turnToBack, Cond.code yX3_turnToBack cX3_turnToBack 3 none, Cond.fieldLink RX3 15 "NetBorders$Paths" "back" "[I", Cond.methodLink RX6 155 yX3_areStrong, Cond.instanceMethod yX3_areStrong, Cond.selects RX3 yX3_areStrong yX3_areStrong, Cond.code yX3_areStrong cX3_areStrong 2 (some .boolean), Cond.methodLink RX6 158 yX6_prepareSearch, Cond.instanceMethod yX6_prepareSearch, Cond.selects RX6 yX6_prepareSearch yX6_prepareSearch, Cond.code yX6_prepareSearch cX6_prepareSearch 1 none]
def wsX6_dijoin_r3 : List Cond := [Cond.fieldLink RX6 30 "NetBorders" "sides" "LNetBorders$Sides;", Cond.methodLink RX6 130 yX5_find, Cond.instanceMethod yX5_find, Cond.selects RX5 yX5_find yX5_find, Cond.initialized RX5, Cond.code yX5_find cX5_find 4 none, Cond.fieldLink RX5 28 "NetBorders$Sides" "size" "I", Cond.fieldLink RX5 18 "NetBorders$Sides" "tailWithin" "[I", Cond.fieldLink RX5 21 "NetBorders$Sides" "headWithin" "[I", Cond.fieldLink RX5 9 "NetBorders$Sides" "bits" "[I", Cond.fieldLink RX5 15 "NetBorders$Sides" "border" "[I", Cond.methodLink RX5 24 yX5_gatherArcs, Cond.instanceMethod yX5_gatherArcs, Cond.selects RX5 yX5_gatherArcs yX5_gatherArcs, Cond.code yX5_gatherArcs cX5_gatherArcs 7 none, Cond.fieldLink RX5 38 "NetBorders$Net" "nodes" "I", Cond.methodLink RX5 41 yX2_arcsFrom, Cond.instanceMethod yX2_arcsFrom, Cond.selects RX2 yX2_arcsFrom yX2_arcsFrom, Cond.initialized RX2, Cond.code yX2_arcsFrom cX2_arcsFrom 2 (some .int), Cond.fieldLink RX2 9 "NetBorders$Net" "tail" "[I", Cond.methodLink RX2 47 yX2_arcsAt, Cond.instanceMethod yX2_arcsAt]
def wsX6_dijoin_r4 : List Cond := [Cond.selects RX2 yX2_arcsAt yX2_arcsAt, Cond.code yX2_arcsAt cX2_arcsAt 5 (some .int), Cond.fieldLink RX2 25 "NetBorders$Net" "arcs" "I", Cond.methodLink RX5 45 yX2_arcsTo, Cond.instanceMethod yX2_arcsTo, Cond.selects RX2 yX2_arcsTo yX2_arcsTo, Cond.code yX2_arcsTo cX2_arcsTo 2 (some .int), Cond.fieldLink RX2 15 "NetBorders$Net" "head" "[I", Cond.methodLink RX5 32 yX2_allNodes, Cond.instanceMethod yX2_allNodes, Cond.selects RX2 yX2_allNodes yX2_allNodes, Cond.code yX2_allNodes cX2_allNodes 1 (some .int), Cond.fieldLink RX2 21 "NetBorders$Net" "nodes" "I", Cond.methodLink RX6 224 yX4_takeBorders, Cond.instanceMethod yX4_takeBorders, Cond.selects RX4 yX4_takeBorders yX4_takeBorders, Cond.initialized RX4, Cond.code yX4_takeBorders cX4_takeBorders 3 none, Cond.fieldLink RX4 21 "NetBorders$Search" "size" "I", Cond.fieldLink RX4 25 "NetBorders$Sides" "size" "I", Cond.fieldLink RX4 28 "NetBorders$Sides" "border" "[I", Cond.methodLink RX4 29 yX4_takeBorder, Cond.instanceMethod yX4_takeBorder, Cond.selects RX4 yX4_takeBorder yX4_takeBorder]
def wsX6_dijoin_r5 : List Cond := [Cond.code yX4_takeBorder cX4_takeBorder 4 none, Cond.fieldLink RX4 9 "NetBorders$Search" "border" "[I", Cond.methodLink RX6 161 yX4_priceWithTies, Cond.instanceMethod yX4_priceWithTies, Cond.selects RX4 yX4_priceWithTies yX4_priceWithTies, Cond.code yX4_priceWithTies cX4_priceWithTies 3 none, Cond.fieldLink RX4 33 "NetBorders$Net" "arcs" "I", Cond.fieldLink RX4 38 "NetBorders$Search" "arcs" "I", Cond.fieldLink RX4 39 "NetBorders$Search" "barred" "I", Cond.fieldLink RX4 15 "NetBorders$Search" "price" "[I", Cond.fieldLink RX4 42 "NetBorders$Net" "weight" "[I", Cond.methodLink RX6 165 yX4_findBelow, Cond.instanceMethod yX4_findBelow, Cond.selects RX4 yX4_findBelow yX4_findBelow, Cond.code yX4_findBelow cX4_findBelow 4 (some .boolean), Cond.fieldLink RX4 55 "NetBorders$Search" "best" "I", Cond.fieldLink RX4 58 "NetBorders$Search" "bestArcs" "I", Cond.methodLink RX4 61 yX4_descend, Cond.static yX4_descend, Cond.code yX4_descend cX4_descend 9 none, Cond.fieldLink RX4 69 "NetBorders$Search" "tightest" "I", Cond.methodLink RX4 65 yX4_boundOf, Cond.instanceMethod yX4_boundOf, Cond.selects RX4 yX4_boundOf yX4_boundOf]
def wsX6_dijoin_r6 : List Cond := [Cond.code yX4_boundOf cX4_boundOf 7 (some .int), Cond.fieldLink RX4 72 "NetBorders$Search" "dry" "I", Cond.fieldLink RX4 18 "NetBorders$Search" "slack" "[I", Cond.methodLink RX4 45 arraycopyName, Cond.native arraycopyName, Cond.static arraycopyName, Cond.initialized "java/lang/System", Cond.methodLink RX4 75 yX4_drawFromSlack, Cond.instanceMethod yX4_drawFromSlack, Cond.selects RX4 yX4_drawFromSlack yX4_drawFromSlack, Cond.code yX4_drawFromSlack cX4_drawFromSlack 4 (some .int), Cond.constant RX4 84 (2147483647), Cond.methodLink RX4 85 Lib.Math.min.name, Cond.static Lib.Math.min.name, Cond.initialized "java/lang/Math", Cond.code Lib.Math.min.name Lib.Math.min.code 2 (some .int), Cond.methodLink RX4 79 yJ6_bitCount_0f7a4, Cond.static yJ6_bitCount_0f7a4, Cond.initialized RJ6, Cond.code yJ6_bitCount_0f7a4 cJ6_bitCount_0f7a4 1 (some .int), Cond.constant RJ6 265 (1431655765), Cond.constant RJ6 266 (858993459), Cond.constant RJ6 267 (252645135), Cond.methodLink RX6 171 yX6_sumOver]
def wsX6_dijoin_r7 : List Cond := [Cond.static yX6_sumOver, Cond.code yX6_sumOver cX6_sumOver 4 (some .int), Cond.methodLink RX6 148 yX6_contains]
def wsX6_dijoin : List Cond := .code yX6_dijoin cX6_dijoin 1 (some .int) :: ((wsX6_dijoin_r1 ++ (wsX6_dijoin_r2 ++ (wsX6_dijoin_r3 ++ (wsX6_dijoin_r4 ++ (wsX6_dijoin_r5 ++ (wsX6_dijoin_r6 ++ wsX6_dijoin_r7)))))) ++ wsX60 ++ wsX00 ++ wsX40 ++ wsX20 ++ wsX30 ++ wsX50)
def wsX6_chosen : List Cond := .code yX6_chosen cX6_chosen 1 (some .int) :: ([.fieldLink RX6 10 "NetBorders" "now" "LNetBorders$Bench;", .fieldLink RX6 51 "NetBorders$Bench" "chosen" "I"] ++ wsX60 ++ wsX00)
def wsX6_cost_r1 : List Cond := [Cond.fieldLink RX6 10 "NetBorders" "now" "LNetBorders$Bench;", Cond.fieldLink RX6 41 "NetBorders$Bench" "net" "LNetBorders$Net;", Cond.fieldLink RX6 37 "NetBorders" "search" "LNetBorders$Search;", Cond.constant RX6 164 (2147483647), Cond.fieldLink RX6 181 "NetBorders$Search" "best" "I", Cond.methodLink RX6 78 yX2_hasArc, Cond.instanceMethod yX2_hasArc, Cond.selects RX2 yX2_hasArc yX2_hasArc, Cond.initialized RX2, Cond.code yX2_hasArc cX2_hasArc 2 (some .boolean), Cond.fieldLink RX2 25 "NetBorders$Net" "arcs" "I", Cond.methodLink RX6 71 yX6_isWeight, Cond.static yX6_isWeight, Cond.initialized RX6, Cond.code yX6_isWeight cX6_isWeight 1 (some .boolean), Cond.methodLink RX6 123 yX6_isWhole, Cond.instanceMethod yX6_isWhole, Cond.selects RX6 yX6_isWhole yX6_isWhole, Cond.code yX6_isWhole cX6_isWhole 1 (some .boolean), Cond.constant RX6 112 (65535), Cond.methodLink RX6 127 yX6_isStrong, Cond.instanceMethod yX6_isStrong, Cond.selects RX6 yX6_isStrong yX6_isStrong, Cond.code yX6_isStrong cX6_isStrong 2 (some .boolean)]
def wsX6_cost_r2 : List Cond := [Cond.fieldLink RX6 23 "NetBorders" "paths" "LNetBorders$Paths;", Cond.methodLink RX6 104 yX3_follow, Cond.instanceMethod yX3_follow, Cond.selects RX3 yX3_follow yX3_follow, Cond.initialized RX3, Cond.code yX3_follow cX3_follow 4 none, Cond.fieldLink RX3 18 "NetBorders$Net" "nodes" "I", Cond.fieldLink RX3 24 "NetBorders$Paths" "nodes" "I", Cond.fieldLink RX3 9 "NetBorders$Paths" "onward" "[I", Cond.fieldLink RX3 25 "NetBorders$Net" "arcs" "I", Cond.fieldLink RX3 28 "NetBorders$Net" "tail" "[I", Cond.fieldLink RX3 31 "NetBorders$Net" "head" "[I", Cond.static yX6_contains, Cond.code yX6_contains cX6_contains 2 (some .boolean), Cond.methodLink RX3 38 yX3_closeOnward, Cond.instanceMethod yX3_closeOnward, Cond.selects RX3 yX3_closeOnward yX3_closeOnward, Cond.code yX3_closeOnward cX3_closeOnward 3 none, Cond.methodLink RX3 41 yX3_turnToBack, Cond.instanceMethod yX3_turnToBack, Cond.selects RX3 yX3_turnToBack yX3_turnToBack, Cond.code yX3_turnToBack cX3_turnToBack 3 none, Cond.fieldLink RX3 15 "NetBorders$Paths" "back" "[I", Cond.methodLink RX6 155 yX3_areStrong]
def wsX6_cost_r3 : List Cond := [Cond.instanceMethod yX3_areStrong, Cond.selects RX3 yX3_areStrong yX3_areStrong, Cond.code yX3_areStrong cX3_areStrong 2 (some .boolean), Cond.methodLink RX6 158 yX6_prepareSearch, Cond.instanceMethod yX6_prepareSearch, Cond.selects RX6 yX6_prepareSearch yX6_prepareSearch, Cond.code yX6_prepareSearch cX6_prepareSearch 1 none, Cond.fieldLink RX6 30 "NetBorders" "sides" "LNetBorders$Sides;", Cond.methodLink RX6 130 yX5_find, Cond.instanceMethod yX5_find, Cond.selects RX5 yX5_find yX5_find, Cond.initialized RX5, Cond.code yX5_find cX5_find 4 none, Cond.fieldLink RX5 28 "NetBorders$Sides" "size" "I", Cond.fieldLink RX5 18 "NetBorders$Sides" "tailWithin" "[I", Cond.fieldLink RX5 21 "NetBorders$Sides" "headWithin" "[I", Cond.fieldLink RX5 9 "NetBorders$Sides" "bits" "[I", Cond.fieldLink RX5 15 "NetBorders$Sides" "border" "[I", Cond.methodLink RX5 24 yX5_gatherArcs, Cond.instanceMethod yX5_gatherArcs, Cond.selects RX5 yX5_gatherArcs yX5_gatherArcs, Cond.code yX5_gatherArcs cX5_gatherArcs 7 none, Cond.fieldLink RX5 38 "NetBorders$Net" "nodes" "I", Cond.methodLink RX5 41 yX2_arcsFrom]
def wsX6_cost_r4 : List Cond := [Cond.instanceMethod yX2_arcsFrom, Cond.selects RX2 yX2_arcsFrom yX2_arcsFrom, Cond.code yX2_arcsFrom cX2_arcsFrom 2 (some .int), Cond.fieldLink RX2 9 "NetBorders$Net" "tail" "[I", Cond.methodLink RX2 47 yX2_arcsAt, Cond.instanceMethod yX2_arcsAt, Cond.selects RX2 yX2_arcsAt yX2_arcsAt, Cond.code yX2_arcsAt cX2_arcsAt 5 (some .int), Cond.methodLink RX5 45 yX2_arcsTo, Cond.instanceMethod yX2_arcsTo, Cond.selects RX2 yX2_arcsTo yX2_arcsTo, Cond.code yX2_arcsTo cX2_arcsTo 2 (some .int), Cond.fieldLink RX2 15 "NetBorders$Net" "head" "[I", Cond.methodLink RX5 32 yX2_allNodes, Cond.instanceMethod yX2_allNodes, Cond.selects RX2 yX2_allNodes yX2_allNodes, Cond.code yX2_allNodes cX2_allNodes 1 (some .int), Cond.fieldLink RX2 21 "NetBorders$Net" "nodes" "I", Cond.methodLink RX6 224 yX4_takeBorders, Cond.instanceMethod yX4_takeBorders, Cond.selects RX4 yX4_takeBorders yX4_takeBorders, Cond.initialized RX4, Cond.code yX4_takeBorders cX4_takeBorders 3 none, Cond.fieldLink RX4 21 "NetBorders$Search" "size" "I"]
def wsX6_cost_r5 : List Cond := [Cond.fieldLink RX4 25 "NetBorders$Sides" "size" "I", Cond.fieldLink RX4 28 "NetBorders$Sides" "border" "[I", Cond.methodLink RX4 29 yX4_takeBorder, Cond.instanceMethod yX4_takeBorder, Cond.selects RX4 yX4_takeBorder yX4_takeBorder, Cond.code yX4_takeBorder cX4_takeBorder 4 none, Cond.fieldLink RX4 9 "NetBorders$Search" "border" "[I", Cond.methodLink RX6 175 yX4_priceByWeight, Cond.instanceMethod yX4_priceByWeight, Cond.selects RX4 yX4_priceByWeight yX4_priceByWeight, Cond.code yX4_priceByWeight cX4_priceByWeight 2 none, Cond.fieldLink RX4 33 "NetBorders$Net" "arcs" "I", Cond.fieldLink RX4 38 "NetBorders$Search" "arcs" "I", Cond.fieldLink RX4 39 "NetBorders$Search" "barred" "I", Cond.fieldLink RX4 42 "NetBorders$Net" "weight" "[I", Cond.fieldLink RX4 15 "NetBorders$Search" "price" "[I", Cond.methodLink RX4 45 arraycopyName, Cond.native arraycopyName, Cond.static arraycopyName, Cond.initialized "java/lang/System", Cond.methodLink RX6 178 yX4_reprice, Cond.instanceMethod yX4_reprice, Cond.selects RX4 yX4_reprice yX4_reprice, Cond.code yX4_reprice cX4_reprice 3 none]
def wsX6_cost_r6 : List Cond := [Cond.methodLink RX6 165 yX4_findBelow, Cond.instanceMethod yX4_findBelow, Cond.selects RX4 yX4_findBelow yX4_findBelow, Cond.code yX4_findBelow cX4_findBelow 4 (some .boolean), Cond.fieldLink RX4 55 "NetBorders$Search" "best" "I", Cond.fieldLink RX4 58 "NetBorders$Search" "bestArcs" "I", Cond.methodLink RX4 61 yX4_descend, Cond.static yX4_descend, Cond.code yX4_descend cX4_descend 9 none, Cond.fieldLink RX4 69 "NetBorders$Search" "tightest" "I", Cond.methodLink RX4 65 yX4_boundOf, Cond.instanceMethod yX4_boundOf, Cond.selects RX4 yX4_boundOf yX4_boundOf, Cond.code yX4_boundOf cX4_boundOf 7 (some .int), Cond.fieldLink RX4 72 "NetBorders$Search" "dry" "I", Cond.fieldLink RX4 18 "NetBorders$Search" "slack" "[I", Cond.methodLink RX4 75 yX4_drawFromSlack, Cond.instanceMethod yX4_drawFromSlack, Cond.selects RX4 yX4_drawFromSlack yX4_drawFromSlack, Cond.code yX4_drawFromSlack cX4_drawFromSlack 4 (some .int), Cond.constant RX4 84 (2147483647), Cond.methodLink RX4 85 Lib.Math.min.name, Cond.static Lib.Math.min.name, Cond.initialized "java/lang/Math"]
def wsX6_cost_r7 : List Cond := [Cond.code Lib.Math.min.name Lib.Math.min.code 2 (some .int), Cond.methodLink RX4 79 yJ6_bitCount_0f7a4, Cond.static yJ6_bitCount_0f7a4, Cond.initialized RJ6, Cond.code yJ6_bitCount_0f7a4 cJ6_bitCount_0f7a4 1 (some .int), Cond.constant RJ6 265 (1431655765), Cond.constant RJ6 266 (858993459), Cond.constant RJ6 267 (252645135)]
def wsX6_cost : List Cond := .code yX6_cost cX6_cost 3 (some .int) :: ((wsX6_cost_r1 ++ (wsX6_cost_r2 ++ (wsX6_cost_r3 ++ (wsX6_cost_r4 ++ (wsX6_cost_r5 ++ (wsX6_cost_r6 ++ wsX6_cost_r7)))))) ++ wsX60 ++ wsX00 ++ wsX40 ++ wsX20 ++ wsX30 ++ wsX50)
def wsX6_packing_r1 : List Cond := [Cond.fieldLink RX6 37 "NetBorders" "search" "LNetBorders$Search;", Cond.fieldLink RX6 10 "NetBorders" "now" "LNetBorders$Bench;", Cond.fieldLink RX6 41 "NetBorders$Bench" "net" "LNetBorders$Net;", Cond.constant RX6 164 (2147483647), Cond.fieldLink RX6 181 "NetBorders$Search" "best" "I", Cond.fieldLink RX6 55 "NetBorders$Bench" "family" "LNetBorders$Family;", Cond.fieldLink RX6 98 "NetBorders$Net" "nodes" "I", Cond.fieldLink RX6 30 "NetBorders" "sides" "LNetBorders$Sides;", Cond.fieldLink RX6 134 "NetBorders$Sides" "size" "I", Cond.fieldLink RX6 145 "NetBorders$Sides" "border" "[I", Cond.fieldLink RX6 142 "NetBorders$Sides" "bits" "[I", Cond.methodLink RX6 123 yX6_isWhole, Cond.instanceMethod yX6_isWhole, Cond.selects RX6 yX6_isWhole yX6_isWhole, Cond.initialized RX6, Cond.code yX6_isWhole cX6_isWhole 1 (some .boolean), Cond.constant RX6 112 (65535), Cond.methodLink RX6 127 yX6_isStrong, Cond.instanceMethod yX6_isStrong, Cond.selects RX6 yX6_isStrong yX6_isStrong, Cond.code yX6_isStrong cX6_isStrong 2 (some .boolean), Cond.fieldLink RX6 23 "NetBorders" "paths" "LNetBorders$Paths;", Cond.methodLink RX6 104 yX3_follow, Cond.instanceMethod yX3_follow]
def wsX6_packing_r2 : List Cond := [Cond.selects RX3 yX3_follow yX3_follow, Cond.initialized RX3, Cond.code yX3_follow cX3_follow 4 none, Cond.fieldLink RX3 18 "NetBorders$Net" "nodes" "I", Cond.fieldLink RX3 24 "NetBorders$Paths" "nodes" "I", Cond.fieldLink RX3 9 "NetBorders$Paths" "onward" "[I", Cond.fieldLink RX3 25 "NetBorders$Net" "arcs" "I", Cond.fieldLink RX3 28 "NetBorders$Net" "tail" "[I", Cond.fieldLink RX3 31 "NetBorders$Net" "head" "[I", Cond.static yX6_contains, Cond.code yX6_contains cX6_contains 2 (some .boolean), Cond.methodLink RX3 38 yX3_closeOnward, Cond.instanceMethod yX3_closeOnward, Cond.selects RX3 yX3_closeOnward yX3_closeOnward, Cond.code yX3_closeOnward cX3_closeOnward 3 none, Cond.methodLink RX3 41 yX3_turnToBack, Cond.instanceMethod yX3_turnToBack, Cond.selects RX3 yX3_turnToBack yX3_turnToBack, Cond.code yX3_turnToBack cX3_turnToBack 3 none, Cond.fieldLink RX3 15 "NetBorders$Paths" "back" "[I", Cond.methodLink RX6 155 yX3_areStrong, Cond.instanceMethod yX3_areStrong, Cond.selects RX3 yX3_areStrong yX3_areStrong, Cond.code yX3_areStrong cX3_areStrong 2 (some .boolean)]
def wsX6_packing_r3 : List Cond := [Cond.methodLink RX6 158 yX6_prepareSearch, Cond.instanceMethod yX6_prepareSearch, Cond.selects RX6 yX6_prepareSearch yX6_prepareSearch, Cond.code yX6_prepareSearch cX6_prepareSearch 1 none, Cond.methodLink RX6 130 yX5_find, Cond.instanceMethod yX5_find, Cond.selects RX5 yX5_find yX5_find, Cond.initialized RX5, Cond.code yX5_find cX5_find 4 none, Cond.fieldLink RX5 28 "NetBorders$Sides" "size" "I", Cond.fieldLink RX5 18 "NetBorders$Sides" "tailWithin" "[I", Cond.fieldLink RX5 21 "NetBorders$Sides" "headWithin" "[I", Cond.fieldLink RX5 9 "NetBorders$Sides" "bits" "[I", Cond.fieldLink RX5 15 "NetBorders$Sides" "border" "[I", Cond.methodLink RX5 24 yX5_gatherArcs, Cond.instanceMethod yX5_gatherArcs, Cond.selects RX5 yX5_gatherArcs yX5_gatherArcs, Cond.code yX5_gatherArcs cX5_gatherArcs 7 none, Cond.fieldLink RX5 38 "NetBorders$Net" "nodes" "I", Cond.methodLink RX5 41 yX2_arcsFrom, Cond.instanceMethod yX2_arcsFrom, Cond.selects RX2 yX2_arcsFrom yX2_arcsFrom, Cond.initialized RX2, Cond.code yX2_arcsFrom cX2_arcsFrom 2 (some .int)]
def wsX6_packing_r4 : List Cond := [Cond.fieldLink RX2 9 "NetBorders$Net" "tail" "[I", Cond.methodLink RX2 47 yX2_arcsAt, Cond.instanceMethod yX2_arcsAt, Cond.selects RX2 yX2_arcsAt yX2_arcsAt, Cond.code yX2_arcsAt cX2_arcsAt 5 (some .int), Cond.fieldLink RX2 25 "NetBorders$Net" "arcs" "I", Cond.methodLink RX5 45 yX2_arcsTo, Cond.instanceMethod yX2_arcsTo, Cond.selects RX2 yX2_arcsTo yX2_arcsTo, Cond.code yX2_arcsTo cX2_arcsTo 2 (some .int), Cond.fieldLink RX2 15 "NetBorders$Net" "head" "[I", Cond.methodLink RX5 32 yX2_allNodes, Cond.instanceMethod yX2_allNodes, Cond.selects RX2 yX2_allNodes yX2_allNodes, Cond.code yX2_allNodes cX2_allNodes 1 (some .int), Cond.fieldLink RX2 21 "NetBorders$Net" "nodes" "I", Cond.methodLink RX6 224 yX4_takeBorders, Cond.instanceMethod yX4_takeBorders, Cond.selects RX4 yX4_takeBorders yX4_takeBorders, Cond.initialized RX4, Cond.code yX4_takeBorders cX4_takeBorders 3 none, Cond.fieldLink RX4 21 "NetBorders$Search" "size" "I", Cond.fieldLink RX4 25 "NetBorders$Sides" "size" "I", Cond.fieldLink RX4 28 "NetBorders$Sides" "border" "[I"]
def wsX6_packing_r5 : List Cond := [Cond.methodLink RX4 29 yX4_takeBorder, Cond.instanceMethod yX4_takeBorder, Cond.selects RX4 yX4_takeBorder yX4_takeBorder, Cond.code yX4_takeBorder cX4_takeBorder 4 none, Cond.fieldLink RX4 9 "NetBorders$Search" "border" "[I", Cond.methodLink RX6 175 yX4_priceByWeight, Cond.instanceMethod yX4_priceByWeight, Cond.selects RX4 yX4_priceByWeight yX4_priceByWeight, Cond.code yX4_priceByWeight cX4_priceByWeight 2 none, Cond.fieldLink RX4 33 "NetBorders$Net" "arcs" "I", Cond.fieldLink RX4 38 "NetBorders$Search" "arcs" "I", Cond.fieldLink RX4 39 "NetBorders$Search" "barred" "I", Cond.fieldLink RX4 42 "NetBorders$Net" "weight" "[I", Cond.fieldLink RX4 15 "NetBorders$Search" "price" "[I", Cond.methodLink RX4 45 arraycopyName, Cond.native arraycopyName, Cond.static arraycopyName, Cond.initialized "java/lang/System", Cond.methodLink RX6 165 yX4_findBelow, Cond.instanceMethod yX4_findBelow, Cond.selects RX4 yX4_findBelow yX4_findBelow, Cond.code yX4_findBelow cX4_findBelow 4 (some .boolean), Cond.fieldLink RX4 55 "NetBorders$Search" "best" "I", Cond.fieldLink RX4 58 "NetBorders$Search" "bestArcs" "I"]
def wsX6_packing_r6 : List Cond := [Cond.methodLink RX4 61 yX4_descend, Cond.static yX4_descend, Cond.code yX4_descend cX4_descend 9 none, Cond.fieldLink RX4 69 "NetBorders$Search" "tightest" "I", Cond.methodLink RX4 65 yX4_boundOf, Cond.instanceMethod yX4_boundOf, Cond.selects RX4 yX4_boundOf yX4_boundOf, Cond.code yX4_boundOf cX4_boundOf 7 (some .int), Cond.fieldLink RX4 72 "NetBorders$Search" "dry" "I", Cond.fieldLink RX4 18 "NetBorders$Search" "slack" "[I", Cond.methodLink RX4 75 yX4_drawFromSlack, Cond.instanceMethod yX4_drawFromSlack, Cond.selects RX4 yX4_drawFromSlack yX4_drawFromSlack, Cond.code yX4_drawFromSlack cX4_drawFromSlack 4 (some .int), Cond.constant RX4 84 (2147483647), Cond.methodLink RX4 85 Lib.Math.min.name, Cond.static Lib.Math.min.name, Cond.initialized "java/lang/Math", Cond.code Lib.Math.min.name Lib.Math.min.code 2 (some .int), Cond.methodLink RX4 79 yJ6_bitCount_0f7a4, Cond.static yJ6_bitCount_0f7a4, Cond.initialized RJ6, Cond.code yJ6_bitCount_0f7a4 cJ6_bitCount_0f7a4 1 (some .int), Cond.constant RJ6 265 (1431655765)]
def wsX6_packing_r7 : List Cond := [Cond.constant RJ6 266 (858993459), Cond.constant RJ6 267 (252645135), Cond.methodLink RX6 184 yX1_open, Cond.instanceMethod yX1_open, Cond.selects RX1 yX1_open yX1_open, Cond.initialized RX1, Cond.code yX1_open cX1_open 2 none, Cond.fieldLink RX1 22 "NetBorders$Family" "atHand" "Z", Cond.fieldLink RX1 26 "NetBorders$Family" "nodes" "I", Cond.fieldLink RX1 9 "NetBorders$Family" "times" "[I", Cond.fieldLink RX1 15 "NetBorders$Family" "load" "[I", Cond.methodLink RX1 30 yJ7_fill_53178, Cond.static yJ7_fill_53178, Cond.initialized RJ7, Cond.code yJ7_fill_53178 cJ7_fill_53178 4 none, Cond.methodLink RX6 187 yX4_mostTimes, Cond.instanceMethod yX4_mostTimes, Cond.selects RX4 yX4_mostTimes yX4_mostTimes, Cond.code yX4_mostTimes cX4_mostTimes 6 (some .int), Cond.methodLink RX4 90 yX4_spend, Cond.instanceMethod yX4_spend, Cond.selects RX4 yX4_spend yX4_spend, Cond.code yX4_spend cX4_spend 4 none, Cond.methodLink RX4 94 yX4_findBelow]
def wsX6_packing_r8 : List Cond := [Cond.methodLink RX4 98 yX4_timesBy, Cond.instanceMethod yX4_timesBy, Cond.selects RX4 yX4_timesBy yX4_timesBy, Cond.code yX4_timesBy cX4_timesBy 5 (some .int), Cond.static yX6_sumOver, Cond.code yX6_sumOver cX6_sumOver 4 (some .int), Cond.methodLink RX6 148 yX6_contains, Cond.methodLink RX6 191 yX4_spend, Cond.methodLink RX6 194 yX1_change, Cond.instanceMethod yX1_change, Cond.selects RX1 yX1_change yX1_change, Cond.code yX1_change cX1_change 5 none]
def wsX6_packing : List Cond := .code yX6_packing cX6_packing 5 (some .int) :: ((wsX6_packing_r1 ++ (wsX6_packing_r2 ++ (wsX6_packing_r3 ++ (wsX6_packing_r4 ++ (wsX6_packing_r5 ++ (wsX6_packing_r6 ++ (wsX6_packing_r7 ++ wsX6_packing_r8))))))) ++ wsX60 ++ wsX00 ++ wsX40 ++ wsX20 ++ wsX50 ++ wsX30 ++ wsX10)
def wsX6_draw_r1 : List Cond := [Cond.fieldLink RX6 10 "NetBorders" "now" "LNetBorders$Bench;", Cond.fieldLink RX6 55 "NetBorders$Bench" "family" "LNetBorders$Family;", Cond.fieldLink RX6 41 "NetBorders$Bench" "net" "LNetBorders$Net;", Cond.fieldLink RX6 201 "NetBorders$Family" "atHand" "Z", Cond.fieldLink RX6 205 "NetBorders$Family" "nodes" "I", Cond.fieldLink RX6 98 "NetBorders$Net" "nodes" "I", Cond.fieldLink RX6 206 "NetBorders$Family" "times" "[I", Cond.constantLong RX6 209 (1000), Cond.methodLink RX6 198 yX2_isSide, Cond.instanceMethod yX2_isSide, Cond.selects RX2 yX2_isSide yX2_isSide, Cond.initialized RX2, Cond.code yX2_isSide cX2_isSide 2 (some .boolean), Cond.methodLink RX2 32 yX2_allNodes, Cond.instanceMethod yX2_allNodes, Cond.selects RX2 yX2_allNodes yX2_allNodes, Cond.code yX2_allNodes cX2_allNodes 1 (some .int), Cond.fieldLink RX2 21 "NetBorders$Net" "nodes" "I", Cond.methodLink RX2 36 yX2_leaving, Cond.instanceMethod yX2_leaving, Cond.selects RX2 yX2_leaving yX2_leaving, Cond.code yX2_leaving cX2_leaving 2 (some .int), Cond.methodLink RX2 44 yX2_entering, Cond.instanceMethod yX2_entering]
def wsX6_draw_r2 : List Cond := [Cond.selects RX2 yX2_entering yX2_entering, Cond.code yX2_entering cX2_entering 4 (some .int), Cond.fieldLink RX2 25 "NetBorders$Net" "arcs" "I", Cond.fieldLink RX2 15 "NetBorders$Net" "head" "[I", Cond.fieldLink RX2 9 "NetBorders$Net" "tail" "[I", Cond.static yX6_contains, Cond.initialized RX6, Cond.code yX6_contains cX6_contains 2 (some .boolean), Cond.methodLink RX6 184 yX1_open, Cond.instanceMethod yX1_open, Cond.selects RX1 yX1_open yX1_open, Cond.initialized RX1, Cond.code yX1_open cX1_open 2 none, Cond.fieldLink RX1 22 "NetBorders$Family" "atHand" "Z", Cond.fieldLink RX1 26 "NetBorders$Family" "nodes" "I", Cond.fieldLink RX1 9 "NetBorders$Family" "times" "[I", Cond.fieldLink RX1 15 "NetBorders$Family" "load" "[I", Cond.methodLink RX1 30 yJ7_fill_53178, Cond.static yJ7_fill_53178, Cond.initialized RJ7, Cond.code yJ7_fill_53178 cJ7_fill_53178 4 none, Cond.methodLink RX6 211 yX2_entering, Cond.methodLink RX6 194 yX1_change, Cond.instanceMethod yX1_change]
def wsX6_draw_r3 : List Cond := [Cond.selects RX1 yX1_change yX1_change, Cond.code yX1_change cX1_change 5 none]
def wsX6_draw : List Cond := .code yX6_draw cX6_draw 6 (some .int) :: ((wsX6_draw_r1 ++ (wsX6_draw_r2 ++ wsX6_draw_r3)) ++ wsX60 ++ wsX00 ++ wsX10 ++ wsX20)
def wsX6_uncross_r1 : List Cond := [Cond.fieldLink RX6 10 "NetBorders" "now" "LNetBorders$Bench;", Cond.fieldLink RX6 55 "NetBorders$Bench" "family" "LNetBorders$Family;", Cond.fieldLink RX6 201 "NetBorders$Family" "atHand" "Z", Cond.methodLink RX6 214 yX1_uncrossAll, Cond.instanceMethod yX1_uncrossAll, Cond.selects RX1 yX1_uncrossAll yX1_uncrossAll, Cond.initialized RX1, Cond.code yX1_uncrossAll cX1_uncrossAll 5 (some .int), Cond.constant RX1 40 (1000000), Cond.methodLink RX1 41 yX1_firstCrossing, Cond.instanceMethod yX1_firstCrossing, Cond.selects RX1 yX1_firstCrossing yX1_firstCrossing, Cond.code yX1_firstCrossing cX1_firstCrossing 3 (some .int), Cond.methodLink RX1 45 yX1_crossedBy, Cond.instanceMethod yX1_crossedBy, Cond.selects RX1 yX1_crossedBy yX1_crossedBy, Cond.code yX1_crossedBy cX1_crossedBy 3 (some .int), Cond.fieldLink RX1 9 "NetBorders$Family" "times" "[I", Cond.methodLink RX1 52 yX1_areCrossing, Cond.instanceMethod yX1_areCrossing, Cond.selects RX1 yX1_areCrossing yX1_areCrossing, Cond.code yX1_areCrossing cX1_areCrossing 5 (some .boolean), Cond.fieldLink RX1 26 "NetBorders$Family" "nodes" "I", Cond.methodLink RX1 48 yX1_uncrossPair]
def wsX6_uncross_r2 : List Cond := [Cond.instanceMethod yX1_uncrossPair, Cond.selects RX1 yX1_uncrossPair yX1_uncrossPair, Cond.code yX1_uncrossPair cX1_uncrossPair 4 none, Cond.methodLink RX1 55 Lib.Math.min.name, Cond.static Lib.Math.min.name, Cond.initialized "java/lang/Math", Cond.code Lib.Math.min.name Lib.Math.min.code 2 (some .int)]
def wsX6_uncross : List Cond := .code yX6_uncross cX6_uncross 1 (some .int) :: ((wsX6_uncross_r1 ++ wsX6_uncross_r2) ++ wsX60 ++ wsX00 ++ wsX10)
def wsX6_member : List Cond := .code yX6_member cX6_member 4 (some .int) :: ([.fieldLink RX6 10 "NetBorders" "now" "LNetBorders$Bench;", .fieldLink RX6 55 "NetBorders$Bench" "family" "LNetBorders$Family;", .fieldLink RX6 206 "NetBorders$Family" "times" "[I", .methodLink RX6 217 yX1_memberAt, .instanceMethod yX1_memberAt, .selects RX1 yX1_memberAt yX1_memberAt, .initialized RX1, .code yX1_memberAt cX1_memberAt 4 (some .int), .fieldLink RX1 9 "NetBorders$Family" "times" "[I"] ++ wsX60 ++ wsX00 ++ wsX10)
def wsX6_image_r1 : List Cond := [Cond.fieldLink RX6 16 "NetBorders" "images" "[LNetBorders$Bench;", Cond.classLink RX6 7 RX0, Cond.instantiable RX0 3, Cond.initialized RX0, Cond.fieldLink RX6 10 "NetBorders" "now" "LNetBorders$Bench;", Cond.instanceMethod yX0_init, Cond.code yX0_init cX0_init 1 none, Cond.methodLink RX0 1 objectInit, Cond.instanceMethod objectInit, Cond.code objectInit ⟨#[0xb1]⟩ 1 none, Cond.classLink RX0 7 RX2, Cond.instantiable RX2 5, Cond.initialized RX2, Cond.fieldLink RX0 10 "NetBorders$Bench" "net" "LNetBorders$Net;", Cond.classLink RX0 16 RX1, Cond.instantiable RX1 4, Cond.initialized RX1, Cond.fieldLink RX0 19 "NetBorders$Bench" "family" "LNetBorders$Family;", Cond.instanceMethod yX2_init, Cond.code yX2_init cX2_init 1 none, Cond.methodLink RX2 3 objectInit, Cond.arrayClass .int, Cond.fieldLink RX2 9 "NetBorders$Net" "tail" "[I", Cond.fieldLink RX2 15 "NetBorders$Net" "head" "[I"]
def wsX6_image_r2 : List Cond := [Cond.fieldLink RX2 18 "NetBorders$Net" "weight" "[I", Cond.instanceMethod yX1_init, Cond.code yX1_init cX1_init 1 none, Cond.methodLink RX1 3 objectInit, Cond.fieldLink RX1 9 "NetBorders$Family" "times" "[I", Cond.fieldLink RX1 15 "NetBorders$Family" "load" "[I", Cond.methodLink RX6 220 yX0_copyFrom, Cond.instanceMethod yX0_copyFrom, Cond.selects RX0 yX0_copyFrom yX0_copyFrom, Cond.code yX0_copyFrom cX0_copyFrom 2 none, Cond.fieldLink RX0 30 "NetBorders$Bench" "chosen" "I", Cond.methodLink RX0 23 yX2_copyFrom, Cond.instanceMethod yX2_copyFrom, Cond.selects RX2 yX2_copyFrom yX2_copyFrom, Cond.code yX2_copyFrom cX2_copyFrom 2 none, Cond.fieldLink RX2 21 "NetBorders$Net" "nodes" "I", Cond.fieldLink RX2 25 "NetBorders$Net" "arcs" "I", Cond.methodLink RX2 51 arraycopyName, Cond.native arraycopyName, Cond.static arraycopyName, Cond.initialized "java/lang/System", Cond.methodLink RX0 27 yX1_copyFrom, Cond.instanceMethod yX1_copyFrom, Cond.selects RX1 yX1_copyFrom yX1_copyFrom]
def wsX6_image_r3 : List Cond := [Cond.code yX1_copyFrom cX1_copyFrom 2 none, Cond.fieldLink RX1 22 "NetBorders$Family" "atHand" "Z", Cond.fieldLink RX1 26 "NetBorders$Family" "nodes" "I", Cond.methodLink RX1 61 arraycopyName]
def wsX6_image : List Cond := .code yX6_image cX6_image 2 (some .boolean) :: ((wsX6_image_r1 ++ (wsX6_image_r2 ++ wsX6_image_r3)) ++ wsX60 ++ wsX00 ++ wsX20 ++ wsX10)
def wsX6_again_r1 : List Cond := [Cond.fieldLink RX6 16 "NetBorders" "images" "[LNetBorders$Bench;", Cond.fieldLink RX6 10 "NetBorders" "now" "LNetBorders$Bench;", Cond.methodLink RX6 220 yX0_copyFrom, Cond.instanceMethod yX0_copyFrom, Cond.selects RX0 yX0_copyFrom yX0_copyFrom, Cond.initialized RX0, Cond.code yX0_copyFrom cX0_copyFrom 2 none, Cond.fieldLink RX0 10 "NetBorders$Bench" "net" "LNetBorders$Net;", Cond.fieldLink RX0 19 "NetBorders$Bench" "family" "LNetBorders$Family;", Cond.fieldLink RX0 30 "NetBorders$Bench" "chosen" "I", Cond.methodLink RX0 23 yX2_copyFrom, Cond.instanceMethod yX2_copyFrom, Cond.selects RX2 yX2_copyFrom yX2_copyFrom, Cond.initialized RX2, Cond.code yX2_copyFrom cX2_copyFrom 2 none, Cond.fieldLink RX2 21 "NetBorders$Net" "nodes" "I", Cond.fieldLink RX2 25 "NetBorders$Net" "arcs" "I", Cond.fieldLink RX2 9 "NetBorders$Net" "tail" "[I", Cond.methodLink RX2 51 arraycopyName, Cond.native arraycopyName, Cond.static arraycopyName, Cond.initialized "java/lang/System", Cond.fieldLink RX2 15 "NetBorders$Net" "head" "[I", Cond.fieldLink RX2 18 "NetBorders$Net" "weight" "[I"]
def wsX6_again_r2 : List Cond := [Cond.methodLink RX0 27 yX1_copyFrom, Cond.instanceMethod yX1_copyFrom, Cond.selects RX1 yX1_copyFrom yX1_copyFrom, Cond.initialized RX1, Cond.code yX1_copyFrom cX1_copyFrom 2 none, Cond.fieldLink RX1 22 "NetBorders$Family" "atHand" "Z", Cond.fieldLink RX1 26 "NetBorders$Family" "nodes" "I", Cond.fieldLink RX1 9 "NetBorders$Family" "times" "[I", Cond.methodLink RX1 61 arraycopyName, Cond.fieldLink RX1 15 "NetBorders$Family" "load" "[I"]
def wsX6_again : List Cond := .code yX6_again cX6_again 2 (some .boolean) :: ((wsX6_again_r1 ++ wsX6_again_r2) ++ wsX60 ++ wsX00 ++ wsX20 ++ wsX10)
def wsX7_init_r1 : List Cond := [Cond.methodLink RX7 1 objectInit, Cond.instanceMethod objectInit, Cond.code objectInit ⟨#[0xb1]⟩ 1 none, Cond.fieldLink RX7 7 "NetBordersModel" "nodes" "I", Cond.arrayClass .int, Cond.fieldLink RX7 13 "NetBordersModel" "tail" "[I", Cond.fieldLink RX7 17 "NetBordersModel" "head" "[I", Cond.fieldLink RX7 20 "NetBordersModel" "weight" "[I", Cond.fieldLink RX7 23 "NetBordersModel" "load" "[I", Cond.fieldLink RX7 26 "NetBordersModel" "times" "[I", Cond.arrayClass .boolean, Cond.fieldLink RX7 29 "NetBordersModel" "has" "[Z", Cond.fieldLink RX7 33 "NetBordersModel" "iNodes" "[I", Cond.fieldLink RX7 36 "NetBordersModel" "iArcs" "[I", Cond.fieldLink RX7 39 "NetBordersModel" "iTail" "[I", Cond.fieldLink RX7 42 "NetBordersModel" "iHead" "[I", Cond.fieldLink RX7 45 "NetBordersModel" "iWeight" "[I", Cond.fieldLink RX7 48 "NetBordersModel" "iHasSet" "[Z", Cond.fieldLink RX7 51 "NetBordersModel" "iSet" "[I", Cond.fieldLink RX7 54 "NetBordersModel" "iHasFamily" "[Z", Cond.fieldLink RX7 57 "NetBordersModel" "iFamilyNodes" "[I", Cond.fieldLink RX7 60 "NetBordersModel" "iLoad" "[I", Cond.fieldLink RX7 63 "NetBordersModel" "iTimes" "[I", Cond.fieldLink RX7 66 "NetBordersModel" "sideBits" "[I"]
def wsX7_init_r2 : List Cond := [Cond.fieldLink RX7 69 "NetBordersModel" "sideBorder" "[I", Cond.constant RX7 72 (65536), Cond.fieldLink RX7 73 "NetBordersModel" "misses" "[Z", Cond.fieldLink RX7 76 "NetBordersModel" "leastSets" "[I", Cond.fieldLink RX7 79 "NetBordersModel" "left" "[I", Cond.fieldLink RX7 82 "NetBordersModel" "spare" "[I"]
def wsX7_init : List Cond := .code yX7_init cX7_init 1 none :: ((wsX7_init_r1 ++ wsX7_init_r2) ++ wsX70)
def wsX7_in : List Cond := .code yX7_in cX7_in 3 (some .boolean) :: ([])
def wsX7_all : List Cond := .code yX7_all cX7_all 1 (some .int) :: ([.fieldLink RX7 7 "NetBordersModel" "nodes" "I"] ++ wsX70)
def wsX7_ones : List Cond := .code yX7_ones cX7_ones 3 (some .int) :: ([])
def wsX7_changed : List Cond := .code yX7_changed cX7_changed 1 none :: ([.fieldLink RX7 88 "NetBordersModel" "made" "Z", .fieldLink RX7 92 "NetBordersModel" "setsMade" "Z"] ++ wsX70)
def wsX7_isSide : List Cond := .code yX7_isSide cX7_isSide 3 (some .boolean) :: ([.fieldLink RX7 95 "NetBordersModel" "arcs" "I", .fieldLink RX7 13 "NetBordersModel" "tail" "[I", .fieldLink RX7 17 "NetBordersModel" "head" "[I"] ++ wsX70)
def wsX7_borderOf : List Cond := .code yX7_borderOf cX7_borderOf 4 (some .int) :: ([.fieldLink RX7 95 "NetBordersModel" "arcs" "I", .fieldLink RX7 17 "NetBordersModel" "head" "[I", .fieldLink RX7 13 "NetBordersModel" "tail" "[I"] ++ wsX70)
def wsX7_makeSides : List Cond := .code yX7_makeSides cX7_makeSides 2 none :: ([.fieldLink RX7 88 "NetBordersModel" "made" "Z", .fieldLink RX7 98 "NetBordersModel" "sides" "I", .fieldLink RX7 66 "NetBordersModel" "sideBits" "[I", .fieldLink RX7 69 "NetBordersModel" "sideBorder" "[I", .methodLink RX7 101 yX7_all, .instanceMethod yX7_all, .selects RX7 yX7_all yX7_all, .initialized RX7, .code yX7_all cX7_all 1 (some .int), .fieldLink RX7 7 "NetBordersModel" "nodes" "I", .methodLink RX7 105 yX7_isSide, .instanceMethod yX7_isSide, .selects RX7 yX7_isSide yX7_isSide, .code yX7_isSide cX7_isSide 3 (some .boolean), .fieldLink RX7 95 "NetBordersModel" "arcs" "I", .fieldLink RX7 13 "NetBordersModel" "tail" "[I", .fieldLink RX7 17 "NetBordersModel" "head" "[I", .methodLink RX7 109 yX7_borderOf, .instanceMethod yX7_borderOf, .selects RX7 yX7_borderOf yX7_borderOf, .code yX7_borderOf cX7_borderOf 4 (some .int)] ++ wsX70)
def wsX7_hasNoneToSpare : List Cond := .code yX7_hasNoneToSpare cX7_hasNoneToSpare 3 (some .boolean) :: ([.fieldLink RX7 95 "NetBordersModel" "arcs" "I", .fieldLink RX7 73 "NetBordersModel" "misses" "[Z"] ++ wsX70)
def wsX7_makeSets_r1 : List Cond := [Cond.fieldLink RX7 92 "NetBordersModel" "setsMade" "Z", Cond.fieldLink RX7 95 "NetBordersModel" "arcs" "I", Cond.fieldLink RX7 73 "NetBordersModel" "misses" "[Z", Cond.fieldLink RX7 98 "NetBordersModel" "sides" "I", Cond.fieldLink RX7 69 "NetBordersModel" "sideBorder" "[I", Cond.fieldLink RX7 116 "NetBordersModel" "least" "I", Cond.fieldLink RX7 76 "NetBordersModel" "leastSets" "[I", Cond.methodLink RX7 113 yX7_makeSides, Cond.instanceMethod yX7_makeSides, Cond.selects RX7 yX7_makeSides yX7_makeSides, Cond.initialized RX7, Cond.code yX7_makeSides cX7_makeSides 2 none, Cond.fieldLink RX7 88 "NetBordersModel" "made" "Z", Cond.fieldLink RX7 66 "NetBordersModel" "sideBits" "[I", Cond.methodLink RX7 101 yX7_all, Cond.instanceMethod yX7_all, Cond.selects RX7 yX7_all yX7_all, Cond.code yX7_all cX7_all 1 (some .int), Cond.fieldLink RX7 7 "NetBordersModel" "nodes" "I", Cond.methodLink RX7 105 yX7_isSide, Cond.instanceMethod yX7_isSide, Cond.selects RX7 yX7_isSide yX7_isSide, Cond.code yX7_isSide cX7_isSide 3 (some .boolean), Cond.fieldLink RX7 13 "NetBordersModel" "tail" "[I"]
def wsX7_makeSets_r2 : List Cond := [Cond.fieldLink RX7 17 "NetBordersModel" "head" "[I", Cond.methodLink RX7 109 yX7_borderOf, Cond.instanceMethod yX7_borderOf, Cond.selects RX7 yX7_borderOf yX7_borderOf, Cond.code yX7_borderOf cX7_borderOf 4 (some .int), Cond.methodLink RX7 119 yX7_hasNoneToSpare, Cond.instanceMethod yX7_hasNoneToSpare, Cond.selects RX7 yX7_hasNoneToSpare yX7_hasNoneToSpare, Cond.code yX7_hasNoneToSpare cX7_hasNoneToSpare 3 (some .boolean)]
def wsX7_makeSets : List Cond := .code yX7_makeSets cX7_makeSets 4 none :: ((wsX7_makeSets_r1 ++ wsX7_makeSets_r2) ++ wsX70)
def wsX7_reach : List Cond := .code yX7_reach cX7_reach 9 (some .int) :: ([.fieldLink RX7 95 "NetBordersModel" "arcs" "I", .fieldLink RX7 13 "NetBordersModel" "tail" "[I", .fieldLink RX7 17 "NetBordersModel" "head" "[I"] ++ wsX70)
def wsX7_isWhole : List Cond := .code yX7_isWhole cX7_isWhole 1 (some .boolean) :: ([.constant RX7 122 (65535), .methodLink RX7 123 yX7_reach, .instanceMethod yX7_reach, .selects RX7 yX7_reach yX7_reach, .initialized RX7, .code yX7_reach cX7_reach 9 (some .int), .fieldLink RX7 95 "NetBordersModel" "arcs" "I", .fieldLink RX7 13 "NetBordersModel" "tail" "[I", .fieldLink RX7 17 "NetBordersModel" "head" "[I", .methodLink RX7 101 yX7_all, .instanceMethod yX7_all, .selects RX7 yX7_all yX7_all, .code yX7_all cX7_all 1 (some .int), .fieldLink RX7 7 "NetBordersModel" "nodes" "I"] ++ wsX70)
def wsX7_isStrongWith : List Cond := .code yX7_isStrongWith cX7_isStrongWith 2 (some .boolean) :: ([.methodLink RX7 123 yX7_reach, .instanceMethod yX7_reach, .selects RX7 yX7_reach yX7_reach, .initialized RX7, .code yX7_reach cX7_reach 9 (some .int), .fieldLink RX7 95 "NetBordersModel" "arcs" "I", .fieldLink RX7 13 "NetBordersModel" "tail" "[I", .fieldLink RX7 17 "NetBordersModel" "head" "[I", .methodLink RX7 101 yX7_all, .instanceMethod yX7_all, .selects RX7 yX7_all yX7_all, .code yX7_all cX7_all 1 (some .int), .fieldLink RX7 7 "NetBordersModel" "nodes" "I"] ++ wsX70)
def wsX7_lowest : List Cond := .code yX7_lowest cX7_lowest 2 (some .int) :: ([])
def wsX7_partOf : List Cond := .code yX7_partOf cX7_partOf 2 (some .int) :: ([.methodLink RX7 123 yX7_reach, .instanceMethod yX7_reach, .selects RX7 yX7_reach yX7_reach, .initialized RX7, .code yX7_reach cX7_reach 9 (some .int), .fieldLink RX7 95 "NetBordersModel" "arcs" "I", .fieldLink RX7 13 "NetBordersModel" "tail" "[I", .fieldLink RX7 17 "NetBordersModel" "head" "[I", .methodLink RX7 127 yX7_lowest, .static yX7_lowest, .code yX7_lowest cX7_lowest 2 (some .int)] ++ wsX70)
def wsX7_begin : List Cond := .code yX7_begin cX7_begin 2 (some .boolean) :: ([.fieldLink RX7 85 "NetBordersModel" "code" "I", .fieldLink RX7 7 "NetBordersModel" "nodes" "I", .fieldLink RX7 95 "NetBordersModel" "arcs" "I", .fieldLink RX7 134 "NetBordersModel" "hasSet" "Z", .fieldLink RX7 137 "NetBordersModel" "hasFamily" "Z", .methodLink RX7 130 yX7_in, .static yX7_in, .initialized RX7, .code yX7_in cX7_in 3 (some .boolean), .methodLink RX7 140 yX7_changed, .instanceMethod yX7_changed, .selects RX7 yX7_changed yX7_changed, .code yX7_changed cX7_changed 1 none, .fieldLink RX7 88 "NetBordersModel" "made" "Z", .fieldLink RX7 92 "NetBordersModel" "setsMade" "Z"] ++ wsX70)
def wsX7_arc : List Cond := .code yX7_arc cX7_arc 4 (some .int) :: ([.fieldLink RX7 85 "NetBordersModel" "code" "I", .fieldLink RX7 95 "NetBordersModel" "arcs" "I", .fieldLink RX7 7 "NetBordersModel" "nodes" "I", .fieldLink RX7 13 "NetBordersModel" "tail" "[I", .fieldLink RX7 17 "NetBordersModel" "head" "[I", .fieldLink RX7 20 "NetBordersModel" "weight" "[I", .methodLink RX7 130 yX7_in, .static yX7_in, .initialized RX7, .code yX7_in cX7_in 3 (some .boolean), .methodLink RX7 140 yX7_changed, .instanceMethod yX7_changed, .selects RX7 yX7_changed yX7_changed, .code yX7_changed cX7_changed 1 none, .fieldLink RX7 88 "NetBordersModel" "made" "Z", .fieldLink RX7 92 "NetBordersModel" "setsMade" "Z"] ++ wsX70)
def wsX7_isArc : List Cond := .code yX7_isArc cX7_isArc 2 (some .boolean) :: ([.fieldLink RX7 95 "NetBordersModel" "arcs" "I", .methodLink RX7 130 yX7_in, .static yX7_in, .initialized RX7, .code yX7_in cX7_in 3 (some .boolean)] ++ wsX70)
def wsX7_isNode : List Cond := .code yX7_isNode cX7_isNode 2 (some .boolean) :: ([.fieldLink RX7 7 "NetBordersModel" "nodes" "I", .methodLink RX7 130 yX7_in, .static yX7_in, .initialized RX7, .code yX7_in cX7_in 3 (some .boolean)] ++ wsX70)
def wsX7_drop : List Cond := .code yX7_drop cX7_drop 3 (some .int) :: ([.fieldLink RX7 85 "NetBordersModel" "code" "I", .fieldLink RX7 95 "NetBordersModel" "arcs" "I", .fieldLink RX7 13 "NetBordersModel" "tail" "[I", .fieldLink RX7 17 "NetBordersModel" "head" "[I", .fieldLink RX7 20 "NetBordersModel" "weight" "[I", .methodLink RX7 143 yX7_isArc, .instanceMethod yX7_isArc, .selects RX7 yX7_isArc yX7_isArc, .initialized RX7, .code yX7_isArc cX7_isArc 2 (some .boolean), .methodLink RX7 130 yX7_in, .static yX7_in, .code yX7_in cX7_in 3 (some .boolean), .methodLink RX7 140 yX7_changed, .instanceMethod yX7_changed, .selects RX7 yX7_changed yX7_changed, .code yX7_changed cX7_changed 1 none, .fieldLink RX7 88 "NetBordersModel" "made" "Z", .fieldLink RX7 92 "NetBordersModel" "setsMade" "Z"] ++ wsX70)
def wsX7_weigh : List Cond := .code yX7_weigh cX7_weigh 4 (some .int) :: ([.fieldLink RX7 85 "NetBordersModel" "code" "I", .fieldLink RX7 20 "NetBordersModel" "weight" "[I", .methodLink RX7 143 yX7_isArc, .instanceMethod yX7_isArc, .selects RX7 yX7_isArc yX7_isArc, .initialized RX7, .code yX7_isArc cX7_isArc 2 (some .boolean), .fieldLink RX7 95 "NetBordersModel" "arcs" "I", .methodLink RX7 130 yX7_in, .static yX7_in, .code yX7_in cX7_in 3 (some .boolean)] ++ wsX70)
def wsX7_turn : List Cond := .code yX7_turn cX7_turn 3 (some .boolean) :: ([.fieldLink RX7 85 "NetBordersModel" "code" "I", .fieldLink RX7 13 "NetBordersModel" "tail" "[I", .fieldLink RX7 17 "NetBordersModel" "head" "[I", .methodLink RX7 143 yX7_isArc, .instanceMethod yX7_isArc, .selects RX7 yX7_isArc yX7_isArc, .initialized RX7, .code yX7_isArc cX7_isArc 2 (some .boolean), .fieldLink RX7 95 "NetBordersModel" "arcs" "I", .methodLink RX7 130 yX7_in, .static yX7_in, .code yX7_in cX7_in 3 (some .boolean), .methodLink RX7 140 yX7_changed, .instanceMethod yX7_changed, .selects RX7 yX7_changed yX7_changed, .code yX7_changed cX7_changed 1 none, .fieldLink RX7 88 "NetBordersModel" "made" "Z", .fieldLink RX7 92 "NetBordersModel" "setsMade" "Z"] ++ wsX70)
def wsX7_joined : List Cond := .code yX7_joined cX7_joined 4 (some .int) :: ([])
def wsX7_join : List Cond := .code yX7_join cX7_join 4 (some .int) :: ([.fieldLink RX7 85 "NetBordersModel" "code" "I", .fieldLink RX7 95 "NetBordersModel" "arcs" "I", .fieldLink RX7 13 "NetBordersModel" "tail" "[I", .fieldLink RX7 17 "NetBordersModel" "head" "[I", .fieldLink RX7 7 "NetBordersModel" "nodes" "I", .methodLink RX7 146 yX7_isNode, .instanceMethod yX7_isNode, .selects RX7 yX7_isNode yX7_isNode, .initialized RX7, .code yX7_isNode cX7_isNode 2 (some .boolean), .methodLink RX7 130 yX7_in, .static yX7_in, .code yX7_in cX7_in 3 (some .boolean), .methodLink RX7 149 yX7_joined, .static yX7_joined, .code yX7_joined cX7_joined 4 (some .int), .methodLink RX7 140 yX7_changed, .instanceMethod yX7_changed, .selects RX7 yX7_changed yX7_changed, .code yX7_changed cX7_changed 1 none, .fieldLink RX7 88 "NetBordersModel" "made" "Z", .fieldLink RX7 92 "NetBordersModel" "setsMade" "Z"] ++ wsX70)
def wsX7_tell : List Cond := .code yX7_tell cX7_tell 3 (some .int) :: ([.fieldLink RX7 85 "NetBordersModel" "code" "I", .fieldLink RX7 13 "NetBordersModel" "tail" "[I", .fieldLink RX7 17 "NetBordersModel" "head" "[I", .fieldLink RX7 20 "NetBordersModel" "weight" "[I", .fieldLink RX7 137 "NetBordersModel" "hasFamily" "Z", .fieldLink RX7 23 "NetBordersModel" "load" "[I", .fieldLink RX7 134 "NetBordersModel" "hasSet" "Z", .fieldLink RX7 153 "NetBordersModel" "set" "I", .methodLink RX7 143 yX7_isArc, .instanceMethod yX7_isArc, .selects RX7 yX7_isArc yX7_isArc, .initialized RX7, .code yX7_isArc cX7_isArc 2 (some .boolean), .fieldLink RX7 95 "NetBordersModel" "arcs" "I", .methodLink RX7 130 yX7_in, .static yX7_in, .code yX7_in cX7_in 3 (some .boolean)] ++ wsX70)
def wsX7_node_r1 : List Cond := [Cond.fieldLink RX7 85 "NetBordersModel" "code" "I", Cond.constant RX7 122 (65535), Cond.methodLink RX7 146 yX7_isNode, Cond.instanceMethod yX7_isNode, Cond.selects RX7 yX7_isNode yX7_isNode, Cond.initialized RX7, Cond.code yX7_isNode cX7_isNode 2 (some .boolean), Cond.fieldLink RX7 7 "NetBordersModel" "nodes" "I", Cond.methodLink RX7 130 yX7_in, Cond.static yX7_in, Cond.code yX7_in cX7_in 3 (some .boolean), Cond.methodLink RX7 156 yX7_partOf, Cond.instanceMethod yX7_partOf, Cond.selects RX7 yX7_partOf yX7_partOf, Cond.code yX7_partOf cX7_partOf 2 (some .int), Cond.methodLink RX7 123 yX7_reach, Cond.instanceMethod yX7_reach, Cond.selects RX7 yX7_reach yX7_reach, Cond.code yX7_reach cX7_reach 9 (some .int), Cond.fieldLink RX7 95 "NetBordersModel" "arcs" "I", Cond.fieldLink RX7 13 "NetBordersModel" "tail" "[I", Cond.fieldLink RX7 17 "NetBordersModel" "head" "[I", Cond.methodLink RX7 127 yX7_lowest, Cond.static yX7_lowest]
def wsX7_node_r2 : List Cond := [Cond.code yX7_lowest cX7_lowest 2 (some .int)]
def wsX7_node : List Cond := .code yX7_node cX7_node 3 (some .int) :: ((wsX7_node_r1 ++ wsX7_node_r2) ++ wsX70)
def wsX7_members : List Cond := .code yX7_members cX7_members 3 (some .int) :: ([.fieldLink RX7 137 "NetBordersModel" "hasFamily" "Z", .fieldLink RX7 26 "NetBordersModel" "times" "[I"] ++ wsX70)
def wsX7_count_r1 : List Cond := [Cond.fieldLink RX7 85 "NetBordersModel" "code" "I", Cond.fieldLink RX7 7 "NetBordersModel" "nodes" "I", Cond.fieldLink RX7 95 "NetBordersModel" "arcs" "I", Cond.fieldLink RX7 98 "NetBordersModel" "sides" "I", Cond.fieldLink RX7 29 "NetBordersModel" "has" "[Z", Cond.methodLink RX7 156 yX7_partOf, Cond.instanceMethod yX7_partOf, Cond.selects RX7 yX7_partOf yX7_partOf, Cond.initialized RX7, Cond.code yX7_partOf cX7_partOf 2 (some .int), Cond.methodLink RX7 123 yX7_reach, Cond.instanceMethod yX7_reach, Cond.selects RX7 yX7_reach yX7_reach, Cond.code yX7_reach cX7_reach 9 (some .int), Cond.fieldLink RX7 13 "NetBordersModel" "tail" "[I", Cond.fieldLink RX7 17 "NetBordersModel" "head" "[I", Cond.methodLink RX7 127 yX7_lowest, Cond.static yX7_lowest, Cond.code yX7_lowest cX7_lowest 2 (some .int), Cond.methodLink RX7 159 yX7_isWhole, Cond.instanceMethod yX7_isWhole, Cond.selects RX7 yX7_isWhole yX7_isWhole, Cond.code yX7_isWhole cX7_isWhole 1 (some .boolean), Cond.constant RX7 122 (65535)]
def wsX7_count_r2 : List Cond := [Cond.methodLink RX7 101 yX7_all, Cond.instanceMethod yX7_all, Cond.selects RX7 yX7_all yX7_all, Cond.code yX7_all cX7_all 1 (some .int), Cond.methodLink RX7 163 yX7_isStrongWith, Cond.instanceMethod yX7_isStrongWith, Cond.selects RX7 yX7_isStrongWith yX7_isStrongWith, Cond.code yX7_isStrongWith cX7_isStrongWith 2 (some .boolean), Cond.methodLink RX7 113 yX7_makeSides, Cond.instanceMethod yX7_makeSides, Cond.selects RX7 yX7_makeSides yX7_makeSides, Cond.code yX7_makeSides cX7_makeSides 2 none, Cond.fieldLink RX7 88 "NetBordersModel" "made" "Z", Cond.fieldLink RX7 66 "NetBordersModel" "sideBits" "[I", Cond.fieldLink RX7 69 "NetBordersModel" "sideBorder" "[I", Cond.methodLink RX7 105 yX7_isSide, Cond.instanceMethod yX7_isSide, Cond.selects RX7 yX7_isSide yX7_isSide, Cond.code yX7_isSide cX7_isSide 3 (some .boolean), Cond.methodLink RX7 109 yX7_borderOf, Cond.instanceMethod yX7_borderOf, Cond.selects RX7 yX7_borderOf yX7_borderOf, Cond.code yX7_borderOf cX7_borderOf 4 (some .int), Cond.methodLink RX7 166 yX7_members]
def wsX7_count_r3 : List Cond := [Cond.instanceMethod yX7_members, Cond.selects RX7 yX7_members yX7_members, Cond.code yX7_members cX7_members 3 (some .int), Cond.fieldLink RX7 137 "NetBordersModel" "hasFamily" "Z", Cond.fieldLink RX7 26 "NetBordersModel" "times" "[I"]
def wsX7_count : List Cond := .code yX7_count cX7_count 4 (some .int) :: ((wsX7_count_r1 ++ (wsX7_count_r2 ++ wsX7_count_r3)) ++ wsX70)
def wsX7_side_r1 : List Cond := [Cond.fieldLink RX7 85 "NetBordersModel" "code" "I", Cond.fieldLink RX7 98 "NetBordersModel" "sides" "I", Cond.fieldLink RX7 66 "NetBordersModel" "sideBits" "[I", Cond.fieldLink RX7 69 "NetBordersModel" "sideBorder" "[I", Cond.methodLink RX7 113 yX7_makeSides, Cond.instanceMethod yX7_makeSides, Cond.selects RX7 yX7_makeSides yX7_makeSides, Cond.initialized RX7, Cond.code yX7_makeSides cX7_makeSides 2 none, Cond.fieldLink RX7 88 "NetBordersModel" "made" "Z", Cond.methodLink RX7 101 yX7_all, Cond.instanceMethod yX7_all, Cond.selects RX7 yX7_all yX7_all, Cond.code yX7_all cX7_all 1 (some .int), Cond.fieldLink RX7 7 "NetBordersModel" "nodes" "I", Cond.methodLink RX7 105 yX7_isSide, Cond.instanceMethod yX7_isSide, Cond.selects RX7 yX7_isSide yX7_isSide, Cond.code yX7_isSide cX7_isSide 3 (some .boolean), Cond.fieldLink RX7 95 "NetBordersModel" "arcs" "I", Cond.fieldLink RX7 13 "NetBordersModel" "tail" "[I", Cond.fieldLink RX7 17 "NetBordersModel" "head" "[I", Cond.methodLink RX7 109 yX7_borderOf, Cond.instanceMethod yX7_borderOf]
def wsX7_side_r2 : List Cond := [Cond.selects RX7 yX7_borderOf yX7_borderOf, Cond.code yX7_borderOf cX7_borderOf 4 (some .int), Cond.methodLink RX7 130 yX7_in, Cond.static yX7_in, Cond.code yX7_in cX7_in 3 (some .boolean)]
def wsX7_side : List Cond := .code yX7_side cX7_side 3 (some .int) :: ((wsX7_side_r1 ++ wsX7_side_r2) ++ wsX70)
def wsX7_bounds_r1 : List Cond := [Cond.fieldLink RX7 85 "NetBordersModel" "code" "I", Cond.fieldLink RX7 98 "NetBordersModel" "sides" "I", Cond.fieldLink RX7 69 "NetBordersModel" "sideBorder" "[I", Cond.fieldLink RX7 66 "NetBordersModel" "sideBits" "[I", Cond.methodLink RX7 113 yX7_makeSides, Cond.instanceMethod yX7_makeSides, Cond.selects RX7 yX7_makeSides yX7_makeSides, Cond.initialized RX7, Cond.code yX7_makeSides cX7_makeSides 2 none, Cond.fieldLink RX7 88 "NetBordersModel" "made" "Z", Cond.methodLink RX7 101 yX7_all, Cond.instanceMethod yX7_all, Cond.selects RX7 yX7_all yX7_all, Cond.code yX7_all cX7_all 1 (some .int), Cond.fieldLink RX7 7 "NetBordersModel" "nodes" "I", Cond.methodLink RX7 105 yX7_isSide, Cond.instanceMethod yX7_isSide, Cond.selects RX7 yX7_isSide yX7_isSide, Cond.code yX7_isSide cX7_isSide 3 (some .boolean), Cond.fieldLink RX7 95 "NetBordersModel" "arcs" "I", Cond.fieldLink RX7 13 "NetBordersModel" "tail" "[I", Cond.fieldLink RX7 17 "NetBordersModel" "head" "[I", Cond.methodLink RX7 109 yX7_borderOf, Cond.instanceMethod yX7_borderOf]
def wsX7_bounds_r2 : List Cond := [Cond.selects RX7 yX7_borderOf yX7_borderOf, Cond.code yX7_borderOf cX7_borderOf 4 (some .int), Cond.methodLink RX7 143 yX7_isArc, Cond.instanceMethod yX7_isArc, Cond.selects RX7 yX7_isArc yX7_isArc, Cond.code yX7_isArc cX7_isArc 2 (some .boolean), Cond.methodLink RX7 130 yX7_in, Cond.static yX7_in, Cond.code yX7_in cX7_in 3 (some .boolean)]
def wsX7_bounds : List Cond := .code yX7_bounds cX7_bounds 6 (some .int) :: ((wsX7_bounds_r1 ++ wsX7_bounds_r2) ++ wsX70)
def wsX7_isDijoin_r1 : List Cond := [Cond.fieldLink RX7 85 "NetBordersModel" "code" "I", Cond.fieldLink RX7 98 "NetBordersModel" "sides" "I", Cond.fieldLink RX7 69 "NetBordersModel" "sideBorder" "[I", Cond.methodLink RX7 113 yX7_makeSides, Cond.instanceMethod yX7_makeSides, Cond.selects RX7 yX7_makeSides yX7_makeSides, Cond.initialized RX7, Cond.code yX7_makeSides cX7_makeSides 2 none, Cond.fieldLink RX7 88 "NetBordersModel" "made" "Z", Cond.fieldLink RX7 66 "NetBordersModel" "sideBits" "[I", Cond.methodLink RX7 101 yX7_all, Cond.instanceMethod yX7_all, Cond.selects RX7 yX7_all yX7_all, Cond.code yX7_all cX7_all 1 (some .int), Cond.fieldLink RX7 7 "NetBordersModel" "nodes" "I", Cond.methodLink RX7 105 yX7_isSide, Cond.instanceMethod yX7_isSide, Cond.selects RX7 yX7_isSide yX7_isSide, Cond.code yX7_isSide cX7_isSide 3 (some .boolean), Cond.fieldLink RX7 95 "NetBordersModel" "arcs" "I", Cond.fieldLink RX7 13 "NetBordersModel" "tail" "[I", Cond.fieldLink RX7 17 "NetBordersModel" "head" "[I", Cond.methodLink RX7 109 yX7_borderOf, Cond.instanceMethod yX7_borderOf]
def wsX7_isDijoin_r2 : List Cond := [Cond.selects RX7 yX7_borderOf yX7_borderOf, Cond.code yX7_borderOf cX7_borderOf 4 (some .int)]
def wsX7_isDijoin : List Cond := .code yX7_isDijoin cX7_isDijoin 3 (some .boolean) :: ((wsX7_isDijoin_r1 ++ wsX7_isDijoin_r2) ++ wsX70)
def wsX7_isStrong : List Cond := .code yX7_isStrong cX7_isStrong 2 (some .boolean) :: ([.fieldLink RX7 85 "NetBordersModel" "code" "I", .methodLink RX7 163 yX7_isStrongWith, .instanceMethod yX7_isStrongWith, .selects RX7 yX7_isStrongWith yX7_isStrongWith, .initialized RX7, .code yX7_isStrongWith cX7_isStrongWith 2 (some .boolean), .methodLink RX7 123 yX7_reach, .instanceMethod yX7_reach, .selects RX7 yX7_reach yX7_reach, .code yX7_reach cX7_reach 9 (some .int), .fieldLink RX7 95 "NetBordersModel" "arcs" "I", .fieldLink RX7 13 "NetBordersModel" "tail" "[I", .fieldLink RX7 17 "NetBordersModel" "head" "[I", .methodLink RX7 101 yX7_all, .instanceMethod yX7_all, .selects RX7 yX7_all yX7_all, .code yX7_all cX7_all 1 (some .int), .fieldLink RX7 7 "NetBordersModel" "nodes" "I"] ++ wsX70)
def wsX7_weightOf : List Cond := .code yX7_weightOf cX7_weightOf 4 (some .int) :: ([.fieldLink RX7 95 "NetBordersModel" "arcs" "I", .fieldLink RX7 20 "NetBordersModel" "weight" "[I"] ++ wsX70)
def wsX7_dijoin_r1 : List Cond := [Cond.fieldLink RX7 85 "NetBordersModel" "code" "I", Cond.fieldLink RX7 116 "NetBordersModel" "least" "I", Cond.fieldLink RX7 76 "NetBordersModel" "leastSets" "[I", Cond.fieldLink RX7 134 "NetBordersModel" "hasSet" "Z", Cond.fieldLink RX7 153 "NetBordersModel" "set" "I", Cond.methodLink RX7 159 yX7_isWhole, Cond.instanceMethod yX7_isWhole, Cond.selects RX7 yX7_isWhole yX7_isWhole, Cond.initialized RX7, Cond.code yX7_isWhole cX7_isWhole 1 (some .boolean), Cond.constant RX7 122 (65535), Cond.methodLink RX7 123 yX7_reach, Cond.instanceMethod yX7_reach, Cond.selects RX7 yX7_reach yX7_reach, Cond.code yX7_reach cX7_reach 9 (some .int), Cond.fieldLink RX7 95 "NetBordersModel" "arcs" "I", Cond.fieldLink RX7 13 "NetBordersModel" "tail" "[I", Cond.fieldLink RX7 17 "NetBordersModel" "head" "[I", Cond.methodLink RX7 101 yX7_all, Cond.instanceMethod yX7_all, Cond.selects RX7 yX7_all yX7_all, Cond.code yX7_all cX7_all 1 (some .int), Cond.fieldLink RX7 7 "NetBordersModel" "nodes" "I", Cond.methodLink RX7 169 yX7_makeSets]
def wsX7_dijoin_r2 : List Cond := [Cond.instanceMethod yX7_makeSets, Cond.selects RX7 yX7_makeSets yX7_makeSets, Cond.code yX7_makeSets cX7_makeSets 4 none, Cond.fieldLink RX7 92 "NetBordersModel" "setsMade" "Z", Cond.fieldLink RX7 73 "NetBordersModel" "misses" "[Z", Cond.fieldLink RX7 98 "NetBordersModel" "sides" "I", Cond.fieldLink RX7 69 "NetBordersModel" "sideBorder" "[I", Cond.methodLink RX7 113 yX7_makeSides, Cond.instanceMethod yX7_makeSides, Cond.selects RX7 yX7_makeSides yX7_makeSides, Cond.code yX7_makeSides cX7_makeSides 2 none, Cond.fieldLink RX7 88 "NetBordersModel" "made" "Z", Cond.fieldLink RX7 66 "NetBordersModel" "sideBits" "[I", Cond.methodLink RX7 105 yX7_isSide, Cond.instanceMethod yX7_isSide, Cond.selects RX7 yX7_isSide yX7_isSide, Cond.code yX7_isSide cX7_isSide 3 (some .boolean), Cond.methodLink RX7 109 yX7_borderOf, Cond.instanceMethod yX7_borderOf, Cond.selects RX7 yX7_borderOf yX7_borderOf, Cond.code yX7_borderOf cX7_borderOf 4 (some .int), Cond.methodLink RX7 119 yX7_hasNoneToSpare, Cond.instanceMethod yX7_hasNoneToSpare, Cond.selects RX7 yX7_hasNoneToSpare yX7_hasNoneToSpare]
def wsX7_dijoin_r3 : List Cond := [Cond.code yX7_hasNoneToSpare cX7_hasNoneToSpare 3 (some .boolean), Cond.methodLink RX7 172 yX7_weightOf, Cond.instanceMethod yX7_weightOf, Cond.selects RX7 yX7_weightOf yX7_weightOf, Cond.code yX7_weightOf cX7_weightOf 4 (some .int), Cond.fieldLink RX7 20 "NetBordersModel" "weight" "[I"]
def wsX7_dijoin : List Cond := .code yX7_dijoin cX7_dijoin 3 (some .int) :: ((wsX7_dijoin_r1 ++ (wsX7_dijoin_r2 ++ wsX7_dijoin_r3)) ++ wsX70)
def wsX7_chosen : List Cond := .code yX7_chosen cX7_chosen 1 (some .int) :: ([.fieldLink RX7 85 "NetBordersModel" "code" "I", .fieldLink RX7 134 "NetBordersModel" "hasSet" "Z", .fieldLink RX7 153 "NetBordersModel" "set" "I"] ++ wsX70)
def wsX7_cost_r1 : List Cond := [Cond.fieldLink RX7 85 "NetBordersModel" "code" "I", Cond.fieldLink RX7 116 "NetBordersModel" "least" "I", Cond.fieldLink RX7 76 "NetBordersModel" "leastSets" "[I", Cond.fieldLink RX7 20 "NetBordersModel" "weight" "[I", Cond.methodLink RX7 143 yX7_isArc, Cond.instanceMethod yX7_isArc, Cond.selects RX7 yX7_isArc yX7_isArc, Cond.initialized RX7, Cond.code yX7_isArc cX7_isArc 2 (some .boolean), Cond.fieldLink RX7 95 "NetBordersModel" "arcs" "I", Cond.methodLink RX7 130 yX7_in, Cond.static yX7_in, Cond.code yX7_in cX7_in 3 (some .boolean), Cond.methodLink RX7 159 yX7_isWhole, Cond.instanceMethod yX7_isWhole, Cond.selects RX7 yX7_isWhole yX7_isWhole, Cond.code yX7_isWhole cX7_isWhole 1 (some .boolean), Cond.constant RX7 122 (65535), Cond.methodLink RX7 123 yX7_reach, Cond.instanceMethod yX7_reach, Cond.selects RX7 yX7_reach yX7_reach, Cond.code yX7_reach cX7_reach 9 (some .int), Cond.fieldLink RX7 13 "NetBordersModel" "tail" "[I", Cond.fieldLink RX7 17 "NetBordersModel" "head" "[I"]
def wsX7_cost_r2 : List Cond := [Cond.methodLink RX7 101 yX7_all, Cond.instanceMethod yX7_all, Cond.selects RX7 yX7_all yX7_all, Cond.code yX7_all cX7_all 1 (some .int), Cond.fieldLink RX7 7 "NetBordersModel" "nodes" "I", Cond.methodLink RX7 169 yX7_makeSets, Cond.instanceMethod yX7_makeSets, Cond.selects RX7 yX7_makeSets yX7_makeSets, Cond.code yX7_makeSets cX7_makeSets 4 none, Cond.fieldLink RX7 92 "NetBordersModel" "setsMade" "Z", Cond.fieldLink RX7 73 "NetBordersModel" "misses" "[Z", Cond.fieldLink RX7 98 "NetBordersModel" "sides" "I", Cond.fieldLink RX7 69 "NetBordersModel" "sideBorder" "[I", Cond.methodLink RX7 113 yX7_makeSides, Cond.instanceMethod yX7_makeSides, Cond.selects RX7 yX7_makeSides yX7_makeSides, Cond.code yX7_makeSides cX7_makeSides 2 none, Cond.fieldLink RX7 88 "NetBordersModel" "made" "Z", Cond.fieldLink RX7 66 "NetBordersModel" "sideBits" "[I", Cond.methodLink RX7 105 yX7_isSide, Cond.instanceMethod yX7_isSide, Cond.selects RX7 yX7_isSide yX7_isSide, Cond.code yX7_isSide cX7_isSide 3 (some .boolean), Cond.methodLink RX7 109 yX7_borderOf]
def wsX7_cost_r3 : List Cond := [Cond.instanceMethod yX7_borderOf, Cond.selects RX7 yX7_borderOf yX7_borderOf, Cond.code yX7_borderOf cX7_borderOf 4 (some .int), Cond.methodLink RX7 119 yX7_hasNoneToSpare, Cond.instanceMethod yX7_hasNoneToSpare, Cond.selects RX7 yX7_hasNoneToSpare yX7_hasNoneToSpare, Cond.code yX7_hasNoneToSpare cX7_hasNoneToSpare 3 (some .boolean), Cond.methodLink RX7 172 yX7_weightOf, Cond.instanceMethod yX7_weightOf, Cond.selects RX7 yX7_weightOf yX7_weightOf, Cond.code yX7_weightOf cX7_weightOf 4 (some .int)]
def wsX7_cost : List Cond := .code yX7_cost cX7_cost 7 (some .int) :: ((wsX7_cost_r1 ++ (wsX7_cost_r2 ++ wsX7_cost_r3)) ++ wsX70)
def wsX7_oftenAtMost : List Cond := .code yX7_oftenAtMost cX7_oftenAtMost 6 (some .int) :: ([.fieldLink RX7 95 "NetBordersModel" "arcs" "I", .fieldLink RX7 82 "NetBordersModel" "spare" "[I", .fieldLink RX7 116 "NetBordersModel" "least" "I", .fieldLink RX7 76 "NetBordersModel" "leastSets" "[I", .fieldLink RX7 79 "NetBordersModel" "left" "[I", .methodLink RX7 182 yX7_ones, .static yX7_ones, .initialized RX7, .code yX7_ones cX7_ones 3 (some .int)] ++ wsX70)
def wsX7_packing_r1 : List Cond := [Cond.fieldLink RX7 85 "NetBordersModel" "code" "I", Cond.fieldLink RX7 116 "NetBordersModel" "least" "I", Cond.fieldLink RX7 79 "NetBordersModel" "left" "[I", Cond.fieldLink RX7 76 "NetBordersModel" "leastSets" "[I", Cond.fieldLink RX7 26 "NetBordersModel" "times" "[I", Cond.fieldLink RX7 82 "NetBordersModel" "spare" "[I", Cond.fieldLink RX7 95 "NetBordersModel" "arcs" "I", Cond.fieldLink RX7 20 "NetBordersModel" "weight" "[I", Cond.fieldLink RX7 23 "NetBordersModel" "load" "[I", Cond.fieldLink RX7 137 "NetBordersModel" "hasFamily" "Z", Cond.fieldLink RX7 7 "NetBordersModel" "nodes" "I", Cond.fieldLink RX7 175 "NetBordersModel" "familyNodes" "I", Cond.fieldLink RX7 98 "NetBordersModel" "sides" "I", Cond.fieldLink RX7 69 "NetBordersModel" "sideBorder" "[I", Cond.fieldLink RX7 66 "NetBordersModel" "sideBits" "[I", Cond.methodLink RX7 159 yX7_isWhole, Cond.instanceMethod yX7_isWhole, Cond.selects RX7 yX7_isWhole yX7_isWhole, Cond.initialized RX7, Cond.code yX7_isWhole cX7_isWhole 1 (some .boolean), Cond.constant RX7 122 (65535), Cond.methodLink RX7 123 yX7_reach, Cond.instanceMethod yX7_reach, Cond.selects RX7 yX7_reach yX7_reach]
def wsX7_packing_r2 : List Cond := [Cond.code yX7_reach cX7_reach 9 (some .int), Cond.fieldLink RX7 13 "NetBordersModel" "tail" "[I", Cond.fieldLink RX7 17 "NetBordersModel" "head" "[I", Cond.methodLink RX7 101 yX7_all, Cond.instanceMethod yX7_all, Cond.selects RX7 yX7_all yX7_all, Cond.code yX7_all cX7_all 1 (some .int), Cond.methodLink RX7 169 yX7_makeSets, Cond.instanceMethod yX7_makeSets, Cond.selects RX7 yX7_makeSets yX7_makeSets, Cond.code yX7_makeSets cX7_makeSets 4 none, Cond.fieldLink RX7 92 "NetBordersModel" "setsMade" "Z", Cond.fieldLink RX7 73 "NetBordersModel" "misses" "[Z", Cond.methodLink RX7 113 yX7_makeSides, Cond.instanceMethod yX7_makeSides, Cond.selects RX7 yX7_makeSides yX7_makeSides, Cond.code yX7_makeSides cX7_makeSides 2 none, Cond.fieldLink RX7 88 "NetBordersModel" "made" "Z", Cond.methodLink RX7 105 yX7_isSide, Cond.instanceMethod yX7_isSide, Cond.selects RX7 yX7_isSide yX7_isSide, Cond.code yX7_isSide cX7_isSide 3 (some .boolean), Cond.methodLink RX7 109 yX7_borderOf, Cond.instanceMethod yX7_borderOf]
def wsX7_packing_r3 : List Cond := [Cond.selects RX7 yX7_borderOf yX7_borderOf, Cond.code yX7_borderOf cX7_borderOf 4 (some .int), Cond.methodLink RX7 119 yX7_hasNoneToSpare, Cond.instanceMethod yX7_hasNoneToSpare, Cond.selects RX7 yX7_hasNoneToSpare yX7_hasNoneToSpare, Cond.code yX7_hasNoneToSpare cX7_hasNoneToSpare 3 (some .boolean), Cond.methodLink RX7 172 yX7_weightOf, Cond.instanceMethod yX7_weightOf, Cond.selects RX7 yX7_weightOf yX7_weightOf, Cond.code yX7_weightOf cX7_weightOf 4 (some .int), Cond.methodLink RX7 178 yX7_oftenAtMost, Cond.instanceMethod yX7_oftenAtMost, Cond.selects RX7 yX7_oftenAtMost yX7_oftenAtMost, Cond.code yX7_oftenAtMost cX7_oftenAtMost 6 (some .int), Cond.methodLink RX7 182 yX7_ones, Cond.static yX7_ones, Cond.code yX7_ones cX7_ones 3 (some .int)]
def wsX7_packing : List Cond := .code yX7_packing cX7_packing 6 (some .int) :: ((wsX7_packing_r1 ++ (wsX7_packing_r2 ++ wsX7_packing_r3)) ++ wsX70)
def wsX7_draw_r1 : List Cond := [Cond.fieldLink RX7 85 "NetBordersModel" "code" "I", Cond.fieldLink RX7 98 "NetBordersModel" "sides" "I", Cond.fieldLink RX7 66 "NetBordersModel" "sideBits" "[I", Cond.fieldLink RX7 137 "NetBordersModel" "hasFamily" "Z", Cond.fieldLink RX7 175 "NetBordersModel" "familyNodes" "I", Cond.fieldLink RX7 7 "NetBordersModel" "nodes" "I", Cond.fieldLink RX7 26 "NetBordersModel" "times" "[I", Cond.constantLong RX7 185 (1000), Cond.fieldLink RX7 23 "NetBordersModel" "load" "[I", Cond.fieldLink RX7 95 "NetBordersModel" "arcs" "I", Cond.fieldLink RX7 69 "NetBordersModel" "sideBorder" "[I", Cond.methodLink RX7 113 yX7_makeSides, Cond.instanceMethod yX7_makeSides, Cond.selects RX7 yX7_makeSides yX7_makeSides, Cond.initialized RX7, Cond.code yX7_makeSides cX7_makeSides 2 none, Cond.fieldLink RX7 88 "NetBordersModel" "made" "Z", Cond.methodLink RX7 101 yX7_all, Cond.instanceMethod yX7_all, Cond.selects RX7 yX7_all yX7_all, Cond.code yX7_all cX7_all 1 (some .int), Cond.methodLink RX7 105 yX7_isSide, Cond.instanceMethod yX7_isSide, Cond.selects RX7 yX7_isSide yX7_isSide]
def wsX7_draw_r2 : List Cond := [Cond.code yX7_isSide cX7_isSide 3 (some .boolean), Cond.fieldLink RX7 13 "NetBordersModel" "tail" "[I", Cond.fieldLink RX7 17 "NetBordersModel" "head" "[I", Cond.methodLink RX7 109 yX7_borderOf, Cond.instanceMethod yX7_borderOf, Cond.selects RX7 yX7_borderOf yX7_borderOf, Cond.code yX7_borderOf cX7_borderOf 4 (some .int)]
def wsX7_draw : List Cond := .code yX7_draw cX7_draw 7 (some .int) :: ((wsX7_draw_r1 ++ wsX7_draw_r2) ++ wsX70)
def wsX7_cross : List Cond := .code yX7_cross cX7_cross 4 (some .boolean) :: ([.fieldLink RX7 175 "NetBordersModel" "familyNodes" "I"] ++ wsX70)
def wsX7_firstCross : List Cond := .code yX7_firstCross cX7_firstCross 3 (some .int) :: ([.fieldLink RX7 26 "NetBordersModel" "times" "[I", .methodLink RX7 187 yX7_cross, .instanceMethod yX7_cross, .selects RX7 yX7_cross yX7_cross, .initialized RX7, .code yX7_cross cX7_cross 4 (some .boolean), .fieldLink RX7 175 "NetBordersModel" "familyNodes" "I"] ++ wsX70)
def wsX7_uncross : List Cond := .code yX7_uncross cX7_uncross 6 (some .int) :: ([.fieldLink RX7 85 "NetBordersModel" "code" "I", .fieldLink RX7 137 "NetBordersModel" "hasFamily" "Z", .fieldLink RX7 26 "NetBordersModel" "times" "[I", .methodLink RX7 191 yX7_firstCross, .instanceMethod yX7_firstCross, .selects RX7 yX7_firstCross yX7_firstCross, .initialized RX7, .code yX7_firstCross cX7_firstCross 3 (some .int), .methodLink RX7 187 yX7_cross, .instanceMethod yX7_cross, .selects RX7 yX7_cross yX7_cross, .code yX7_cross cX7_cross 4 (some .boolean), .fieldLink RX7 175 "NetBordersModel" "familyNodes" "I"] ++ wsX70)
def wsX7_member : List Cond := .code yX7_member cX7_member 5 (some .int) :: ([.fieldLink RX7 85 "NetBordersModel" "code" "I", .fieldLink RX7 137 "NetBordersModel" "hasFamily" "Z", .fieldLink RX7 26 "NetBordersModel" "times" "[I"] ++ wsX70)
def wsX7_image_r1 : List Cond := [Cond.fieldLink RX7 85 "NetBordersModel" "code" "I", Cond.fieldLink RX7 29 "NetBordersModel" "has" "[Z", Cond.fieldLink RX7 33 "NetBordersModel" "iNodes" "[I", Cond.fieldLink RX7 7 "NetBordersModel" "nodes" "I", Cond.fieldLink RX7 36 "NetBordersModel" "iArcs" "[I", Cond.fieldLink RX7 95 "NetBordersModel" "arcs" "I", Cond.fieldLink RX7 48 "NetBordersModel" "iHasSet" "[Z", Cond.fieldLink RX7 134 "NetBordersModel" "hasSet" "Z", Cond.fieldLink RX7 51 "NetBordersModel" "iSet" "[I", Cond.fieldLink RX7 153 "NetBordersModel" "set" "I", Cond.fieldLink RX7 54 "NetBordersModel" "iHasFamily" "[Z", Cond.fieldLink RX7 137 "NetBordersModel" "hasFamily" "Z", Cond.fieldLink RX7 57 "NetBordersModel" "iFamilyNodes" "[I", Cond.fieldLink RX7 175 "NetBordersModel" "familyNodes" "I", Cond.fieldLink RX7 39 "NetBordersModel" "iTail" "[I", Cond.fieldLink RX7 13 "NetBordersModel" "tail" "[I", Cond.fieldLink RX7 42 "NetBordersModel" "iHead" "[I", Cond.fieldLink RX7 17 "NetBordersModel" "head" "[I", Cond.fieldLink RX7 45 "NetBordersModel" "iWeight" "[I", Cond.fieldLink RX7 20 "NetBordersModel" "weight" "[I", Cond.fieldLink RX7 60 "NetBordersModel" "iLoad" "[I", Cond.fieldLink RX7 23 "NetBordersModel" "load" "[I", Cond.fieldLink RX7 63 "NetBordersModel" "iTimes" "[I", Cond.fieldLink RX7 26 "NetBordersModel" "times" "[I"]
def wsX7_image_r2 : List Cond := [Cond.methodLink RX7 130 yX7_in, Cond.static yX7_in, Cond.initialized RX7, Cond.code yX7_in cX7_in 3 (some .boolean)]
def wsX7_image : List Cond := .code yX7_image cX7_image 3 (some .boolean) :: ((wsX7_image_r1 ++ wsX7_image_r2) ++ wsX70)
def wsX7_again_r1 : List Cond := [Cond.fieldLink RX7 85 "NetBordersModel" "code" "I", Cond.fieldLink RX7 29 "NetBordersModel" "has" "[Z", Cond.fieldLink RX7 33 "NetBordersModel" "iNodes" "[I", Cond.fieldLink RX7 7 "NetBordersModel" "nodes" "I", Cond.fieldLink RX7 36 "NetBordersModel" "iArcs" "[I", Cond.fieldLink RX7 95 "NetBordersModel" "arcs" "I", Cond.fieldLink RX7 48 "NetBordersModel" "iHasSet" "[Z", Cond.fieldLink RX7 134 "NetBordersModel" "hasSet" "Z", Cond.fieldLink RX7 51 "NetBordersModel" "iSet" "[I", Cond.fieldLink RX7 153 "NetBordersModel" "set" "I", Cond.fieldLink RX7 54 "NetBordersModel" "iHasFamily" "[Z", Cond.fieldLink RX7 137 "NetBordersModel" "hasFamily" "Z", Cond.fieldLink RX7 57 "NetBordersModel" "iFamilyNodes" "[I", Cond.fieldLink RX7 175 "NetBordersModel" "familyNodes" "I", Cond.fieldLink RX7 13 "NetBordersModel" "tail" "[I", Cond.fieldLink RX7 39 "NetBordersModel" "iTail" "[I", Cond.fieldLink RX7 17 "NetBordersModel" "head" "[I", Cond.fieldLink RX7 42 "NetBordersModel" "iHead" "[I", Cond.fieldLink RX7 20 "NetBordersModel" "weight" "[I", Cond.fieldLink RX7 45 "NetBordersModel" "iWeight" "[I", Cond.fieldLink RX7 23 "NetBordersModel" "load" "[I", Cond.fieldLink RX7 60 "NetBordersModel" "iLoad" "[I", Cond.fieldLink RX7 26 "NetBordersModel" "times" "[I", Cond.fieldLink RX7 63 "NetBordersModel" "iTimes" "[I"]
def wsX7_again_r2 : List Cond := [Cond.methodLink RX7 130 yX7_in, Cond.static yX7_in, Cond.initialized RX7, Cond.code yX7_in cX7_in 3 (some .boolean), Cond.methodLink RX7 140 yX7_changed, Cond.instanceMethod yX7_changed, Cond.selects RX7 yX7_changed yX7_changed, Cond.code yX7_changed cX7_changed 1 none, Cond.fieldLink RX7 88 "NetBordersModel" "made" "Z", Cond.fieldLink RX7 92 "NetBordersModel" "setsMade" "Z"]
def wsX7_again : List Cond := .code yX7_again cX7_again 3 (some .boolean) :: ((wsX7_again_r1 ++ wsX7_again_r2) ++ wsX70)
def wsJ9_min_7cf53 : List Cond := .code yJ9_min_7cf53 cJ9_min_7cf53 2 (some .int) :: ([])
def wsL_law_r1 : List Cond := [Cond.classLink RL 7 RX6, Cond.instantiable RX6 5, Cond.initialized RX6, Cond.classLink RL 10 RX7, Cond.instantiable RX7 34, Cond.initialized RX7, Cond.methodLink RL 9 yX6_init, Cond.instanceMethod yX6_init, Cond.code yX6_init cX6_init 1 none, Cond.methodLink RX6 1 objectInit, Cond.instanceMethod objectInit, Cond.code objectInit ⟨#[0xb1]⟩ 1 none, Cond.classLink RX6 7 RX0, Cond.instantiable RX0 3, Cond.initialized RX0, Cond.fieldLink RX6 10 "NetBorders" "now" "LNetBorders$Bench;", Cond.fieldLink RX6 16 "NetBorders" "images" "[LNetBorders$Bench;", Cond.classLink RX6 20 RX3, Cond.instantiable RX3 3, Cond.initialized RX3, Cond.fieldLink RX6 23 "NetBorders" "paths" "LNetBorders$Paths;", Cond.classLink RX6 27 RX5, Cond.instantiable RX5 5, Cond.initialized RX5]
def wsL_law_r2 : List Cond := [Cond.fieldLink RX6 30 "NetBorders" "sides" "LNetBorders$Sides;", Cond.classLink RX6 34 RX4, Cond.instantiable RX4 10, Cond.initialized RX4, Cond.fieldLink RX6 37 "NetBorders" "search" "LNetBorders$Search;", Cond.fieldLink RX6 41 "NetBorders$Bench" "net" "LNetBorders$Net;", Cond.instanceMethod yX0_init, Cond.code yX0_init cX0_init 1 none, Cond.methodLink RX0 1 objectInit, Cond.classLink RX0 7 RX2, Cond.instantiable RX2 5, Cond.initialized RX2, Cond.fieldLink RX0 10 "NetBorders$Bench" "net" "LNetBorders$Net;", Cond.classLink RX0 16 RX1, Cond.instantiable RX1 4, Cond.initialized RX1, Cond.fieldLink RX0 19 "NetBorders$Bench" "family" "LNetBorders$Family;", Cond.instanceMethod yX2_init, Cond.code yX2_init cX2_init 1 none, Cond.methodLink RX2 3 objectInit, Cond.arrayClass .int, Cond.fieldLink RX2 9 "NetBorders$Net" "tail" "[I", Cond.fieldLink RX2 15 "NetBorders$Net" "head" "[I", Cond.fieldLink RX2 18 "NetBorders$Net" "weight" "[I"]
def wsL_law_r3 : List Cond := [Cond.instanceMethod yX1_init, Cond.code yX1_init cX1_init 1 none, Cond.methodLink RX1 3 objectInit, Cond.fieldLink RX1 9 "NetBorders$Family" "times" "[I", Cond.fieldLink RX1 15 "NetBorders$Family" "load" "[I", Cond.instanceMethod yX3_init, Cond.code yX3_init cX3_init 1 none, Cond.methodLink RX3 3 objectInit, Cond.fieldLink RX3 9 "NetBorders$Paths" "onward" "[I", Cond.fieldLink RX3 15 "NetBorders$Paths" "back" "[I", Cond.instanceMethod yX5_init, Cond.code yX5_init cX5_init 1 none, Cond.methodLink RX5 3 objectInit, Cond.fieldLink RX5 9 "NetBorders$Sides" "bits" "[I", Cond.fieldLink RX5 15 "NetBorders$Sides" "border" "[I", Cond.fieldLink RX5 18 "NetBorders$Sides" "tailWithin" "[I", Cond.fieldLink RX5 21 "NetBorders$Sides" "headWithin" "[I", Cond.instanceMethod yX4_init, Cond.code yX4_init cX4_init 1 none, Cond.methodLink RX4 3 objectInit, Cond.fieldLink RX4 9 "NetBorders$Search" "border" "[I", Cond.fieldLink RX4 15 "NetBorders$Search" "price" "[I", Cond.fieldLink RX4 18 "NetBorders$Search" "slack" "[I", Cond.methodLink RX6 45 yX2_clear]
def wsL_law_r4 : List Cond := [Cond.instanceMethod yX2_clear, Cond.selects RX2 yX2_clear yX2_clear, Cond.code yX2_clear cX2_clear 2 none, Cond.fieldLink RX2 21 "NetBorders$Net" "nodes" "I", Cond.fieldLink RX2 25 "NetBorders$Net" "arcs" "I", Cond.methodLink RL 12 yX7_init, Cond.instanceMethod yX7_init, Cond.code yX7_init cX7_init 1 none, Cond.methodLink RX7 1 objectInit, Cond.fieldLink RX7 7 "NetBordersModel" "nodes" "I", Cond.fieldLink RX7 13 "NetBordersModel" "tail" "[I", Cond.fieldLink RX7 17 "NetBordersModel" "head" "[I", Cond.fieldLink RX7 20 "NetBordersModel" "weight" "[I", Cond.fieldLink RX7 23 "NetBordersModel" "load" "[I", Cond.fieldLink RX7 26 "NetBordersModel" "times" "[I", Cond.arrayClass .boolean, Cond.fieldLink RX7 29 "NetBordersModel" "has" "[Z", Cond.fieldLink RX7 33 "NetBordersModel" "iNodes" "[I", Cond.fieldLink RX7 36 "NetBordersModel" "iArcs" "[I", Cond.fieldLink RX7 39 "NetBordersModel" "iTail" "[I", Cond.fieldLink RX7 42 "NetBordersModel" "iHead" "[I", Cond.fieldLink RX7 45 "NetBordersModel" "iWeight" "[I", Cond.fieldLink RX7 48 "NetBordersModel" "iHasSet" "[Z", Cond.fieldLink RX7 51 "NetBordersModel" "iSet" "[I"]
def wsL_law_r5 : List Cond := [Cond.fieldLink RX7 54 "NetBordersModel" "iHasFamily" "[Z", Cond.fieldLink RX7 57 "NetBordersModel" "iFamilyNodes" "[I", Cond.fieldLink RX7 60 "NetBordersModel" "iLoad" "[I", Cond.fieldLink RX7 63 "NetBordersModel" "iTimes" "[I", Cond.fieldLink RX7 66 "NetBordersModel" "sideBits" "[I", Cond.fieldLink RX7 69 "NetBordersModel" "sideBorder" "[I", Cond.constant RX7 72 (65536), Cond.fieldLink RX7 73 "NetBordersModel" "misses" "[Z", Cond.fieldLink RX7 76 "NetBordersModel" "leastSets" "[I", Cond.fieldLink RX7 79 "NetBordersModel" "left" "[I", Cond.fieldLink RX7 82 "NetBordersModel" "spare" "[I", Cond.methodLink RL 13 yX6_begin, Cond.instanceMethod yX6_begin, Cond.selects RX6 yX6_begin yX6_begin, Cond.code yX6_begin cX6_begin 2 (some .boolean), Cond.fieldLink RX6 51 "NetBorders$Bench" "chosen" "I", Cond.fieldLink RX6 55 "NetBorders$Bench" "family" "LNetBorders$Family;", Cond.methodLink RX6 59 yX1_putAway, Cond.instanceMethod yX1_putAway, Cond.selects RX1 yX1_putAway yX1_putAway, Cond.code yX1_putAway cX1_putAway 1 none, Cond.fieldLink RX1 22 "NetBorders$Family" "atHand" "Z", Cond.methodLink RX1 18 yX1_open, Cond.instanceMethod yX1_open]
def wsL_law_r6 : List Cond := [Cond.selects RX1 yX1_open yX1_open, Cond.code yX1_open cX1_open 2 none, Cond.fieldLink RX1 26 "NetBorders$Family" "nodes" "I", Cond.methodLink RX1 30 yJ7_fill_53178, Cond.static yJ7_fill_53178, Cond.initialized RJ7, Cond.code yJ7_fill_53178 cJ7_fill_53178 4 none, Cond.methodLink RL 17 yX7_begin, Cond.instanceMethod yX7_begin, Cond.selects RX7 yX7_begin yX7_begin, Cond.code yX7_begin cX7_begin 2 (some .boolean), Cond.fieldLink RX7 85 "NetBordersModel" "code" "I", Cond.fieldLink RX7 95 "NetBordersModel" "arcs" "I", Cond.fieldLink RX7 134 "NetBordersModel" "hasSet" "Z", Cond.fieldLink RX7 137 "NetBordersModel" "hasFamily" "Z", Cond.methodLink RX7 130 yX7_in, Cond.static yX7_in, Cond.code yX7_in cX7_in 3 (some .boolean), Cond.methodLink RX7 140 yX7_changed, Cond.instanceMethod yX7_changed, Cond.selects RX7 yX7_changed yX7_changed, Cond.code yX7_changed cX7_changed 1 none, Cond.fieldLink RX7 88 "NetBordersModel" "made" "Z", Cond.fieldLink RX7 92 "NetBordersModel" "setsMade" "Z"]
def wsL_law_r7 : List Cond := [Cond.methodLink RL 18 yX6_arc, Cond.instanceMethod yX6_arc, Cond.selects RX6 yX6_arc yX6_arc, Cond.code yX6_arc cX6_arc 5 (some .int), Cond.fieldLink RX6 64 "NetBorders$Net" "arcs" "I", Cond.methodLink RX6 67 yX2_hasNode, Cond.instanceMethod yX2_hasNode, Cond.selects RX2 yX2_hasNode yX2_hasNode, Cond.code yX2_hasNode cX2_hasNode 2 (some .boolean), Cond.methodLink RX6 71 yX6_isWeight, Cond.static yX6_isWeight, Cond.code yX6_isWeight cX6_isWeight 1 (some .boolean), Cond.methodLink RX6 74 yX2_append, Cond.instanceMethod yX2_append, Cond.selects RX2 yX2_append yX2_append, Cond.code yX2_append cX2_append 4 (some .int), Cond.methodLink RL 22 yX7_arc, Cond.instanceMethod yX7_arc, Cond.selects RX7 yX7_arc yX7_arc, Cond.code yX7_arc cX7_arc 4 (some .int), Cond.methodLink RL 23 yX6_drop, Cond.instanceMethod yX6_drop, Cond.selects RX6 yX6_drop yX6_drop, Cond.code yX6_drop cX6_drop 2 (some .int)]
def wsL_law_r8 : List Cond := [Cond.methodLink RX6 78 yX2_hasArc, Cond.instanceMethod yX2_hasArc, Cond.selects RX2 yX2_hasArc yX2_hasArc, Cond.code yX2_hasArc cX2_hasArc 2 (some .boolean), Cond.methodLink RX6 81 yX2_remove, Cond.instanceMethod yX2_remove, Cond.selects RX2 yX2_remove yX2_remove, Cond.code yX2_remove cX2_remove 3 none, Cond.methodLink RL 27 yX7_drop, Cond.instanceMethod yX7_drop, Cond.selects RX7 yX7_drop yX7_drop, Cond.code yX7_drop cX7_drop 3 (some .int), Cond.methodLink RX7 143 yX7_isArc, Cond.instanceMethod yX7_isArc, Cond.selects RX7 yX7_isArc yX7_isArc, Cond.code yX7_isArc cX7_isArc 2 (some .boolean), Cond.methodLink RL 28 yX6_weigh, Cond.instanceMethod yX6_weigh, Cond.selects RX6 yX6_weigh yX6_weigh, Cond.code yX6_weigh cX6_weigh 4 (some .int), Cond.fieldLink RX6 84 "NetBorders$Net" "weight" "[I", Cond.methodLink RL 32 yX7_weigh, Cond.instanceMethod yX7_weigh, Cond.selects RX7 yX7_weigh yX7_weigh]
def wsL_law_r9 : List Cond := [Cond.code yX7_weigh cX7_weigh 4 (some .int), Cond.methodLink RL 33 yX6_turn, Cond.instanceMethod yX6_turn, Cond.selects RX6 yX6_turn yX6_turn, Cond.code yX6_turn cX6_turn 3 (some .boolean), Cond.fieldLink RX6 88 "NetBorders$Net" "tail" "[I", Cond.fieldLink RX6 91 "NetBorders$Net" "head" "[I", Cond.methodLink RL 36 yX7_turn, Cond.instanceMethod yX7_turn, Cond.selects RX7 yX7_turn yX7_turn, Cond.code yX7_turn cX7_turn 3 (some .boolean), Cond.methodLink RL 37 yX6_join, Cond.instanceMethod yX6_join, Cond.selects RX6 yX6_join yX6_join, Cond.code yX6_join cX6_join 3 (some .int), Cond.fieldLink RX6 98 "NetBorders$Net" "nodes" "I", Cond.methodLink RX6 94 yX2_merge, Cond.instanceMethod yX2_merge, Cond.selects RX2 yX2_merge yX2_merge, Cond.code yX2_merge cX2_merge 4 none, Cond.methodLink RX2 28 yX2_renumbered, Cond.static yX2_renumbered, Cond.code yX2_renumbered cX2_renumbered 4 (some .int), Cond.methodLink RL 40 yX7_join]
def wsL_law_r10 : List Cond := [Cond.instanceMethod yX7_join, Cond.selects RX7 yX7_join yX7_join, Cond.code yX7_join cX7_join 4 (some .int), Cond.methodLink RX7 146 yX7_isNode, Cond.instanceMethod yX7_isNode, Cond.selects RX7 yX7_isNode yX7_isNode, Cond.code yX7_isNode cX7_isNode 2 (some .boolean), Cond.methodLink RX7 149 yX7_joined, Cond.static yX7_joined, Cond.code yX7_joined cX7_joined 4 (some .int), Cond.methodLink RL 41 yX6_tell, Cond.instanceMethod yX6_tell, Cond.selects RX6 yX6_tell yX6_tell, Cond.code yX6_tell cX6_tell 3 (some .int), Cond.fieldLink RX6 101 "NetBorders$Family" "load" "[I", Cond.methodLink RL 44 yX7_tell, Cond.instanceMethod yX7_tell, Cond.selects RX7 yX7_tell yX7_tell, Cond.code yX7_tell cX7_tell 3 (some .int), Cond.fieldLink RX7 153 "NetBordersModel" "set" "I", Cond.methodLink RL 45 yX6_node, Cond.instanceMethod yX6_node, Cond.selects RX6 yX6_node yX6_node, Cond.code yX6_node cX6_node 3 (some .int)]
def wsL_law_r11 : List Cond := [Cond.constant RX6 112 (65535), Cond.fieldLink RX6 113 "NetBorders$Paths" "onward" "[I", Cond.fieldLink RX6 116 "NetBorders$Paths" "back" "[I", Cond.methodLink RX6 104 yX3_follow, Cond.instanceMethod yX3_follow, Cond.selects RX3 yX3_follow yX3_follow, Cond.code yX3_follow cX3_follow 4 none, Cond.fieldLink RX3 18 "NetBorders$Net" "nodes" "I", Cond.fieldLink RX3 24 "NetBorders$Paths" "nodes" "I", Cond.fieldLink RX3 25 "NetBorders$Net" "arcs" "I", Cond.fieldLink RX3 28 "NetBorders$Net" "tail" "[I", Cond.fieldLink RX3 31 "NetBorders$Net" "head" "[I", Cond.static yX6_contains, Cond.code yX6_contains cX6_contains 2 (some .boolean), Cond.methodLink RX3 38 yX3_closeOnward, Cond.instanceMethod yX3_closeOnward, Cond.selects RX3 yX3_closeOnward yX3_closeOnward, Cond.code yX3_closeOnward cX3_closeOnward 3 none, Cond.methodLink RX3 41 yX3_turnToBack, Cond.instanceMethod yX3_turnToBack, Cond.selects RX3 yX3_turnToBack yX3_turnToBack, Cond.code yX3_turnToBack cX3_turnToBack 3 none, Cond.methodLink RX6 108 yX3_part, Cond.instanceMethod yX3_part]
def wsL_law_r12 : List Cond := [Cond.selects RX3 yX3_part yX3_part, Cond.code yX3_part cX3_part 4 (some .int), Cond.methodLink RL 48 yX7_node, Cond.instanceMethod yX7_node, Cond.selects RX7 yX7_node yX7_node, Cond.code yX7_node cX7_node 3 (some .int), Cond.constant RX7 122 (65535), Cond.methodLink RX7 156 yX7_partOf, Cond.instanceMethod yX7_partOf, Cond.selects RX7 yX7_partOf yX7_partOf, Cond.code yX7_partOf cX7_partOf 2 (some .int), Cond.methodLink RX7 123 yX7_reach, Cond.instanceMethod yX7_reach, Cond.selects RX7 yX7_reach yX7_reach, Cond.code yX7_reach cX7_reach 9 (some .int), Cond.methodLink RX7 127 yX7_lowest, Cond.static yX7_lowest, Cond.code yX7_lowest cX7_lowest 2 (some .int), Cond.methodLink RL 49 yX6_count, Cond.instanceMethod yX6_count, Cond.selects RX6 yX6_count yX6_count, Cond.code yX6_count cX6_count 2 (some .int), Cond.fieldLink RX6 134 "NetBorders$Sides" "size" "I", Cond.methodLink RX6 119 yX3_parts]
def wsL_law_r13 : List Cond := [Cond.instanceMethod yX3_parts, Cond.selects RX3 yX3_parts yX3_parts, Cond.code yX3_parts cX3_parts 3 (some .int), Cond.methodLink RX3 44 yX3_part, Cond.methodLink RX6 123 yX6_isWhole, Cond.instanceMethod yX6_isWhole, Cond.selects RX6 yX6_isWhole yX6_isWhole, Cond.code yX6_isWhole cX6_isWhole 1 (some .boolean), Cond.methodLink RX6 127 yX6_isStrong, Cond.instanceMethod yX6_isStrong, Cond.selects RX6 yX6_isStrong yX6_isStrong, Cond.code yX6_isStrong cX6_isStrong 2 (some .boolean), Cond.methodLink RX6 155 yX3_areStrong, Cond.instanceMethod yX3_areStrong, Cond.selects RX3 yX3_areStrong yX3_areStrong, Cond.code yX3_areStrong cX3_areStrong 2 (some .boolean), Cond.methodLink RX6 130 yX5_find, Cond.instanceMethod yX5_find, Cond.selects RX5 yX5_find yX5_find, Cond.code yX5_find cX5_find 4 none, Cond.fieldLink RX5 28 "NetBorders$Sides" "size" "I", Cond.methodLink RX5 24 yX5_gatherArcs, Cond.instanceMethod yX5_gatherArcs, Cond.selects RX5 yX5_gatherArcs yX5_gatherArcs]
def wsL_law_r14 : List Cond := [Cond.code yX5_gatherArcs cX5_gatherArcs 7 none, Cond.fieldLink RX5 38 "NetBorders$Net" "nodes" "I", Cond.methodLink RX5 41 yX2_arcsFrom, Cond.instanceMethod yX2_arcsFrom, Cond.selects RX2 yX2_arcsFrom yX2_arcsFrom, Cond.code yX2_arcsFrom cX2_arcsFrom 2 (some .int), Cond.methodLink RX2 47 yX2_arcsAt, Cond.instanceMethod yX2_arcsAt, Cond.selects RX2 yX2_arcsAt yX2_arcsAt, Cond.code yX2_arcsAt cX2_arcsAt 5 (some .int), Cond.methodLink RX5 45 yX2_arcsTo, Cond.instanceMethod yX2_arcsTo, Cond.selects RX2 yX2_arcsTo yX2_arcsTo, Cond.code yX2_arcsTo cX2_arcsTo 2 (some .int), Cond.methodLink RX5 32 yX2_allNodes, Cond.instanceMethod yX2_allNodes, Cond.selects RX2 yX2_allNodes yX2_allNodes, Cond.code yX2_allNodes cX2_allNodes 1 (some .int), Cond.methodLink RX6 137 yX1_size, Cond.instanceMethod yX1_size, Cond.selects RX1 yX1_size yX1_size, Cond.code yX1_size cX1_size 3 (some .int), Cond.methodLink RX6 139 yX6_imagesMade, Cond.instanceMethod yX6_imagesMade]
def wsL_law_r15 : List Cond := [Cond.selects RX6 yX6_imagesMade yX6_imagesMade, Cond.code yX6_imagesMade cX6_imagesMade 3 (some .int), Cond.methodLink RL 52 yX7_count, Cond.instanceMethod yX7_count, Cond.selects RX7 yX7_count yX7_count, Cond.code yX7_count cX7_count 4 (some .int), Cond.fieldLink RX7 98 "NetBordersModel" "sides" "I", Cond.methodLink RX7 159 yX7_isWhole, Cond.instanceMethod yX7_isWhole, Cond.selects RX7 yX7_isWhole yX7_isWhole, Cond.code yX7_isWhole cX7_isWhole 1 (some .boolean), Cond.methodLink RX7 101 yX7_all, Cond.instanceMethod yX7_all, Cond.selects RX7 yX7_all yX7_all, Cond.code yX7_all cX7_all 1 (some .int), Cond.methodLink RX7 163 yX7_isStrongWith, Cond.instanceMethod yX7_isStrongWith, Cond.selects RX7 yX7_isStrongWith yX7_isStrongWith, Cond.code yX7_isStrongWith cX7_isStrongWith 2 (some .boolean), Cond.methodLink RX7 113 yX7_makeSides, Cond.instanceMethod yX7_makeSides, Cond.selects RX7 yX7_makeSides yX7_makeSides, Cond.code yX7_makeSides cX7_makeSides 2 none, Cond.methodLink RX7 105 yX7_isSide]
def wsL_law_r16 : List Cond := [Cond.instanceMethod yX7_isSide, Cond.selects RX7 yX7_isSide yX7_isSide, Cond.code yX7_isSide cX7_isSide 3 (some .boolean), Cond.methodLink RX7 109 yX7_borderOf, Cond.instanceMethod yX7_borderOf, Cond.selects RX7 yX7_borderOf yX7_borderOf, Cond.code yX7_borderOf cX7_borderOf 4 (some .int), Cond.methodLink RX7 166 yX7_members, Cond.instanceMethod yX7_members, Cond.selects RX7 yX7_members yX7_members, Cond.code yX7_members cX7_members 3 (some .int), Cond.methodLink RL 53 yX6_side, Cond.instanceMethod yX6_side, Cond.selects RX6 yX6_side yX6_side, Cond.code yX6_side cX6_side 3 (some .int), Cond.fieldLink RX6 142 "NetBorders$Sides" "bits" "[I", Cond.fieldLink RX6 145 "NetBorders$Sides" "border" "[I", Cond.methodLink RL 56 yX7_side, Cond.instanceMethod yX7_side, Cond.selects RX7 yX7_side yX7_side, Cond.code yX7_side cX7_side 3 (some .int), Cond.methodLink RL 57 yX6_bounds, Cond.instanceMethod yX6_bounds, Cond.selects RX6 yX6_bounds yX6_bounds]
def wsL_law_r17 : List Cond := [Cond.code yX6_bounds cX6_bounds 5 (some .int), Cond.methodLink RX6 148 yX6_contains, Cond.methodLink RX6 152 yX2_allNodes, Cond.methodLink RL 61 yX7_bounds, Cond.instanceMethod yX7_bounds, Cond.selects RX7 yX7_bounds yX7_bounds, Cond.code yX7_bounds cX7_bounds 6 (some .int), Cond.methodLink RL 62 yX6_isDijoin, Cond.instanceMethod yX6_isDijoin, Cond.selects RX6 yX6_isDijoin yX6_isDijoin, Cond.code yX6_isDijoin cX6_isDijoin 3 (some .boolean), Cond.methodLink RL 65 yX7_isDijoin, Cond.instanceMethod yX7_isDijoin, Cond.selects RX7 yX7_isDijoin yX7_isDijoin, Cond.code yX7_isDijoin cX7_isDijoin 3 (some .boolean), Cond.methodLink RL 66 yX6_isStrong, Cond.methodLink RL 69 yX7_isStrong, Cond.instanceMethod yX7_isStrong, Cond.selects RX7 yX7_isStrong yX7_isStrong, Cond.code yX7_isStrong cX7_isStrong 2 (some .boolean), Cond.methodLink RL 70 yX6_dijoin, Cond.instanceMethod yX6_dijoin, Cond.selects RX6 yX6_dijoin yX6_dijoin, Cond.code yX6_dijoin cX6_dijoin 1 (some .int)]
def wsL_law_r18 : List Cond := [Cond.constant RX6 164 (2147483647), Cond.fieldLink RX6 168 "NetBorders$Search" "bestArcs" "I", Cond.methodLink RX6 158 yX6_prepareSearch, Cond.instanceMethod yX6_prepareSearch, Cond.selects RX6 yX6_prepareSearch yX6_prepareSearch, Cond.code yX6_prepareSearch cX6_prepareSearch 1 none, Cond.methodLink RX6 224 yX4_takeBorders, Cond.instanceMethod yX4_takeBorders, Cond.selects RX4 yX4_takeBorders yX4_takeBorders, Cond.code yX4_takeBorders cX4_takeBorders 3 none, Cond.fieldLink RX4 21 "NetBorders$Search" "size" "I", Cond.fieldLink RX4 25 "NetBorders$Sides" "size" "I", Cond.fieldLink RX4 28 "NetBorders$Sides" "border" "[I", Cond.methodLink RX4 29 yX4_takeBorder, Cond.instanceMethod yX4_takeBorder, Cond.selects RX4 yX4_takeBorder yX4_takeBorder, Cond.code yX4_takeBorder cX4_takeBorder 4 none, Cond.methodLink RX6 161 yX4_priceWithTies, Cond.instanceMethod yX4_priceWithTies, Cond.selects RX4 yX4_priceWithTies yX4_priceWithTies, Cond.code yX4_priceWithTies cX4_priceWithTies 3 none, Cond.fieldLink RX4 33 "NetBorders$Net" "arcs" "I", Cond.fieldLink RX4 38 "NetBorders$Search" "arcs" "I", Cond.fieldLink RX4 39 "NetBorders$Search" "barred" "I"]
def wsL_law_r19 : List Cond := [Cond.fieldLink RX4 42 "NetBorders$Net" "weight" "[I", Cond.methodLink RX6 165 yX4_findBelow, Cond.instanceMethod yX4_findBelow, Cond.selects RX4 yX4_findBelow yX4_findBelow, Cond.code yX4_findBelow cX4_findBelow 4 (some .boolean), Cond.fieldLink RX4 55 "NetBorders$Search" "best" "I", Cond.fieldLink RX4 58 "NetBorders$Search" "bestArcs" "I", Cond.methodLink RX4 61 yX4_descend, Cond.static yX4_descend, Cond.code yX4_descend cX4_descend 9 none, Cond.fieldLink RX4 69 "NetBorders$Search" "tightest" "I", Cond.methodLink RX4 65 yX4_boundOf, Cond.instanceMethod yX4_boundOf, Cond.selects RX4 yX4_boundOf yX4_boundOf, Cond.code yX4_boundOf cX4_boundOf 7 (some .int), Cond.fieldLink RX4 72 "NetBorders$Search" "dry" "I", Cond.methodLink RX4 45 arraycopyName, Cond.native arraycopyName, Cond.static arraycopyName, Cond.initialized "java/lang/System", Cond.methodLink RX4 75 yX4_drawFromSlack, Cond.instanceMethod yX4_drawFromSlack, Cond.selects RX4 yX4_drawFromSlack yX4_drawFromSlack, Cond.code yX4_drawFromSlack cX4_drawFromSlack 4 (some .int)]
def wsL_law_r20 : List Cond := [Cond.constant RX4 84 (2147483647), Cond.methodLink RX4 85 Lib.Math.min.name, Cond.static Lib.Math.min.name, Cond.initialized "java/lang/Math", Cond.code Lib.Math.min.name Lib.Math.min.code 2 (some .int), Cond.methodLink RX4 79 yJ6_bitCount_0f7a4, Cond.static yJ6_bitCount_0f7a4, Cond.initialized RJ6, Cond.code yJ6_bitCount_0f7a4 cJ6_bitCount_0f7a4 1 (some .int), Cond.constant RJ6 265 (1431655765), Cond.constant RJ6 266 (858993459), Cond.constant RJ6 267 (252645135), Cond.methodLink RX6 171 yX6_sumOver, Cond.static yX6_sumOver, Cond.code yX6_sumOver cX6_sumOver 4 (some .int), Cond.methodLink RL 74 yX7_dijoin, Cond.instanceMethod yX7_dijoin, Cond.selects RX7 yX7_dijoin yX7_dijoin, Cond.code yX7_dijoin cX7_dijoin 3 (some .int), Cond.fieldLink RX7 116 "NetBordersModel" "least" "I", Cond.methodLink RX7 169 yX7_makeSets, Cond.instanceMethod yX7_makeSets, Cond.selects RX7 yX7_makeSets yX7_makeSets, Cond.code yX7_makeSets cX7_makeSets 4 none]
def wsL_law_r21 : List Cond := [Cond.methodLink RX7 119 yX7_hasNoneToSpare, Cond.instanceMethod yX7_hasNoneToSpare, Cond.selects RX7 yX7_hasNoneToSpare yX7_hasNoneToSpare, Cond.code yX7_hasNoneToSpare cX7_hasNoneToSpare 3 (some .boolean), Cond.methodLink RX7 172 yX7_weightOf, Cond.instanceMethod yX7_weightOf, Cond.selects RX7 yX7_weightOf yX7_weightOf, Cond.code yX7_weightOf cX7_weightOf 4 (some .int), Cond.methodLink RL 75 yX6_chosen, Cond.instanceMethod yX6_chosen, Cond.selects RX6 yX6_chosen yX6_chosen, Cond.code yX6_chosen cX6_chosen 1 (some .int), Cond.methodLink RL 78 yX7_chosen, Cond.instanceMethod yX7_chosen, Cond.selects RX7 yX7_chosen yX7_chosen, Cond.code yX7_chosen cX7_chosen 1 (some .int), Cond.methodLink RL 79 yX6_cost, Cond.instanceMethod yX6_cost, Cond.selects RX6 yX6_cost yX6_cost, Cond.code yX6_cost cX6_cost 3 (some .int), Cond.fieldLink RX6 181 "NetBorders$Search" "best" "I", Cond.methodLink RX6 175 yX4_priceByWeight, Cond.instanceMethod yX4_priceByWeight, Cond.selects RX4 yX4_priceByWeight yX4_priceByWeight]
def wsL_law_r22 : List Cond := [Cond.code yX4_priceByWeight cX4_priceByWeight 2 none, Cond.methodLink RX6 178 yX4_reprice, Cond.instanceMethod yX4_reprice, Cond.selects RX4 yX4_reprice yX4_reprice, Cond.code yX4_reprice cX4_reprice 3 none, Cond.methodLink RL 82 yX7_cost, Cond.instanceMethod yX7_cost, Cond.selects RX7 yX7_cost yX7_cost, Cond.code yX7_cost cX7_cost 7 (some .int), Cond.methodLink RL 83 yX6_packing, Cond.instanceMethod yX6_packing, Cond.selects RX6 yX6_packing yX6_packing, Cond.code yX6_packing cX6_packing 5 (some .int), Cond.methodLink RX6 184 yX1_open, Cond.methodLink RX6 187 yX4_mostTimes, Cond.instanceMethod yX4_mostTimes, Cond.selects RX4 yX4_mostTimes yX4_mostTimes, Cond.code yX4_mostTimes cX4_mostTimes 6 (some .int), Cond.methodLink RX4 90 yX4_spend, Cond.instanceMethod yX4_spend, Cond.selects RX4 yX4_spend yX4_spend, Cond.code yX4_spend cX4_spend 4 none, Cond.methodLink RX4 94 yX4_findBelow, Cond.methodLink RX4 98 yX4_timesBy]
def wsL_law_r23 : List Cond := [Cond.instanceMethod yX4_timesBy, Cond.selects RX4 yX4_timesBy yX4_timesBy, Cond.code yX4_timesBy cX4_timesBy 5 (some .int), Cond.methodLink RX6 191 yX4_spend, Cond.methodLink RX6 194 yX1_change, Cond.instanceMethod yX1_change, Cond.selects RX1 yX1_change yX1_change, Cond.code yX1_change cX1_change 5 none, Cond.methodLink RL 86 yX7_packing, Cond.instanceMethod yX7_packing, Cond.selects RX7 yX7_packing yX7_packing, Cond.code yX7_packing cX7_packing 6 (some .int), Cond.fieldLink RX7 175 "NetBordersModel" "familyNodes" "I", Cond.methodLink RX7 178 yX7_oftenAtMost, Cond.instanceMethod yX7_oftenAtMost, Cond.selects RX7 yX7_oftenAtMost yX7_oftenAtMost, Cond.code yX7_oftenAtMost cX7_oftenAtMost 6 (some .int), Cond.methodLink RX7 182 yX7_ones, Cond.static yX7_ones, Cond.code yX7_ones cX7_ones 3 (some .int), Cond.methodLink RL 87 yX6_draw, Cond.instanceMethod yX6_draw, Cond.selects RX6 yX6_draw yX6_draw, Cond.code yX6_draw cX6_draw 6 (some .int)]
def wsL_law_r24 : List Cond := [Cond.fieldLink RX6 201 "NetBorders$Family" "atHand" "Z", Cond.fieldLink RX6 205 "NetBorders$Family" "nodes" "I", Cond.fieldLink RX6 206 "NetBorders$Family" "times" "[I", Cond.constantLong RX6 209 (1000), Cond.methodLink RX6 198 yX2_isSide, Cond.instanceMethod yX2_isSide, Cond.selects RX2 yX2_isSide yX2_isSide, Cond.code yX2_isSide cX2_isSide 2 (some .boolean), Cond.methodLink RX2 32 yX2_allNodes, Cond.methodLink RX2 36 yX2_leaving, Cond.instanceMethod yX2_leaving, Cond.selects RX2 yX2_leaving yX2_leaving, Cond.code yX2_leaving cX2_leaving 2 (some .int), Cond.methodLink RX2 44 yX2_entering, Cond.instanceMethod yX2_entering, Cond.selects RX2 yX2_entering yX2_entering, Cond.code yX2_entering cX2_entering 4 (some .int), Cond.methodLink RX6 211 yX2_entering, Cond.methodLink RL 90 yX7_draw, Cond.instanceMethod yX7_draw, Cond.selects RX7 yX7_draw yX7_draw, Cond.code yX7_draw cX7_draw 7 (some .int), Cond.constantLong RX7 185 (1000), Cond.methodLink RL 91 yX6_uncross]
def wsL_law_r25 : List Cond := [Cond.instanceMethod yX6_uncross, Cond.selects RX6 yX6_uncross yX6_uncross, Cond.code yX6_uncross cX6_uncross 1 (some .int), Cond.methodLink RX6 214 yX1_uncrossAll, Cond.instanceMethod yX1_uncrossAll, Cond.selects RX1 yX1_uncrossAll yX1_uncrossAll, Cond.code yX1_uncrossAll cX1_uncrossAll 5 (some .int), Cond.constant RX1 40 (1000000), Cond.methodLink RX1 41 yX1_firstCrossing, Cond.instanceMethod yX1_firstCrossing, Cond.selects RX1 yX1_firstCrossing yX1_firstCrossing, Cond.code yX1_firstCrossing cX1_firstCrossing 3 (some .int), Cond.methodLink RX1 45 yX1_crossedBy, Cond.instanceMethod yX1_crossedBy, Cond.selects RX1 yX1_crossedBy yX1_crossedBy, Cond.code yX1_crossedBy cX1_crossedBy 3 (some .int), Cond.methodLink RX1 52 yX1_areCrossing, Cond.instanceMethod yX1_areCrossing, Cond.selects RX1 yX1_areCrossing yX1_areCrossing, Cond.code yX1_areCrossing cX1_areCrossing 5 (some .boolean), Cond.methodLink RX1 48 yX1_uncrossPair, Cond.instanceMethod yX1_uncrossPair, Cond.selects RX1 yX1_uncrossPair yX1_uncrossPair, Cond.code yX1_uncrossPair cX1_uncrossPair 4 none]
def wsL_law_r26 : List Cond := [Cond.methodLink RX1 55 Lib.Math.min.name, Cond.methodLink RL 94 yX7_uncross, Cond.instanceMethod yX7_uncross, Cond.selects RX7 yX7_uncross yX7_uncross, Cond.code yX7_uncross cX7_uncross 6 (some .int), Cond.methodLink RX7 191 yX7_firstCross, Cond.instanceMethod yX7_firstCross, Cond.selects RX7 yX7_firstCross yX7_firstCross, Cond.code yX7_firstCross cX7_firstCross 3 (some .int), Cond.methodLink RX7 187 yX7_cross, Cond.instanceMethod yX7_cross, Cond.selects RX7 yX7_cross yX7_cross, Cond.code yX7_cross cX7_cross 4 (some .boolean), Cond.methodLink RL 95 yX6_member, Cond.instanceMethod yX6_member, Cond.selects RX6 yX6_member yX6_member, Cond.code yX6_member cX6_member 4 (some .int), Cond.methodLink RX6 217 yX1_memberAt, Cond.instanceMethod yX1_memberAt, Cond.selects RX1 yX1_memberAt yX1_memberAt, Cond.code yX1_memberAt cX1_memberAt 4 (some .int), Cond.methodLink RL 98 yX7_member, Cond.instanceMethod yX7_member, Cond.selects RX7 yX7_member yX7_member]
def wsL_law_r27 : List Cond := [Cond.code yX7_member cX7_member 5 (some .int), Cond.methodLink RL 99 yX6_image, Cond.instanceMethod yX6_image, Cond.selects RX6 yX6_image yX6_image, Cond.code yX6_image cX6_image 2 (some .boolean), Cond.methodLink RX6 220 yX0_copyFrom, Cond.instanceMethod yX0_copyFrom, Cond.selects RX0 yX0_copyFrom yX0_copyFrom, Cond.code yX0_copyFrom cX0_copyFrom 2 none, Cond.fieldLink RX0 30 "NetBorders$Bench" "chosen" "I", Cond.methodLink RX0 23 yX2_copyFrom, Cond.instanceMethod yX2_copyFrom, Cond.selects RX2 yX2_copyFrom yX2_copyFrom, Cond.code yX2_copyFrom cX2_copyFrom 2 none, Cond.methodLink RX2 51 arraycopyName, Cond.methodLink RX0 27 yX1_copyFrom, Cond.instanceMethod yX1_copyFrom, Cond.selects RX1 yX1_copyFrom yX1_copyFrom, Cond.code yX1_copyFrom cX1_copyFrom 2 none, Cond.methodLink RX1 61 arraycopyName, Cond.methodLink RL 102 yX7_image, Cond.instanceMethod yX7_image, Cond.selects RX7 yX7_image yX7_image, Cond.code yX7_image cX7_image 3 (some .boolean)]
def wsL_law_r28 : List Cond := [Cond.methodLink RL 103 yX6_again, Cond.instanceMethod yX6_again, Cond.selects RX6 yX6_again yX6_again, Cond.code yX6_again cX6_again 2 (some .boolean), Cond.methodLink RL 106 yX7_again, Cond.instanceMethod yX7_again, Cond.selects RX7 yX7_again yX7_again, Cond.code yX7_again cX7_again 3 (some .boolean)]
def wsL_law : List Cond := (wsL_law_r1 ++ (wsL_law_r2 ++ (wsL_law_r3 ++ (wsL_law_r4 ++ (wsL_law_r5 ++ (wsL_law_r6 ++ (wsL_law_r7 ++ (wsL_law_r8 ++ (wsL_law_r9 ++ (wsL_law_r10 ++ (wsL_law_r11 ++ (wsL_law_r12 ++ (wsL_law_r13 ++ (wsL_law_r14 ++ (wsL_law_r15 ++ (wsL_law_r16 ++ (wsL_law_r17 ++ (wsL_law_r18 ++ (wsL_law_r19 ++ (wsL_law_r20 ++ (wsL_law_r21 ++ (wsL_law_r22 ++ (wsL_law_r23 ++ (wsL_law_r24 ++ (wsL_law_r25 ++ (wsL_law_r26 ++ (wsL_law_r27 ++ wsL_law_r28))))))))))))))))))))))))))) ++ wsX60 ++ wsX70 ++ wsX00 ++ wsX30 ++ wsX50 ++ wsX40 ++ wsX20 ++ wsX10 ++ ([] : List Cond)
theorem inlX0 : ∀ w ∈ wsX00, w ∈ wsL_law := fun _ h => List.mem_append_left _ (List.mem_append_left _ (List.mem_append_left _ (List.mem_append_left _ (List.mem_append_left _ (List.mem_append_left _ (List.mem_append_right _ h))))))
theorem inlX1 : ∀ w ∈ wsX10, w ∈ wsL_law := fun _ h => List.mem_append_left _ (List.mem_append_right _ h)
theorem inlX2 : ∀ w ∈ wsX20, w ∈ wsL_law := fun _ h => List.mem_append_left _ (List.mem_append_left _ (List.mem_append_right _ h))
theorem inlX3 : ∀ w ∈ wsX30, w ∈ wsL_law := fun _ h => List.mem_append_left _ (List.mem_append_left _ (List.mem_append_left _ (List.mem_append_left _ (List.mem_append_left _ (List.mem_append_right _ h)))))
theorem inlX4 : ∀ w ∈ wsX40, w ∈ wsL_law := fun _ h => List.mem_append_left _ (List.mem_append_left _ (List.mem_append_left _ (List.mem_append_right _ h)))
theorem inlX5 : ∀ w ∈ wsX50, w ∈ wsL_law := fun _ h => List.mem_append_left _ (List.mem_append_left _ (List.mem_append_left _ (List.mem_append_left _ (List.mem_append_right _ h))))
theorem inlX6 : ∀ w ∈ wsX60, w ∈ wsL_law := fun _ h => List.mem_append_left _ (List.mem_append_left _ (List.mem_append_left _ (List.mem_append_left _ (List.mem_append_left _ (List.mem_append_left _ (List.mem_append_left _ (List.mem_append_left _ (List.mem_append_right _ h))))))))
theorem inlX7 : ∀ w ∈ wsX70, w ∈ wsL_law := fun _ h => List.mem_append_left _ (List.mem_append_left _ (List.mem_append_left _ (List.mem_append_left _ (List.mem_append_left _ (List.mem_append_left _ (List.mem_append_left _ (List.mem_append_right _ h)))))))
theorem inJ6 : ∀ w ∈ wsJ60, w ∈ lw_tbl := by decide +kernel
theorem inJ9 : ∀ w ∈ wsJ90, w ∈ lw_tbl := by decide +kernel
theorem inJ10 : ∀ w ∈ wsJ100, w ∈ lw_tbl := by decide +kernel
theorem inJ7 : ∀ w ∈ wsJ70, w ∈ lw_tbl := by decide +kernel
set_option maxRecDepth 20000 in
theorem ggX0_init_X2_init : GoodIn wsX0_init wsX2_init := goodIn_r _ [13, 14, 2, 3, 15, 16, 17, 18, 24, 25, 26, 27, 28] (by decide +kernel) (by decide +kernel)
set_option maxRecDepth 20000 in
theorem gX0_init_X2_init_n9 : GoodIn wsX0_init (wsX2_init) := ggX0_init_X2_init
set_option maxRecDepth 20000 in
theorem ggX0_init_X1_init : GoodIn wsX0_init wsX1_init := goodIn_r _ [20, 21, 2, 3, 15, 22, 23, 32, 33, 34, 35] (by decide +kernel) (by decide +kernel)
set_option maxRecDepth 20000 in
theorem gX0_init_X1_init_n18 : GoodIn wsX0_init (wsX1_init) := ggX0_init_X1_init
theorem dX0_init_0 : decode cX0_init 0 = .ok (.aload_n 0, 1) := by decide +kernel
theorem dX0_init_1 : decode cX0_init 1 = .ok (.invokespecial 1, 3) := by decide +kernel
theorem dX0_init_4 : decode cX0_init 4 = .ok (.aload_n 0, 1) := by decide +kernel
theorem dX0_init_5 : decode cX0_init 5 = .ok (.new 7, 3) := by decide +kernel
theorem dX0_init_8 : decode cX0_init 8 = .ok (.dup, 1) := by decide +kernel
theorem dX0_init_9 : decode cX0_init 9 = .ok (.invokespecial 9, 3) := by decide +kernel
theorem dX0_init_12 : decode cX0_init 12 = .ok (.putfield 10, 3) := by decide +kernel
theorem dX0_init_15 : decode cX0_init 15 = .ok (.aload_n 0, 1) := by decide +kernel
theorem dX0_init_16 : decode cX0_init 16 = .ok (.new 16, 3) := by decide +kernel
theorem dX0_init_19 : decode cX0_init 19 = .ok (.dup, 1) := by decide +kernel
theorem dX0_init_20 : decode cX0_init 20 = .ok (.invokespecial 18, 3) := by decide +kernel
theorem dX0_init_23 : decode cX0_init 23 = .ok (.putfield 19, 3) := by decide +kernel
theorem dX0_init_26 : decode cX0_init 26 = .ok (.return_, 1) := by decide +kernel
set_option maxRecDepth 20000 in
theorem ggX0_copyFrom_X2_copyFrom : GoodIn wsX0_copyFrom wsX2_copyFrom := goodIn_r _ [8, 9, 10, 11, 12, 13, 14, 15, 16, 17, 31, 32, 33, 34, 35] (by decide +kernel) (by decide +kernel)
set_option maxRecDepth 20000 in
theorem gX0_copyFrom_X2_copyFrom : GoodIn wsX0_copyFrom (wsV RX0 23 RX2 yX2_copyFrom wsX2_copyFrom) := goodIn_app (goodIn_of _ (by decide +kernel)) ggX0_copyFrom_X2_copyFrom
set_option maxRecDepth 20000 in
theorem ggX0_copyFrom_X1_copyFrom : GoodIn wsX0_copyFrom wsX1_copyFrom := goodIn_r _ [22, 23, 24, 25, 26, 13, 14, 15, 27, 36, 37, 38, 39] (by decide +kernel) (by decide +kernel)
set_option maxRecDepth 20000 in
theorem gX0_copyFrom_X1_copyFrom : GoodIn wsX0_copyFrom (wsV RX0 27 RX1 yX1_copyFrom wsX1_copyFrom) := goodIn_app (goodIn_of _ (by decide +kernel)) ggX0_copyFrom_X1_copyFrom
theorem dX0_copyFrom_0 : decode cX0_copyFrom 0 = .ok (.aload_n 0, 1) := by decide +kernel
theorem dX0_copyFrom_1 : decode cX0_copyFrom 1 = .ok (.getfield 10, 3) := by decide +kernel
theorem dX0_copyFrom_4 : decode cX0_copyFrom 4 = .ok (.aload_n 1, 1) := by decide +kernel
theorem dX0_copyFrom_5 : decode cX0_copyFrom 5 = .ok (.getfield 10, 3) := by decide +kernel
theorem dX0_copyFrom_8 : decode cX0_copyFrom 8 = .ok (.invokevirtual 23, 3) := by decide +kernel
theorem dX0_copyFrom_11 : decode cX0_copyFrom 11 = .ok (.aload_n 0, 1) := by decide +kernel
theorem dX0_copyFrom_12 : decode cX0_copyFrom 12 = .ok (.getfield 19, 3) := by decide +kernel
theorem dX0_copyFrom_15 : decode cX0_copyFrom 15 = .ok (.aload_n 1, 1) := by decide +kernel
theorem dX0_copyFrom_16 : decode cX0_copyFrom 16 = .ok (.getfield 19, 3) := by decide +kernel
theorem dX0_copyFrom_19 : decode cX0_copyFrom 19 = .ok (.invokevirtual 27, 3) := by decide +kernel
theorem dX0_copyFrom_22 : decode cX0_copyFrom 22 = .ok (.aload_n 0, 1) := by decide +kernel
theorem dX0_copyFrom_23 : decode cX0_copyFrom 23 = .ok (.aload_n 1, 1) := by decide +kernel
theorem dX0_copyFrom_24 : decode cX0_copyFrom 24 = .ok (.getfield 30, 3) := by decide +kernel
theorem dX0_copyFrom_27 : decode cX0_copyFrom 27 = .ok (.putfield 30, 3) := by decide +kernel
theorem dX0_copyFrom_30 : decode cX0_copyFrom 30 = .ok (.return_, 1) := by decide +kernel
theorem dX1_init_0 : decode cX1_init 0 = .ok (.aload_n 0, 1) := by decide +kernel
theorem dX1_init_1 : decode cX1_init 1 = .ok (.invokespecial 3, 3) := by decide +kernel
theorem dX1_init_4 : decode cX1_init 4 = .ok (.aload_n 0, 1) := by decide +kernel
theorem dX1_init_5 : decode cX1_init 5 = .ok (.sipush 256, 3) := by decide +kernel
theorem dX1_init_8 : decode cX1_init 8 = .ok (.newarray .int, 2) := by decide +kernel
theorem dX1_init_10 : decode cX1_init 10 = .ok (.putfield 9, 3) := by decide +kernel
theorem dX1_init_13 : decode cX1_init 13 = .ok (.aload_n 0, 1) := by decide +kernel
theorem dX1_init_14 : decode cX1_init 14 = .ok (.bipush 16, 2) := by decide +kernel
theorem dX1_init_16 : decode cX1_init 16 = .ok (.newarray .int, 2) := by decide +kernel
theorem dX1_init_18 : decode cX1_init 18 = .ok (.putfield 15, 3) := by decide +kernel
theorem dX1_init_21 : decode cX1_init 21 = .ok (.return_, 1) := by decide +kernel
set_option maxRecDepth 20000 in
theorem ggX1_putAway_X1_open : GoodIn wsX1_putAway wsX1_open := goodIn_r _ [6, 1, 7, 8, 9, 10, 11, 12, 13, 14, 15, 16, 17] (by decide +kernel) (by decide +kernel)
set_option maxRecDepth 20000 in
theorem gX1_putAway_X1_open : GoodIn wsX1_putAway (wsV RX1 18 RX1 yX1_open wsX1_open) := goodIn_app (goodIn_of _ (by decide +kernel)) ggX1_putAway_X1_open
theorem dX1_putAway_0 : decode cX1_putAway 0 = .ok (.aload_n 0, 1) := by decide +kernel
theorem dX1_putAway_1 : decode cX1_putAway 1 = .ok (.iconst 0, 1) := by decide +kernel
theorem dX1_putAway_2 : decode cX1_putAway 2 = .ok (.invokevirtual 18, 3) := by decide +kernel
theorem dX1_putAway_5 : decode cX1_putAway 5 = .ok (.aload_n 0, 1) := by decide +kernel
theorem dX1_putAway_6 : decode cX1_putAway 6 = .ok (.iconst 0, 1) := by decide +kernel
theorem dX1_putAway_7 : decode cX1_putAway 7 = .ok (.putfield 22, 3) := by decide +kernel
theorem dX1_putAway_10 : decode cX1_putAway 10 = .ok (.return_, 1) := by decide +kernel
set_option maxRecDepth 20000 in
theorem ggX1_open_J7_fill_53178 : GoodIn wsX1_open wsJ7_fill_53178 := goodIn_r _ [8] (by decide +kernel) (by decide +kernel)
set_option maxRecDepth 20000 in
theorem gX1_open_J7_fill_53178 : GoodIn wsX1_open (va_wsS RX1 30 yJ7_fill_53178 wsJ7_fill_53178) := goodIn_app (goodIn_of _ (by decide +kernel)) ggX1_open_J7_fill_53178
theorem dX1_open_0 : decode cX1_open 0 = .ok (.aload_n 0, 1) := by decide +kernel
theorem dX1_open_1 : decode cX1_open 1 = .ok (.iconst 1, 1) := by decide +kernel
theorem dX1_open_2 : decode cX1_open 2 = .ok (.putfield 22, 3) := by decide +kernel
theorem dX1_open_5 : decode cX1_open 5 = .ok (.aload_n 0, 1) := by decide +kernel
theorem dX1_open_6 : decode cX1_open 6 = .ok (.iload_n 1, 1) := by decide +kernel
theorem dX1_open_7 : decode cX1_open 7 = .ok (.putfield 26, 3) := by decide +kernel
theorem dX1_open_10 : decode cX1_open 10 = .ok (.aload_n 0, 1) := by decide +kernel
theorem dX1_open_11 : decode cX1_open 11 = .ok (.getfield 9, 3) := by decide +kernel
theorem dX1_open_14 : decode cX1_open 14 = .ok (.iconst 0, 1) := by decide +kernel
theorem dX1_open_15 : decode cX1_open 15 = .ok (.invokestatic 30, 3) := by decide +kernel
theorem dX1_open_18 : decode cX1_open 18 = .ok (.aload_n 0, 1) := by decide +kernel
theorem dX1_open_19 : decode cX1_open 19 = .ok (.getfield 15, 3) := by decide +kernel
theorem dX1_open_22 : decode cX1_open 22 = .ok (.iconst 0, 1) := by decide +kernel
theorem dX1_open_23 : decode cX1_open 23 = .ok (.invokestatic 30, 3) := by decide +kernel
theorem dX1_open_26 : decode cX1_open 26 = .ok (.return_, 1) := by decide +kernel
set_option maxRecDepth 20000 in
theorem ggX1_change_X6_contains : GoodIn wsX1_change wsX6_contains := goodIn_r _ [5] (by decide +kernel) (by decide +kernel)
set_option maxRecDepth 20000 in
theorem gX1_change_X6_contains_n36 : GoodIn wsX1_change (wsX6_contains) := ggX1_change_X6_contains
abbrev vwCl : List vw_C := [(RX0, TX0, 3), (RX1, TX1, 4), (RX2, TX2, 5), (RX3, TX3, 3), (RX4, TX4, 10), (RX5, TX5, 5), (RX6, TX6, 5), (RX7, TX7, 34)]
end
section
/-! rows of the kit in one form: a context K, a world ws, a place pc, known places of the frame vs, a stack st -/
abbrev XK : Type := Program × Env × Room × State × MethodId × Array Value × List Frame × Method × Code × (Nat → Prop) × Nat × (State → Prop)
def xT (cs : Nat → ClassId) : List (ClassId × FieldType) := [(cs 0, .int), (cs 1, .boolean), (cs 2, .object "NetBorders$Bench")]
def xNest : List Cond := [.methodLinkNest "NetBorders" 9 ⟨"NetBorders$Bench", "<init>", "()V"⟩ "NetBorders", .methodLinkNest "NetBorders$Bench" 9 ⟨"NetBorders$Net", "<init>", "()V"⟩ "NetBorders", .methodLinkNest "NetBorders$Bench" 18 ⟨"NetBorders$Family", "<init>", "()V"⟩ "NetBorders", .methodLinkNest "NetBorders" 22 ⟨"NetBorders$Paths", "<init>", "()V"⟩ "NetBorders", .methodLinkNest "NetBorders" 29 ⟨"NetBorders$Sides", "<init>", "()V"⟩ "NetBorders", .methodLinkNest "NetBorders" 36 ⟨"NetBorders$Search", "<init>", "()V"⟩ "NetBorders", .methodLinkNest "NetBorders$Paths" 34 ⟨"NetBorders", "contains", "(II)Z"⟩ "NetBorders", .methodLinkNest "NetBorders$Search" 51 ⟨"NetBorders", "contains", "(II)Z"⟩ "NetBorders", .methodLinkNest "NetBorders$Search" 102 ⟨"NetBorders", "sumOver", "([II)I"⟩ "NetBorders", .methodLinkNest "NetBorders$Family" 36 ⟨"NetBorders", "contains", "(II)Z"⟩ "NetBorders", .methodLinkNest "NetBorders$Net" 40 ⟨"NetBorders", "contains", "(II)Z"⟩ "NetBorders"]
def XN (U : State) : Prop := ∀ w ∈ xNest, va_Nw w U
theorem XN.same {u U : State} (h : u.vm = U.vm) (hN : XN u) : XN U := by
  intro w hw
  have hh := hN w hw
  simp only [xNest, List.mem_cons, List.not_mem_nil, or_false] at hw
  rcases hw with rfl | rfl | rfl | rfl | rfl | rfl | rfl | rfl | rfl | rfl | rfl <;> exact va_Nw.same rfl h hh
theorem XN.warm {s U : State} (hW : s.WarmedH U.vm) (hN : XN s) : XN U := by
  intro w hw
  have hh := hN w hw
  simp only [xNest, List.mem_cons, List.not_mem_nil, or_false] at hw
  rcases hw with rfl | rfl | rfl | rfl | rfl | rfl | rfl | rfl | rfl | rfl | rfl <;> exact va_Nw.warmM hW hh
def XW (l : Launch) (D : va_G) (K : XK) (cells slots : Nat) (ws : va_W) (pc : Nat) (vs : List (Nat × Value)) (st : List Value) : Prop :=
  match K with
  | (p, e, R, s, m, args, below, meth, c, A, nL, Q) => ∀ (H : Heap) (locs : List Loc) (ls : Array Slot), va_P D vwCl ws H → va_D A ws → va_S A s.heap H locs → lv_has ls nL vs → W p l e R s m args below meth c H locs cells slots Q (F0 m pc ls st)
def XC (D : va_G) (cs : Nat → ClassId) (K : XK) (nL : Nat) (R : Room) (cc : ByteArray) (own : String) (Ts : List Cond) (rt : Option FieldType) : Prop :=
  match K with
  | (p, _, R0, s, m, args, _, meth, c, A, nL0, _) => p.tables.exec = Jvm.exec ∧ c.code = cc ∧ c.maxLocals = nL0 ∧ s.vm.findClass own = some m.cls ∧ (∀ w ∈ Ts, w.before args s = true) ∧ va_K D vwCl (xT cs) s ∧ meth.locks = false ∧ (∀ q, s.heap.size ≤ q → A q) ∧ meth.sig.returnType = rt ∧ XN s ∧ nL0 = nL ∧ R0 = R
def jshl (x y : Int32) : Int32 := x <<< (y &&& 31)
def jshr (x y : Int32) : Int32 := x >>> (y &&& 31)
def jushr (x y : Int32) : Int32 := (x.toUInt32 >>> (y.toUInt32 &&& Int32.toUInt32 31)).toInt32
def jrem (x y : Int32) : Int32 := x - x / y * y
def jmin (x y : Int32) : Int32 := if y < x then y else x
def jin (i : Int32) (n : Nat) : Bool := decide (0 ≤ i.toInt) && decide (i.toInt < n)
def jix (i : Int32) : Nat := i.toNatClampNeg
def jz (v : Int32) : Bool := decide (v = 0) || decide (v = 1)
def jnz (x : Int32) : Int32 := vp_nar .boolean x
theorem jin_in {i : Int32} {n : Nat} (h : jin i n = true) : vp_in i n := by
  simp only [jin, Bool.and_eq_true, decide_eq_true_eq] at h
  exact vp_in_iff.mpr h
theorem jz_nar {v : Int32} (h : jz v = true) : narrow .boolean (.int v) = .int v := by
  simp only [jz, Bool.or_eq_true, decide_eq_true_eq] at h
  rcases h with rfl | rfl <;> decide
theorem jz_fit {v : Int32} (h : jz v = true) : fits .boolean (.int v) = true := by
  simp only [jz, Bool.or_eq_true, decide_eq_true_eq] at h
  rcases h with rfl | rfl <;> decide
def grd {α : Type} (b : Bool) (t : Option α) : Option α := if b then t else none
theorem grd_some {α : Type} {b : Bool} {t : Option α} {o : α} (h : grd b t = some o) : b = true ∧ t = some o := by
  unfold grd at h
  split at h
  · rename_i q; exact ⟨q, h⟩
  · cases h
def bnd {α β : Type} (x : Option α) (f : α → Option β) : Option β := match x with
  | none => none
  | some a => f a
theorem bnd_some {α β : Type} {x : Option α} {f : α → Option β} {o : β} (h : bnd x f = some o) : ∃ a, x = some a ∧ f a = some o := by
  cases x with
  | none => cases h
  | some a => exact ⟨a, rfl, h⟩
def nam {α β : Type} (x : α) (f : α → Option β) : Option β := f x
/-- a loop: the body says how it goes on, or what comes out -/
def lp {S E : Type} (body : S → Option (S ⊕ E)) : Nat → S → Option E
  | 0, _ => none
  | n + 1, s => match body s with
    | none => none
    | some (.inl s') => lp body n s'
    | some (.inr e) => some e
theorem lp_walk {S E : Type} {body : S → Option (S ⊕ E)} {G : S → Prop} {e : E} (hb : ∀ s o, body s = some o → (∀ s', o = .inl s' → G s') → (∀ e', o = .inr e' → e' = e) → G s) : ∀ n s, lp body n s = some e → G s := by
  intro n
  induction n with
  | zero => intro s h; cases h
  | succ n ih =>
    intro s h
    unfold lp at h
    cases hs : body s with
    | none => rw [hs] at h; cases h
    | some o =>
      rw [hs] at h
      cases o with
      | inl s' => exact hb s _ hs (fun s'' q => by cases q; exact ih s' h) (fun e' q => by cases q)
      | inr e1 =>
        cases h
        exact hb s _ hs (fun s'' q => by cases q) (fun e' q => by cases q; rfl)
theorem X_case {α : Type} {P : Prop} [Decidable P] {t1 t2 : Option α} {o : α} {G : Prop} (h : (if P then t1 else t2) = some o) (k1 : P → t1 = some o → G) (k2 : ¬ P → t2 = some o → G) : G := by
  by_cases q : P
  · rw [if_pos q] at h; exact k1 q h
  · rw [if_neg q] at h; exact k2 q h
def XPre (D : va_G) (cs : Nat → ClassId) (w0 : va_W) (sz : Nat) : State → Prop := fun U => U.heap.size = sz ∧ va_P D vwCl w0 U.heap ∧ va_K D vwCl (xT cs) U ∧ va_D (fun _ => True) w0 ∧ XN U
def XB (D : va_G) (cs : Nat → ClassId) (A : Nat → Prop) (w1 : va_W) : Unit → State → Prop := fun _ t => va_P D vwCl w1 t.heap ∧ va_K D vwCl (xT cs) t ∧ va_D A w1
/-- a contract: from the world w0 the method answers r and leaves the world w1 -/
def CTi (l : Launch) (D : va_G) (cs : Nat → ClassId) (y : MethodName) (wds : List Cond) (rm : Room) (av : List Value) (w0 : va_W) (r : Int32) (w1 : va_W) : Prop :=
  ∀ sz, Met l y wds rm (va_Pc av (XPre D cs w0 sz)) (va_Qi (fun r' (_ : Unit) => r' = r) (XB D cs (va_A w0 sz) w1) (va_A w0 sz)) 0 0 (va_A w0 sz)
def CTv (l : Launch) (D : va_G) (cs : Nat → ClassId) (y : MethodName) (wds : List Cond) (rm : Room) (av : List Value) (w0 : va_W) (w1 : va_W) : Prop :=
  ∀ sz, Met l y wds rm (va_Pc av (XPre D cs w0 sz)) (va_Qv (fun (_ : Unit) => True) (XB D cs (va_A w0 sz) w1) (va_A w0 sz)) 0 0 (va_A w0 sz)
/-- how it may leave -/
def XRi (l : Launch) (D : va_G) (K : XK) (cc : ByteArray) (r : Int32) (w1 : va_W) : Prop := ∀ pc vs, decode cc pc = .ok (.ireturn, 1) → XW l D K 0 0 w1 pc vs [.int r]
def XRz (l : Launch) (D : va_G) (K : XK) (cc : ByteArray) (r : Int32) (w1 : va_W) : Prop := ∀ pc vs, jz r = true → decode cc pc = .ok (.ireturn, 1) → XW l D K 0 0 w1 pc vs [.int r]
def XRv (l : Launch) (D : va_G) (K : XK) (cc : ByteArray) (w1 : va_W) : Prop := ∀ pc vs, decode cc pc = .ok (.return_, 1) → XW l D K 0 0 w1 pc vs []
set_option maxHeartbeats 1000000 in
theorem CTi_of {l : Launch} {D : va_G} {cs : Nat → ClassId} {y : MethodName} {wds wds' : List Cond} {rm : Room} {av : List Value} {w0 w1 : va_W} {r : Int32} {cc : ByteArray} {nL : Nat} (hy : plainName y.cls = true) (hw : wds = Cond.code y cc nL (some .int) :: wds') (hlen : (lg_sl av).length ≤ nL)
    (body : ∀ K : XK, XC D cs K nL rm cc y.cls wds (some .int) → XRi l D K cc r w1 → XW l D K 0 0 w0 0 (lv_args 0 av) []) : CTi l D cs y wds rm av w0 r w1 := by
  intro sz
  refine Met.ofW (cc := cc) (maxL := nL) (ret := some .int) hy hw ?_
  intro p e s m args below meth c s₁ B hml hv
  obtain ⟨rfl, hsz, hP, hK, hD0, hN⟩ := hv
  have hlocks := B.notSynchronized
  subst hsz
  have hD := hD0.self (sz := s.heap.size)
  have hA : ∀ q : Nat, s.heap.size ≤ q → va_A w0 s.heap.size q := fun q h => Or.inr h
  have hl := lv_entry av hlen
  rw [lg_entry_eq]
  refine body (p, e, rm, s, m, av.toArray, below, meth, c, va_A w0 s.heap.size, nL, MQ below (va_Qi (fun r' (_ : Unit) => r' = r) (XB D cs (va_A w0 s.heap.size) w1) (va_A w0 s.heap.size)) av.toArray s 0 0 (va_A w0 s.heap.size)) ⟨B.exec, B.bytes, hml, findClass_of_methodNamed B.named, atoms_spec (ws := wds) B.pre, hK, hlocks, hA, B.returns, hN, rfl, rfl⟩ ?_ s.heap [] _ hP hD va_S.rf hl
  intro pc vs hd H locs ls hP1 hD1 hS1 _
  exact W.iret (v := r) B.exec B.bytes B.returns (fun t ht hW => ⟨⟨r, (), rfl, rfl, by rw [ht]; exact hP1, va_K.moved hW.alike hK, hD1⟩, hS1.F ht⟩) hS1.2.2 hd
set_option maxHeartbeats 1000000 in
theorem CTz_of {l : Launch} {D : va_G} {cs : Nat → ClassId} {y : MethodName} {wds wds' : List Cond} {rm : Room} {av : List Value} {w0 w1 : va_W} {r : Int32} {cc : ByteArray} {nL : Nat} (hy : plainName y.cls = true) (hw : wds = Cond.code y cc nL (some .boolean) :: wds') (hlen : (lg_sl av).length ≤ nL)
    (body : ∀ K : XK, XC D cs K nL rm cc y.cls wds (some .boolean) → XRz l D K cc r w1 → XW l D K 0 0 w0 0 (lv_args 0 av) []) : CTi l D cs y wds rm av w0 r w1 := by
  intro sz
  refine Met.ofW (cc := cc) (maxL := nL) (ret := some .boolean) hy hw ?_
  intro p e s m args below meth c s₁ B hml hv
  obtain ⟨rfl, hsz, hP, hK, hD0, hN⟩ := hv
  have hlocks := B.notSynchronized
  subst hsz
  have hD := hD0.self (sz := s.heap.size)
  have hA : ∀ q : Nat, s.heap.size ≤ q → va_A w0 s.heap.size q := fun q h => Or.inr h
  have hl := lv_entry av hlen
  rw [lg_entry_eq]
  refine body (p, e, rm, s, m, av.toArray, below, meth, c, va_A w0 s.heap.size, nL, MQ below (va_Qi (fun r' (_ : Unit) => r' = r) (XB D cs (va_A w0 s.heap.size) w1) (va_A w0 s.heap.size)) av.toArray s 0 0 (va_A w0 s.heap.size)) ⟨B.exec, B.bytes, hml, findClass_of_methodNamed B.named, atoms_spec (ws := wds) B.pre, hK, hlocks, hA, B.returns, hN, rfl, rfl⟩ ?_ s.heap [] _ hP hD va_S.rf hl
  intro pc vs hz hd H locs ls hP1 hD1 hS1 _
  exact W.zret (v := r) B.exec B.bytes B.returns (jz_nar hz) (fun t ht hW => ⟨⟨r, (), rfl, rfl, by rw [ht]; exact hP1, va_K.moved hW.alike hK, hD1⟩, hS1.F ht⟩) hS1.2.2 hd
set_option maxHeartbeats 1000000 in
theorem CTv_of {l : Launch} {D : va_G} {cs : Nat → ClassId} {y : MethodName} {wds wds' : List Cond} {rm : Room} {av : List Value} {w0 w1 : va_W} {cc : ByteArray} {nL : Nat} (hy : plainName y.cls = true) (hw : wds = Cond.code y cc nL none :: wds') (hlen : (lg_sl av).length ≤ nL)
    (body : ∀ K : XK, XC D cs K nL rm cc y.cls wds none → XRv l D K cc w1 → XW l D K 0 0 w0 0 (lv_args 0 av) []) : CTv l D cs y wds rm av w0 w1 := by
  intro sz
  refine Met.ofW (cc := cc) (maxL := nL) (ret := none) hy hw ?_
  intro p e s m args below meth c s₁ B hml hv
  obtain ⟨rfl, hsz, hP, hK, hD0, hN⟩ := hv
  have hlocks := B.notSynchronized
  subst hsz
  have hD := hD0.self (sz := s.heap.size)
  have hA : ∀ q : Nat, s.heap.size ≤ q → va_A w0 s.heap.size q := fun q h => Or.inr h
  have hl := lv_entry av hlen
  rw [lg_entry_eq]
  refine body (p, e, rm, s, m, av.toArray, below, meth, c, va_A w0 s.heap.size, nL, MQ below (va_Qv (fun (_ : Unit) => True) (XB D cs (va_A w0 s.heap.size) w1) (va_A w0 s.heap.size)) av.toArray s 0 0 (va_A w0 s.heap.size)) ⟨B.exec, B.bytes, hml, findClass_of_methodNamed B.named, atoms_spec (ws := wds) B.pre, hK, hlocks, hA, B.returns, hN, rfl, rfl⟩ ?_ s.heap [] _ hP hD va_S.rf hl
  intro pc vs hd H locs ls hP1 hD1 hS1 _
  exact W.vret B.exec B.bytes B.returns (fun t ht hW => ⟨⟨(), rfl, trivial, by rw [ht]; exact hP1, va_K.moved hW.alike hK, hD1⟩, hS1.F ht⟩) hS1.2.2 hd
section XROWS
variable {l : Launch} {D : va_G} {cs : Nat → ClassId} {K : XK} {nL : Nat} {R : Room} {cc : ByteArray} {own : String} {Ts : List Cond} {rt : Option FieldType} {cells slots pc : Nat} {ws : va_W} {vs : List (Nat × Value)} {st : List Value}
theorem X_iconst (C : XC D cs K nL R cc own Ts rt) {n : Int} {v : Int32} (hv : Int32.ofInt n = v) (hd : decode cc pc = .ok (.iconst n, 1)) (k : XW l D K cells slots ws (pc + 1) vs (.int v :: st)) : XW l D K cells slots ws pc vs (st) := by
  obtain ⟨p, e, R0, s, m, args, below, meth, c, A, nL0, Q⟩ := K
  intro H locs ls hP hD hS hl
  exact lv_iconst C.1 C.2.1 hd hv (k H locs ls hP hD hS hl)
theorem X_bipush (C : XC D cs K nL R cc own Ts rt) {n : Int} {v : Int32} (hv : (Int8.ofInt n).toInt32 = v) (hd : decode cc pc = .ok (.bipush n, 2)) (k : XW l D K cells slots ws (pc + 2) vs (.int v :: st)) : XW l D K cells slots ws pc vs (st) := by
  obtain ⟨p, e, R0, s, m, args, below, meth, c, A, nL0, Q⟩ := K
  intro H locs ls hP hD hS hl
  exact lv_bipush C.1 C.2.1 hd hv (k H locs ls hP hD hS hl)
theorem X_sipush (C : XC D cs K nL R cc own Ts rt) {n : Int} {v : Int32} (hv : (Int16.ofInt n).toInt32 = v) (hd : decode cc pc = .ok (.sipush n, 3)) (k : XW l D K cells slots ws (pc + 3) vs (.int v :: st)) : XW l D K cells slots ws pc vs (st) := by
  obtain ⟨p, e, R0, s, m, args, below, meth, c, A, nL0, Q⟩ := K
  intro H locs ls hP hD hS hl
  exact lv_sipush C.1 C.2.1 hd hv (k H locs ls hP hD hS hl)
theorem X_lconst (C : XC D cs K nL R cc own Ts rt) {n : Fin 2} {v : Int64} (hv : Int64.ofNat (n : Nat) = v) (hd : decode cc pc = .ok (.lconst n, 1)) (k : XW l D K cells slots ws (pc + 1) vs (.long v :: st)) : XW l D K cells slots ws pc vs (st) := by
  obtain ⟨p, e, R0, s, m, args, below, meth, c, A, nL0, Q⟩ := K
  intro H locs ls hP hD hS hl
  exact lv_lconst C.1 C.2.1 hd hv (k H locs ls hP hD hS hl)
theorem X_ldc (C : XC D cs K nL R cc own Ts rt) {index : Nat} {v : Int32} (hc : Cond.constant own index v ∈ Ts) (hd : decode cc pc = .ok (.ldc index, 2)) (k : XW l D K cells slots ws (pc + 2) vs (.int v :: st)) : XW l D K cells slots ws pc vs st := by
  obtain ⟨p, e, R0, s, m, args, below, meth, c, A, nL0, Q⟩ := K
  intro H locs ls hP hD hS hl
  exact lv_ldc C.1 C.2.1 C.2.2.2.1 (C.2.2.2.2.1 _ hc) hd (k H locs ls hP hD hS hl)
theorem X_ldcw (C : XC D cs K nL R cc own Ts rt) {index : Nat} {v : Int32} (hc : Cond.constant own index v ∈ Ts) (hd : decode cc pc = .ok (.ldc_w index, 3)) (k : XW l D K cells slots ws (pc + 3) vs (.int v :: st)) : XW l D K cells slots ws pc vs st := by
  obtain ⟨p, e, R0, s, m, args, below, meth, c, A, nL0, Q⟩ := K
  intro H locs ls hP hD hS hl
  exact lv_ldcw C.1 C.2.1 C.2.2.2.1 (C.2.2.2.2.1 _ hc) hd (k H locs ls hP hD hS hl)
theorem X_ldc2 (C : XC D cs K nL R cc own Ts rt) {index : Nat} {v : Int64} (hc : Cond.constantLong own index v ∈ Ts) (hd : decode cc pc = .ok (.ldc2_w index, 3)) (k : XW l D K cells slots ws (pc + 3) vs (.long v :: st)) : XW l D K cells slots ws pc vs st := by
  obtain ⟨p, e, R0, s, m, args, below, meth, c, A, nL0, Q⟩ := K
  intro H locs ls hP hD hS hl
  exact lv_ldc2 C.1 C.2.1 C.2.2.2.1 (C.2.2.2.2.1 _ hc) hd (k H locs ls hP hD hS hl)
theorem X_iload_n (C : XC D cs K nL R cc own Ts rt) {k : Fin 4} {i : Nat} {x : Int32} (j : Nat) (hj : vs[j]? = some (i, .int x)) (hi : (k : Nat) = i) (hd : decode cc pc = .ok (.iload_n k, 1)) (kk : XW l D K cells slots ws (pc + 1) vs (.int x :: st)) : XW l D K cells slots ws pc vs st := by
  obtain ⟨p, e, R0, s, m, args, below, meth, c, A, nL0, Q⟩ := K
  intro H locs ls hP hD hS hl
  exact lv_iload_n C.1 C.2.1 hd hi (lv_at hl j hj) (kk H locs ls hP hD hS hl)
theorem X_iload (C : XC D cs K nL R cc own Ts rt) {i : Nat} {x : Int32} (j : Nat) (hj : vs[j]? = some (i, .int x)) (hd : decode cc pc = .ok (.iload i, 2)) (kk : XW l D K cells slots ws (pc + 2) vs (.int x :: st)) : XW l D K cells slots ws pc vs st := by
  obtain ⟨p, e, R0, s, m, args, below, meth, c, A, nL0, Q⟩ := K
  intro H locs ls hP hD hS hl
  exact lv_iload C.1 C.2.1 hd (lv_at hl j hj) (kk H locs ls hP hD hS hl)
theorem X_aload_n (C : XC D cs K nL R cc own Ts rt) {k : Fin 4} {i : Nat} {x : Nat} (j : Nat) (hj : vs[j]? = some (i, .ref x)) (hi : (k : Nat) = i) (hd : decode cc pc = .ok (.aload_n k, 1)) (kk : XW l D K cells slots ws (pc + 1) vs (.ref x :: st)) : XW l D K cells slots ws pc vs st := by
  obtain ⟨p, e, R0, s, m, args, below, meth, c, A, nL0, Q⟩ := K
  intro H locs ls hP hD hS hl
  exact lv_aload_n C.1 C.2.1 hd hi (lv_at hl j hj) (kk H locs ls hP hD hS hl)
theorem X_aload (C : XC D cs K nL R cc own Ts rt) {i : Nat} {x : Nat} (j : Nat) (hj : vs[j]? = some (i, .ref x)) (hd : decode cc pc = .ok (.aload i, 2)) (kk : XW l D K cells slots ws (pc + 2) vs (.ref x :: st)) : XW l D K cells slots ws pc vs st := by
  obtain ⟨p, e, R0, s, m, args, below, meth, c, A, nL0, Q⟩ := K
  intro H locs ls hP hD hS hl
  exact lv_aload C.1 C.2.1 hd (lv_at hl j hj) (kk H locs ls hP hD hS hl)
theorem X_lload_n (C : XC D cs K nL R cc own Ts rt) {k : Fin 4} {i : Nat} {x : Int64} (j : Nat) (hj : vs[j]? = some (i, .long x)) (hi : (k : Nat) = i) (hd : decode cc pc = .ok (.lload_n k, 1)) (kk : XW l D K cells slots ws (pc + 1) vs (.long x :: st)) : XW l D K cells slots ws pc vs st := by
  obtain ⟨p, e, R0, s, m, args, below, meth, c, A, nL0, Q⟩ := K
  intro H locs ls hP hD hS hl
  exact lv_lload_n C.1 C.2.1 hd hi (lv_at hl j hj) (kk H locs ls hP hD hS hl)
theorem X_lload (C : XC D cs K nL R cc own Ts rt) {i : Nat} {x : Int64} (j : Nat) (hj : vs[j]? = some (i, .long x)) (hd : decode cc pc = .ok (.lload i, 2)) (kk : XW l D K cells slots ws (pc + 2) vs (.long x :: st)) : XW l D K cells slots ws pc vs st := by
  obtain ⟨p, e, R0, s, m, args, below, meth, c, A, nL0, Q⟩ := K
  intro H locs ls hP hD hS hl
  exact lv_lload C.1 C.2.1 hd (lv_at hl j hj) (kk H locs ls hP hD hS hl)
theorem X_istore_n (C : XC D cs K nL R cc own Ts rt) {k : Fin 4} {i : Nat} {x : Int32} {vs1 : List (Nat × Value)} (hi : (k : Nat) = i) (hn : i < nL) (hv : (i, Value.int x) :: vs.filter (fun q => !(q.1 == i) && !(q.1 + 1 == i && q.2.category == 2)) = vs1) (hd : decode cc pc = .ok (.istore_n k, 1)) (kk : XW l D K cells slots ws (pc + 1) vs1 st) : XW l D K cells slots ws pc vs (.int x :: st) := by
  obtain ⟨p, e, R0, s, m, args, below, meth, c, A, nL0, Q⟩ := K
  intro H locs ls hP hD hS hl
  exact lv_istore_n C.1 C.2.1 hd hi hl (by rw [C.2.2.2.2.2.2.2.2.2.2.1]; exact hn) hv (fun ls hl => kk H locs ls hP hD hS hl)
theorem X_istore (C : XC D cs K nL R cc own Ts rt) {i : Nat} {x : Int32} {vs1 : List (Nat × Value)} (hn : i < nL) (hv : (i, Value.int x) :: vs.filter (fun q => !(q.1 == i) && !(q.1 + 1 == i && q.2.category == 2)) = vs1) (hd : decode cc pc = .ok (.istore i, 2)) (kk : XW l D K cells slots ws (pc + 2) vs1 st) : XW l D K cells slots ws pc vs (.int x :: st) := by
  obtain ⟨p, e, R0, s, m, args, below, meth, c, A, nL0, Q⟩ := K
  intro H locs ls hP hD hS hl
  exact lv_istore C.1 C.2.1 hd hl (by rw [C.2.2.2.2.2.2.2.2.2.2.1]; exact hn) hv (fun ls hl => kk H locs ls hP hD hS hl)
theorem X_astore_n (C : XC D cs K nL R cc own Ts rt) {k : Fin 4} {i : Nat} {x : Nat} {vs1 : List (Nat × Value)} (hi : (k : Nat) = i) (hn : i < nL) (hv : (i, Value.ref x) :: vs.filter (fun q => !(q.1 == i) && !(q.1 + 1 == i && q.2.category == 2)) = vs1) (hd : decode cc pc = .ok (.astore_n k, 1)) (kk : XW l D K cells slots ws (pc + 1) vs1 st) : XW l D K cells slots ws pc vs (.ref x :: st) := by
  obtain ⟨p, e, R0, s, m, args, below, meth, c, A, nL0, Q⟩ := K
  intro H locs ls hP hD hS hl
  exact lv_astore_n C.1 C.2.1 hd hi hl (by rw [C.2.2.2.2.2.2.2.2.2.2.1]; exact hn) hv (fun ls hl => kk H locs ls hP hD hS hl)
theorem X_astore (C : XC D cs K nL R cc own Ts rt) {i : Nat} {x : Nat} {vs1 : List (Nat × Value)} (hn : i < nL) (hv : (i, Value.ref x) :: vs.filter (fun q => !(q.1 == i) && !(q.1 + 1 == i && q.2.category == 2)) = vs1) (hd : decode cc pc = .ok (.astore i, 2)) (kk : XW l D K cells slots ws (pc + 2) vs1 st) : XW l D K cells slots ws pc vs (.ref x :: st) := by
  obtain ⟨p, e, R0, s, m, args, below, meth, c, A, nL0, Q⟩ := K
  intro H locs ls hP hD hS hl
  exact lv_astore C.1 C.2.1 hd hl (by rw [C.2.2.2.2.2.2.2.2.2.2.1]; exact hn) hv (fun ls hl => kk H locs ls hP hD hS hl)
theorem X_lstore (C : XC D cs K nL R cc own Ts rt) {i : Nat} {x : Int64} {vs1 : List (Nat × Value)} (hn : i + 1 < nL) (hv : (i, Value.long x) :: vs.filter (fun q => !(q.1 == i) && (!(q.1 == i + 1) && !(q.1 + 1 == i && q.2.category == 2))) = vs1) (hd : decode cc pc = .ok (.lstore i, 2)) (kk : XW l D K cells slots ws (pc + 2) vs1 st) : XW l D K cells slots ws pc vs (.long x :: st) := by
  obtain ⟨p, e, R0, s, m, args, below, meth, c, A, nL0, Q⟩ := K
  intro H locs ls hP hD hS hl
  exact lv_lstore C.1 C.2.1 hd hl (by rw [C.2.2.2.2.2.2.2.2.2.2.1]; exact hn) hv (fun ls hl => kk H locs ls hP hD hS hl)
theorem X_iinc (C : XC D cs K nL R cc own Ts rt) {i : Nat} {n : Int} {x v : Int32} {vs1 : List (Nat × Value)} (j : Nat) (hj : vs[j]? = some (i, .int x)) (he : x + Int32.ofInt n = v) (hn : i < nL) (hv : (i, Value.int v) :: vs.filter (fun q => !(q.1 == i) && !(q.1 + 1 == i && q.2.category == 2)) = vs1) (hd : decode cc pc = .ok (.iinc i n, 3)) (kk : XW l D K cells slots ws (pc + 3) vs1 st) : XW l D K cells slots ws pc vs st := by
  obtain ⟨p, e, R0, s, m, args, below, meth, c, A, nL0, Q⟩ := K
  intro H locs ls hP hD hS hl
  exact lv_iinc C.1 C.2.1 hd hl hj he (by rw [C.2.2.2.2.2.2.2.2.2.2.1]; exact hn) hv (fun ls hl => kk H locs ls hP hD hS hl)
theorem X_iadd (C : XC D cs K nL R cc own Ts rt) {x y : Int32}  (hd : decode cc pc = .ok (.iadd, 1)) (k : XW l D K cells slots ws (pc + 1) vs (.int (x + y) :: st)) : XW l D K cells slots ws pc vs (.int y :: .int x :: st) := by
  obtain ⟨p, e, R0, s, m, args, below, meth, c, A, nL0, Q⟩ := K
  intro H locs ls hP hD hS hl
  exact lv_iadd C.1 C.2.1 hd  (k H locs ls hP hD hS hl)
theorem X_isub (C : XC D cs K nL R cc own Ts rt) {x y : Int32}  (hd : decode cc pc = .ok (.isub, 1)) (k : XW l D K cells slots ws (pc + 1) vs (.int (x - y) :: st)) : XW l D K cells slots ws pc vs (.int y :: .int x :: st) := by
  obtain ⟨p, e, R0, s, m, args, below, meth, c, A, nL0, Q⟩ := K
  intro H locs ls hP hD hS hl
  exact lv_isub C.1 C.2.1 hd  (k H locs ls hP hD hS hl)
theorem X_imul (C : XC D cs K nL R cc own Ts rt) {x y : Int32}  (hd : decode cc pc = .ok (.imul, 1)) (k : XW l D K cells slots ws (pc + 1) vs (.int (x * y) :: st)) : XW l D K cells slots ws pc vs (.int y :: .int x :: st) := by
  obtain ⟨p, e, R0, s, m, args, below, meth, c, A, nL0, Q⟩ := K
  intro H locs ls hP hD hS hl
  exact lv_imul C.1 C.2.1 hd  (k H locs ls hP hD hS hl)
theorem X_iand (C : XC D cs K nL R cc own Ts rt) {x y : Int32}  (hd : decode cc pc = .ok (.iand, 1)) (k : XW l D K cells slots ws (pc + 1) vs (.int (x &&& y) :: st)) : XW l D K cells slots ws pc vs (.int y :: .int x :: st) := by
  obtain ⟨p, e, R0, s, m, args, below, meth, c, A, nL0, Q⟩ := K
  intro H locs ls hP hD hS hl
  exact lv_iand C.1 C.2.1 hd  (k H locs ls hP hD hS hl)
theorem X_ior (C : XC D cs K nL R cc own Ts rt) {x y : Int32}  (hd : decode cc pc = .ok (.ior, 1)) (k : XW l D K cells slots ws (pc + 1) vs (.int (x ||| y) :: st)) : XW l D K cells slots ws pc vs (.int y :: .int x :: st) := by
  obtain ⟨p, e, R0, s, m, args, below, meth, c, A, nL0, Q⟩ := K
  intro H locs ls hP hD hS hl
  exact lv_ior C.1 C.2.1 hd  (k H locs ls hP hD hS hl)
theorem X_ixor (C : XC D cs K nL R cc own Ts rt) {x y : Int32}  (hd : decode cc pc = .ok (.ixor, 1)) (k : XW l D K cells slots ws (pc + 1) vs (.int (x ^^^ y) :: st)) : XW l D K cells slots ws pc vs (.int y :: .int x :: st) := by
  obtain ⟨p, e, R0, s, m, args, below, meth, c, A, nL0, Q⟩ := K
  intro H locs ls hP hD hS hl
  exact lv_ixor C.1 C.2.1 hd  (k H locs ls hP hD hS hl)
theorem X_ishl (C : XC D cs K nL R cc own Ts rt) {x y : Int32}  (hd : decode cc pc = .ok (.ishl, 1)) (k : XW l D K cells slots ws (pc + 1) vs (.int (jshl x y) :: st)) : XW l D K cells slots ws pc vs (.int y :: .int x :: st) := by
  obtain ⟨p, e, R0, s, m, args, below, meth, c, A, nL0, Q⟩ := K
  intro H locs ls hP hD hS hl
  exact lv_ishl C.1 C.2.1 hd  (k H locs ls hP hD hS hl)
theorem X_ishr (C : XC D cs K nL R cc own Ts rt) {x y : Int32}  (hd : decode cc pc = .ok (.ishr, 1)) (k : XW l D K cells slots ws (pc + 1) vs (.int (jshr x y) :: st)) : XW l D K cells slots ws pc vs (.int y :: .int x :: st) := by
  obtain ⟨p, e, R0, s, m, args, below, meth, c, A, nL0, Q⟩ := K
  intro H locs ls hP hD hS hl
  exact lv_ishr C.1 C.2.1 hd  (k H locs ls hP hD hS hl)
theorem X_iushr (C : XC D cs K nL R cc own Ts rt) {x y : Int32} (hd : decode cc pc = .ok (.iushr, 1)) (k : XW l D K cells slots ws (pc + 1) vs (.int (jushr x y) :: st)) : XW l D K cells slots ws pc vs (.int y :: .int x :: st) := by
  obtain ⟨p, e, R0, s, m, args, below, meth, c, A, nL0, Q⟩ := K
  intro H locs ls hP hD hS hl
  exact lv_iushr C.1 C.2.1 hd rfl (k H locs ls hP hD hS hl)
theorem X_ineg (C : XC D cs K nL R cc own Ts rt) {x : Int32}  (hd : decode cc pc = .ok (.ineg, 1)) (k : XW l D K cells slots ws (pc + 1) vs (.int (-x) :: st)) : XW l D K cells slots ws pc vs (.int x :: st) := by
  obtain ⟨p, e, R0, s, m, args, below, meth, c, A, nL0, Q⟩ := K
  intro H locs ls hP hD hS hl
  exact lv_ineg C.1 C.2.1 hd  (k H locs ls hP hD hS hl)
theorem X_ladd (C : XC D cs K nL R cc own Ts rt) {x y : Int64}  (hd : decode cc pc = .ok (.ladd, 1)) (k : XW l D K cells slots ws (pc + 1) vs (.long (x + y) :: st)) : XW l D K cells slots ws pc vs (.long y :: .long x :: st) := by
  obtain ⟨p, e, R0, s, m, args, below, meth, c, A, nL0, Q⟩ := K
  intro H locs ls hP hD hS hl
  exact lv_ladd C.1 C.2.1 hd  (k H locs ls hP hD hS hl)
theorem X_lcmp (C : XC D cs K nL R cc own Ts rt) {x y : Int64}  (hd : decode cc pc = .ok (.lcmp, 1)) (k : XW l D K cells slots ws (pc + 1) vs (.int (lg_cmp x y) :: st)) : XW l D K cells slots ws pc vs (.long y :: .long x :: st) := by
  obtain ⟨p, e, R0, s, m, args, below, meth, c, A, nL0, Q⟩ := K
  intro H locs ls hP hD hS hl
  exact W.lcmp C.1 C.2.1 hd  (k H locs ls hP hD hS hl)
theorem X_i2l (C : XC D cs K nL R cc own Ts rt) {x : Int32}  (hd : decode cc pc = .ok (.i2l, 1)) (k : XW l D K cells slots ws (pc + 1) vs (.long (x.toInt64) :: st)) : XW l D K cells slots ws pc vs (.int x :: st) := by
  obtain ⟨p, e, R0, s, m, args, below, meth, c, A, nL0, Q⟩ := K
  intro H locs ls hP hD hS hl
  exact lv_i2l C.1 C.2.1 hd rfl (k H locs ls hP hD hS hl)
theorem X_l2i (C : XC D cs K nL R cc own Ts rt) {x : Int64}  (hd : decode cc pc = .ok (.l2i, 1)) (k : XW l D K cells slots ws (pc + 1) vs (.int (x.toInt32) :: st)) : XW l D K cells slots ws pc vs (.long x :: st) := by
  obtain ⟨p, e, R0, s, m, args, below, meth, c, A, nL0, Q⟩ := K
  intro H locs ls hP hD hS hl
  exact lv_l2i C.1 C.2.1 hd rfl (k H locs ls hP hD hS hl)
theorem X_idiv (C : XC D cs K nL R cc own Ts rt) {x y : Int32} {α : Type} {t : Option α} {o : α} (h : grd (!decide (y = 0)) t = some o) (hd : decode cc pc = .ok (.idiv, 1)) (k : t = some o → XW l D K cells slots ws (pc + 1) vs (.int (x / y) :: st)) : XW l D K cells slots ws pc vs (.int y :: .int x :: st) := by
  obtain ⟨h0, h1⟩ := grd_some h
  obtain ⟨p, e, R0, s, m, args, below, meth, c, A, nL0, Q⟩ := K
  intro H locs ls hP hD hS hl
  exact lv_idiv C.1 C.2.1 hd (by simpa using h0) (k h1 H locs ls hP hD hS hl)
theorem X_irem (C : XC D cs K nL R cc own Ts rt) {x y : Int32} {α : Type} {t : Option α} {o : α} (h : grd (!decide (y = 0)) t = some o) (hd : decode cc pc = .ok (.irem, 1)) (k : t = some o → XW l D K cells slots ws (pc + 1) vs (.int (jrem x y) :: st)) : XW l D K cells slots ws pc vs (.int y :: .int x :: st) := by
  obtain ⟨h0, h1⟩ := grd_some h
  obtain ⟨p, e, R0, s, m, args, below, meth, c, A, nL0, Q⟩ := K
  intro H locs ls hP hD hS hl
  exact lv_irem C.1 C.2.1 hd (by simpa using h0) (k h1 H locs ls hP hD hS hl)
theorem X_dup (C : XC D cs K nL R cc own Ts rt) {v : Value} (hc : v.category = 1) (hd : decode cc pc = .ok (.dup, 1)) (k : XW l D K cells slots ws (pc + 1) vs (v :: v :: st)) : XW l D K cells slots ws pc vs (v :: st) := by
  obtain ⟨p, e, R0, s, m, args, below, meth, c, A, nL0, Q⟩ := K
  intro H locs ls hP hD hS hl
  exact lv_dup C.1 C.2.1 hd hc (k H locs ls hP hD hS hl)
theorem X_pop (C : XC D cs K nL R cc own Ts rt) {v : Value} (hc : v.category = 1) (hd : decode cc pc = .ok (.pop, 1)) (k : XW l D K cells slots ws (pc + 1) vs (st)) : XW l D K cells slots ws pc vs (v :: st) := by
  obtain ⟨p, e, R0, s, m, args, below, meth, c, A, nL0, Q⟩ := K
  intro H locs ls hP hD hS hl
  exact lv_pop C.1 C.2.1 hd hc (k H locs ls hP hD hS hl)
theorem X_dup2 (C : XC D cs K nL R cc own Ts rt) {v w : Value} (hc : v.category = 1) (hc2 : w.category = 1) (hd : decode cc pc = .ok (.dup2, 1)) (k : XW l D K cells slots ws (pc + 1) vs (v :: w :: v :: w :: st)) : XW l D K cells slots ws pc vs (v :: w :: st) := by
  obtain ⟨p, e, R0, s, m, args, below, meth, c, A, nL0, Q⟩ := K
  intro H locs ls hP hD hS hl
  exact lv_dup2_11 C.1 C.2.1 hd hc hc2 (k H locs ls hP hD hS hl)
theorem X_goto (C : XC D cs K nL R cc own Ts rt) {off : Int} {tgt : Nat} (ht : (pc : Int) + off = (tgt : Int)) (hd : decode cc pc = .ok (.goto off, 3)) (k : XW l D K cells slots ws tgt vs st) : XW l D K cells slots ws pc vs st := by
  obtain ⟨p, e, R0, s, m, args, below, meth, c, A, nL0, Q⟩ := K
  intro H locs ls hP hD hS hl
  exact lv_goto C.1 C.2.1 hd ht (k H locs ls hP hD hS hl)
theorem X_ifeq (C : XC D cs K nL R cc own Ts rt) {x : Int32} {α : Type} {t1 t2 : Option α} {o : α} {off : Int} {tgt : Nat} (ht : (pc : Int) + off = (tgt : Int)) (hd : decode cc pc = .ok (.ifCond .eq off, 3)) (h : (if x = 0 then t1 else t2) = some o) (k1 : t1 = some o → XW l D K cells slots ws tgt vs st) (k2 : t2 = some o → XW l D K cells slots ws (pc + 3) vs st) : XW l D K cells slots ws pc vs (.int x :: st) := by
  obtain ⟨p, e, R0, s, m, args, below, meth, c, A, nL0, Q⟩ := K
  intro H locs ls hP hD hS hl
  exact lv_if_eq C.1 C.2.1 hd ht (fun q => k1 (by rw [if_pos q] at h; exact h) H locs ls hP hD hS hl) (fun q => k2 (by rw [if_neg q] at h; exact h) H locs ls hP hD hS hl)
theorem X_ifne (C : XC D cs K nL R cc own Ts rt) {x : Int32} {α : Type} {t1 t2 : Option α} {o : α} {off : Int} {tgt : Nat} (ht : (pc : Int) + off = (tgt : Int)) (hd : decode cc pc = .ok (.ifCond .ne off, 3)) (h : (if x = 0 then t2 else t1) = some o) (k1 : t1 = some o → XW l D K cells slots ws tgt vs st) (k2 : t2 = some o → XW l D K cells slots ws (pc + 3) vs st) : XW l D K cells slots ws pc vs (.int x :: st) := by
  obtain ⟨p, e, R0, s, m, args, below, meth, c, A, nL0, Q⟩ := K
  intro H locs ls hP hD hS hl
  exact lv_if_ne C.1 C.2.1 hd ht (fun q => k1 (by rw [if_neg q] at h; exact h) H locs ls hP hD hS hl) (fun q => k2 (by rw [if_pos q] at h; exact h) H locs ls hP hD hS hl)
theorem X_iflt (C : XC D cs K nL R cc own Ts rt) {x : Int32} {α : Type} {t1 t2 : Option α} {o : α} {off : Int} {tgt : Nat} (ht : (pc : Int) + off = (tgt : Int)) (hd : decode cc pc = .ok (.ifCond .lt off, 3)) (h : (if x < 0 then t1 else t2) = some o) (k1 : t1 = some o → XW l D K cells slots ws tgt vs st) (k2 : t2 = some o → XW l D K cells slots ws (pc + 3) vs st) : XW l D K cells slots ws pc vs (.int x :: st) := by
  obtain ⟨p, e, R0, s, m, args, below, meth, c, A, nL0, Q⟩ := K
  intro H locs ls hP hD hS hl
  exact lv_if_lt C.1 C.2.1 hd ht (fun q => k1 (by rw [if_pos q] at h; exact h) H locs ls hP hD hS hl) (fun q => k2 (by rw [if_neg q] at h; exact h) H locs ls hP hD hS hl)
theorem X_ifge (C : XC D cs K nL R cc own Ts rt) {x : Int32} {α : Type} {t1 t2 : Option α} {o : α} {off : Int} {tgt : Nat} (ht : (pc : Int) + off = (tgt : Int)) (hd : decode cc pc = .ok (.ifCond .ge off, 3)) (h : (if 0 ≤ x then t1 else t2) = some o) (k1 : t1 = some o → XW l D K cells slots ws tgt vs st) (k2 : t2 = some o → XW l D K cells slots ws (pc + 3) vs st) : XW l D K cells slots ws pc vs (.int x :: st) := by
  obtain ⟨p, e, R0, s, m, args, below, meth, c, A, nL0, Q⟩ := K
  intro H locs ls hP hD hS hl
  exact lv_if_ge C.1 C.2.1 hd ht (fun q => k1 (by rw [if_pos q] at h; exact h) H locs ls hP hD hS hl) (fun q => k2 (by rw [if_neg q] at h; exact h) H locs ls hP hD hS hl)
theorem X_ifgt (C : XC D cs K nL R cc own Ts rt) {x : Int32} {α : Type} {t1 t2 : Option α} {o : α} {off : Int} {tgt : Nat} (ht : (pc : Int) + off = (tgt : Int)) (hd : decode cc pc = .ok (.ifCond .gt off, 3)) (h : (if 0 < x then t1 else t2) = some o) (k1 : t1 = some o → XW l D K cells slots ws tgt vs st) (k2 : t2 = some o → XW l D K cells slots ws (pc + 3) vs st) : XW l D K cells slots ws pc vs (.int x :: st) := by
  obtain ⟨p, e, R0, s, m, args, below, meth, c, A, nL0, Q⟩ := K
  intro H locs ls hP hD hS hl
  exact lv_if_gt C.1 C.2.1 hd ht (fun q => k1 (by rw [if_pos q] at h; exact h) H locs ls hP hD hS hl) (fun q => k2 (by rw [if_neg q] at h; exact h) H locs ls hP hD hS hl)
theorem X_ifle (C : XC D cs K nL R cc own Ts rt) {x : Int32} {α : Type} {t1 t2 : Option α} {o : α} {off : Int} {tgt : Nat} (ht : (pc : Int) + off = (tgt : Int)) (hd : decode cc pc = .ok (.ifCond .le off, 3)) (h : (if x ≤ 0 then t1 else t2) = some o) (k1 : t1 = some o → XW l D K cells slots ws tgt vs st) (k2 : t2 = some o → XW l D K cells slots ws (pc + 3) vs st) : XW l D K cells slots ws pc vs (.int x :: st) := by
  obtain ⟨p, e, R0, s, m, args, below, meth, c, A, nL0, Q⟩ := K
  intro H locs ls hP hD hS hl
  exact lv_if_le C.1 C.2.1 hd ht (fun q => k1 (by rw [if_pos q] at h; exact h) H locs ls hP hD hS hl) (fun q => k2 (by rw [if_neg q] at h; exact h) H locs ls hP hD hS hl)
theorem X_icmpeq (C : XC D cs K nL R cc own Ts rt) {x y : Int32} {α : Type} {t1 t2 : Option α} {o : α} {off : Int} {tgt : Nat} (ht : (pc : Int) + off = (tgt : Int)) (hd : decode cc pc = .ok (.if_icmp .eq off, 3)) (h : (if x = y then t1 else t2) = some o) (k1 : t1 = some o → XW l D K cells slots ws tgt vs st) (k2 : t2 = some o → XW l D K cells slots ws (pc + 3) vs st) : XW l D K cells slots ws pc vs (.int y :: .int x :: st) := by
  obtain ⟨p, e, R0, s, m, args, below, meth, c, A, nL0, Q⟩ := K
  intro H locs ls hP hD hS hl
  exact lv_icmp_eq C.1 C.2.1 hd ht (fun q => k1 (by rw [if_pos q] at h; exact h) H locs ls hP hD hS hl) (fun q => k2 (by rw [if_neg q] at h; exact h) H locs ls hP hD hS hl)
theorem X_icmpne (C : XC D cs K nL R cc own Ts rt) {x y : Int32} {α : Type} {t1 t2 : Option α} {o : α} {off : Int} {tgt : Nat} (ht : (pc : Int) + off = (tgt : Int)) (hd : decode cc pc = .ok (.if_icmp .ne off, 3)) (h : (if x = y then t2 else t1) = some o) (k1 : t1 = some o → XW l D K cells slots ws tgt vs st) (k2 : t2 = some o → XW l D K cells slots ws (pc + 3) vs st) : XW l D K cells slots ws pc vs (.int y :: .int x :: st) := by
  obtain ⟨p, e, R0, s, m, args, below, meth, c, A, nL0, Q⟩ := K
  intro H locs ls hP hD hS hl
  exact lv_icmp_ne C.1 C.2.1 hd ht (fun q => k1 (by rw [if_neg q] at h; exact h) H locs ls hP hD hS hl) (fun q => k2 (by rw [if_pos q] at h; exact h) H locs ls hP hD hS hl)
theorem X_icmplt (C : XC D cs K nL R cc own Ts rt) {x y : Int32} {α : Type} {t1 t2 : Option α} {o : α} {off : Int} {tgt : Nat} (ht : (pc : Int) + off = (tgt : Int)) (hd : decode cc pc = .ok (.if_icmp .lt off, 3)) (h : (if x < y then t1 else t2) = some o) (k1 : t1 = some o → XW l D K cells slots ws tgt vs st) (k2 : t2 = some o → XW l D K cells slots ws (pc + 3) vs st) : XW l D K cells slots ws pc vs (.int y :: .int x :: st) := by
  obtain ⟨p, e, R0, s, m, args, below, meth, c, A, nL0, Q⟩ := K
  intro H locs ls hP hD hS hl
  exact lv_icmp_lt C.1 C.2.1 hd ht (fun q => k1 (by rw [if_pos q] at h; exact h) H locs ls hP hD hS hl) (fun q => k2 (by rw [if_neg q] at h; exact h) H locs ls hP hD hS hl)
theorem X_icmpge (C : XC D cs K nL R cc own Ts rt) {x y : Int32} {α : Type} {t1 t2 : Option α} {o : α} {off : Int} {tgt : Nat} (ht : (pc : Int) + off = (tgt : Int)) (hd : decode cc pc = .ok (.if_icmp .ge off, 3)) (h : (if y ≤ x then t1 else t2) = some o) (k1 : t1 = some o → XW l D K cells slots ws tgt vs st) (k2 : t2 = some o → XW l D K cells slots ws (pc + 3) vs st) : XW l D K cells slots ws pc vs (.int y :: .int x :: st) := by
  obtain ⟨p, e, R0, s, m, args, below, meth, c, A, nL0, Q⟩ := K
  intro H locs ls hP hD hS hl
  exact lv_icmp_ge C.1 C.2.1 hd ht (fun q => k1 (by rw [if_pos q] at h; exact h) H locs ls hP hD hS hl) (fun q => k2 (by rw [if_neg q] at h; exact h) H locs ls hP hD hS hl)
theorem X_icmpgt (C : XC D cs K nL R cc own Ts rt) {x y : Int32} {α : Type} {t1 t2 : Option α} {o : α} {off : Int} {tgt : Nat} (ht : (pc : Int) + off = (tgt : Int)) (hd : decode cc pc = .ok (.if_icmp .gt off, 3)) (h : (if y < x then t1 else t2) = some o) (k1 : t1 = some o → XW l D K cells slots ws tgt vs st) (k2 : t2 = some o → XW l D K cells slots ws (pc + 3) vs st) : XW l D K cells slots ws pc vs (.int y :: .int x :: st) := by
  obtain ⟨p, e, R0, s, m, args, below, meth, c, A, nL0, Q⟩ := K
  intro H locs ls hP hD hS hl
  exact lv_icmp_gt C.1 C.2.1 hd ht (fun q => k1 (by rw [if_pos q] at h; exact h) H locs ls hP hD hS hl) (fun q => k2 (by rw [if_neg q] at h; exact h) H locs ls hP hD hS hl)
theorem X_icmple (C : XC D cs K nL R cc own Ts rt) {x y : Int32} {α : Type} {t1 t2 : Option α} {o : α} {off : Int} {tgt : Nat} (ht : (pc : Int) + off = (tgt : Int)) (hd : decode cc pc = .ok (.if_icmp .le off, 3)) (h : (if x ≤ y then t1 else t2) = some o) (k1 : t1 = some o → XW l D K cells slots ws tgt vs st) (k2 : t2 = some o → XW l D K cells slots ws (pc + 3) vs st) : XW l D K cells slots ws pc vs (.int y :: .int x :: st) := by
  obtain ⟨p, e, R0, s, m, args, below, meth, c, A, nL0, Q⟩ := K
  intro H locs ls hP hD hS hl
  exact lv_icmp_le C.1 C.2.1 hd ht (fun q => k1 (by rw [if_pos q] at h; exact h) H locs ls hP hD hS hl) (fun q => k2 (by rw [if_neg q] at h; exact h) H locs ls hP hD hS hl)
theorem X_tblIn (C : XC D cs K nL R cc own Ts rt) {x : Int32} {dflt lo hi off : Int} {offs : Array Int} {len tgt : Nat} (h1 : ¬ x.toInt < lo) (h2 : ¬ hi < x.toInt) (ho : offs[(x.toInt - lo).toNat]? = some off) (ht : (pc : Int) + off = (tgt : Int)) (hd : decode cc pc = .ok (.tableswitch dflt lo hi offs, len)) (k : XW l D K cells slots ws tgt vs st) : XW l D K cells slots ws pc vs (.int x :: st) := by
  obtain ⟨p, e, R0, s, m, args, below, meth, c, A, nL0, Q⟩ := K
  intro H locs ls hP hD hS hl
  exact lv_tableIn C.1 C.2.1 hd h1 h2 ho ht (k H locs ls hP hD hS hl)
theorem X_tblOut (C : XC D cs K nL R cc own Ts rt) {x : Int32} {dflt lo hi : Int} {offs : Array Int} {len tgt : Nat} (h : x.toInt < lo ∨ hi < x.toInt) (ht : (pc : Int) + dflt = (tgt : Int)) (hd : decode cc pc = .ok (.tableswitch dflt lo hi offs, len)) (k : XW l D K cells slots ws tgt vs st) : XW l D K cells slots ws pc vs (.int x :: st) := by
  obtain ⟨p, e, R0, s, m, args, below, meth, c, A, nL0, Q⟩ := K
  intro H locs ls hP hD hS hl
  exact lv_tableOut C.1 C.2.1 hd h ht (k H locs ls hP hD hS hl)
theorem X_lkp (C : XC D cs K nL R cc own Ts rt) {x : Int32} {dflt off : Int} {ps : Array (Int × Int)} {len tgt : Nat} (hp : (ps.toList.zip (ps.toList.drop 1)).all (fun (a, next) => a.1 < next.1) = true) (ho : Op.lookupswitch.offset ps.toList dflt x.toInt = off) (ht : (pc : Int) + off = (tgt : Int)) (hd : decode cc pc = .ok (.lookupswitch dflt ps, len)) (k : XW l D K cells slots ws tgt vs st) : XW l D K cells slots ws pc vs (.int x :: st) := by
  obtain ⟨p, e, R0, s, m, args, below, meth, c, A, nL0, Q⟩ := K
  intro H locs ls hP hD hS hl
  exact lv_lookup C.1 C.2.1 hd hp ho ht (k H locs ls hP hD hS hl)
theorem X_loc {vs1 : List (Nat × Value)} (ks : List Nat) (hk : lv_pick vs ks = vs1) (k : XW l D K cells slots ws pc vs1 st) : XW l D K cells slots ws pc vs st := by
  obtain ⟨p, e, R0, s, m, args, below, meth, c, A, nL0, Q⟩ := K
  intro H locs ls hP hD hS hl
  exact k H locs ls hP hD hS (lv_sub hl ks hk)
theorem X_get (C : XC D cs K nL R cc own Ts rt) {C0 : String} {T : u_T} {N ci index : Nat} {a : Nat} {fs : List Value} {v : Value} (q0 k : Nat) (hin : ∀ w ∈ u_ws C0 T N, w ∈ Ts) (hl0 : Cond.fieldLink own index (T k).1 (T k).2.1 (T k).2.2.1 ∈ Ts) (he : ws[q0]? = some (a, .inr (ci, fs))) (hc : vwCl[ci]? = some (C0, T, N)) (hk : k < N) (hv : fs[k]? = some v) (hd : decode cc pc = .ok (.getfield index, 3)) (kk : XW l D K cells slots ws (pc + 3) vs (v :: st)) : XW l D K cells slots ws pc vs (.ref a :: st) := by
  obtain ⟨p, e, R0, s, m, args, below, meth, c, A, nL0, Q⟩ := K
  intro H locs ls hP hD hS hl
  exact va_get C.1 C.2.1 C.2.2.2.2.1 hin C.2.2.2.1 C.2.2.2.2.2.1 hP q0 he hc k hk (C.2.2.2.2.1 _ hl0) (fun _ h => h) hv hd (kk H locs ls hP hD hS hl)
theorem X_put (C : XC D cs K nL R cc own Ts rt) {C0 : String} {T : u_T} {N ci index : Nat} {a : Nat} {fs : List Value} {v : Value} {ty : FieldType} {ws1 : va_W} (q0 k : Nat) (hin : ∀ w ∈ u_ws C0 T N, w ∈ Ts) (hl0 : Cond.fieldLink own index (T k).1 (T k).2.1 (T k).2.2.1 ∈ Ts) (ty0 : Nat → FieldType) (hty : ∀ k, k < N → parseFieldDescriptor (T k).2.2.1 = some (ty0 k)) (hnm : ∀ a, a < N → ∀ b, b < N → a ≠ b → (T a).2.1 ≠ (T b).2.1) (he : ws[q0]? = some (a, .inr (ci, fs))) (hc : vwCl[ci]? = some (C0, T, N)) (hk : k < N) (hfin : (T k).2.2.2 = false) (hd0 : parseFieldDescriptor (T k).2.2.1 = some ty) (hn : narrow ty v = v) (hfit : fits ty v = true) (hlen : k < fs.length) (hs : ws.set q0 (a, .inr (ci, fs.set k v)) = ws1) (hd : decode cc pc = .ok (.putfield index, 3)) (kk : XW l D K cells slots ws1 (pc + 3) vs st) : XW l D K cells slots ws pc vs (v :: .ref a :: st) := by
  subst hs
  obtain ⟨p, e, R0, s, m, args, below, meth, c, A, nL0, Q⟩ := K
  intro H locs ls hP hD hS hl
  exact va_put C.1 C.2.1 C.2.2.2.2.1 hin ty0 hty hnm C.2.2.2.1 C.2.2.2.2.2.1 hP hD hS q0 he hc k hk (C.2.2.2.2.1 _ hl0) (fun _ h => h) hfin hd0 hn hfit hlen hd (fun H1 locs1 hP hD hS => kk H1 locs1 ls hP hD hS hl)
theorem X_iald (C : XC D cs K nL R cc own Ts rt) {a n : Nat} {f : Nat → Int32} {i : Int32} {α : Type} {t : Option α} {o : α} (q0 : Nat) (ha : ws[q0]? = some (a, .inl (cs 0, n, .inl f))) (h : grd (jin i n) t = some o) (hd : decode cc pc = .ok (.iaload, 1)) (kk : t = some o → XW l D K cells slots ws (pc + 1) vs (.int (f (jix i)) :: st)) : XW l D K cells slots ws pc vs (.int i :: .ref a :: st) := by
  obtain ⟨h0, h1⟩ := grd_some h
  obtain ⟨p, e, R0, s, m, args, below, meth, c, A, nL0, Q⟩ := K
  intro H locs ls hP hD hS hl
  exact va_iald C.1 C.2.1 C.2.2.2.2.2.1 hP q0 0 ha rfl (jin_in h0) hd (kk h1 H locs ls hP hD hS hl)
theorem X_zald (C : XC D cs K nL R cc own Ts rt) {a n : Nat} {f : Nat → Int32} {i : Int32} {α : Type} {t : Option α} {o : α} (q0 : Nat) (ha : ws[q0]? = some (a, .inl (cs 1, n, .inl f))) (h : grd (jin i n) t = some o) (hd : decode cc pc = .ok (.baload, 1)) (kk : t = some o → XW l D K cells slots ws (pc + 1) vs (.int (f (jix i)) :: st)) : XW l D K cells slots ws pc vs (.int i :: .ref a :: st) := by
  obtain ⟨h0, h1⟩ := grd_some h
  obtain ⟨p, e, R0, s, m, args, below, meth, c, A, nL0, Q⟩ := K
  intro H locs ls hP hD hS hl
  exact va_zald C.1 C.2.1 C.2.2.2.2.2.1 hP q0 1 ha rfl (jin_in h0) hd (kk h1 H locs ls hP hD hS hl)
theorem X_iast (C : XC D cs K nL R cc own Ts rt) {a n : Nat} {f : Nat → Int32} {i x : Int32} {ws1 : va_W} {α : Type} {t : Option α} {o : α} (q0 : Nat) (ha : ws[q0]? = some (a, .inl (cs 0, n, .inl f))) (hs : ws.set q0 (a, .inl (cs 0, n, .inl (upd f (jix i) x))) = ws1) (h : grd (jin i n) t = some o) (hd : decode cc pc = .ok (.iastore, 1)) (kk : t = some o → XW l D K cells slots ws1 (pc + 1) vs st) : XW l D K cells slots ws pc vs (.int x :: .int i :: .ref a :: st) := by
  subst hs
  obtain ⟨h0, h1⟩ := grd_some h
  obtain ⟨p, e, R0, s, m, args, below, meth, c, A, nL0, Q⟩ := K
  intro H locs ls hP hD hS hl
  exact va_iast C.1 C.2.1 C.2.2.2.2.2.1 hP hD hS q0 0 ha rfl (jin_in h0) hd (fun H1 locs1 hP hD hS => kk h1 H1 locs1 ls hP hD hS hl)
theorem X_zast (C : XC D cs K nL R cc own Ts rt) {a n : Nat} {f : Nat → Int32} {i x : Int32} {ws1 : va_W} {α : Type} {t : Option α} {o : α} (q0 : Nat) (ha : ws[q0]? = some (a, .inl (cs 1, n, .inl f))) (hs : ws.set q0 (a, .inl (cs 1, n, .inl (upd f (jix i) (jnz x)))) = ws1) (h : grd (jin i n) t = some o) (hd : decode cc pc = .ok (.bastore, 1)) (kk : t = some o → XW l D K cells slots ws1 (pc + 1) vs st) : XW l D K cells slots ws pc vs (.int x :: .int i :: .ref a :: st) := by
  subst hs
  obtain ⟨h0, h1⟩ := grd_some h
  obtain ⟨p, e, R0, s, m, args, below, meth, c, A, nL0, Q⟩ := K
  intro H locs ls hP hD hS hl
  exact va_zast C.1 C.2.1 C.2.2.2.2.2.1 hP hD hS q0 1 ha rfl (jin_in h0) hd (fun H1 locs1 hP hD hS => kk h1 H1 locs1 ls hP hD hS hl)
theorem X_alen (C : XC D cs K nL R cc own Ts rt) {a n : Nat} {f : Nat → Int32} {v : Int32} (q0 : Nat) (ha : ws[q0]? = some (a, .inl (cs 0, n, .inl f))) (hv : Int32.ofNat n = v) (hd : decode cc pc = .ok (.arraylength, 1)) (kk : XW l D K cells slots ws (pc + 1) vs (.int v :: st)) : XW l D K cells slots ws pc vs (.ref a :: st) := by
  obtain ⟨p, e, R0, s, m, args, below, meth, c, A, nL0, Q⟩ := K
  intro H locs ls hP hD hS hl
  exact va_alen C.1 C.2.1 C.2.2.2.2.2.1 hP q0 0 ha rfl hv hd (kk H locs ls hP hD hS hl)
theorem X_copy (C : XC D cs K nL R cc own Ts rt) {index a0 a1 n0 n1 : Nat} {f g : Nat → Int32} {sp dp n : Int32} {ws1 : va_W} (q0 q1 : Nat) (hlink : Cond.methodLink own index arraycopyName ∈ Ts) (hnat : Cond.native arraycopyName ∈ Ts) (hstat : Cond.static arraycopyName ∈ Ts) (hini : Cond.initialized "java/lang/System" ∈ Ts) (ha0 : ws[q0]? = some (a0, .inl (cs 0, n0, .inl f))) (ha1 : ws[q1]? = some (a1, .inl (cs 0, n1, .inl g))) (h1 : ¬ sp < 0) (h2 : ¬ dp < 0) (h3 : ¬ n < 0) (h4 : sp.toNatClampNeg + n.toNatClampNeg ≤ n0) (h5 : dp.toNatClampNeg + n.toNatClampNeg ≤ n1) (hf : 1 ≤ R.frames) (hlo : (st.map fun v => v.category).sum + (nativeFrameWords "java/lang/System" "arraycopy" 5 + 11) ≤ R.locals) (hs : ws.set q1 (a1, .inl (cs 0, n1, .inl (va_cpy f g sp.toNatClampNeg dp.toNatClampNeg n.toNatClampNeg))) = ws1) (hd : decode cc pc = .ok (.invokestatic index, 3)) (kk : XW l D K cells slots ws1 (pc + 3) vs st) : XW l D K cells slots ws pc vs (.int n :: .int dp :: .ref a1 :: .int sp :: .ref a0 :: st) := by
  subst hs
  obtain ⟨p, e, R0, s, m, args, below, meth, c, A, nL0, Q⟩ := K
  intro H locs ls hP hD hS hl
  obtain ⟨c1, c2, c3, c4, c5, c6, c7, c8, c9, c10, c11, rfl⟩ := C
  exact va_copyi c1 c2 (by rw [c3]; exact hl.1.symm) c4 (c5 _ hlink) (c5 _ hnat) (c5 _ hstat) (c5 _ hini) c6 hP hD hS q0 q1 0 0 ha0 ha1 rfl rfl rfl h1 h2 h3 h4 h5 (fun _ _ => rfl) hf hlo hd (fun H1 locs1 hP hD hS => kk H1 locs1 ls hP hD hS hl)
theorem X_mmin (C : XC D cs K nL R cc own Ts rt) {index : Nat} {x y : Int32} (hlink : Cond.methodLink own index Lib.Math.min.name ∈ Ts) (hstat : Cond.static Lib.Math.min.name ∈ Ts) (hini : Cond.initialized "java/lang/Math" ∈ Ts) (hcode : Cond.code Lib.Math.min.name Lib.Math.min.code 2 (some .int) ∈ Ts) (hf : 1 ≤ R.frames) (hlo : (st.map fun v => v.category).sum + 13 ≤ R.locals) (hcl : cells ≤ R.cells) (hsl : slots ≤ R.slots) (hd : decode cc pc = .ok (.invokestatic index, 3)) (kk : XW l D K cells slots ws (pc + 3) vs (.int (jmin x y) :: st)) : XW l D K cells slots ws pc vs (.int y :: .int x :: st) := by
  obtain ⟨p, e, R0, s, m, args, below, meth, c, A, nL0, Q⟩ := K
  intro H locs ls hP hD hS hl
  obtain ⟨c1, c2, c3, c4, c5, c6, c7, c8, c9, c10, c11, rfl⟩ := C
  exact va_mmin c1 c2 (by rw [c3]; exact hl.1.symm) c4 (c5 _ hlink) (c5 _ hstat) (c5 _ hini) (c5 _ hcode) hf hlo hcl hsl hd (kk H locs ls hP hD hS hl)
set_option maxHeartbeats 1000000 in
theorem X_callVi (C : XC D cs K nL R cc own Ts rt) {C0 : String} {index n maxL a q0 ci : Nat} {y : MethodName} {bytes : ByteArray} {ret : Option FieldType} {wds wds1 : List Cond} {rm : Room} {av As st0 : List Value} {ws1 : va_W} {fs : List Value} {r : Int32} (hM : CTi l D cs y wds rm av ws r ws1) (hav : av = .ref a :: As) (hT : GoodIn Ts (wsV own index C0 y wds)) (hw : wds = Cond.code y bytes maxL ret :: wds1) (hcl : vwCl[ci]?.map (fun q => q.1) = some C0) (he : ws[q0]? = some (a, .inr (ci, fs))) (hrc : rm.cells = 0) (hrs : rm.slots = 0) (hdd : y.cls = C0 ∧ y.cls ≠ "java/lang/invoke/MethodHandle" ∧ y.cls ≠ "java/lang/invoke/VarHandle" ∧ (parseMethodDescriptor y.desc).map (fun d => d.parameters.length) = some n) (hR : rm.frames + 1 ≤ R.frames ∧ 8 + (maxL + 11) + rm.locals ≤ R.locals) (hcs : cells ≤ R.cells ∧ slots ≤ R.slots) (hst : st0 = As.reverse ++ .ref a :: st) (hn : As.length = n) (hroom : (st.map fun v => v.category).sum ≤ 8) (hd : decode cc pc = .ok (.invokevirtual index, 3)) (kk : XW l D K cells slots ws1 (pc + 3) vs (.int r :: st)) : XW l D K cells slots ws pc vs st0 := by
  subst hst; subst hav
  obtain ⟨p, e, R0, s, m, args, below, meth, c, A, nL0, Q⟩ := K
  intro H locs ls hP hD hS hl
  obtain ⟨c1, c2, c3, c4, c5, c6, c7, c8, c9, c10, c11, rfl⟩ := C
  have hf : ∀ q, va_A ws H.size q → A q := fun q h => by
    rcases h with ⟨k, e, hk⟩ | h
    · exact hD.2 k _ hk
    · exact c8 q (Nat.le_trans hS.1 h)
  refine va_calli (va_runV (As := As) (rest := st) (b := a) ⟨c1, c2, c3, c4, c5⟩ (hM H.size) (cwV n c5 hT hw hrc hrs hdd hR) ⟨fun a U g mk q => by obtain ⟨q0, q1, qP, qK, qD, qN⟩ := q; exact ⟨q0, q1, qP, va_K.moved (u := U) (U := U.calling g mk a) (Vm.Alike.refl U.vm) qK, qD, XN.same (u := U) (U := U.calling g mk a) rfl qN⟩, (by obtain ⟨q, hq, rfl⟩ : ∃ q, vwCl[ci]? = some q ∧ q.1 = C0 := (by cases hh : vwCl[ci]? with | none => (rw [hh] at hcl; cases hcl) | some q => (rw [hh] at hcl; exact ⟨q, rfl, by simpa using hcl⟩)); exact va_recv c6 hP hq he), fun U hU hW => ⟨rfl, by rw [hU], by rw [hU]; exact hP, va_K.moved hW.alike c6, hD.weaken (fun _ _ _ _ => trivial), XN.warm hW c10⟩⟩ rfl hn hl.1 rfl (lv_room hroom) hd hcs) hS (fun q _ h => hf q h) hf (fun r' _ t H1 locs1 ht hvm hw hB hz1 hk1 hS => ?_)
  obtain ⟨hP1, hK1, hD1⟩ := hB
  rw [ht] at hP1
  subst hw
  exact kk H1 locs1 ls hP1 ⟨hD1.1, fun k q h => hf q.1 (hD1.2 k q h)⟩ hS hl
set_option maxHeartbeats 1000000 in
theorem X_callVv (C : XC D cs K nL R cc own Ts rt) {C0 : String} {index n maxL a q0 ci : Nat} {y : MethodName} {bytes : ByteArray} {ret : Option FieldType} {wds wds1 : List Cond} {rm : Room} {av As st0 : List Value} {ws1 : va_W} {fs : List Value}  (hM : CTv l D cs y wds rm av ws ws1) (hav : av = .ref a :: As) (hT : GoodIn Ts (wsV own index C0 y wds)) (hw : wds = Cond.code y bytes maxL ret :: wds1) (hcl : vwCl[ci]?.map (fun q => q.1) = some C0) (he : ws[q0]? = some (a, .inr (ci, fs))) (hrc : rm.cells = 0) (hrs : rm.slots = 0) (hdd : y.cls = C0 ∧ y.cls ≠ "java/lang/invoke/MethodHandle" ∧ y.cls ≠ "java/lang/invoke/VarHandle" ∧ (parseMethodDescriptor y.desc).map (fun d => d.parameters.length) = some n) (hR : rm.frames + 1 ≤ R.frames ∧ 8 + (maxL + 11) + rm.locals ≤ R.locals) (hcs : cells ≤ R.cells ∧ slots ≤ R.slots) (hst : st0 = As.reverse ++ .ref a :: st) (hn : As.length = n) (hroom : (st.map fun v => v.category).sum ≤ 8) (hd : decode cc pc = .ok (.invokevirtual index, 3)) (kk : XW l D K cells slots ws1 (pc + 3) vs st) : XW l D K cells slots ws pc vs st0 := by
  subst hst; subst hav
  obtain ⟨p, e, R0, s, m, args, below, meth, c, A, nL0, Q⟩ := K
  intro H locs ls hP hD hS hl
  obtain ⟨c1, c2, c3, c4, c5, c6, c7, c8, c9, c10, c11, rfl⟩ := C
  have hf : ∀ q, va_A ws H.size q → A q := fun q h => by
    rcases h with ⟨k, e, hk⟩ | h
    · exact hD.2 k _ hk
    · exact c8 q (Nat.le_trans hS.1 h)
  refine va_callv (va_runV (As := As) (rest := st) (b := a) ⟨c1, c2, c3, c4, c5⟩ (hM H.size) (cwV n c5 hT hw hrc hrs hdd hR) ⟨fun a U g mk q => by obtain ⟨q0, q1, qP, qK, qD, qN⟩ := q; exact ⟨q0, q1, qP, va_K.moved (u := U) (U := U.calling g mk a) (Vm.Alike.refl U.vm) qK, qD, XN.same (u := U) (U := U.calling g mk a) rfl qN⟩, (by obtain ⟨q, hq, rfl⟩ : ∃ q, vwCl[ci]? = some q ∧ q.1 = C0 := (by cases hh : vwCl[ci]? with | none => (rw [hh] at hcl; cases hcl) | some q => (rw [hh] at hcl; exact ⟨q, rfl, by simpa using hcl⟩)); exact va_recv c6 hP hq he), fun U hU hW => ⟨rfl, by rw [hU], by rw [hU]; exact hP, va_K.moved hW.alike c6, hD.weaken (fun _ _ _ _ => trivial), XN.warm hW c10⟩⟩ rfl hn hl.1 rfl (lv_room hroom) hd hcs) hS (fun q _ h => hf q h) hf (fun _ t H1 locs1 ht hvm hw hB hz1 hk1 hS => ?_)
  obtain ⟨hP1, hK1, hD1⟩ := hB
  rw [ht] at hP1
  exact kk H1 locs1 ls hP1 ⟨hD1.1, fun k q h => hf q.1 (hD1.2 k q h)⟩ hS hl
set_option maxHeartbeats 1000000 in
theorem X_callSi (C : XC D cs K nL R cc own Ts rt) {index n maxL : Nat} {y : MethodName} {bytes : ByteArray} {ret : Option FieldType} {wds wds1 : List Cond} {rm : Room} {As st0 : List Value} {ws1 : va_W} {r : Int32} (hM : CTi l D cs y wds rm As ws r ws1) (hT : GoodIn Ts (va_wsS own index y wds)) (hw : wds = Cond.code y bytes maxL ret :: wds1) (hrc : rm.cells = 0) (hrs : rm.slots = 0) (hdd : y.cls ≠ "java/lang/invoke/MethodHandle" ∧ y.cls ≠ "java/lang/invoke/VarHandle" ∧ (parseMethodDescriptor y.desc).map (fun d => d.parameters.length) = some n) (hR : rm.frames + 1 ≤ R.frames ∧ 8 + (maxL + 11) + rm.locals ≤ R.locals) (hcs : cells ≤ R.cells ∧ slots ≤ R.slots) (hst : st0 = As.reverse ++ st) (hn : As.length = n) (hroom : (st.map fun v => v.category).sum ≤ 8) (hd : decode cc pc = .ok (.invokestatic index, 3)) (kk : XW l D K cells slots ws1 (pc + 3) vs (.int r :: st)) : XW l D K cells slots ws pc vs st0 := by
  subst hst
  obtain ⟨p, e, R0, s, m, args, below, meth, c, A, nL0, Q⟩ := K
  intro H locs ls hP hD hS hl
  obtain ⟨c1, c2, c3, c4, c5, c6, c7, c8, c9, c10, c11, rfl⟩ := C
  have hf : ∀ q, va_A ws H.size q → A q := fun q h => by
    rcases h with ⟨k, e, hk⟩ | h
    · exact hD.2 k _ hk
    · exact c8 q (Nat.le_trans hS.1 h)
  refine va_calli (va_runS (As := As) (rest := st) ⟨c1, c2, c3, c4, c5⟩ (hM H.size) (va_cwS n c5 hT hw hrc hrs hdd hR) ⟨fun a U g mk q => by obtain ⟨q0, q1, qP, qK, qD, qN⟩ := q; exact ⟨q0, q1, qP, va_K.moved (u := U) (U := U.calling g mk a) (Vm.Alike.refl U.vm) qK, qD, XN.same (u := U) (U := U.calling g mk a) rfl qN⟩, fun U hU hW => ⟨rfl, by rw [hU], by rw [hU]; exact hP, va_K.moved hW.alike c6, hD.weaken (fun _ _ _ _ => trivial), XN.warm hW c10⟩⟩ rfl hn hl.1 rfl (lv_room hroom) hd hcs) hS (fun q _ h => hf q h) hf (fun r' _ t H1 locs1 ht hvm hw hB hz1 hk1 hS => ?_)
  obtain ⟨hP1, hK1, hD1⟩ := hB
  rw [ht] at hP1
  subst hw
  exact kk H1 locs1 ls hP1 ⟨hD1.1, fun k q h => hf q.1 (hD1.2 k q h)⟩ hS hl
set_option maxHeartbeats 1000000 in
theorem X_callSv (C : XC D cs K nL R cc own Ts rt) {index n maxL : Nat} {y : MethodName} {bytes : ByteArray} {ret : Option FieldType} {wds wds1 : List Cond} {rm : Room} {As st0 : List Value} {ws1 : va_W}  (hM : CTv l D cs y wds rm As ws ws1) (hT : GoodIn Ts (va_wsS own index y wds)) (hw : wds = Cond.code y bytes maxL ret :: wds1) (hrc : rm.cells = 0) (hrs : rm.slots = 0) (hdd : y.cls ≠ "java/lang/invoke/MethodHandle" ∧ y.cls ≠ "java/lang/invoke/VarHandle" ∧ (parseMethodDescriptor y.desc).map (fun d => d.parameters.length) = some n) (hR : rm.frames + 1 ≤ R.frames ∧ 8 + (maxL + 11) + rm.locals ≤ R.locals) (hcs : cells ≤ R.cells ∧ slots ≤ R.slots) (hst : st0 = As.reverse ++ st) (hn : As.length = n) (hroom : (st.map fun v => v.category).sum ≤ 8) (hd : decode cc pc = .ok (.invokestatic index, 3)) (kk : XW l D K cells slots ws1 (pc + 3) vs st) : XW l D K cells slots ws pc vs st0 := by
  subst hst
  obtain ⟨p, e, R0, s, m, args, below, meth, c, A, nL0, Q⟩ := K
  intro H locs ls hP hD hS hl
  obtain ⟨c1, c2, c3, c4, c5, c6, c7, c8, c9, c10, c11, rfl⟩ := C
  have hf : ∀ q, va_A ws H.size q → A q := fun q h => by
    rcases h with ⟨k, e, hk⟩ | h
    · exact hD.2 k _ hk
    · exact c8 q (Nat.le_trans hS.1 h)
  refine va_callv (va_runS (As := As) (rest := st) ⟨c1, c2, c3, c4, c5⟩ (hM H.size) (va_cwS n c5 hT hw hrc hrs hdd hR) ⟨fun a U g mk q => by obtain ⟨q0, q1, qP, qK, qD, qN⟩ := q; exact ⟨q0, q1, qP, va_K.moved (u := U) (U := U.calling g mk a) (Vm.Alike.refl U.vm) qK, qD, XN.same (u := U) (U := U.calling g mk a) rfl qN⟩, fun U hU hW => ⟨rfl, by rw [hU], by rw [hU]; exact hP, va_K.moved hW.alike c6, hD.weaken (fun _ _ _ _ => trivial), XN.warm hW c10⟩⟩ rfl hn hl.1 rfl (lv_room hroom) hd hcs) hS (fun q _ h => hf q h) hf (fun _ t H1 locs1 ht hvm hw hB hz1 hk1 hS => ?_)
  obtain ⟨hP1, hK1, hD1⟩ := hB
  rw [ht] at hP1
  exact kk H1 locs1 ls hP1 ⟨hD1.1, fun k q h => hf q.1 (hD1.2 k q h)⟩ hS hl
set_option maxHeartbeats 1000000 in
theorem X_callSNi (C : XC D cs K nL R cc own Ts rt) {index n maxL : Nat} {y : MethodName} {bytes : ByteArray} {ret : Option FieldType} {wds wds1 : List Cond} {rm : Room} {As st0 : List Value} {ws1 : va_W} {r : Int32} (hM : CTi l D cs y wds rm As ws r ws1) (hT : GoodIn Ts wds) (hN : Cond.methodLinkNest own index y "NetBorders" ∈ xNest) (hini : Cond.initialized y.cls ∈ Ts) (hstat : Cond.static y ∈ Ts) (hw : wds = Cond.code y bytes maxL ret :: wds1) (hrc : rm.cells = 0) (hrs : rm.slots = 0) (hdd : y.cls ≠ "java/lang/invoke/MethodHandle" ∧ y.cls ≠ "java/lang/invoke/VarHandle" ∧ (parseMethodDescriptor y.desc).map (fun d => d.parameters.length) = some n) (hR : rm.frames + 1 ≤ R.frames ∧ 8 + (maxL + 11) + rm.locals ≤ R.locals) (hcs : cells ≤ R.cells ∧ slots ≤ R.slots) (hst : st0 = As.reverse ++ st) (hn : As.length = n) (hroom : (st.map fun v => v.category).sum ≤ 8) (hd : decode cc pc = .ok (.invokestatic index, 3)) (kk : XW l D K cells slots ws1 (pc + 3) vs (.int r :: st)) : XW l D K cells slots ws pc vs st0 := by
  subst hst
  obtain ⟨p, e, R0, s, m, args, below, meth, c, A, nL0, Q⟩ := K
  intro H locs ls hP hD hS hl
  obtain ⟨c1, c2, c3, c4, c5, c6, c7, c8, c9, c10, c11, rfl⟩ := C
  have hf : ∀ q, va_A ws H.size q → A q := fun q h => by
    rcases h with ⟨k, e, hk⟩ | h
    · exact hD.2 k _ hk
    · exact c8 q (Nat.le_trans hS.1 h)
  refine va_calli (va_runSN (As := As) (rest := st) (host := "NetBorders") ⟨c1, c2, c3, c4, c5⟩ (hM H.size) ⟨va_cnB n c5 hT hw hrc hrs (c10 _ hN) (c5 _ hini) hdd hR, c5 _ hstat, trivial⟩ ⟨fun a U g mk q => by obtain ⟨q0, q1, qP, qK, qD, qN⟩ := q; exact ⟨q0, q1, qP, va_K.moved (u := U) (U := U.calling g mk a) (Vm.Alike.refl U.vm) qK, qD, XN.same (u := U) (U := U.calling g mk a) rfl qN⟩, fun U hU hW => ⟨rfl, by rw [hU], by rw [hU]; exact hP, va_K.moved hW.alike c6, hD.weaken (fun _ _ _ _ => trivial), XN.warm hW c10⟩⟩ rfl hn hl.1 rfl (lv_room hroom) hd hcs) hS (fun q _ h => hf q h) hf (fun r' _ t H1 locs1 ht hvm hw hB hz1 hk1 hS => ?_)
  obtain ⟨hP1, hK1, hD1⟩ := hB
  rw [ht] at hP1
  subst hw
  exact kk H1 locs1 ls hP1 ⟨hD1.1, fun k q h => hf q.1 (hD1.2 k q h)⟩ hS hl
set_option maxHeartbeats 1000000 in
theorem X_callSNv (C : XC D cs K nL R cc own Ts rt) {index n maxL : Nat} {y : MethodName} {bytes : ByteArray} {ret : Option FieldType} {wds wds1 : List Cond} {rm : Room} {As st0 : List Value} {ws1 : va_W}  (hM : CTv l D cs y wds rm As ws ws1) (hT : GoodIn Ts wds) (hN : Cond.methodLinkNest own index y "NetBorders" ∈ xNest) (hini : Cond.initialized y.cls ∈ Ts) (hstat : Cond.static y ∈ Ts) (hw : wds = Cond.code y bytes maxL ret :: wds1) (hrc : rm.cells = 0) (hrs : rm.slots = 0) (hdd : y.cls ≠ "java/lang/invoke/MethodHandle" ∧ y.cls ≠ "java/lang/invoke/VarHandle" ∧ (parseMethodDescriptor y.desc).map (fun d => d.parameters.length) = some n) (hR : rm.frames + 1 ≤ R.frames ∧ 8 + (maxL + 11) + rm.locals ≤ R.locals) (hcs : cells ≤ R.cells ∧ slots ≤ R.slots) (hst : st0 = As.reverse ++ st) (hn : As.length = n) (hroom : (st.map fun v => v.category).sum ≤ 8) (hd : decode cc pc = .ok (.invokestatic index, 3)) (kk : XW l D K cells slots ws1 (pc + 3) vs st) : XW l D K cells slots ws pc vs st0 := by
  subst hst
  obtain ⟨p, e, R0, s, m, args, below, meth, c, A, nL0, Q⟩ := K
  intro H locs ls hP hD hS hl
  obtain ⟨c1, c2, c3, c4, c5, c6, c7, c8, c9, c10, c11, rfl⟩ := C
  have hf : ∀ q, va_A ws H.size q → A q := fun q h => by
    rcases h with ⟨k, e, hk⟩ | h
    · exact hD.2 k _ hk
    · exact c8 q (Nat.le_trans hS.1 h)
  refine va_callv (va_runSN (As := As) (rest := st) (host := "NetBorders") ⟨c1, c2, c3, c4, c5⟩ (hM H.size) ⟨va_cnB n c5 hT hw hrc hrs (c10 _ hN) (c5 _ hini) hdd hR, c5 _ hstat, trivial⟩ ⟨fun a U g mk q => by obtain ⟨q0, q1, qP, qK, qD, qN⟩ := q; exact ⟨q0, q1, qP, va_K.moved (u := U) (U := U.calling g mk a) (Vm.Alike.refl U.vm) qK, qD, XN.same (u := U) (U := U.calling g mk a) rfl qN⟩, fun U hU hW => ⟨rfl, by rw [hU], by rw [hU]; exact hP, va_K.moved hW.alike c6, hD.weaken (fun _ _ _ _ => trivial), XN.warm hW c10⟩⟩ rfl hn hl.1 rfl (lv_room hroom) hd hcs) hS (fun q _ h => hf q h) hf (fun _ t H1 locs1 ht hvm hw hB hz1 hk1 hS => ?_)
  obtain ⟨hP1, hK1, hD1⟩ := hB
  rw [ht] at hP1
  exact kk H1 locs1 ls hP1 ⟨hD1.1, fun k q h => hf q.1 (hD1.2 k q h)⟩ hS hl
end XROWS
end
