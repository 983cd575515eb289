set_option maxHeartbeats 4000000 in
set_option maxRecDepth 100000 in
theorem lc_begin {l : Launch} {D : va_G} {cs : Nat → ClassId} {K : XK} {b L : Nat} {xs : Nat → Int32} {ad am : Nat → Nat} {bb : Nat → Nat → Nat} {n j : Nat} {σ : ST} {it : Nat → Option ST} {τ : ST} {cN sN : Nat} {Pn : ST → (Nat → Option ST) → ST → Prop} (C : XC D cs K 4 room_1 cL_law RL lw_tbl ret) (S : XS K b L xs) (hj : 4 * j + 4 ≤ L) (hL : L ≤ 2048) (hcs : cN + 8 ≤ room_1.cells ∧ sN + 332 ≤ room_1.slots) (sim : ∃ (r : Int32) (σ1 : ST) (τ1 : ST), f_x_begin n σ (ar xs j 1) = some (r, σ1) ∧ f_m_begin n τ (ar xs j 1) = some (r, τ1) ∧ Pn σ1 it τ1) (kn : ∀ σ1 it1 τ1 bb1, Pn σ1 it1 τ1 → XW l D K (cN + 8) (sN + 332) (wL cs ad am bb1 σ1 it1 τ1) 728 [(0, .ref b), (1, .ref (ad 0)), (2, .ref (am 0)), (3, .int (nI (4 * j)))] []) : XW l D K cN sN (wL cs ad am bb σ it τ) 136 [(0, .ref b), (1, .ref (ad 0)), (2, .ref (am 0)), (3, .int (nI (4 * j)))] [] := by
  obtain ⟨r, σ1, τ1, hx, hm, hP⟩ := sim
  refine X_aload_n C 1 rfl rfl dL_law_136 ?_
  refine X_aload_n C 0 rfl rfl dL_law_137 ?_
  refine X_iload_n C 3 rfl rfl dL_law_138 ?_
  refine X_iconst (v := 1) C (by decide) dL_law_139 ?_
  refine X_iadd C dL_law_140 ?_
  refine X_sld C S (sc_in (k := 1) rfl hj hL (by decide)) dL_law_141 ?_
  refine X_callVi (XC_sub C tv_X6_begin) (n := 1) (As := [.int (ar xs j 1)]) (c_x_begin (ad := ad) hx) rfl gv_X6_begin rfl rfl (xe_0 _ _ _ _ _) rfl rfl (by decide +kernel) ⟨Nat.le_of_ble_eq_true rfl, Nat.le_of_ble_eq_true rfl⟩ ⟨Nat.le_trans (Nat.le_add_right _ _) hcs.1, Nat.le_trans (Nat.le_add_right _ _) hcs.2⟩ rfl rfl (Nat.le_of_ble_eq_true rfl) dL_law_142 ?_
  refine X_aload_n C 2 rfl rfl dL_law_145 ?_
  refine X_aload_n C 0 rfl rfl dL_law_146 ?_
  refine X_iload_n C 3 rfl rfl dL_law_147 ?_
  refine X_iconst (v := 1) C (by decide) dL_law_148 ?_
  refine X_iadd C dL_law_149 ?_
  refine X_sld C S (sc_in (k := 1) rfl hj hL (by decide)) dL_law_150 ?_
  refine X_perm wL_perm ?_
  refine X_callVi (XC_sub C tv_X7_begin) (n := 1) (As := [.int (ar xs j 1)]) (c_m_begin (ad := am) hm) rfl gv_X7_begin rfl rfl (me_0 _ _ _ _) rfl rfl (by decide +kernel) ⟨Nat.le_of_ble_eq_true rfl, Nat.le_of_ble_eq_true rfl⟩ ⟨Nat.le_trans (Nat.le_add_right _ _) hcs.1, Nat.le_trans (Nat.le_add_right _ _) hcs.2⟩ rfl rfl (Nat.le_of_ble_eq_true rfl) dL_law_151 ?_
  refine X_perm wL_perm.symm ?_
  refine X_eqT C (tgt := 728) (by decide) dL_law_154 ?_
  refine X_widen (cN + 8) (sN + 332) (Nat.le_add_right _ _) (Nat.le_add_right _ _) ?_
  exact kn _ _ _ _ hP
set_option maxHeartbeats 4000000 in
set_option maxRecDepth 100000 in
theorem lc_arc {l : Launch} {D : va_G} {cs : Nat → ClassId} {K : XK} {b L : Nat} {xs : Nat → Int32} {ad am : Nat → Nat} {bb : Nat → Nat → Nat} {n j : Nat} {σ : ST} {it : Nat → Option ST} {τ : ST} {cN sN : Nat} {Pn : ST → (Nat → Option ST) → ST → Prop} (C : XC D cs K 4 room_1 cL_law RL lw_tbl ret) (S : XS K b L xs) (hj : 4 * j + 4 ≤ L) (hL : L ≤ 2048) (hcs : cN + 8 ≤ room_1.cells ∧ sN + 332 ≤ room_1.slots) (sim : ∃ (r : Int32) (σ1 : ST) (τ1 : ST), f_x_arc n σ (ar xs j 1) (ar xs j 2) (ar xs j 3) = some (r, σ1) ∧ f_m_arc n τ (ar xs j 1) (ar xs j 2) (ar xs j 3) = some (r, τ1) ∧ Pn σ1 it τ1) (kn : ∀ σ1 it1 τ1 bb1, Pn σ1 it1 τ1 → XW l D K (cN + 8) (sN + 332) (wL cs ad am bb1 σ1 it1 τ1) 728 [(0, .ref b), (1, .ref (ad 0)), (2, .ref (am 0)), (3, .int (nI (4 * j)))] []) : XW l D K cN sN (wL cs ad am bb σ it τ) 159 [(0, .ref b), (1, .ref (ad 0)), (2, .ref (am 0)), (3, .int (nI (4 * j)))] [] := by
  obtain ⟨r, σ1, τ1, hx, hm, hP⟩ := sim
  refine X_aload_n C 1 rfl rfl dL_law_159 ?_
  refine X_aload_n C 0 rfl rfl dL_law_160 ?_
  refine X_iload_n C 3 rfl rfl dL_law_161 ?_
  refine X_iconst (v := 1) C (by decide) dL_law_162 ?_
  refine X_iadd C dL_law_163 ?_
  refine X_sld C S (sc_in (k := 1) rfl hj hL (by decide)) dL_law_164 ?_
  refine X_aload_n C 0 rfl rfl dL_law_165 ?_
  refine X_iload_n C 3 rfl rfl dL_law_166 ?_
  refine X_iconst (v := 2) C (by decide) dL_law_167 ?_
  refine X_iadd C dL_law_168 ?_
  refine X_sld C S (sc_in (k := 2) rfl hj hL (by decide)) dL_law_169 ?_
  refine X_aload_n C 0 rfl rfl dL_law_170 ?_
  refine X_iload_n C 3 rfl rfl dL_law_171 ?_
  refine X_iconst (v := 3) C (by decide) dL_law_172 ?_
  refine X_iadd C dL_law_173 ?_
  refine X_sld C S (sc_in (k := 3) rfl hj hL (by decide)) dL_law_174 ?_
  refine X_callVi (XC_sub C tv_X6_arc) (n := 3) (As := [.int (ar xs j 1), .int (ar xs j 2), .int (ar xs j 3)]) (c_x_arc (ad := ad) hx) rfl gv_X6_arc rfl rfl (xe_0 _ _ _ _ _) rfl rfl (by decide +kernel) ⟨Nat.le_of_ble_eq_true rfl, Nat.le_of_ble_eq_true rfl⟩ ⟨Nat.le_trans (Nat.le_add_right _ _) hcs.1, Nat.le_trans (Nat.le_add_right _ _) hcs.2⟩ rfl rfl (Nat.le_of_ble_eq_true rfl) dL_law_175 ?_
  refine X_aload_n C 2 rfl rfl dL_law_178 ?_
  refine X_aload_n C 0 rfl rfl dL_law_179 ?_
  refine X_iload_n C 3 rfl rfl dL_law_180 ?_
  refine X_iconst (v := 1) C (by decide) dL_law_181 ?_
  refine X_iadd C dL_law_182 ?_
  refine X_sld C S (sc_in (k := 1) rfl hj hL (by decide)) dL_law_183 ?_
  refine X_aload_n C 0 rfl rfl dL_law_184 ?_
  refine X_iload_n C 3 rfl rfl dL_law_185 ?_
  refine X_iconst (v := 2) C (by decide) dL_law_186 ?_
  refine X_iadd C dL_law_187 ?_
  refine X_sld C S (sc_in (k := 2) rfl hj hL (by decide)) dL_law_188 ?_
  refine X_aload_n C 0 rfl rfl dL_law_189 ?_
  refine X_iload_n C 3 rfl rfl dL_law_190 ?_
  refine X_iconst (v := 3) C (by decide) dL_law_191 ?_
  refine X_iadd C dL_law_192 ?_
  refine X_sld C S (sc_in (k := 3) rfl hj hL (by decide)) dL_law_193 ?_
  refine X_perm wL_perm ?_
  refine X_callVi (XC_sub C tv_X7_arc) (n := 3) (As := [.int (ar xs j 1), .int (ar xs j 2), .int (ar xs j 3)]) (c_m_arc (ad := am) hm) rfl gv_X7_arc rfl rfl (me_0 _ _ _ _) rfl rfl (by decide +kernel) ⟨Nat.le_of_ble_eq_true rfl, Nat.le_of_ble_eq_true rfl⟩ ⟨Nat.le_trans (Nat.le_add_right _ _) hcs.1, Nat.le_trans (Nat.le_add_right _ _) hcs.2⟩ rfl rfl (Nat.le_of_ble_eq_true rfl) dL_law_194 ?_
  refine X_perm wL_perm.symm ?_
  refine X_eqT C (tgt := 728) (by decide) dL_law_197 ?_
  refine X_widen (cN + 8) (sN + 332) (Nat.le_add_right _ _) (Nat.le_add_right _ _) ?_
  exact kn _ _ _ _ hP
set_option maxHeartbeats 4000000 in
set_option maxRecDepth 100000 in
theorem lc_drop {l : Launch} {D : va_G} {cs : Nat → ClassId} {K : XK} {b L : Nat} {xs : Nat → Int32} {ad am : Nat → Nat} {bb : Nat → Nat → Nat} {n j : Nat} {σ : ST} {it : Nat → Option ST} {τ : ST} {cN sN : Nat} {Pn : ST → (Nat → Option ST) → ST → Prop} (C : XC D cs K 4 room_1 cL_law RL lw_tbl ret) (S : XS K b L xs) (hj : 4 * j + 4 ≤ L) (hL : L ≤ 2048) (hcs : cN + 8 ≤ room_1.cells ∧ sN + 332 ≤ room_1.slots) (sim : ∃ (r : Int32) (σ1 : ST) (τ1 : ST), f_x_drop n σ (ar xs j 1) = some (r, σ1) ∧ f_m_drop n τ (ar xs j 1) = some (r, τ1) ∧ Pn σ1 it τ1) (kn : ∀ σ1 it1 τ1 bb1, Pn σ1 it1 τ1 → XW l D K (cN + 8) (sN + 332) (wL cs ad am bb1 σ1 it1 τ1) 728 [(0, .ref b), (1, .ref (ad 0)), (2, .ref (am 0)), (3, .int (nI (4 * j)))] []) : XW l D K cN sN (wL cs ad am bb σ it τ) 202 [(0, .ref b), (1, .ref (ad 0)), (2, .ref (am 0)), (3, .int (nI (4 * j)))] [] := by
  obtain ⟨r, σ1, τ1, hx, hm, hP⟩ := sim
  refine X_aload_n C 1 rfl rfl dL_law_202 ?_
  refine X_aload_n C 0 rfl rfl dL_law_203 ?_
  refine X_iload_n C 3 rfl rfl dL_law_204 ?_
  refine X_iconst (v := 1) C (by decide) dL_law_205 ?_
  refine X_iadd C dL_law_206 ?_
  refine X_sld C S (sc_in (k := 1) rfl hj hL (by decide)) dL_law_207 ?_
  refine X_callVi (XC_sub C tv_X6_drop) (n := 1) (As := [.int (ar xs j 1)]) (c_x_drop (ad := ad) hx) rfl gv_X6_drop rfl rfl (xe_0 _ _ _ _ _) rfl rfl (by decide +kernel) ⟨Nat.le_of_ble_eq_true rfl, Nat.le_of_ble_eq_true rfl⟩ ⟨Nat.le_trans (Nat.le_add_right _ _) hcs.1, Nat.le_trans (Nat.le_add_right _ _) hcs.2⟩ rfl rfl (Nat.le_of_ble_eq_true rfl) dL_law_208 ?_
  refine X_aload_n C 2 rfl rfl dL_law_211 ?_
  refine X_aload_n C 0 rfl rfl dL_law_212 ?_
  refine X_iload_n C 3 rfl rfl dL_law_213 ?_
  refine X_iconst (v := 1) C (by decide) dL_law_214 ?_
  refine X_iadd C dL_law_215 ?_
  refine X_sld C S (sc_in (k := 1) rfl hj hL (by decide)) dL_law_216 ?_
  refine X_perm wL_perm ?_
  refine X_callVi (XC_sub C tv_X7_drop) (n := 1) (As := [.int (ar xs j 1)]) (c_m_drop (ad := am) hm) rfl gv_X7_drop rfl rfl (me_0 _ _ _ _) rfl rfl (by decide +kernel) ⟨Nat.le_of_ble_eq_true rfl, Nat.le_of_ble_eq_true rfl⟩ ⟨Nat.le_trans (Nat.le_add_right _ _) hcs.1, Nat.le_trans (Nat.le_add_right _ _) hcs.2⟩ rfl rfl (Nat.le_of_ble_eq_true rfl) dL_law_217 ?_
  refine X_perm wL_perm.symm ?_
  refine X_eqT C (tgt := 728) (by decide) dL_law_220 ?_
  refine X_widen (cN + 8) (sN + 332) (Nat.le_add_right _ _) (Nat.le_add_right _ _) ?_
  exact kn _ _ _ _ hP
set_option maxHeartbeats 4000000 in
set_option maxRecDepth 100000 in
theorem lc_weigh {l : Launch} {D : va_G} {cs : Nat → ClassId} {K : XK} {b L : Nat} {xs : Nat → Int32} {ad am : Nat → Nat} {bb : Nat → Nat → Nat} {n j : Nat} {σ : ST} {it : Nat → Option ST} {τ : ST} {cN sN : Nat} {Pn : ST → (Nat → Option ST) → ST → Prop} (C : XC D cs K 4 room_1 cL_law RL lw_tbl ret) (S : XS K b L xs) (hj : 4 * j + 4 ≤ L) (hL : L ≤ 2048) (hcs : cN + 8 ≤ room_1.cells ∧ sN + 332 ≤ room_1.slots) (sim : ∃ (r : Int32) (σ1 : ST) (τ1 : ST), f_x_weigh n σ (ar xs j 1) (ar xs j 2) = some (r, σ1) ∧ f_m_weigh n τ (ar xs j 1) (ar xs j 2) = some (r, τ1) ∧ Pn σ1 it τ1) (kn : ∀ σ1 it1 τ1 bb1, Pn σ1 it1 τ1 → XW l D K (cN + 8) (sN + 332) (wL cs ad am bb1 σ1 it1 τ1) 728 [(0, .ref b), (1, .ref (ad 0)), (2, .ref (am 0)), (3, .int (nI (4 * j)))] []) : XW l D K cN sN (wL cs ad am bb σ it τ) 225 [(0, .ref b), (1, .ref (ad 0)), (2, .ref (am 0)), (3, .int (nI (4 * j)))] [] := by
  obtain ⟨r, σ1, τ1, hx, hm, hP⟩ := sim
  refine X_aload_n C 1 rfl rfl dL_law_225 ?_
  refine X_aload_n C 0 rfl rfl dL_law_226 ?_
  refine X_iload_n C 3 rfl rfl dL_law_227 ?_
  refine X_iconst (v := 1) C (by decide) dL_law_228 ?_
  refine X_iadd C dL_law_229 ?_
  refine X_sld C S (sc_in (k := 1) rfl hj hL (by decide)) dL_law_230 ?_
  refine X_aload_n C 0 rfl rfl dL_law_231 ?_
  refine X_iload_n C 3 rfl rfl dL_law_232 ?_
  refine X_iconst (v := 2) C (by decide) dL_law_233 ?_
  refine X_iadd C dL_law_234 ?_
  refine X_sld C S (sc_in (k := 2) rfl hj hL (by decide)) dL_law_235 ?_
  refine X_callVi (XC_sub C tv_X6_weigh) (n := 2) (As := [.int (ar xs j 1), .int (ar xs j 2)]) (c_x_weigh (ad := ad) hx) rfl gv_X6_weigh rfl rfl (xe_0 _ _ _ _ _) rfl rfl (by decide +kernel) ⟨Nat.le_of_ble_eq_true rfl, Nat.le_of_ble_eq_true rfl⟩ ⟨Nat.le_trans (Nat.le_add_right _ _) hcs.1, Nat.le_trans (Nat.le_add_right _ _) hcs.2⟩ rfl rfl (Nat.le_of_ble_eq_true rfl) dL_law_236 ?_
  refine X_aload_n C 2 rfl rfl dL_law_239 ?_
  refine X_aload_n C 0 rfl rfl dL_law_240 ?_
  refine X_iload_n C 3 rfl rfl dL_law_241 ?_
  refine X_iconst (v := 1) C (by decide) dL_law_242 ?_
  refine X_iadd C dL_law_243 ?_
  refine X_sld C S (sc_in (k := 1) rfl hj hL (by decide)) dL_law_244 ?_
  refine X_aload_n C 0 rfl rfl dL_law_245 ?_
  refine X_iload_n C 3 rfl rfl dL_law_246 ?_
  refine X_iconst (v := 2) C (by decide) dL_law_247 ?_
  refine X_iadd C dL_law_248 ?_
  refine X_sld C S (sc_in (k := 2) rfl hj hL (by decide)) dL_law_249 ?_
  refine X_perm wL_perm ?_
  refine X_callVi (XC_sub C tv_X7_weigh) (n := 2) (As := [.int (ar xs j 1), .int (ar xs j 2)]) (c_m_weigh (ad := am) hm) rfl gv_X7_weigh rfl rfl (me_0 _ _ _ _) rfl rfl (by decide +kernel) ⟨Nat.le_of_ble_eq_true rfl, Nat.le_of_ble_eq_true rfl⟩ ⟨Nat.le_trans (Nat.le_add_right _ _) hcs.1, Nat.le_trans (Nat.le_add_right _ _) hcs.2⟩ rfl rfl (Nat.le_of_ble_eq_true rfl) dL_law_250 ?_
  refine X_perm wL_perm.symm ?_
  refine X_eqT C (tgt := 728) (by decide) dL_law_253 ?_
  refine X_widen (cN + 8) (sN + 332) (Nat.le_add_right _ _) (Nat.le_add_right _ _) ?_
  exact kn _ _ _ _ hP
set_option maxHeartbeats 4000000 in
set_option maxRecDepth 100000 in
theorem lc_turn {l : Launch} {D : va_G} {cs : Nat → ClassId} {K : XK} {b L : Nat} {xs : Nat → Int32} {ad am : Nat → Nat} {bb : Nat → Nat → Nat} {n j : Nat} {σ : ST} {it : Nat → Option ST} {τ : ST} {cN sN : Nat} {Pn : ST → (Nat → Option ST) → ST → Prop} (C : XC D cs K 4 room_1 cL_law RL lw_tbl ret) (S : XS K b L xs) (hj : 4 * j + 4 ≤ L) (hL : L ≤ 2048) (hcs : cN + 8 ≤ room_1.cells ∧ sN + 332 ≤ room_1.slots) (sim : ∃ (r : Int32) (σ1 : ST) (τ1 : ST), f_x_turn n σ (ar xs j 1) = some (r, σ1) ∧ f_m_turn n τ (ar xs j 1) = some (r, τ1) ∧ Pn σ1 it τ1) (kn : ∀ σ1 it1 τ1 bb1, Pn σ1 it1 τ1 → XW l D K (cN + 8) (sN + 332) (wL cs ad am bb1 σ1 it1 τ1) 728 [(0, .ref b), (1, .ref (ad 0)), (2, .ref (am 0)), (3, .int (nI (4 * j)))] []) : XW l D K cN sN (wL cs ad am bb σ it τ) 258 [(0, .ref b), (1, .ref (ad 0)), (2, .ref (am 0)), (3, .int (nI (4 * j)))] [] := by
  obtain ⟨r, σ1, τ1, hx, hm, hP⟩ := sim
  refine X_aload_n C 1 rfl rfl dL_law_258 ?_
  refine X_aload_n C 0 rfl rfl dL_law_259 ?_
  refine X_iload_n C 3 rfl rfl dL_law_260 ?_
  refine X_iconst (v := 1) C (by decide) dL_law_261 ?_
  refine X_iadd C dL_law_262 ?_
  refine X_sld C S (sc_in (k := 1) rfl hj hL (by decide)) dL_law_263 ?_
  refine X_callVi (XC_sub C tv_X6_turn) (n := 1) (As := [.int (ar xs j 1)]) (c_x_turn (ad := ad) hx) rfl gv_X6_turn rfl rfl (xe_0 _ _ _ _ _) rfl rfl (by decide +kernel) ⟨Nat.le_of_ble_eq_true rfl, Nat.le_of_ble_eq_true rfl⟩ ⟨Nat.le_trans (Nat.le_add_right _ _) hcs.1, Nat.le_trans (Nat.le_add_right _ _) hcs.2⟩ rfl rfl (Nat.le_of_ble_eq_true rfl) dL_law_264 ?_
  refine X_aload_n C 2 rfl rfl dL_law_267 ?_
  refine X_aload_n C 0 rfl rfl dL_law_268 ?_
  refine X_iload_n C 3 rfl rfl dL_law_269 ?_
  refine X_iconst (v := 1) C (by decide) dL_law_270 ?_
  refine X_iadd C dL_law_271 ?_
  refine X_sld C S (sc_in (k := 1) rfl hj hL (by decide)) dL_law_272 ?_
  refine X_perm wL_perm ?_
  refine X_callVi (XC_sub C tv_X7_turn) (n := 1) (As := [.int (ar xs j 1)]) (c_m_turn (ad := am) hm) rfl gv_X7_turn rfl rfl (me_0 _ _ _ _) rfl rfl (by decide +kernel) ⟨Nat.le_of_ble_eq_true rfl, Nat.le_of_ble_eq_true rfl⟩ ⟨Nat.le_trans (Nat.le_add_right _ _) hcs.1, Nat.le_trans (Nat.le_add_right _ _) hcs.2⟩ rfl rfl (Nat.le_of_ble_eq_true rfl) dL_law_273 ?_
  refine X_perm wL_perm.symm ?_
  refine X_eqT C (tgt := 728) (by decide) dL_law_276 ?_
  refine X_widen (cN + 8) (sN + 332) (Nat.le_add_right _ _) (Nat.le_add_right _ _) ?_
  exact kn _ _ _ _ hP
set_option maxHeartbeats 4000000 in
set_option maxRecDepth 100000 in
theorem lc_join {l : Launch} {D : va_G} {cs : Nat → ClassId} {K : XK} {b L : Nat} {xs : Nat → Int32} {ad am : Nat → Nat} {bb : Nat → Nat → Nat} {n j : Nat} {σ : ST} {it : Nat → Option ST} {τ : ST} {cN sN : Nat} {Pn : ST → (Nat → Option ST) → ST → Prop} (C : XC D cs K 4 room_1 cL_law RL lw_tbl ret) (S : XS K b L xs) (hj : 4 * j + 4 ≤ L) (hL : L ≤ 2048) (hcs : cN + 8 ≤ room_1.cells ∧ sN + 332 ≤ room_1.slots) (sim : ∃ (r : Int32) (σ1 : ST) (τ1 : ST), f_x_join n σ (ar xs j 1) (ar xs j 2) = some (r, σ1) ∧ f_m_join n τ (ar xs j 1) (ar xs j 2) = some (r, τ1) ∧ Pn σ1 it τ1) (kn : ∀ σ1 it1 τ1 bb1, Pn σ1 it1 τ1 → XW l D K (cN + 8) (sN + 332) (wL cs ad am bb1 σ1 it1 τ1) 728 [(0, .ref b), (1, .ref (ad 0)), (2, .ref (am 0)), (3, .int (nI (4 * j)))] []) : XW l D K cN sN (wL cs ad am bb σ it τ) 281 [(0, .ref b), (1, .ref (ad 0)), (2, .ref (am 0)), (3, .int (nI (4 * j)))] [] := by
  obtain ⟨r, σ1, τ1, hx, hm, hP⟩ := sim
  refine X_aload_n C 1 rfl rfl dL_law_281 ?_
  refine X_aload_n C 0 rfl rfl dL_law_282 ?_
  refine X_iload_n C 3 rfl rfl dL_law_283 ?_
  refine X_iconst (v := 1) C (by decide) dL_law_284 ?_
  refine X_iadd C dL_law_285 ?_
  refine X_sld C S (sc_in (k := 1) rfl hj hL (by decide)) dL_law_286 ?_
  refine X_aload_n C 0 rfl rfl dL_law_287 ?_
  refine X_iload_n C 3 rfl rfl dL_law_288 ?_
  refine X_iconst (v := 2) C (by decide) dL_law_289 ?_
  refine X_iadd C dL_law_290 ?_
  refine X_sld C S (sc_in (k := 2) rfl hj hL (by decide)) dL_law_291 ?_
  refine X_callVi (XC_sub C tv_X6_join) (n := 2) (As := [.int (ar xs j 1), .int (ar xs j 2)]) (c_x_join (ad := ad) hx) rfl gv_X6_join rfl rfl (xe_0 _ _ _ _ _) rfl rfl (by decide +kernel) ⟨Nat.le_of_ble_eq_true rfl, Nat.le_of_ble_eq_true rfl⟩ ⟨Nat.le_trans (Nat.le_add_right _ _) hcs.1, Nat.le_trans (Nat.le_add_right _ _) hcs.2⟩ rfl rfl (Nat.le_of_ble_eq_true rfl) dL_law_292 ?_
  refine X_aload_n C 2 rfl rfl dL_law_295 ?_
  refine X_aload_n C 0 rfl rfl dL_law_296 ?_
  refine X_iload_n C 3 rfl rfl dL_law_297 ?_
  refine X_iconst (v := 1) C (by decide) dL_law_298 ?_
  refine X_iadd C dL_law_299 ?_
  refine X_sld C S (sc_in (k := 1) rfl hj hL (by decide)) dL_law_300 ?_
  refine X_aload_n C 0 rfl rfl dL_law_301 ?_
  refine X_iload_n C 3 rfl rfl dL_law_302 ?_
  refine X_iconst (v := 2) C (by decide) dL_law_303 ?_
  refine X_iadd C dL_law_304 ?_
  refine X_sld C S (sc_in (k := 2) rfl hj hL (by decide)) dL_law_305 ?_
  refine X_perm wL_perm ?_
  refine X_callVi (XC_sub C tv_X7_join) (n := 2) (As := [.int (ar xs j 1), .int (ar xs j 2)]) (c_m_join (ad := am) hm) rfl gv_X7_join rfl rfl (me_0 _ _ _ _) rfl rfl (by decide +kernel) ⟨Nat.le_of_ble_eq_true rfl, Nat.le_of_ble_eq_true rfl⟩ ⟨Nat.le_trans (Nat.le_add_right _ _) hcs.1, Nat.le_trans (Nat.le_add_right _ _) hcs.2⟩ rfl rfl (Nat.le_of_ble_eq_true rfl) dL_law_306 ?_
  refine X_perm wL_perm.symm ?_
  refine X_eqT C (tgt := 728) (by decide) dL_law_309 ?_
  refine X_widen (cN + 8) (sN + 332) (Nat.le_add_right _ _) (Nat.le_add_right _ _) ?_
  exact kn _ _ _ _ hP
set_option maxHeartbeats 4000000 in
set_option maxRecDepth 100000 in
theorem lc_tell {l : Launch} {D : va_G} {cs : Nat → ClassId} {K : XK} {b L : Nat} {xs : Nat → Int32} {ad am : Nat → Nat} {bb : Nat → Nat → Nat} {n j : Nat} {σ : ST} {it : Nat → Option ST} {τ : ST} {cN sN : Nat} {Pn : ST → (Nat → Option ST) → ST → Prop} (C : XC D cs K 4 room_1 cL_law RL lw_tbl ret) (S : XS K b L xs) (hj : 4 * j + 4 ≤ L) (hL : L ≤ 2048) (hcs : cN + 8 ≤ room_1.cells ∧ sN + 332 ≤ room_1.slots) (sim : ∃ (r : Int32) (τ1 : ST), f_x_tell n σ (ar xs j 1) (ar xs j 2) = some r ∧ f_m_tell n τ (ar xs j 1) (ar xs j 2) = some (r, τ1) ∧ Pn σ it τ1) (kn : ∀ σ1 it1 τ1 bb1, Pn σ1 it1 τ1 → XW l D K (cN + 8) (sN + 332) (wL cs ad am bb1 σ1 it1 τ1) 728 [(0, .ref b), (1, .ref (ad 0)), (2, .ref (am 0)), (3, .int (nI (4 * j)))] []) : XW l D K cN sN (wL cs ad am bb σ it τ) 314 [(0, .ref b), (1, .ref (ad 0)), (2, .ref (am 0)), (3, .int (nI (4 * j)))] [] := by
  obtain ⟨r, τ1, hx, hm, hP⟩ := sim
  refine X_aload_n C 1 rfl rfl dL_law_314 ?_
  refine X_aload_n C 0 rfl rfl dL_law_315 ?_
  refine X_iload_n C 3 rfl rfl dL_law_316 ?_
  refine X_iconst (v := 1) C (by decide) dL_law_317 ?_
  refine X_iadd C dL_law_318 ?_
  refine X_sld C S (sc_in (k := 1) rfl hj hL (by decide)) dL_law_319 ?_
  refine X_aload_n C 0 rfl rfl dL_law_320 ?_
  refine X_iload_n C 3 rfl rfl dL_law_321 ?_
  refine X_iconst (v := 2) C (by decide) dL_law_322 ?_
  refine X_iadd C dL_law_323 ?_
  refine X_sld C S (sc_in (k := 2) rfl hj hL (by decide)) dL_law_324 ?_
  refine X_callVi (XC_sub C tv_X6_tell) (n := 2) (As := [.int (ar xs j 1), .int (ar xs j 2)]) (c_x_tell (ad := ad) hx) rfl gv_X6_tell rfl rfl (xe_0 _ _ _ _ _) rfl rfl (by decide +kernel) ⟨Nat.le_of_ble_eq_true rfl, Nat.le_of_ble_eq_true rfl⟩ ⟨Nat.le_trans (Nat.le_add_right _ _) hcs.1, Nat.le_trans (Nat.le_add_right _ _) hcs.2⟩ rfl rfl (Nat.le_of_ble_eq_true rfl) dL_law_325 ?_
  refine X_aload_n C 2 rfl rfl dL_law_328 ?_
  refine X_aload_n C 0 rfl rfl dL_law_329 ?_
  refine X_iload_n C 3 rfl rfl dL_law_330 ?_
  refine X_iconst (v := 1) C (by decide) dL_law_331 ?_
  refine X_iadd C dL_law_332 ?_
  refine X_sld C S (sc_in (k := 1) rfl hj hL (by decide)) dL_law_333 ?_
  refine X_aload_n C 0 rfl rfl dL_law_334 ?_
  refine X_iload_n C 3 rfl rfl dL_law_335 ?_
  refine X_iconst (v := 2) C (by decide) dL_law_336 ?_
  refine X_iadd C dL_law_337 ?_
  refine X_sld C S (sc_in (k := 2) rfl hj hL (by decide)) dL_law_338 ?_
  refine X_perm wL_perm ?_
  refine X_callVi (XC_sub C tv_X7_tell) (n := 2) (As := [.int (ar xs j 1), .int (ar xs j 2)]) (c_m_tell (ad := am) hm) rfl gv_X7_tell rfl rfl (me_0 _ _ _ _) rfl rfl (by decide +kernel) ⟨Nat.le_of_ble_eq_true rfl, Nat.le_of_ble_eq_true rfl⟩ ⟨Nat.le_trans (Nat.le_add_right _ _) hcs.1, Nat.le_trans (Nat.le_add_right _ _) hcs.2⟩ rfl rfl (Nat.le_of_ble_eq_true rfl) dL_law_339 ?_
  refine X_perm wL_perm.symm ?_
  refine X_eqT C (tgt := 728) (by decide) dL_law_342 ?_
  refine X_widen (cN + 8) (sN + 332) (Nat.le_add_right _ _) (Nat.le_add_right _ _) ?_
  exact kn _ _ _ _ hP
set_option maxHeartbeats 4000000 in
set_option maxRecDepth 100000 in
theorem lc_node {l : Launch} {D : va_G} {cs : Nat → ClassId} {K : XK} {b L : Nat} {xs : Nat → Int32} {ad am : Nat → Nat} {bb : Nat → Nat → Nat} {n j : Nat} {σ : ST} {it : Nat → Option ST} {τ : ST} {cN sN : Nat} {Pn : ST → (Nat → Option ST) → ST → Prop} (C : XC D cs K 4 room_1 cL_law RL lw_tbl ret) (S : XS K b L xs) (hj : 4 * j + 4 ≤ L) (hL : L ≤ 2048) (hcs : cN + 8 ≤ room_1.cells ∧ sN + 332 ≤ room_1.slots) (sim : ∃ (r : Int32) (σ1 : ST) (τ1 : ST), f_x_node n σ (ar xs j 1) (ar xs j 2) = some (r, σ1) ∧ f_m_node n τ (ar xs j 1) (ar xs j 2) = some (r, τ1) ∧ Pn σ1 it τ1) (kn : ∀ σ1 it1 τ1 bb1, Pn σ1 it1 τ1 → XW l D K (cN + 8) (sN + 332) (wL cs ad am bb1 σ1 it1 τ1) 728 [(0, .ref b), (1, .ref (ad 0)), (2, .ref (am 0)), (3, .int (nI (4 * j)))] []) : XW l D K cN sN (wL cs ad am bb σ it τ) 347 [(0, .ref b), (1, .ref (ad 0)), (2, .ref (am 0)), (3, .int (nI (4 * j)))] [] := by
  obtain ⟨r, σ1, τ1, hx, hm, hP⟩ := sim
  refine X_aload_n C 1 rfl rfl dL_law_347 ?_
  refine X_aload_n C 0 rfl rfl dL_law_348 ?_
  refine X_iload_n C 3 rfl rfl dL_law_349 ?_
  refine X_iconst (v := 1) C (by decide) dL_law_350 ?_
  refine X_iadd C dL_law_351 ?_
  refine X_sld C S (sc_in (k := 1) rfl hj hL (by decide)) dL_law_352 ?_
  refine X_aload_n C 0 rfl rfl dL_law_353 ?_
  refine X_iload_n C 3 rfl rfl dL_law_354 ?_
  refine X_iconst (v := 2) C (by decide) dL_law_355 ?_
  refine X_iadd C dL_law_356 ?_
  refine X_sld C S (sc_in (k := 2) rfl hj hL (by decide)) dL_law_357 ?_
  refine X_callVi (XC_sub C tv_X6_node) (n := 2) (As := [.int (ar xs j 1), .int (ar xs j 2)]) (c_x_node (ad := ad) hx) rfl gv_X6_node rfl rfl (xe_0 _ _ _ _ _) rfl rfl (by decide +kernel) ⟨Nat.le_of_ble_eq_true rfl, Nat.le_of_ble_eq_true rfl⟩ ⟨Nat.le_trans (Nat.le_add_right _ _) hcs.1, Nat.le_trans (Nat.le_add_right _ _) hcs.2⟩ rfl rfl (Nat.le_of_ble_eq_true rfl) dL_law_358 ?_
  refine X_aload_n C 2 rfl rfl dL_law_361 ?_
  refine X_aload_n C 0 rfl rfl dL_law_362 ?_
  refine X_iload_n C 3 rfl rfl dL_law_363 ?_
  refine X_iconst (v := 1) C (by decide) dL_law_364 ?_
  refine X_iadd C dL_law_365 ?_
  refine X_sld C S (sc_in (k := 1) rfl hj hL (by decide)) dL_law_366 ?_
  refine X_aload_n C 0 rfl rfl dL_law_367 ?_
  refine X_iload_n C 3 rfl rfl dL_law_368 ?_
  refine X_iconst (v := 2) C (by decide) dL_law_369 ?_
  refine X_iadd C dL_law_370 ?_
  refine X_sld C S (sc_in (k := 2) rfl hj hL (by decide)) dL_law_371 ?_
  refine X_perm wL_perm ?_
  refine X_callVi (XC_sub C tv_X7_node) (n := 2) (As := [.int (ar xs j 1), .int (ar xs j 2)]) (c_m_node (ad := am) hm) rfl gv_X7_node rfl rfl (me_0 _ _ _ _) rfl rfl (by decide +kernel) ⟨Nat.le_of_ble_eq_true rfl, Nat.le_of_ble_eq_true rfl⟩ ⟨Nat.le_trans (Nat.le_add_right _ _) hcs.1, Nat.le_trans (Nat.le_add_right _ _) hcs.2⟩ rfl rfl (Nat.le_of_ble_eq_true rfl) dL_law_372 ?_
  refine X_perm wL_perm.symm ?_
  refine X_eqT C (tgt := 728) (by decide) dL_law_375 ?_
  refine X_widen (cN + 8) (sN + 332) (Nat.le_add_right _ _) (Nat.le_add_right _ _) ?_
  exact kn _ _ _ _ hP
set_option maxHeartbeats 4000000 in
set_option maxRecDepth 100000 in
theorem lc_count {l : Launch} {D : va_G} {cs : Nat → ClassId} {K : XK} {b L : Nat} {xs : Nat → Int32} {ad am : Nat → Nat} {bb : Nat → Nat → Nat} {n j : Nat} {σ : ST} {it : Nat → Option ST} {τ : ST} {cN sN : Nat} {Pn : ST → (Nat → Option ST) → ST → Prop} (C : XC D cs K 4 room_1 cL_law RL lw_tbl ret) (S : XS K b L xs) (hj : 4 * j + 4 ≤ L) (hL : L ≤ 2048) (hcs : cN + 8 ≤ room_1.cells ∧ sN + 332 ≤ room_1.slots) (sim : ∃ (r : Int32) (σ1 : ST) (τ1 : ST), f_x_count (imF bb it) n σ (ar xs j 1) = some (r, σ1) ∧ f_m_count n τ (ar xs j 1) = some (r, τ1) ∧ Pn σ1 it τ1) (kn : ∀ σ1 it1 τ1 bb1, Pn σ1 it1 τ1 → XW l D K (cN + 8) (sN + 332) (wL cs ad am bb1 σ1 it1 τ1) 728 [(0, .ref b), (1, .ref (ad 0)), (2, .ref (am 0)), (3, .int (nI (4 * j)))] []) : XW l D K cN sN (wL cs ad am bb σ it τ) 380 [(0, .ref b), (1, .ref (ad 0)), (2, .ref (am 0)), (3, .int (nI (4 * j)))] [] := by
  obtain ⟨r, σ1, τ1, hx, hm, hP⟩ := sim
  refine X_aload_n C 1 rfl rfl dL_law_380 ?_
  refine X_aload_n C 0 rfl rfl dL_law_381 ?_
  refine X_iload_n C 3 rfl rfl dL_law_382 ?_
  refine X_iconst (v := 1) C (by decide) dL_law_383 ?_
  refine X_iadd C dL_law_384 ?_
  refine X_sld C S (sc_in (k := 1) rfl hj hL (by decide)) dL_law_385 ?_
  refine X_callVi (XC_sub C tv_X6_count) (n := 1) (As := [.int (ar xs j 1)]) (c_x_count (ad := ad) hx) rfl gv_X6_count rfl rfl (xe_0 _ _ _ _ _) rfl rfl (by decide +kernel) ⟨Nat.le_of_ble_eq_true rfl, Nat.le_of_ble_eq_true rfl⟩ ⟨Nat.le_trans (Nat.le_add_right _ _) hcs.1, Nat.le_trans (Nat.le_add_right _ _) hcs.2⟩ rfl rfl (Nat.le_of_ble_eq_true rfl) dL_law_386 ?_
  refine X_aload_n C 2 rfl rfl dL_law_389 ?_
  refine X_aload_n C 0 rfl rfl dL_law_390 ?_
  refine X_iload_n C 3 rfl rfl dL_law_391 ?_
  refine X_iconst (v := 1) C (by decide) dL_law_392 ?_
  refine X_iadd C dL_law_393 ?_
  refine X_sld C S (sc_in (k := 1) rfl hj hL (by decide)) dL_law_394 ?_
  refine X_perm wL_perm ?_
  refine X_callVi (XC_sub C tv_X7_count) (n := 1) (As := [.int (ar xs j 1)]) (c_m_count (ad := am) hm) rfl gv_X7_count rfl rfl (me_0 _ _ _ _) rfl rfl (by decide +kernel) ⟨Nat.le_of_ble_eq_true rfl, Nat.le_of_ble_eq_true rfl⟩ ⟨Nat.le_trans (Nat.le_add_right _ _) hcs.1, Nat.le_trans (Nat.le_add_right _ _) hcs.2⟩ rfl rfl (Nat.le_of_ble_eq_true rfl) dL_law_395 ?_
  refine X_perm wL_perm.symm ?_
  refine X_eqT C (tgt := 728) (by decide) dL_law_398 ?_
  refine X_widen (cN + 8) (sN + 332) (Nat.le_add_right _ _) (Nat.le_add_right _ _) ?_
  exact kn _ _ _ _ hP
set_option maxHeartbeats 4000000 in
set_option maxRecDepth 100000 in
theorem lc_side {l : Launch} {D : va_G} {cs : Nat → ClassId} {K : XK} {b L : Nat} {xs : Nat → Int32} {ad am : Nat → Nat} {bb : Nat → Nat → Nat} {n j : Nat} {σ : ST} {it : Nat → Option ST} {τ : ST} {cN sN : Nat} {Pn : ST → (Nat → Option ST) → ST → Prop} (C : XC D cs K 4 room_1 cL_law RL lw_tbl ret) (S : XS K b L xs) (hj : 4 * j + 4 ≤ L) (hL : L ≤ 2048) (hcs : cN + 8 ≤ room_1.cells ∧ sN + 332 ≤ room_1.slots) (sim : ∃ (r : Int32) (σ1 : ST) (τ1 : ST), f_x_side n σ (ar xs j 1) (ar xs j 2) = some (r, σ1) ∧ f_m_side n τ (ar xs j 1) (ar xs j 2) = some (r, τ1) ∧ Pn σ1 it τ1) (kn : ∀ σ1 it1 τ1 bb1, Pn σ1 it1 τ1 → XW l D K (cN + 8) (sN + 332) (wL cs ad am bb1 σ1 it1 τ1) 728 [(0, .ref b), (1, .ref (ad 0)), (2, .ref (am 0)), (3, .int (nI (4 * j)))] []) : XW l D K cN sN (wL cs ad am bb σ it τ) 403 [(0, .ref b), (1, .ref (ad 0)), (2, .ref (am 0)), (3, .int (nI (4 * j)))] [] := by
  obtain ⟨r, σ1, τ1, hx, hm, hP⟩ := sim
  refine X_aload_n C 1 rfl rfl dL_law_403 ?_
  refine X_aload_n C 0 rfl rfl dL_law_404 ?_
  refine X_iload_n C 3 rfl rfl dL_law_405 ?_
  refine X_iconst (v := 1) C (by decide) dL_law_406 ?_
  refine X_iadd C dL_law_407 ?_
  refine X_sld C S (sc_in (k := 1) rfl hj hL (by decide)) dL_law_408 ?_
  refine X_aload_n C 0 rfl rfl dL_law_409 ?_
  refine X_iload_n C 3 rfl rfl dL_law_410 ?_
  refine X_iconst (v := 2) C (by decide) dL_law_411 ?_
  refine X_iadd C dL_law_412 ?_
  refine X_sld C S (sc_in (k := 2) rfl hj hL (by decide)) dL_law_413 ?_
  refine X_callVi (XC_sub C tv_X6_side) (n := 2) (As := [.int (ar xs j 1), .int (ar xs j 2)]) (c_x_side (ad := ad) hx) rfl gv_X6_side rfl rfl (xe_0 _ _ _ _ _) rfl rfl (by decide +kernel) ⟨Nat.le_of_ble_eq_true rfl, Nat.le_of_ble_eq_true rfl⟩ ⟨Nat.le_trans (Nat.le_add_right _ _) hcs.1, Nat.le_trans (Nat.le_add_right _ _) hcs.2⟩ rfl rfl (Nat.le_of_ble_eq_true rfl) dL_law_414 ?_
  refine X_aload_n C 2 rfl rfl dL_law_417 ?_
  refine X_aload_n C 0 rfl rfl dL_law_418 ?_
  refine X_iload_n C 3 rfl rfl dL_law_419 ?_
  refine X_iconst (v := 1) C (by decide) dL_law_420 ?_
  refine X_iadd C dL_law_421 ?_
  refine X_sld C S (sc_in (k := 1) rfl hj hL (by decide)) dL_law_422 ?_
  refine X_aload_n C 0 rfl rfl dL_law_423 ?_
  refine X_iload_n C 3 rfl rfl dL_law_424 ?_
  refine X_iconst (v := 2) C (by decide) dL_law_425 ?_
  refine X_iadd C dL_law_426 ?_
  refine X_sld C S (sc_in (k := 2) rfl hj hL (by decide)) dL_law_427 ?_
  refine X_perm wL_perm ?_
  refine X_callVi (XC_sub C tv_X7_side) (n := 2) (As := [.int (ar xs j 1), .int (ar xs j 2)]) (c_m_side (ad := am) hm) rfl gv_X7_side rfl rfl (me_0 _ _ _ _) rfl rfl (by decide +kernel) ⟨Nat.le_of_ble_eq_true rfl, Nat.le_of_ble_eq_true rfl⟩ ⟨Nat.le_trans (Nat.le_add_right _ _) hcs.1, Nat.le_trans (Nat.le_add_right _ _) hcs.2⟩ rfl rfl (Nat.le_of_ble_eq_true rfl) dL_law_428 ?_
  refine X_perm wL_perm.symm ?_
  refine X_eqT C (tgt := 728) (by decide) dL_law_431 ?_
  refine X_widen (cN + 8) (sN + 332) (Nat.le_add_right _ _) (Nat.le_add_right _ _) ?_
  exact kn _ _ _ _ hP
set_option maxHeartbeats 4000000 in
set_option maxRecDepth 100000 in
theorem lc_bounds {l : Launch} {D : va_G} {cs : Nat → ClassId} {K : XK} {b L : Nat} {xs : Nat → Int32} {ad am : Nat → Nat} {bb : Nat → Nat → Nat} {n j : Nat} {σ : ST} {it : Nat → Option ST} {τ : ST} {cN sN : Nat} {Pn : ST → (Nat → Option ST) → ST → Prop} (C : XC D cs K 4 room_1 cL_law RL lw_tbl ret) (S : XS K b L xs) (hj : 4 * j + 4 ≤ L) (hL : L ≤ 2048) (hcs : cN + 8 ≤ room_1.cells ∧ sN + 332 ≤ room_1.slots) {g : Int32} (hg : g = if ar xs j 2 = 0 then 0 else 1) (sim : ∃ (r : Int32) (σ1 : ST) (τ1 : ST), f_x_bounds n σ (ar xs j 1) g = some (r, σ1) ∧ f_m_bounds n τ (ar xs j 1) g = some (r, τ1) ∧ Pn σ1 it τ1) (kn : ∀ σ1 it1 τ1 bb1, Pn σ1 it1 τ1 → XW l D K (cN + 8) (sN + 332) (wL cs ad am bb1 σ1 it1 τ1) 728 [(0, .ref b), (1, .ref (ad 0)), (2, .ref (am 0)), (3, .int (nI (4 * j)))] []) : XW l D K cN sN (wL cs ad am bb σ it τ) 436 [(0, .ref b), (1, .ref (ad 0)), (2, .ref (am 0)), (3, .int (nI (4 * j)))] [] := by
  obtain ⟨r, σ1, τ1, hx, hm, hP⟩ := sim
  refine X_aload_n C 1 rfl rfl dL_law_436 ?_
  refine X_aload_n C 0 rfl rfl dL_law_437 ?_
  refine X_iload_n C 3 rfl rfl dL_law_438 ?_
  refine X_iconst (v := 1) C (by decide) dL_law_439 ?_
  refine X_iadd C dL_law_440 ?_
  refine X_sld C S (sc_in (k := 1) rfl hj hL (by decide)) dL_law_441 ?_
  refine X_aload_n C 0 rfl rfl dL_law_442 ?_
  refine X_iload_n C 3 rfl rfl dL_law_443 ?_
  refine X_iconst (v := 2) C (by decide) dL_law_444 ?_
  refine X_iadd C dL_law_445 ?_
  refine X_sld C S (sc_in (k := 2) rfl hj hL (by decide)) dL_law_446 ?_
  suffices hJ : XW l D K cN sN (wL cs ad am bb σ it τ) 455 [(0, .ref b), (1, .ref (ad 0)), (2, .ref (am 0)), (3, .int (nI (4 * j)))] (.int g :: [.int (ar xs j 1), .ref (ad 0)]) by
    by_cases hv : ar xs j 2 = 0
    · refine X_ifeq C (t1 := some ()) (t2 := none) (o := ()) (tgt := 454) (by decide) dL_law_447 (if_pos hv) (fun _ => ?_) (fun h => by cases h)
      refine X_iconst (v := 0) C (by decide) dL_law_454 ?_
      rw [show g = (0 : Int32) by rw [hg, if_pos hv]] at hJ
      exact hJ
    · refine X_ifeq C (t1 := none) (t2 := some ()) (o := ()) (tgt := 454) (by decide) dL_law_447 (if_neg hv) (fun h => by cases h) (fun _ => ?_)
      refine X_iconst (v := 1) C (by decide) dL_law_450 ?_
      refine X_goto C (tgt := 455) (by decide) dL_law_451 ?_
      rw [show g = (1 : Int32) by rw [hg, if_neg hv]] at hJ
      exact hJ
  refine X_callVi (XC_sub C tv_X6_bounds) (n := 2) (As := [.int (ar xs j 1), .int g]) (c_x_bounds (ad := ad) hx) rfl gv_X6_bounds rfl rfl (xe_0 _ _ _ _ _) rfl rfl (by decide +kernel) ⟨Nat.le_of_ble_eq_true rfl, Nat.le_of_ble_eq_true rfl⟩ ⟨Nat.le_trans (Nat.le_add_right _ _) hcs.1, Nat.le_trans (Nat.le_add_right _ _) hcs.2⟩ rfl rfl (Nat.le_of_ble_eq_true rfl) dL_law_455 ?_
  refine X_aload_n C 2 rfl rfl dL_law_458 ?_
  refine X_aload_n C 0 rfl rfl dL_law_459 ?_
  refine X_iload_n C 3 rfl rfl dL_law_460 ?_
  refine X_iconst (v := 1) C (by decide) dL_law_461 ?_
  refine X_iadd C dL_law_462 ?_
  refine X_sld C S (sc_in (k := 1) rfl hj hL (by decide)) dL_law_463 ?_
  refine X_aload_n C 0 rfl rfl dL_law_464 ?_
  refine X_iload_n C 3 rfl rfl dL_law_465 ?_
  refine X_iconst (v := 2) C (by decide) dL_law_466 ?_
  refine X_iadd C dL_law_467 ?_
  refine X_sld C S (sc_in (k := 2) rfl hj hL (by decide)) dL_law_468 ?_
  suffices hJ : XW l D K cN sN (wL cs ad am bb σ1 it τ) 477 [(0, .ref b), (1, .ref (ad 0)), (2, .ref (am 0)), (3, .int (nI (4 * j)))] (.int g :: [.int (ar xs j 1), .ref (am 0), .int r]) by
    by_cases hv : ar xs j 2 = 0
    · refine X_ifeq C (t1 := some ()) (t2 := none) (o := ()) (tgt := 476) (by decide) dL_law_469 (if_pos hv) (fun _ => ?_) (fun h => by cases h)
      refine X_iconst (v := 0) C (by decide) dL_law_476 ?_
      rw [show g = (0 : Int32) by rw [hg, if_pos hv]] at hJ
      exact hJ
    · refine X_ifeq C (t1 := none) (t2 := some ()) (o := ()) (tgt := 476) (by decide) dL_law_469 (if_neg hv) (fun h => by cases h) (fun _ => ?_)
      refine X_iconst (v := 1) C (by decide) dL_law_472 ?_
      refine X_goto C (tgt := 477) (by decide) dL_law_473 ?_
      rw [show g = (1 : Int32) by rw [hg, if_neg hv]] at hJ
      exact hJ
  refine X_perm wL_perm ?_
  refine X_callVi (XC_sub C tv_X7_bounds) (n := 2) (As := [.int (ar xs j 1), .int g]) (c_m_bounds (ad := am) hm) rfl gv_X7_bounds rfl rfl (me_0 _ _ _ _) rfl rfl (by decide +kernel) ⟨Nat.le_of_ble_eq_true rfl, Nat.le_of_ble_eq_true rfl⟩ ⟨Nat.le_trans (Nat.le_add_right _ _) hcs.1, Nat.le_trans (Nat.le_add_right _ _) hcs.2⟩ rfl rfl (Nat.le_of_ble_eq_true rfl) dL_law_477 ?_
  refine X_perm wL_perm.symm ?_
  refine X_eqT C (tgt := 728) (by decide) dL_law_480 ?_
  refine X_widen (cN + 8) (sN + 332) (Nat.le_add_right _ _) (Nat.le_add_right _ _) ?_
  exact kn _ _ _ _ hP
set_option maxHeartbeats 4000000 in
set_option maxRecDepth 100000 in
theorem lc_isDijoin {l : Launch} {D : va_G} {cs : Nat → ClassId} {K : XK} {b L : Nat} {xs : Nat → Int32} {ad am : Nat → Nat} {bb : Nat → Nat → Nat} {n j : Nat} {σ : ST} {it : Nat → Option ST} {τ : ST} {cN sN : Nat} {Pn : ST → (Nat → Option ST) → ST → Prop} (C : XC D cs K 4 room_1 cL_law RL lw_tbl ret) (S : XS K b L xs) (hj : 4 * j + 4 ≤ L) (hL : L ≤ 2048) (hcs : cN + 8 ≤ room_1.cells ∧ sN + 332 ≤ room_1.slots) (sim : ∃ (r : Int32) (σ1 : ST) (τ1 : ST), f_x_isDijoin n σ (ar xs j 1) = some (r, σ1) ∧ f_m_isDijoin n τ (ar xs j 1) = some (r, τ1) ∧ Pn σ1 it τ1) (kn : ∀ σ1 it1 τ1 bb1, Pn σ1 it1 τ1 → XW l D K (cN + 8) (sN + 332) (wL cs ad am bb1 σ1 it1 τ1) 728 [(0, .ref b), (1, .ref (ad 0)), (2, .ref (am 0)), (3, .int (nI (4 * j)))] []) : XW l D K cN sN (wL cs ad am bb σ it τ) 485 [(0, .ref b), (1, .ref (ad 0)), (2, .ref (am 0)), (3, .int (nI (4 * j)))] [] := by
  obtain ⟨r, σ1, τ1, hx, hm, hP⟩ := sim
  refine X_aload_n C 1 rfl rfl dL_law_485 ?_
  refine X_aload_n C 0 rfl rfl dL_law_486 ?_
  refine X_iload_n C 3 rfl rfl dL_law_487 ?_
  refine X_iconst (v := 1) C (by decide) dL_law_488 ?_
  refine X_iadd C dL_law_489 ?_
  refine X_sld C S (sc_in (k := 1) rfl hj hL (by decide)) dL_law_490 ?_
  refine X_callVi (XC_sub C tv_X6_isDijoin) (n := 1) (As := [.int (ar xs j 1)]) (c_x_isDijoin (ad := ad) hx) rfl gv_X6_isDijoin rfl rfl (xe_0 _ _ _ _ _) rfl rfl (by decide +kernel) ⟨Nat.le_of_ble_eq_true rfl, Nat.le_of_ble_eq_true rfl⟩ ⟨Nat.le_trans (Nat.le_add_right _ _) hcs.1, Nat.le_trans (Nat.le_add_right _ _) hcs.2⟩ rfl rfl (Nat.le_of_ble_eq_true rfl) dL_law_491 ?_
  refine X_aload_n C 2 rfl rfl dL_law_494 ?_
  refine X_aload_n C 0 rfl rfl dL_law_495 ?_
  refine X_iload_n C 3 rfl rfl dL_law_496 ?_
  refine X_iconst (v := 1) C (by decide) dL_law_497 ?_
  refine X_iadd C dL_law_498 ?_
  refine X_sld C S (sc_in (k := 1) rfl hj hL (by decide)) dL_law_499 ?_
  refine X_perm wL_perm ?_
  refine X_callVi (XC_sub C tv_X7_isDijoin) (n := 1) (As := [.int (ar xs j 1)]) (c_m_isDijoin (ad := am) hm) rfl gv_X7_isDijoin rfl rfl (me_0 _ _ _ _) rfl rfl (by decide +kernel) ⟨Nat.le_of_ble_eq_true rfl, Nat.le_of_ble_eq_true rfl⟩ ⟨Nat.le_trans (Nat.le_add_right _ _) hcs.1, Nat.le_trans (Nat.le_add_right _ _) hcs.2⟩ rfl rfl (Nat.le_of_ble_eq_true rfl) dL_law_500 ?_
  refine X_perm wL_perm.symm ?_
  refine X_eqT C (tgt := 728) (by decide) dL_law_503 ?_
  refine X_widen (cN + 8) (sN + 332) (Nat.le_add_right _ _) (Nat.le_add_right _ _) ?_
  exact kn _ _ _ _ hP
set_option maxHeartbeats 4000000 in
set_option maxRecDepth 100000 in
theorem lc_isStrong {l : Launch} {D : va_G} {cs : Nat → ClassId} {K : XK} {b L : Nat} {xs : Nat → Int32} {ad am : Nat → Nat} {bb : Nat → Nat → Nat} {n j : Nat} {σ : ST} {it : Nat → Option ST} {τ : ST} {cN sN : Nat} {Pn : ST → (Nat → Option ST) → ST → Prop} (C : XC D cs K 4 room_1 cL_law RL lw_tbl ret) (S : XS K b L xs) (hj : 4 * j + 4 ≤ L) (hL : L ≤ 2048) (hcs : cN + 8 ≤ room_1.cells ∧ sN + 332 ≤ room_1.slots) (sim : ∃ (r : Int32) (σ1 : ST) (τ1 : ST), f_x_isStrong n σ (ar xs j 1) = some (r, σ1) ∧ f_m_isStrong n τ (ar xs j 1) = some (r, τ1) ∧ Pn σ1 it τ1) (kn : ∀ σ1 it1 τ1 bb1, Pn σ1 it1 τ1 → XW l D K (cN + 8) (sN + 332) (wL cs ad am bb1 σ1 it1 τ1) 728 [(0, .ref b), (1, .ref (ad 0)), (2, .ref (am 0)), (3, .int (nI (4 * j)))] []) : XW l D K cN sN (wL cs ad am bb σ it τ) 508 [(0, .ref b), (1, .ref (ad 0)), (2, .ref (am 0)), (3, .int (nI (4 * j)))] [] := by
  obtain ⟨r, σ1, τ1, hx, hm, hP⟩ := sim
  refine X_aload_n C 1 rfl rfl dL_law_508 ?_
  refine X_aload_n C 0 rfl rfl dL_law_509 ?_
  refine X_iload_n C 3 rfl rfl dL_law_510 ?_
  refine X_iconst (v := 1) C (by decide) dL_law_511 ?_
  refine X_iadd C dL_law_512 ?_
  refine X_sld C S (sc_in (k := 1) rfl hj hL (by decide)) dL_law_513 ?_
  refine X_callVi (XC_sub C tv_X6_isStrong) (n := 1) (As := [.int (ar xs j 1)]) (c_x_isStrong (ad := ad) hx) rfl gv_X6_isStrong rfl rfl (xe_0 _ _ _ _ _) rfl rfl (by decide +kernel) ⟨Nat.le_of_ble_eq_true rfl, Nat.le_of_ble_eq_true rfl⟩ ⟨Nat.le_trans (Nat.le_add_right _ _) hcs.1, Nat.le_trans (Nat.le_add_right _ _) hcs.2⟩ rfl rfl (Nat.le_of_ble_eq_true rfl) dL_law_514 ?_
  refine X_aload_n C 2 rfl rfl dL_law_517 ?_
  refine X_aload_n C 0 rfl rfl dL_law_518 ?_
  refine X_iload_n C 3 rfl rfl dL_law_519 ?_
  refine X_iconst (v := 1) C (by decide) dL_law_520 ?_
  refine X_iadd C dL_law_521 ?_
  refine X_sld C S (sc_in (k := 1) rfl hj hL (by decide)) dL_law_522 ?_
  refine X_perm wL_perm ?_
  refine X_callVi (XC_sub C tv_X7_isStrong) (n := 1) (As := [.int (ar xs j 1)]) (c_m_isStrong (ad := am) hm) rfl gv_X7_isStrong rfl rfl (me_0 _ _ _ _) rfl rfl (by decide +kernel) ⟨Nat.le_of_ble_eq_true rfl, Nat.le_of_ble_eq_true rfl⟩ ⟨Nat.le_trans (Nat.le_add_right _ _) hcs.1, Nat.le_trans (Nat.le_add_right _ _) hcs.2⟩ rfl rfl (Nat.le_of_ble_eq_true rfl) dL_law_523 ?_
  refine X_perm wL_perm.symm ?_
  refine X_eqT C (tgt := 728) (by decide) dL_law_526 ?_
  refine X_widen (cN + 8) (sN + 332) (Nat.le_add_right _ _) (Nat.le_add_right _ _) ?_
  exact kn _ _ _ _ hP
set_option maxHeartbeats 4000000 in
set_option maxRecDepth 100000 in
theorem lc_dijoin {l : Launch} {D : va_G} {cs : Nat → ClassId} {K : XK} {b L : Nat} {xs : Nat → Int32} {ad am : Nat → Nat} {bb : Nat → Nat → Nat} {n j : Nat} {σ : ST} {it : Nat → Option ST} {τ : ST} {cN sN : Nat} {Pn : ST → (Nat → Option ST) → ST → Prop} (C : XC D cs K 4 room_1 cL_law RL lw_tbl ret) (S : XS K b L xs) (hj : 4 * j + 4 ≤ L) (hL : L ≤ 2048) (hcs : cN + 8 ≤ room_1.cells ∧ sN + 332 ≤ room_1.slots) (sim : ∃ (r : Int32) (σ1 : ST) (τ1 : ST), f_x_dijoin n σ  = some (r, σ1) ∧ f_m_dijoin n τ  = some (r, τ1) ∧ Pn σ1 it τ1) (kn : ∀ σ1 it1 τ1 bb1, Pn σ1 it1 τ1 → XW l D K (cN + 8) (sN + 332) (wL cs ad am bb1 σ1 it1 τ1) 728 [(0, .ref b), (1, .ref (ad 0)), (2, .ref (am 0)), (3, .int (nI (4 * j)))] []) : XW l D K cN sN (wL cs ad am bb σ it τ) 531 [(0, .ref b), (1, .ref (ad 0)), (2, .ref (am 0)), (3, .int (nI (4 * j)))] [] := by
  obtain ⟨r, σ1, τ1, hx, hm, hP⟩ := sim
  refine X_aload_n C 1 rfl rfl dL_law_531 ?_
  refine X_callVi (XC_sub C tv_X6_dijoin) (n := 0) (As := []) (c_x_dijoin (ad := ad) hx) rfl gv_X6_dijoin rfl rfl (xe_0 _ _ _ _ _) rfl rfl (by decide +kernel) ⟨Nat.le_of_ble_eq_true rfl, Nat.le_of_ble_eq_true rfl⟩ ⟨Nat.le_trans (Nat.le_add_right _ _) hcs.1, Nat.le_trans (Nat.le_add_right _ _) hcs.2⟩ rfl rfl (Nat.le_of_ble_eq_true rfl) dL_law_532 ?_
  refine X_aload_n C 2 rfl rfl dL_law_535 ?_
  refine X_perm wL_perm ?_
  refine X_callVi (XC_sub C tv_X7_dijoin) (n := 0) (As := []) (c_m_dijoin (ad := am) hm) rfl gv_X7_dijoin rfl rfl (me_0 _ _ _ _) rfl rfl (by decide +kernel) ⟨Nat.le_of_ble_eq_true rfl, Nat.le_of_ble_eq_true rfl⟩ ⟨Nat.le_trans (Nat.le_add_right _ _) hcs.1, Nat.le_trans (Nat.le_add_right _ _) hcs.2⟩ rfl rfl (Nat.le_of_ble_eq_true rfl) dL_law_536 ?_
  refine X_perm wL_perm.symm ?_
  refine X_eqT C (tgt := 728) (by decide) dL_law_539 ?_
  refine X_widen (cN + 8) (sN + 332) (Nat.le_add_right _ _) (Nat.le_add_right _ _) ?_
  exact kn _ _ _ _ hP
set_option maxHeartbeats 4000000 in
set_option maxRecDepth 100000 in
theorem lc_chosen {l : Launch} {D : va_G} {cs : Nat → ClassId} {K : XK} {b L : Nat} {xs : Nat → Int32} {ad am : Nat → Nat} {bb : Nat → Nat → Nat} {n j : Nat} {σ : ST} {it : Nat → Option ST} {τ : ST} {cN sN : Nat} {Pn : ST → (Nat → Option ST) → ST → Prop} (C : XC D cs K 4 room_1 cL_law RL lw_tbl ret) (S : XS K b L xs) (hj : 4 * j + 4 ≤ L) (hL : L ≤ 2048) (hcs : cN + 8 ≤ room_1.cells ∧ sN + 332 ≤ room_1.slots) (sim : ∃ (r : Int32) (τ1 : ST), f_x_chosen σ  = some r ∧ f_m_chosen n τ  = some (r, τ1) ∧ Pn σ it τ1) (kn : ∀ σ1 it1 τ1 bb1, Pn σ1 it1 τ1 → XW l D K (cN + 8) (sN + 332) (wL cs ad am bb1 σ1 it1 τ1) 728 [(0, .ref b), (1, .ref (ad 0)), (2, .ref (am 0)), (3, .int (nI (4 * j)))] []) : XW l D K cN sN (wL cs ad am bb σ it τ) 544 [(0, .ref b), (1, .ref (ad 0)), (2, .ref (am 0)), (3, .int (nI (4 * j)))] [] := by
  obtain ⟨r, τ1, hx, hm, hP⟩ := sim
  refine X_aload_n C 1 rfl rfl dL_law_544 ?_
  refine X_callVi (XC_sub C tv_X6_chosen) (n := 0) (As := []) (c_x_chosen (ad := ad) hx) rfl gv_X6_chosen rfl rfl (xe_0 _ _ _ _ _) rfl rfl (by decide +kernel) ⟨Nat.le_of_ble_eq_true rfl, Nat.le_of_ble_eq_true rfl⟩ ⟨Nat.le_trans (Nat.le_add_right _ _) hcs.1, Nat.le_trans (Nat.le_add_right _ _) hcs.2⟩ rfl rfl (Nat.le_of_ble_eq_true rfl) dL_law_545 ?_
  refine X_aload_n C 2 rfl rfl dL_law_548 ?_
  refine X_perm wL_perm ?_
  refine X_callVi (XC_sub C tv_X7_chosen) (n := 0) (As := []) (c_m_chosen (ad := am) hm) rfl gv_X7_chosen rfl rfl (me_0 _ _ _ _) rfl rfl (by decide +kernel) ⟨Nat.le_of_ble_eq_true rfl, Nat.le_of_ble_eq_true rfl⟩ ⟨Nat.le_trans (Nat.le_add_right _ _) hcs.1, Nat.le_trans (Nat.le_add_right _ _) hcs.2⟩ rfl rfl (Nat.le_of_ble_eq_true rfl) dL_law_549 ?_
  refine X_perm wL_perm.symm ?_
  refine X_eqT C (tgt := 728) (by decide) dL_law_552 ?_
  refine X_widen (cN + 8) (sN + 332) (Nat.le_add_right _ _) (Nat.le_add_right _ _) ?_
  exact kn _ _ _ _ hP
set_option maxHeartbeats 4000000 in
set_option maxRecDepth 100000 in
theorem lc_cost {l : Launch} {D : va_G} {cs : Nat → ClassId} {K : XK} {b L : Nat} {xs : Nat → Int32} {ad am : Nat → Nat} {bb : Nat → Nat → Nat} {n j : Nat} {σ : ST} {it : Nat → Option ST} {τ : ST} {cN sN : Nat} {Pn : ST → (Nat → Option ST) → ST → Prop} (C : XC D cs K 4 room_1 cL_law RL lw_tbl ret) (S : XS K b L xs) (hj : 4 * j + 4 ≤ L) (hL : L ≤ 2048) (hcs : cN + 8 ≤ room_1.cells ∧ sN + 332 ≤ room_1.slots) (sim : ∃ (r : Int32) (σ1 : ST) (τ1 : ST), f_x_cost n σ (ar xs j 1) (ar xs j 2) = some (r, σ1) ∧ f_m_cost n τ (ar xs j 1) (ar xs j 2) = some (r, τ1) ∧ Pn σ1 it τ1) (kn : ∀ σ1 it1 τ1 bb1, Pn σ1 it1 τ1 → XW l D K (cN + 8) (sN + 332) (wL cs ad am bb1 σ1 it1 τ1) 728 [(0, .ref b), (1, .ref (ad 0)), (2, .ref (am 0)), (3, .int (nI (4 * j)))] []) : XW l D K cN sN (wL cs ad am bb σ it τ) 557 [(0, .ref b), (1, .ref (ad 0)), (2, .ref (am 0)), (3, .int (nI (4 * j)))] [] := by
  obtain ⟨r, σ1, τ1, hx, hm, hP⟩ := sim
  refine X_aload_n C 1 rfl rfl dL_law_557 ?_
  refine X_aload_n C 0 rfl rfl dL_law_558 ?_
  refine X_iload_n C 3 rfl rfl dL_law_559 ?_
  refine X_iconst (v := 1) C (by decide) dL_law_560 ?_
  refine X_iadd C dL_law_561 ?_
  refine X_sld C S (sc_in (k := 1) rfl hj hL (by decide)) dL_law_562 ?_
  refine X_aload_n C 0 rfl rfl dL_law_563 ?_
  refine X_iload_n C 3 rfl rfl dL_law_564 ?_
  refine X_iconst (v := 2) C (by decide) dL_law_565 ?_
  refine X_iadd C dL_law_566 ?_
  refine X_sld C S (sc_in (k := 2) rfl hj hL (by decide)) dL_law_567 ?_
  refine X_callVi (XC_sub C tv_X6_cost) (n := 2) (As := [.int (ar xs j 1), .int (ar xs j 2)]) (c_x_cost (ad := ad) hx) rfl gv_X6_cost rfl rfl (xe_0 _ _ _ _ _) rfl rfl (by decide +kernel) ⟨Nat.le_of_ble_eq_true rfl, Nat.le_of_ble_eq_true rfl⟩ ⟨Nat.le_trans (Nat.le_add_right _ _) hcs.1, Nat.le_trans (Nat.le_add_right _ _) hcs.2⟩ rfl rfl (Nat.le_of_ble_eq_true rfl) dL_law_568 ?_
  refine X_aload_n C 2 rfl rfl dL_law_571 ?_
  refine X_aload_n C 0 rfl rfl dL_law_572 ?_
  refine X_iload_n C 3 rfl rfl dL_law_573 ?_
  refine X_iconst (v := 1) C (by decide) dL_law_574 ?_
  refine X_iadd C dL_law_575 ?_
  refine X_sld C S (sc_in (k := 1) rfl hj hL (by decide)) dL_law_576 ?_
  refine X_aload_n C 0 rfl rfl dL_law_577 ?_
  refine X_iload_n C 3 rfl rfl dL_law_578 ?_
  refine X_iconst (v := 2) C (by decide) dL_law_579 ?_
  refine X_iadd C dL_law_580 ?_
  refine X_sld C S (sc_in (k := 2) rfl hj hL (by decide)) dL_law_581 ?_
  refine X_perm wL_perm ?_
  refine X_callVi (XC_sub C tv_X7_cost) (n := 2) (As := [.int (ar xs j 1), .int (ar xs j 2)]) (c_m_cost (ad := am) hm) rfl gv_X7_cost rfl rfl (me_0 _ _ _ _) rfl rfl (by decide +kernel) ⟨Nat.le_of_ble_eq_true rfl, Nat.le_of_ble_eq_true rfl⟩ ⟨Nat.le_trans (Nat.le_add_right _ _) hcs.1, Nat.le_trans (Nat.le_add_right _ _) hcs.2⟩ rfl rfl (Nat.le_of_ble_eq_true rfl) dL_law_582 ?_
  refine X_perm wL_perm.symm ?_
  refine X_eqT C (tgt := 728) (by decide) dL_law_585 ?_
  refine X_widen (cN + 8) (sN + 332) (Nat.le_add_right _ _) (Nat.le_add_right _ _) ?_
  exact kn _ _ _ _ hP
set_option maxHeartbeats 4000000 in
set_option maxRecDepth 100000 in
theorem lc_packing {l : Launch} {D : va_G} {cs : Nat → ClassId} {K : XK} {b L : Nat} {xs : Nat → Int32} {ad am : Nat → Nat} {bb : Nat → Nat → Nat} {n j : Nat} {σ : ST} {it : Nat → Option ST} {τ : ST} {cN sN : Nat} {Pn : ST → (Nat → Option ST) → ST → Prop} (C : XC D cs K 4 room_1 cL_law RL lw_tbl ret) (S : XS K b L xs) (hj : 4 * j + 4 ≤ L) (hL : L ≤ 2048) (hcs : cN + 8 ≤ room_1.cells ∧ sN + 332 ≤ room_1.slots) (sim : ∃ (r : Int32) (σ1 : ST) (τ1 : ST), f_x_packing n σ  = some (r, σ1) ∧ f_m_packing n τ  = some (r, τ1) ∧ Pn σ1 it τ1) (kn : ∀ σ1 it1 τ1 bb1, Pn σ1 it1 τ1 → XW l D K (cN + 8) (sN + 332) (wL cs ad am bb1 σ1 it1 τ1) 728 [(0, .ref b), (1, .ref (ad 0)), (2, .ref (am 0)), (3, .int (nI (4 * j)))] []) : XW l D K cN sN (wL cs ad am bb σ it τ) 590 [(0, .ref b), (1, .ref (ad 0)), (2, .ref (am 0)), (3, .int (nI (4 * j)))] [] := by
  obtain ⟨r, σ1, τ1, hx, hm, hP⟩ := sim
  refine X_aload_n C 1 rfl rfl dL_law_590 ?_
  refine X_callVi (XC_sub C tv_X6_packing) (n := 0) (As := []) (c_x_packing (ad := ad) hx) rfl gv_X6_packing rfl rfl (xe_0 _ _ _ _ _) rfl rfl (by decide +kernel) ⟨Nat.le_of_ble_eq_true rfl, Nat.le_of_ble_eq_true rfl⟩ ⟨Nat.le_trans (Nat.le_add_right _ _) hcs.1, Nat.le_trans (Nat.le_add_right _ _) hcs.2⟩ rfl rfl (Nat.le_of_ble_eq_true rfl) dL_law_591 ?_
  refine X_aload_n C 2 rfl rfl dL_law_594 ?_
  refine X_perm wL_perm ?_
  refine X_callVi (XC_sub C tv_X7_packing) (n := 0) (As := []) (c_m_packing (ad := am) hm) rfl gv_X7_packing rfl rfl (me_0 _ _ _ _) rfl rfl (by decide +kernel) ⟨Nat.le_of_ble_eq_true rfl, Nat.le_of_ble_eq_true rfl⟩ ⟨Nat.le_trans (Nat.le_add_right _ _) hcs.1, Nat.le_trans (Nat.le_add_right _ _) hcs.2⟩ rfl rfl (Nat.le_of_ble_eq_true rfl) dL_law_595 ?_
  refine X_perm wL_perm.symm ?_
  refine X_eqT C (tgt := 728) (by decide) dL_law_598 ?_
  refine X_widen (cN + 8) (sN + 332) (Nat.le_add_right _ _) (Nat.le_add_right _ _) ?_
  exact kn _ _ _ _ hP
set_option maxHeartbeats 4000000 in
set_option maxRecDepth 100000 in
theorem lc_draw {l : Launch} {D : va_G} {cs : Nat → ClassId} {K : XK} {b L : Nat} {xs : Nat → Int32} {ad am : Nat → Nat} {bb : Nat → Nat → Nat} {n j : Nat} {σ : ST} {it : Nat → Option ST} {τ : ST} {cN sN : Nat} {Pn : ST → (Nat → Option ST) → ST → Prop} (C : XC D cs K 4 room_1 cL_law RL lw_tbl ret) (S : XS K b L xs) (hj : 4 * j + 4 ≤ L) (hL : L ≤ 2048) (hcs : cN + 8 ≤ room_1.cells ∧ sN + 332 ≤ room_1.slots) (sim : ∃ (r : Int32) (σ1 : ST) (τ1 : ST), f_x_draw n σ (ar xs j 1) (ar xs j 2) = some (r, σ1) ∧ f_m_draw n τ (ar xs j 1) (ar xs j 2) = some (r, τ1) ∧ Pn σ1 it τ1) (kn : ∀ σ1 it1 τ1 bb1, Pn σ1 it1 τ1 → XW l D K (cN + 8) (sN + 332) (wL cs ad am bb1 σ1 it1 τ1) 728 [(0, .ref b), (1, .ref (ad 0)), (2, .ref (am 0)), (3, .int (nI (4 * j)))] []) : XW l D K cN sN (wL cs ad am bb σ it τ) 603 [(0, .ref b), (1, .ref (ad 0)), (2, .ref (am 0)), (3, .int (nI (4 * j)))] [] := by
  obtain ⟨r, σ1, τ1, hx, hm, hP⟩ := sim
  refine X_aload_n C 1 rfl rfl dL_law_603 ?_
  refine X_aload_n C 0 rfl rfl dL_law_604 ?_
  refine X_iload_n C 3 rfl rfl dL_law_605 ?_
  refine X_iconst (v := 1) C (by decide) dL_law_606 ?_
  refine X_iadd C dL_law_607 ?_
  refine X_sld C S (sc_in (k := 1) rfl hj hL (by decide)) dL_law_608 ?_
  refine X_aload_n C 0 rfl rfl dL_law_609 ?_
  refine X_iload_n C 3 rfl rfl dL_law_610 ?_
  refine X_iconst (v := 2) C (by decide) dL_law_611 ?_
  refine X_iadd C dL_law_612 ?_
  refine X_sld C S (sc_in (k := 2) rfl hj hL (by decide)) dL_law_613 ?_
  refine X_callVi (XC_sub C tv_X6_draw) (n := 2) (As := [.int (ar xs j 1), .int (ar xs j 2)]) (c_x_draw (ad := ad) hx) rfl gv_X6_draw rfl rfl (xe_0 _ _ _ _ _) rfl rfl (by decide +kernel) ⟨Nat.le_of_ble_eq_true rfl, Nat.le_of_ble_eq_true rfl⟩ ⟨Nat.le_trans (Nat.le_add_right _ _) hcs.1, Nat.le_trans (Nat.le_add_right _ _) hcs.2⟩ rfl rfl (Nat.le_of_ble_eq_true rfl) dL_law_614 ?_
  refine X_aload_n C 2 rfl rfl dL_law_617 ?_
  refine X_aload_n C 0 rfl rfl dL_law_618 ?_
  refine X_iload_n C 3 rfl rfl dL_law_619 ?_
  refine X_iconst (v := 1) C (by decide) dL_law_620 ?_
  refine X_iadd C dL_law_621 ?_
  refine X_sld C S (sc_in (k := 1) rfl hj hL (by decide)) dL_law_622 ?_
  refine X_aload_n C 0 rfl rfl dL_law_623 ?_
  refine X_iload_n C 3 rfl rfl dL_law_624 ?_
  refine X_iconst (v := 2) C (by decide) dL_law_625 ?_
  refine X_iadd C dL_law_626 ?_
  refine X_sld C S (sc_in (k := 2) rfl hj hL (by decide)) dL_law_627 ?_
  refine X_perm wL_perm ?_
  refine X_callVi (XC_sub C tv_X7_draw) (n := 2) (As := [.int (ar xs j 1), .int (ar xs j 2)]) (c_m_draw (ad := am) hm) rfl gv_X7_draw rfl rfl (me_0 _ _ _ _) rfl rfl (by decide +kernel) ⟨Nat.le_of_ble_eq_true rfl, Nat.le_of_ble_eq_true rfl⟩ ⟨Nat.le_trans (Nat.le_add_right _ _) hcs.1, Nat.le_trans (Nat.le_add_right _ _) hcs.2⟩ rfl rfl (Nat.le_of_ble_eq_true rfl) dL_law_628 ?_
  refine X_perm wL_perm.symm ?_
  refine X_eqT C (tgt := 728) (by decide) dL_law_631 ?_
  refine X_widen (cN + 8) (sN + 332) (Nat.le_add_right _ _) (Nat.le_add_right _ _) ?_
  exact kn _ _ _ _ hP
set_option maxHeartbeats 4000000 in
set_option maxRecDepth 100000 in
theorem lc_uncross {l : Launch} {D : va_G} {cs : Nat → ClassId} {K : XK} {b L : Nat} {xs : Nat → Int32} {ad am : Nat → Nat} {bb : Nat → Nat → Nat} {n j : Nat} {σ : ST} {it : Nat → Option ST} {τ : ST} {cN sN : Nat} {Pn : ST → (Nat → Option ST) → ST → Prop} (C : XC D cs K 4 room_1 cL_law RL lw_tbl ret) (S : XS K b L xs) (hj : 4 * j + 4 ≤ L) (hL : L ≤ 2048) (hcs : cN + 8 ≤ room_1.cells ∧ sN + 332 ≤ room_1.slots) (sim : ∃ (r : Int32) (σ1 : ST) (τ1 : ST), f_x_uncross n σ  = some (r, σ1) ∧ f_m_uncross n τ  = some (r, τ1) ∧ Pn σ1 it τ1) (kn : ∀ σ1 it1 τ1 bb1, Pn σ1 it1 τ1 → XW l D K (cN + 8) (sN + 332) (wL cs ad am bb1 σ1 it1 τ1) 728 [(0, .ref b), (1, .ref (ad 0)), (2, .ref (am 0)), (3, .int (nI (4 * j)))] []) : XW l D K cN sN (wL cs ad am bb σ it τ) 636 [(0, .ref b), (1, .ref (ad 0)), (2, .ref (am 0)), (3, .int (nI (4 * j)))] [] := by
  obtain ⟨r, σ1, τ1, hx, hm, hP⟩ := sim
  refine X_aload_n C 1 rfl rfl dL_law_636 ?_
  refine X_callVi (XC_sub C tv_X6_uncross) (n := 0) (As := []) (c_x_uncross (ad := ad) hx) rfl gv_X6_uncross rfl rfl (xe_0 _ _ _ _ _) rfl rfl (by decide +kernel) ⟨Nat.le_of_ble_eq_true rfl, Nat.le_of_ble_eq_true rfl⟩ ⟨Nat.le_trans (Nat.le_add_right _ _) hcs.1, Nat.le_trans (Nat.le_add_right _ _) hcs.2⟩ rfl rfl (Nat.le_of_ble_eq_true rfl) dL_law_637 ?_
  refine X_aload_n C 2 rfl rfl dL_law_640 ?_
  refine X_perm wL_perm ?_
  refine X_callVi (XC_sub C tv_X7_uncross) (n := 0) (As := []) (c_m_uncross (ad := am) hm) rfl gv_X7_uncross rfl rfl (me_0 _ _ _ _) rfl rfl (by decide +kernel) ⟨Nat.le_of_ble_eq_true rfl, Nat.le_of_ble_eq_true rfl⟩ ⟨Nat.le_trans (Nat.le_add_right _ _) hcs.1, Nat.le_trans (Nat.le_add_right _ _) hcs.2⟩ rfl rfl (Nat.le_of_ble_eq_true rfl) dL_law_641 ?_
  refine X_perm wL_perm.symm ?_
  refine X_eqT C (tgt := 728) (by decide) dL_law_644 ?_
  refine X_widen (cN + 8) (sN + 332) (Nat.le_add_right _ _) (Nat.le_add_right _ _) ?_
  exact kn _ _ _ _ hP
set_option maxHeartbeats 4000000 in
set_option maxRecDepth 100000 in
theorem lc_member {l : Launch} {D : va_G} {cs : Nat → ClassId} {K : XK} {b L : Nat} {xs : Nat → Int32} {ad am : Nat → Nat} {bb : Nat → Nat → Nat} {n j : Nat} {σ : ST} {it : Nat → Option ST} {τ : ST} {cN sN : Nat} {Pn : ST → (Nat → Option ST) → ST → Prop} (C : XC D cs K 4 room_1 cL_law RL lw_tbl ret) (S : XS K b L xs) (hj : 4 * j + 4 ≤ L) (hL : L ≤ 2048) (hcs : cN + 8 ≤ room_1.cells ∧ sN + 332 ≤ room_1.slots) (sim : ∃ (r : Int32) (τ1 : ST), f_x_member n σ (ar xs j 1) (ar xs j 2) = some r ∧ f_m_member n τ (ar xs j 1) (ar xs j 2) = some (r, τ1) ∧ Pn σ it τ1) (kn : ∀ σ1 it1 τ1 bb1, Pn σ1 it1 τ1 → XW l D K (cN + 8) (sN + 332) (wL cs ad am bb1 σ1 it1 τ1) 728 [(0, .ref b), (1, .ref (ad 0)), (2, .ref (am 0)), (3, .int (nI (4 * j)))] []) : XW l D K cN sN (wL cs ad am bb σ it τ) 649 [(0, .ref b), (1, .ref (ad 0)), (2, .ref (am 0)), (3, .int (nI (4 * j)))] [] := by
  obtain ⟨r, τ1, hx, hm, hP⟩ := sim
  refine X_aload_n C 1 rfl rfl dL_law_649 ?_
  refine X_aload_n C 0 rfl rfl dL_law_650 ?_
  refine X_iload_n C 3 rfl rfl dL_law_651 ?_
  refine X_iconst (v := 1) C (by decide) dL_law_652 ?_
  refine X_iadd C dL_law_653 ?_
  refine X_sld C S (sc_in (k := 1) rfl hj hL (by decide)) dL_law_654 ?_
  refine X_aload_n C 0 rfl rfl dL_law_655 ?_
  refine X_iload_n C 3 rfl rfl dL_law_656 ?_
  refine X_iconst (v := 2) C (by decide) dL_law_657 ?_
  refine X_iadd C dL_law_658 ?_
  refine X_sld C S (sc_in (k := 2) rfl hj hL (by decide)) dL_law_659 ?_
  refine X_callVi (XC_sub C tv_X6_member) (n := 2) (As := [.int (ar xs j 1), .int (ar xs j 2)]) (c_x_member (ad := ad) hx) rfl gv_X6_member rfl rfl (xe_0 _ _ _ _ _) rfl rfl (by decide +kernel) ⟨Nat.le_of_ble_eq_true rfl, Nat.le_of_ble_eq_true rfl⟩ ⟨Nat.le_trans (Nat.le_add_right _ _) hcs.1, Nat.le_trans (Nat.le_add_right _ _) hcs.2⟩ rfl rfl (Nat.le_of_ble_eq_true rfl) dL_law_660 ?_
  refine X_aload_n C 2 rfl rfl dL_law_663 ?_
  refine X_aload_n C 0 rfl rfl dL_law_664 ?_
  refine X_iload_n C 3 rfl rfl dL_law_665 ?_
  refine X_iconst (v := 1) C (by decide) dL_law_666 ?_
  refine X_iadd C dL_law_667 ?_
  refine X_sld C S (sc_in (k := 1) rfl hj hL (by decide)) dL_law_668 ?_
  refine X_aload_n C 0 rfl rfl dL_law_669 ?_
  refine X_iload_n C 3 rfl rfl dL_law_670 ?_
  refine X_iconst (v := 2) C (by decide) dL_law_671 ?_
  refine X_iadd C dL_law_672 ?_
  refine X_sld C S (sc_in (k := 2) rfl hj hL (by decide)) dL_law_673 ?_
  refine X_perm wL_perm ?_
  refine X_callVi (XC_sub C tv_X7_member) (n := 2) (As := [.int (ar xs j 1), .int (ar xs j 2)]) (c_m_member (ad := am) hm) rfl gv_X7_member rfl rfl (me_0 _ _ _ _) rfl rfl (by decide +kernel) ⟨Nat.le_of_ble_eq_true rfl, Nat.le_of_ble_eq_true rfl⟩ ⟨Nat.le_trans (Nat.le_add_right _ _) hcs.1, Nat.le_trans (Nat.le_add_right _ _) hcs.2⟩ rfl rfl (Nat.le_of_ble_eq_true rfl) dL_law_674 ?_
  refine X_perm wL_perm.symm ?_
  refine X_eqT C (tgt := 728) (by decide) dL_law_677 ?_
  refine X_widen (cN + 8) (sN + 332) (Nat.le_add_right _ _) (Nat.le_add_right _ _) ?_
  exact kn _ _ _ _ hP
set_option maxHeartbeats 4000000 in
set_option maxRecDepth 100000 in
theorem lc_image {l : Launch} {D : va_G} {cs : Nat → ClassId} {K : XK} {b L : Nat} {xs : Nat → Int32} {ad am : Nat → Nat} {bb : Nat → Nat → Nat} {n j : Nat} {σ : ST} {it : Nat → Option ST} {τ : ST} {cN sN : Nat} {Pn : ST → (Nat → Option ST) → ST → Prop} (C : XC D cs K 4 room_1 cL_law RL lw_tbl ret) (S : XS K b L xs) (hj : 4 * j + 4 ≤ L) (hL : L ≤ 2048) (hcs : cN + 8 ≤ room_1.cells ∧ sN + 332 ≤ room_1.slots) (sim : ∃ (r : Int32) (τ1 : ST), f_m_image n τ (ar xs j 1) = some (r, τ1) ∧ ((f_x_image (ar xs j 1) = some false ∧ r = 0 ∧ Pn σ it τ1) ∨ (f_x_image (ar xs j 1) = some true ∧ r = 1 ∧ jin (ar xs j 1) 4 = true ∧ jz (σ.1 384) = true ∧ ((∃ τi, it (jix (ar xs j 1)) = some τi ∧ Pn σ (va_up it (jix (ar xs j 1)) (some (cpx τi σ))) τ1) ∨ (it (jix (ar xs j 1)) = none ∧ Pn σ (va_up it (jix (ar xs j 1)) (some (cpx z0 σ))) τ1))))) (kn : ∀ σ1 it1 τ1 bb1, Pn σ1 it1 τ1 → XW l D K (cN + 8) (sN + 332) (wL cs ad am bb1 σ1 it1 τ1) 728 [(0, .ref b), (1, .ref (ad 0)), (2, .ref (am 0)), (3, .int (nI (4 * j)))] []) : XW l D K cN sN (wL cs ad am bb σ it τ) 682 [(0, .ref b), (1, .ref (ad 0)), (2, .ref (am 0)), (3, .int (nI (4 * j)))] [] := by
  obtain ⟨r, τ1, hm, ⟨hx, rfl, hP⟩ | ⟨hx, rfl, hjn, hz, ⟨τi, hi, hP⟩ | ⟨hi, hP⟩⟩⟩ := sim
  · skip
    refine X_aload_n C 1 rfl rfl dL_law_682 ?_
    refine X_aload_n C 0 rfl rfl dL_law_683 ?_
    refine X_iload_n C 3 rfl rfl dL_law_684 ?_
    refine X_iconst (v := 1) C (by decide) dL_law_685 ?_
    refine X_iadd C dL_law_686 ?_
    refine X_sld C S (sc_in (k := 1) rfl hj hL (by decide)) dL_law_687 ?_
    refine X_callVm (XC_sub C tv_X6_image) (n := 1) (As := [.int (ar xs j 1)]) (c_image_f (ad := ad) hx) rfl gv_X6_image rfl rfl (xe_0 _ _ _ _ _) rfl rfl (by decide +kernel) ⟨Nat.le_of_ble_eq_true rfl, Nat.le_of_ble_eq_true rfl⟩ hcs rfl rfl (Nat.le_of_ble_eq_true rfl) dL_law_688 (fun u => ?_)
    refine X_aload_n C 2 rfl rfl dL_law_691 ?_
    refine X_aload_n C 0 rfl rfl dL_law_692 ?_
    refine X_iload_n C 3 rfl rfl dL_law_693 ?_
    refine X_iconst (v := 1) C (by decide) dL_law_694 ?_
    refine X_iadd C dL_law_695 ?_
    refine X_sld C S (sc_in (k := 1) rfl hj hL (by decide)) dL_law_696 ?_
    refine X_perm wL_perm ?_
    refine X_callVi (XC_sub C tv_X7_image) (n := 1) (As := [.int (ar xs j 1)]) (c_m_image (ad := am) hm) rfl gv_X7_image rfl rfl (me_0 _ _ _ _) rfl rfl (by decide +kernel) ⟨Nat.le_of_ble_eq_true rfl, Nat.le_of_ble_eq_true rfl⟩ hcs rfl rfl (Nat.le_of_ble_eq_true rfl) dL_law_697 ?_
    refine X_perm wL_perm.symm ?_
    refine X_eqT C (tgt := 728) (by decide) dL_law_700 ?_
    exact kn _ _ _ _ hP
  · obtain ⟨r1, hp, hp2⟩ := imR_old (cs := cs) (bb := bb) (jin_lt hjn) hi
    refine X_aload_n C 1 rfl rfl dL_law_682 ?_
    refine X_aload_n C 0 rfl rfl dL_law_683 ?_
    refine X_iload_n C 3 rfl rfl dL_law_684 ?_
    refine X_iconst (v := 1) C (by decide) dL_law_685 ?_
    refine X_iadd C dL_law_686 ?_
    refine X_sld C S (sc_in (k := 1) rfl hj hL (by decide)) dL_law_687 ?_
    refine X_callVm (XC_sub C tv_X6_image) (n := 1) (As := [.int (ar xs j 1)]) (c_image_old (ad := ad) (rest1 := r1 ++ wM cs am τ []) (rest2 := imR cs bb (va_up it (jix (ar xs j 1)) (some (cpx τi σ))) ++ wM cs am τ []) hx (imF_some hi) hz (hp.append_right _) ((hp2 _).append_right _)) rfl gv_X6_image rfl rfl (xe_0 _ _ _ _ _) rfl rfl (by decide +kernel) ⟨Nat.le_of_ble_eq_true rfl, Nat.le_of_ble_eq_true rfl⟩ hcs rfl rfl (Nat.le_of_ble_eq_true rfl) dL_law_688 (fun u => ?_)
    rw [← imF_old (τ1 := cpx τi σ) hi]
    refine X_aload_n C 2 rfl rfl dL_law_691 ?_
    refine X_aload_n C 0 rfl rfl dL_law_692 ?_
    refine X_iload_n C 3 rfl rfl dL_law_693 ?_
    refine X_iconst (v := 1) C (by decide) dL_law_694 ?_
    refine X_iadd C dL_law_695 ?_
    refine X_sld C S (sc_in (k := 1) rfl hj hL (by decide)) dL_law_696 ?_
    refine X_perm wL_perm ?_
    refine X_callVi (XC_sub C tv_X7_image) (n := 1) (As := [.int (ar xs j 1)]) (c_m_image (ad := am) hm) rfl gv_X7_image rfl rfl (me_0 _ _ _ _) rfl rfl (by decide +kernel) ⟨Nat.le_of_ble_eq_true rfl, Nat.le_of_ble_eq_true rfl⟩ hcs rfl rfl (Nat.le_of_ble_eq_true rfl) dL_law_697 ?_
    refine X_perm wL_perm.symm ?_
    refine X_eqT C (tgt := 728) (by decide) dL_law_700 ?_
    exact kn _ _ _ _ hP
  · skip
    refine X_aload_n C 1 rfl rfl dL_law_682 ?_
    refine X_aload_n C 0 rfl rfl dL_law_683 ?_
    refine X_iload_n C 3 rfl rfl dL_law_684 ?_
    refine X_iconst (v := 1) C (by decide) dL_law_685 ?_
    refine X_iadd C dL_law_686 ?_
    refine X_sld C S (sc_in (k := 1) rfl hj hL (by decide)) dL_law_687 ?_
    refine X_callVm (XC_sub C tv_X6_image) (n := 1) (As := [.int (ar xs j 1)]) (c_image_new (ad := ad) hx (imF_none hi) hz) rfl gv_X6_image rfl rfl (xe_0 _ _ _ _ _) rfl rfl (by decide +kernel) ⟨Nat.le_of_ble_eq_true rfl, Nat.le_of_ble_eq_true rfl⟩ hcs rfl rfl (Nat.le_of_ble_eq_true rfl) dL_law_688 (fun u => ?_)
    rw [← imF_new (τ1 := cpx z0 σ)]
    refine X_perm (wX_perm ((imR_new (cs := cs) (bb := bb) (τ1 := cpx z0 σ) (u := u) (jin_lt hjn) hi).symm.append_right (wM cs am τ []))) ?_
    refine X_aload_n C 2 rfl rfl dL_law_691 ?_
    refine X_aload_n C 0 rfl rfl dL_law_692 ?_
    refine X_iload_n C 3 rfl rfl dL_law_693 ?_
    refine X_iconst (v := 1) C (by decide) dL_law_694 ?_
    refine X_iadd C dL_law_695 ?_
    refine X_sld C S (sc_in (k := 1) rfl hj hL (by decide)) dL_law_696 ?_
    refine X_perm wL_perm ?_
    refine X_callVi (XC_sub C tv_X7_image) (n := 1) (As := [.int (ar xs j 1)]) (c_m_image (ad := am) hm) rfl gv_X7_image rfl rfl (me_0 _ _ _ _) rfl rfl (by decide +kernel) ⟨Nat.le_of_ble_eq_true rfl, Nat.le_of_ble_eq_true rfl⟩ hcs rfl rfl (Nat.le_of_ble_eq_true rfl) dL_law_697 ?_
    refine X_perm wL_perm.symm ?_
    refine X_eqT C (tgt := 728) (by decide) dL_law_700 ?_
    exact kn _ _ _ _ hP
set_option maxHeartbeats 4000000 in
set_option maxRecDepth 100000 in
theorem lc_again {l : Launch} {D : va_G} {cs : Nat → ClassId} {K : XK} {b L : Nat} {xs : Nat → Int32} {ad am : Nat → Nat} {bb : Nat → Nat → Nat} {n j : Nat} {σ : ST} {it : Nat → Option ST} {τ : ST} {cN sN : Nat} {Pn : ST → (Nat → Option ST) → ST → Prop} (C : XC D cs K 4 room_1 cL_law RL lw_tbl ret) (S : XS K b L xs) (hj : 4 * j + 4 ≤ L) (hL : L ≤ 2048) (hcs : cN + 8 ≤ room_1.cells ∧ sN + 332 ≤ room_1.slots) (sim : ∃ (r : Int32) (τ1 : ST), f_m_again n τ (ar xs j 1) = some (r, τ1) ∧ ((f_x_again (imF bb it) (ar xs j 1) = some false ∧ r = 0 ∧ Pn σ it τ1) ∨ (f_x_again (imF bb it) (ar xs j 1) = some true ∧ r = 1 ∧ jin (ar xs j 1) 4 = true ∧ ∃ τi, it (jix (ar xs j 1)) = some τi ∧ jz (τi.1 384) = true ∧ Pn (cpx σ τi) it τ1))) (kn : ∀ σ1 it1 τ1 bb1, Pn σ1 it1 τ1 → XW l D K (cN + 8) (sN + 332) (wL cs ad am bb1 σ1 it1 τ1) 728 [(0, .ref b), (1, .ref (ad 0)), (2, .ref (am 0)), (3, .int (nI (4 * j)))] []) : XW l D K cN sN (wL cs ad am bb σ it τ) 705 [(0, .ref b), (1, .ref (ad 0)), (2, .ref (am 0)), (3, .int (nI (4 * j)))] [] := by
  obtain ⟨r, τ1, hm, ⟨hx, rfl, hP⟩ | ⟨hx, rfl, hjn, τi, hi, hz, hP⟩⟩ := sim
  · skip
    refine X_aload_n C 1 rfl rfl dL_law_705 ?_
    refine X_aload_n C 0 rfl rfl dL_law_706 ?_
    refine X_iload_n C 3 rfl rfl dL_law_707 ?_
    refine X_iconst (v := 1) C (by decide) dL_law_708 ?_
    refine X_iadd C dL_law_709 ?_
    refine X_sld C S (sc_in (k := 1) rfl hj hL (by decide)) dL_law_710 ?_
    refine X_callVi (XC_sub C tv_X6_again) (n := 1) (As := [.int (ar xs j 1)]) (c_again_f (ad := ad) hx) rfl gv_X6_again rfl rfl (xe_0 _ _ _ _ _) rfl rfl (by decide +kernel) ⟨Nat.le_of_ble_eq_true rfl, Nat.le_of_ble_eq_true rfl⟩ ⟨Nat.le_trans (Nat.le_add_right _ _) hcs.1, Nat.le_trans (Nat.le_add_right _ _) hcs.2⟩ rfl rfl (Nat.le_of_ble_eq_true rfl) dL_law_711 ?_
    refine X_aload_n C 2 rfl rfl dL_law_714 ?_
    refine X_aload_n C 0 rfl rfl dL_law_715 ?_
    refine X_iload_n C 3 rfl rfl dL_law_716 ?_
    refine X_iconst (v := 1) C (by decide) dL_law_717 ?_
    refine X_iadd C dL_law_718 ?_
    refine X_sld C S (sc_in (k := 1) rfl hj hL (by decide)) dL_law_719 ?_
    refine X_perm wL_perm ?_
    refine X_callVi (XC_sub C tv_X7_again) (n := 1) (As := [.int (ar xs j 1)]) (c_m_again (ad := am) hm) rfl gv_X7_again rfl rfl (me_0 _ _ _ _) rfl rfl (by decide +kernel) ⟨Nat.le_of_ble_eq_true rfl, Nat.le_of_ble_eq_true rfl⟩ ⟨Nat.le_trans (Nat.le_add_right _ _) hcs.1, Nat.le_trans (Nat.le_add_right _ _) hcs.2⟩ rfl rfl (Nat.le_of_ble_eq_true rfl) dL_law_720 ?_
    refine X_perm wL_perm.symm ?_
    refine X_eqT C (tgt := 728) (by decide) dL_law_723 ?_
    refine X_widen (cN + 8) (sN + 332) (Nat.le_add_right _ _) (Nat.le_add_right _ _) ?_
    exact kn _ _ _ _ hP
  · obtain ⟨r1, hp, _⟩ := imR_old (cs := cs) (bb := bb) (jin_lt hjn) hi
    refine X_aload_n C 1 rfl rfl dL_law_705 ?_
    refine X_aload_n C 0 rfl rfl dL_law_706 ?_
    refine X_iload_n C 3 rfl rfl dL_law_707 ?_
    refine X_iconst (v := 1) C (by decide) dL_law_708 ?_
    refine X_iadd C dL_law_709 ?_
    refine X_sld C S (sc_in (k := 1) rfl hj hL (by decide)) dL_law_710 ?_
    refine X_callVi (XC_sub C tv_X6_again) (n := 1) (As := [.int (ar xs j 1)]) (c_again_t (ad := ad) (rest1 := r1 ++ wM cs am τ []) hx (imF_some hi) hz (hp.append_right _)) rfl gv_X6_again rfl rfl (xe_0 _ _ _ _ _) rfl rfl (by decide +kernel) ⟨Nat.le_of_ble_eq_true rfl, Nat.le_of_ble_eq_true rfl⟩ ⟨Nat.le_trans (Nat.le_add_right _ _) hcs.1, Nat.le_trans (Nat.le_add_right _ _) hcs.2⟩ rfl rfl (Nat.le_of_ble_eq_true rfl) dL_law_711 ?_
    refine X_aload_n C 2 rfl rfl dL_law_714 ?_
    refine X_aload_n C 0 rfl rfl dL_law_715 ?_
    refine X_iload_n C 3 rfl rfl dL_law_716 ?_
    refine X_iconst (v := 1) C (by decide) dL_law_717 ?_
    refine X_iadd C dL_law_718 ?_
    refine X_sld C S (sc_in (k := 1) rfl hj hL (by decide)) dL_law_719 ?_
    refine X_perm wL_perm ?_
    refine X_callVi (XC_sub C tv_X7_again) (n := 1) (As := [.int (ar xs j 1)]) (c_m_again (ad := am) hm) rfl gv_X7_again rfl rfl (me_0 _ _ _ _) rfl rfl (by decide +kernel) ⟨Nat.le_of_ble_eq_true rfl, Nat.le_of_ble_eq_true rfl⟩ ⟨Nat.le_trans (Nat.le_add_right _ _) hcs.1, Nat.le_trans (Nat.le_add_right _ _) hcs.2⟩ rfl rfl (Nat.le_of_ble_eq_true rfl) dL_law_720 ?_
    refine X_perm wL_perm.symm ?_
    refine X_eqT C (tgt := 728) (by decide) dL_law_723 ?_
    refine X_widen (cN + 8) (sN + 332) (Nat.le_add_right _ _) (Nat.le_add_right _ _) ?_
    exact kn _ _ _ _ hP
