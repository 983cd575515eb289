theorem inX00 : ∀ w ∈ wsX00, w ∈ lw_tbl := by decide +kernel
theorem inX10 : ∀ w ∈ wsX10, w ∈ lw_tbl := by decide +kernel
theorem inX20 : ∀ w ∈ wsX20, w ∈ lw_tbl := by decide +kernel
theorem inX30 : ∀ w ∈ wsX30, w ∈ lw_tbl := by decide +kernel
theorem inX40 : ∀ w ∈ wsX40, w ∈ lw_tbl := by decide +kernel
theorem inX50 : ∀ w ∈ wsX50, w ∈ lw_tbl := by decide +kernel
theorem inX60 : ∀ w ∈ wsX60, w ∈ lw_tbl := by decide +kernel
theorem inX70 : ∀ w ∈ wsX70, w ∈ lw_tbl := by decide +kernel
theorem t_wsX6_init_r1 : ∀ w ∈ wsX6_init_r1, w ∈ lw_tbl := by
  unfold wsX6_init_r1
  exact List.forall_mem_cons.mpr ⟨lwd_9, List.forall_mem_cons.mpr ⟨lwd_10, List.forall_mem_cons.mpr ⟨lwd_11, List.forall_mem_cons.mpr ⟨lwd_12, List.forall_mem_cons.mpr ⟨lwd_13, List.forall_mem_cons.mpr ⟨lwd_14, List.forall_mem_cons.mpr ⟨lwd_15, List.forall_mem_cons.mpr ⟨lwd_16, List.forall_mem_cons.mpr ⟨lwd_17, List.forall_mem_cons.mpr ⟨lwd_18, List.forall_mem_cons.mpr ⟨lwd_19, List.forall_mem_cons.mpr ⟨lwd_20, List.forall_mem_cons.mpr ⟨lwd_21, List.forall_mem_cons.mpr ⟨lwd_22, List.forall_mem_cons.mpr ⟨lwd_23, List.forall_mem_cons.mpr ⟨lwd_24, List.forall_mem_cons.mpr ⟨lwd_25, List.forall_mem_cons.mpr ⟨lwd_26, List.forall_mem_cons.mpr ⟨lwd_27, List.forall_mem_cons.mpr ⟨lwd_28, List.forall_mem_cons.mpr ⟨lwd_29, List.forall_mem_cons.mpr ⟨lwd_30, List.forall_mem_cons.mpr ⟨lwd_31, List.forall_mem_cons.mpr ⟨lwd_32, nil_all⟩⟩⟩⟩⟩⟩⟩⟩⟩⟩⟩⟩⟩⟩⟩⟩⟩⟩⟩⟩⟩⟩⟩⟩
theorem t_wsX6_init_r2 : ∀ w ∈ wsX6_init_r2, w ∈ lw_tbl := by
  unfold wsX6_init_r2
  exact List.forall_mem_cons.mpr ⟨lwd_33, List.forall_mem_cons.mpr ⟨lwd_34, List.forall_mem_cons.mpr ⟨lwd_35, List.forall_mem_cons.mpr ⟨lwd_36, List.forall_mem_cons.mpr ⟨lwd_37, List.forall_mem_cons.mpr ⟨lwd_38, List.forall_mem_cons.mpr ⟨lwd_39, List.forall_mem_cons.mpr ⟨lwd_40, List.forall_mem_cons.mpr ⟨lwd_41, List.forall_mem_cons.mpr ⟨lwd_42, List.forall_mem_cons.mpr ⟨lwd_43, List.forall_mem_cons.mpr ⟨lwd_44, List.forall_mem_cons.mpr ⟨lwd_45, List.forall_mem_cons.mpr ⟨lwd_46, List.forall_mem_cons.mpr ⟨lwd_47, List.forall_mem_cons.mpr ⟨lwd_48, List.forall_mem_cons.mpr ⟨lwd_49, List.forall_mem_cons.mpr ⟨lwd_50, List.forall_mem_cons.mpr ⟨lwd_51, List.forall_mem_cons.mpr ⟨lwd_52, List.forall_mem_cons.mpr ⟨lwd_53, List.forall_mem_cons.mpr ⟨lwd_54, List.forall_mem_cons.mpr ⟨lwd_55, List.forall_mem_cons.mpr ⟨lwd_56, nil_all⟩⟩⟩⟩⟩⟩⟩⟩⟩⟩⟩⟩⟩⟩⟩⟩⟩⟩⟩⟩⟩⟩⟩⟩
theorem t_wsX6_init_r3 : ∀ w ∈ wsX6_init_r3, w ∈ lw_tbl := by
  unfold wsX6_init_r3
  exact List.forall_mem_cons.mpr ⟨lwd_57, List.forall_mem_cons.mpr ⟨lwd_58, List.forall_mem_cons.mpr ⟨lwd_59, List.forall_mem_cons.mpr ⟨lwd_60, List.forall_mem_cons.mpr ⟨lwd_61, List.forall_mem_cons.mpr ⟨lwd_62, List.forall_mem_cons.mpr ⟨lwd_63, List.forall_mem_cons.mpr ⟨lwd_64, List.forall_mem_cons.mpr ⟨lwd_65, List.forall_mem_cons.mpr ⟨lwd_66, List.forall_mem_cons.mpr ⟨lwd_67, List.forall_mem_cons.mpr ⟨lwd_68, List.forall_mem_cons.mpr ⟨lwd_69, List.forall_mem_cons.mpr ⟨lwd_70, List.forall_mem_cons.mpr ⟨lwd_71, List.forall_mem_cons.mpr ⟨lwd_72, List.forall_mem_cons.mpr ⟨lwd_73, List.forall_mem_cons.mpr ⟨lwd_74, List.forall_mem_cons.mpr ⟨lwd_75, List.forall_mem_cons.mpr ⟨lwd_76, nil_all⟩⟩⟩⟩⟩⟩⟩⟩⟩⟩⟩⟩⟩⟩⟩⟩⟩⟩⟩⟩
theorem t_wsX6_init : ∀ w ∈ wsX6_init, w ∈ lw_tbl := by
  unfold wsX6_init
  exact List.forall_mem_cons.mpr ⟨lwd_8, List.forall_mem_append.mpr ⟨List.forall_mem_append.mpr ⟨List.forall_mem_append.mpr ⟨List.forall_mem_append.mpr ⟨List.forall_mem_append.mpr ⟨List.forall_mem_append.mpr ⟨List.forall_mem_append.mpr ⟨List.forall_mem_append.mpr ⟨t_wsX6_init_r1, List.forall_mem_append.mpr ⟨t_wsX6_init_r2, t_wsX6_init_r3⟩⟩, inX00⟩, inX60⟩, inX30⟩, inX50⟩, inX40⟩, inX20⟩, inX10⟩⟩
theorem t_wsX6_begin_r1 : ∀ w ∈ wsX6_begin_r1, w ∈ lw_tbl := by
  unfold wsX6_begin_r1
  exact List.forall_mem_cons.mpr ⟨lwd_15, List.forall_mem_cons.mpr ⟨lwd_29, List.forall_mem_cons.mpr ⟨lwd_111, List.forall_mem_cons.mpr ⟨lwd_112, List.forall_mem_cons.mpr ⟨lwd_71, List.forall_mem_cons.mpr ⟨lwd_72, List.forall_mem_cons.mpr ⟨lwd_73, List.forall_mem_cons.mpr ⟨lwd_35, List.forall_mem_cons.mpr ⟨lwd_74, List.forall_mem_cons.mpr ⟨lwd_75, List.forall_mem_cons.mpr ⟨lwd_76, List.forall_mem_cons.mpr ⟨lwd_113, List.forall_mem_cons.mpr ⟨lwd_114, List.forall_mem_cons.mpr ⟨lwd_115, List.forall_mem_cons.mpr ⟨lwd_39, List.forall_mem_cons.mpr ⟨lwd_116, List.forall_mem_cons.mpr ⟨lwd_117, List.forall_mem_cons.mpr ⟨lwd_118, List.forall_mem_cons.mpr ⟨lwd_119, List.forall_mem_cons.mpr ⟨lwd_120, List.forall_mem_cons.mpr ⟨lwd_121, List.forall_mem_cons.mpr ⟨lwd_122, List.forall_mem_cons.mpr ⟨lwd_51, List.forall_mem_cons.mpr ⟨lwd_52, nil_all⟩⟩⟩⟩⟩⟩⟩⟩⟩⟩⟩⟩⟩⟩⟩⟩⟩⟩⟩⟩⟩⟩⟩⟩
theorem t_wsX6_begin_r2 : ∀ w ∈ wsX6_begin_r2, w ∈ lw_tbl := by
  unfold wsX6_begin_r2
  exact List.forall_mem_cons.mpr ⟨lwd_123, List.forall_mem_cons.mpr ⟨lwd_124, List.forall_mem_cons.mpr ⟨lwd_125, List.forall_mem_cons.mpr ⟨lwd_126, nil_all⟩⟩⟩⟩
theorem t_wsX6_begin : ∀ w ∈ wsX6_begin, w ∈ lw_tbl := by
  unfold wsX6_begin
  exact List.forall_mem_cons.mpr ⟨lwd_110, List.forall_mem_append.mpr ⟨List.forall_mem_append.mpr ⟨List.forall_mem_append.mpr ⟨List.forall_mem_append.mpr ⟨List.forall_mem_append.mpr ⟨t_wsX6_begin_r1, t_wsX6_begin_r2⟩, inX60⟩, inX00⟩, inX20⟩, inX10⟩⟩
theorem t_wsX6_arc : ∀ w ∈ wsX6_arc, w ∈ lw_tbl := by
  unfold wsX6_arc
  exact List.forall_mem_cons.mpr ⟨lwd_147, List.forall_mem_append.mpr ⟨List.forall_mem_append.mpr ⟨List.forall_mem_append.mpr ⟨List.forall_mem_cons.mpr ⟨lwd_15, List.forall_mem_cons.mpr ⟨lwd_29, List.forall_mem_cons.mpr ⟨lwd_148, List.forall_mem_cons.mpr ⟨lwd_149, List.forall_mem_cons.mpr ⟨lwd_150, List.forall_mem_cons.mpr ⟨lwd_151, List.forall_mem_cons.mpr ⟨lwd_35, List.forall_mem_cons.mpr ⟨lwd_152, List.forall_mem_cons.mpr ⟨lwd_75, List.forall_mem_cons.mpr ⟨lwd_153, List.forall_mem_cons.mpr ⟨lwd_154, List.forall_mem_cons.mpr ⟨lwd_2, List.forall_mem_cons.mpr ⟨lwd_155, List.forall_mem_cons.mpr ⟨lwd_156, List.forall_mem_cons.mpr ⟨lwd_157, List.forall_mem_cons.mpr ⟨lwd_158, List.forall_mem_cons.mpr ⟨lwd_159, List.forall_mem_cons.mpr ⟨lwd_45, List.forall_mem_cons.mpr ⟨lwd_76, List.forall_mem_cons.mpr ⟨lwd_46, List.forall_mem_cons.mpr ⟨lwd_47, nil_all⟩⟩⟩⟩⟩⟩⟩⟩⟩⟩⟩⟩⟩⟩⟩⟩⟩⟩⟩⟩⟩, inX60⟩, inX00⟩, inX20⟩⟩
theorem t_wsX6_drop : ∀ w ∈ wsX6_drop, w ∈ lw_tbl := by
  unfold wsX6_drop
  exact List.forall_mem_cons.mpr ⟨lwd_167, List.forall_mem_append.mpr ⟨List.forall_mem_append.mpr ⟨List.forall_mem_append.mpr ⟨List.forall_mem_cons.mpr ⟨lwd_15, List.forall_mem_cons.mpr ⟨lwd_29, List.forall_mem_cons.mpr ⟨lwd_148, List.forall_mem_cons.mpr ⟨lwd_168, List.forall_mem_cons.mpr ⟨lwd_169, List.forall_mem_cons.mpr ⟨lwd_170, List.forall_mem_cons.mpr ⟨lwd_35, List.forall_mem_cons.mpr ⟨lwd_171, List.forall_mem_cons.mpr ⟨lwd_76, List.forall_mem_cons.mpr ⟨lwd_172, List.forall_mem_cons.mpr ⟨lwd_173, List.forall_mem_cons.mpr ⟨lwd_174, List.forall_mem_cons.mpr ⟨lwd_175, List.forall_mem_cons.mpr ⟨lwd_45, List.forall_mem_cons.mpr ⟨lwd_46, List.forall_mem_cons.mpr ⟨lwd_47, nil_all⟩⟩⟩⟩⟩⟩⟩⟩⟩⟩⟩⟩⟩⟩⟩⟩, inX60⟩, inX00⟩, inX20⟩⟩
theorem t_wsX6_weigh : ∀ w ∈ wsX6_weigh, w ∈ lw_tbl := by
  unfold wsX6_weigh
  exact List.forall_mem_cons.mpr ⟨lwd_187, List.forall_mem_append.mpr ⟨List.forall_mem_append.mpr ⟨List.forall_mem_append.mpr ⟨List.forall_mem_cons.mpr ⟨lwd_15, List.forall_mem_cons.mpr ⟨lwd_29, List.forall_mem_cons.mpr ⟨lwd_188, List.forall_mem_cons.mpr ⟨lwd_168, List.forall_mem_cons.mpr ⟨lwd_169, List.forall_mem_cons.mpr ⟨lwd_170, List.forall_mem_cons.mpr ⟨lwd_35, List.forall_mem_cons.mpr ⟨lwd_171, List.forall_mem_cons.mpr ⟨lwd_76, List.forall_mem_cons.mpr ⟨lwd_153, List.forall_mem_cons.mpr ⟨lwd_154, List.forall_mem_cons.mpr ⟨lwd_2, List.forall_mem_cons.mpr ⟨lwd_155, nil_all⟩⟩⟩⟩⟩⟩⟩⟩⟩⟩⟩⟩⟩, inX60⟩, inX00⟩, inX20⟩⟩
theorem t_wsX6_turn : ∀ w ∈ wsX6_turn, w ∈ lw_tbl := by
  unfold wsX6_turn
  exact List.forall_mem_cons.mpr ⟨lwd_196, List.forall_mem_append.mpr ⟨List.forall_mem_append.mpr ⟨List.forall_mem_append.mpr ⟨List.forall_mem_cons.mpr ⟨lwd_15, List.forall_mem_cons.mpr ⟨lwd_29, List.forall_mem_cons.mpr ⟨lwd_197, List.forall_mem_cons.mpr ⟨lwd_198, List.forall_mem_cons.mpr ⟨lwd_168, List.forall_mem_cons.mpr ⟨lwd_169, List.forall_mem_cons.mpr ⟨lwd_170, List.forall_mem_cons.mpr ⟨lwd_35, List.forall_mem_cons.mpr ⟨lwd_171, List.forall_mem_cons.mpr ⟨lwd_76, nil_all⟩⟩⟩⟩⟩⟩⟩⟩⟩⟩, inX60⟩, inX00⟩, inX20⟩⟩
theorem t_wsX6_join : ∀ w ∈ wsX6_join, w ∈ lw_tbl := by
  unfold wsX6_join
  exact List.forall_mem_cons.mpr ⟨lwd_206, List.forall_mem_append.mpr ⟨List.forall_mem_append.mpr ⟨List.forall_mem_append.mpr ⟨List.forall_mem_cons.mpr ⟨lwd_15, List.forall_mem_cons.mpr ⟨lwd_29, List.forall_mem_cons.mpr ⟨lwd_207, List.forall_mem_cons.mpr ⟨lwd_149, List.forall_mem_cons.mpr ⟨lwd_150, List.forall_mem_cons.mpr ⟨lwd_151, List.forall_mem_cons.mpr ⟨lwd_35, List.forall_mem_cons.mpr ⟨lwd_152, List.forall_mem_cons.mpr ⟨lwd_75, List.forall_mem_cons.mpr ⟨lwd_208, List.forall_mem_cons.mpr ⟨lwd_209, List.forall_mem_cons.mpr ⟨lwd_210, List.forall_mem_cons.mpr ⟨lwd_211, List.forall_mem_cons.mpr ⟨lwd_76, List.forall_mem_cons.mpr ⟨lwd_45, List.forall_mem_cons.mpr ⟨lwd_46, List.forall_mem_cons.mpr ⟨lwd_212, List.forall_mem_cons.mpr ⟨lwd_213, List.forall_mem_cons.mpr ⟨lwd_214, nil_all⟩⟩⟩⟩⟩⟩⟩⟩⟩⟩⟩⟩⟩⟩⟩⟩⟩⟩⟩, inX60⟩, inX00⟩, inX20⟩⟩
theorem t_wsX6_tell : ∀ w ∈ wsX6_tell, w ∈ lw_tbl := by
  unfold wsX6_tell
  exact List.forall_mem_cons.mpr ⟨lwd_229, List.forall_mem_append.mpr ⟨List.forall_mem_append.mpr ⟨List.forall_mem_append.mpr ⟨List.forall_mem_append.mpr ⟨List.forall_mem_cons.mpr ⟨lwd_15, List.forall_mem_cons.mpr ⟨lwd_29, List.forall_mem_cons.mpr ⟨lwd_197, List.forall_mem_cons.mpr ⟨lwd_198, List.forall_mem_cons.mpr ⟨lwd_188, List.forall_mem_cons.mpr ⟨lwd_112, List.forall_mem_cons.mpr ⟨lwd_230, List.forall_mem_cons.mpr ⟨lwd_111, List.forall_mem_cons.mpr ⟨lwd_168, List.forall_mem_cons.mpr ⟨lwd_169, List.forall_mem_cons.mpr ⟨lwd_170, List.forall_mem_cons.mpr ⟨lwd_35, List.forall_mem_cons.mpr ⟨lwd_171, List.forall_mem_cons.mpr ⟨lwd_76, nil_all⟩⟩⟩⟩⟩⟩⟩⟩⟩⟩⟩⟩⟩⟩, inX60⟩, inX00⟩, inX20⟩, inX10⟩⟩
theorem t_wsX6_node_r1 : ∀ w ∈ wsX6_node_r1, w ∈ lw_tbl := by
  unfold wsX6_node_r1
  exact List.forall_mem_cons.mpr ⟨lwd_15, List.forall_mem_cons.mpr ⟨lwd_29, List.forall_mem_cons.mpr ⟨lwd_20, List.forall_mem_cons.mpr ⟨lwd_240, List.forall_mem_cons.mpr ⟨lwd_241, List.forall_mem_cons.mpr ⟨lwd_242, List.forall_mem_cons.mpr ⟨lwd_149, List.forall_mem_cons.mpr ⟨lwd_150, List.forall_mem_cons.mpr ⟨lwd_151, List.forall_mem_cons.mpr ⟨lwd_35, List.forall_mem_cons.mpr ⟨lwd_152, List.forall_mem_cons.mpr ⟨lwd_75, List.forall_mem_cons.mpr ⟨lwd_243, List.forall_mem_cons.mpr ⟨lwd_244, List.forall_mem_cons.mpr ⟨lwd_245, List.forall_mem_cons.mpr ⟨lwd_19, List.forall_mem_cons.mpr ⟨lwd_246, List.forall_mem_cons.mpr ⟨lwd_247, List.forall_mem_cons.mpr ⟨lwd_248, List.forall_mem_cons.mpr ⟨lwd_56, List.forall_mem_cons.mpr ⟨lwd_249, List.forall_mem_cons.mpr ⟨lwd_250, List.forall_mem_cons.mpr ⟨lwd_251, List.forall_mem_cons.mpr ⟨lwd_252, nil_all⟩⟩⟩⟩⟩⟩⟩⟩⟩⟩⟩⟩⟩⟩⟩⟩⟩⟩⟩⟩⟩⟩⟩⟩
theorem t_wsX6_node_r2 : ∀ w ∈ wsX6_node_r2, w ∈ lw_tbl := by
  unfold wsX6_node_r2
  exact List.forall_mem_cons.mpr ⟨lwd_2, List.forall_mem_cons.mpr ⟨lwd_253, List.forall_mem_cons.mpr ⟨lwd_254, List.forall_mem_cons.mpr ⟨lwd_255, List.forall_mem_cons.mpr ⟨lwd_256, List.forall_mem_cons.mpr ⟨lwd_257, List.forall_mem_cons.mpr ⟨lwd_258, List.forall_mem_cons.mpr ⟨lwd_259, List.forall_mem_cons.mpr ⟨lwd_260, List.forall_mem_cons.mpr ⟨lwd_261, List.forall_mem_cons.mpr ⟨lwd_57, List.forall_mem_cons.mpr ⟨lwd_262, List.forall_mem_cons.mpr ⟨lwd_263, List.forall_mem_cons.mpr ⟨lwd_264, List.forall_mem_cons.mpr ⟨lwd_265, nil_all⟩⟩⟩⟩⟩⟩⟩⟩⟩⟩⟩⟩⟩⟩⟩
theorem t_wsX6_node : ∀ w ∈ wsX6_node, w ∈ lw_tbl := by
  unfold wsX6_node
  exact List.forall_mem_cons.mpr ⟨lwd_239, List.forall_mem_append.mpr ⟨List.forall_mem_append.mpr ⟨List.forall_mem_append.mpr ⟨List.forall_mem_append.mpr ⟨List.forall_mem_append.mpr ⟨t_wsX6_node_r1, t_wsX6_node_r2⟩, inX60⟩, inX00⟩, inX30⟩, inX20⟩⟩
theorem t_wsX6_isStrong_r1 : ∀ w ∈ wsX6_isStrong_r1, w ∈ lw_tbl := by
  unfold wsX6_isStrong_r1
  exact List.forall_mem_cons.mpr ⟨lwd_20, List.forall_mem_cons.mpr ⟨lwd_15, List.forall_mem_cons.mpr ⟨lwd_29, List.forall_mem_cons.mpr ⟨lwd_243, List.forall_mem_cons.mpr ⟨lwd_244, List.forall_mem_cons.mpr ⟨lwd_245, List.forall_mem_cons.mpr ⟨lwd_19, List.forall_mem_cons.mpr ⟨lwd_246, List.forall_mem_cons.mpr ⟨lwd_247, List.forall_mem_cons.mpr ⟨lwd_248, List.forall_mem_cons.mpr ⟨lwd_56, List.forall_mem_cons.mpr ⟨lwd_249, List.forall_mem_cons.mpr ⟨lwd_250, List.forall_mem_cons.mpr ⟨lwd_251, List.forall_mem_cons.mpr ⟨lwd_252, List.forall_mem_cons.mpr ⟨lwd_2, List.forall_mem_cons.mpr ⟨lwd_253, List.forall_mem_cons.mpr ⟨lwd_254, List.forall_mem_cons.mpr ⟨lwd_255, List.forall_mem_cons.mpr ⟨lwd_256, List.forall_mem_cons.mpr ⟨lwd_257, List.forall_mem_cons.mpr ⟨lwd_258, List.forall_mem_cons.mpr ⟨lwd_259, List.forall_mem_cons.mpr ⟨lwd_260, nil_all⟩⟩⟩⟩⟩⟩⟩⟩⟩⟩⟩⟩⟩⟩⟩⟩⟩⟩⟩⟩⟩⟩⟩⟩
theorem t_wsX6_isStrong_r2 : ∀ w ∈ wsX6_isStrong_r2, w ∈ lw_tbl := by
  unfold wsX6_isStrong_r2
  exact List.forall_mem_cons.mpr ⟨lwd_261, List.forall_mem_cons.mpr ⟨lwd_57, List.forall_mem_cons.mpr ⟨lwd_300, List.forall_mem_cons.mpr ⟨lwd_301, List.forall_mem_cons.mpr ⟨lwd_302, List.forall_mem_cons.mpr ⟨lwd_303, nil_all⟩⟩⟩⟩⟩⟩
theorem t_wsX6_isStrong : ∀ w ∈ wsX6_isStrong, w ∈ lw_tbl := by
  unfold wsX6_isStrong
  exact List.forall_mem_cons.mpr ⟨lwd_299, List.forall_mem_append.mpr ⟨List.forall_mem_append.mpr ⟨List.forall_mem_append.mpr ⟨List.forall_mem_append.mpr ⟨List.forall_mem_append.mpr ⟨t_wsX6_isStrong_r1, t_wsX6_isStrong_r2⟩, inX60⟩, inX00⟩, inX20⟩, inX30⟩⟩
theorem t_wsX6_count_r1 : ∀ w ∈ wsX6_count_r1, w ∈ lw_tbl := by
  unfold wsX6_count_r1
  exact List.forall_mem_cons.mpr ⟨lwd_15, List.forall_mem_cons.mpr ⟨lwd_29, List.forall_mem_cons.mpr ⟨lwd_207, List.forall_mem_cons.mpr ⟨lwd_148, List.forall_mem_cons.mpr ⟨lwd_20, List.forall_mem_cons.mpr ⟨lwd_24, List.forall_mem_cons.mpr ⟨lwd_286, List.forall_mem_cons.mpr ⟨lwd_112, List.forall_mem_cons.mpr ⟨lwd_243, List.forall_mem_cons.mpr ⟨lwd_244, List.forall_mem_cons.mpr ⟨lwd_245, List.forall_mem_cons.mpr ⟨lwd_19, List.forall_mem_cons.mpr ⟨lwd_246, List.forall_mem_cons.mpr ⟨lwd_247, List.forall_mem_cons.mpr ⟨lwd_248, List.forall_mem_cons.mpr ⟨lwd_56, List.forall_mem_cons.mpr ⟨lwd_249, List.forall_mem_cons.mpr ⟨lwd_250, List.forall_mem_cons.mpr ⟨lwd_251, List.forall_mem_cons.mpr ⟨lwd_252, List.forall_mem_cons.mpr ⟨lwd_2, List.forall_mem_cons.mpr ⟨lwd_253, List.forall_mem_cons.mpr ⟨lwd_254, List.forall_mem_cons.mpr ⟨lwd_255, nil_all⟩⟩⟩⟩⟩⟩⟩⟩⟩⟩⟩⟩⟩⟩⟩⟩⟩⟩⟩⟩⟩⟩⟩⟩
theorem t_wsX6_count_r2 : ∀ w ∈ wsX6_count_r2, w ∈ lw_tbl := by
  unfold wsX6_count_r2
  exact List.forall_mem_cons.mpr ⟨lwd_256, List.forall_mem_cons.mpr ⟨lwd_257, List.forall_mem_cons.mpr ⟨lwd_258, List.forall_mem_cons.mpr ⟨lwd_259, List.forall_mem_cons.mpr ⟨lwd_260, List.forall_mem_cons.mpr ⟨lwd_261, List.forall_mem_cons.mpr ⟨lwd_57, List.forall_mem_cons.mpr ⟨lwd_287, List.forall_mem_cons.mpr ⟨lwd_288, List.forall_mem_cons.mpr ⟨lwd_289, List.forall_mem_cons.mpr ⟨lwd_290, List.forall_mem_cons.mpr ⟨lwd_291, List.forall_mem_cons.mpr ⟨lwd_263, List.forall_mem_cons.mpr ⟨lwd_264, List.forall_mem_cons.mpr ⟨lwd_265, List.forall_mem_cons.mpr ⟨lwd_292, List.forall_mem_cons.mpr ⟨lwd_293, List.forall_mem_cons.mpr ⟨lwd_294, List.forall_mem_cons.mpr ⟨lwd_295, List.forall_mem_cons.mpr ⟨lwd_240, List.forall_mem_cons.mpr ⟨lwd_296, List.forall_mem_cons.mpr ⟨lwd_297, List.forall_mem_cons.mpr ⟨lwd_298, List.forall_mem_cons.mpr ⟨lwd_299, nil_all⟩⟩⟩⟩⟩⟩⟩⟩⟩⟩⟩⟩⟩⟩⟩⟩⟩⟩⟩⟩⟩⟩⟩⟩
theorem t_wsX6_count_r3 : ∀ w ∈ wsX6_count_r3, w ∈ lw_tbl := by
  unfold wsX6_count_r3
  exact List.forall_mem_cons.mpr ⟨lwd_300, List.forall_mem_cons.mpr ⟨lwd_301, List.forall_mem_cons.mpr ⟨lwd_302, List.forall_mem_cons.mpr ⟨lwd_303, List.forall_mem_cons.mpr ⟨lwd_304, List.forall_mem_cons.mpr ⟨lwd_305, List.forall_mem_cons.mpr ⟨lwd_306, List.forall_mem_cons.mpr ⟨lwd_23, List.forall_mem_cons.mpr ⟨lwd_307, List.forall_mem_cons.mpr ⟨lwd_308, List.forall_mem_cons.mpr ⟨lwd_63, List.forall_mem_cons.mpr ⟨lwd_64, List.forall_mem_cons.mpr ⟨lwd_61, List.forall_mem_cons.mpr ⟨lwd_62, List.forall_mem_cons.mpr ⟨lwd_309, List.forall_mem_cons.mpr ⟨lwd_310, List.forall_mem_cons.mpr ⟨lwd_311, List.forall_mem_cons.mpr ⟨lwd_312, List.forall_mem_cons.mpr ⟨lwd_313, List.forall_mem_cons.mpr ⟨lwd_314, List.forall_mem_cons.mpr ⟨lwd_315, List.forall_mem_cons.mpr ⟨lwd_316, List.forall_mem_cons.mpr ⟨lwd_35, List.forall_mem_cons.mpr ⟨lwd_317, nil_all⟩⟩⟩⟩⟩⟩⟩⟩⟩⟩⟩⟩⟩⟩⟩⟩⟩⟩⟩⟩⟩⟩⟩⟩
theorem t_wsX6_count_r4 : ∀ w ∈ wsX6_count_r4, w ∈ lw_tbl := by
  unfold wsX6_count_r4
  exact List.forall_mem_cons.mpr ⟨lwd_45, List.forall_mem_cons.mpr ⟨lwd_318, List.forall_mem_cons.mpr ⟨lwd_319, List.forall_mem_cons.mpr ⟨lwd_320, List.forall_mem_cons.mpr ⟨lwd_321, List.forall_mem_cons.mpr ⟨lwd_76, List.forall_mem_cons.mpr ⟨lwd_322, List.forall_mem_cons.mpr ⟨lwd_323, List.forall_mem_cons.mpr ⟨lwd_324, List.forall_mem_cons.mpr ⟨lwd_325, List.forall_mem_cons.mpr ⟨lwd_46, List.forall_mem_cons.mpr ⟨lwd_326, List.forall_mem_cons.mpr ⟨lwd_327, List.forall_mem_cons.mpr ⟨lwd_328, List.forall_mem_cons.mpr ⟨lwd_329, List.forall_mem_cons.mpr ⟨lwd_75, List.forall_mem_cons.mpr ⟨lwd_330, List.forall_mem_cons.mpr ⟨lwd_331, List.forall_mem_cons.mpr ⟨lwd_332, List.forall_mem_cons.mpr ⟨lwd_39, List.forall_mem_cons.mpr ⟨lwd_333, List.forall_mem_cons.mpr ⟨lwd_51, List.forall_mem_cons.mpr ⟨lwd_334, List.forall_mem_cons.mpr ⟨lwd_335, nil_all⟩⟩⟩⟩⟩⟩⟩⟩⟩⟩⟩⟩⟩⟩⟩⟩⟩⟩⟩⟩⟩⟩⟩⟩
theorem t_wsX6_count_r5 : ∀ w ∈ wsX6_count_r5, w ∈ lw_tbl := by
  unfold wsX6_count_r5
  exact List.forall_mem_cons.mpr ⟨lwd_336, List.forall_mem_cons.mpr ⟨lwd_337, List.forall_mem_cons.mpr ⟨lwd_16, nil_all⟩⟩⟩
theorem t_wsX6_count : ∀ w ∈ wsX6_count, w ∈ lw_tbl := by
  unfold wsX6_count
  exact List.forall_mem_cons.mpr ⟨lwd_285, List.forall_mem_append.mpr ⟨List.forall_mem_append.mpr ⟨List.forall_mem_append.mpr ⟨List.forall_mem_append.mpr ⟨List.forall_mem_append.mpr ⟨List.forall_mem_append.mpr ⟨List.forall_mem_append.mpr ⟨t_wsX6_count_r1, List.forall_mem_append.mpr ⟨t_wsX6_count_r2, List.forall_mem_append.mpr ⟨t_wsX6_count_r3, List.forall_mem_append.mpr ⟨t_wsX6_count_r4, t_wsX6_count_r5⟩⟩⟩⟩, inX60⟩, inX00⟩, inX20⟩, inX50⟩, inX30⟩, inX10⟩⟩
theorem t_wsX6_side_r1 : ∀ w ∈ wsX6_side_r1, w ∈ lw_tbl := by
  unfold wsX6_side_r1
  exact List.forall_mem_cons.mpr ⟨lwd_24, List.forall_mem_cons.mpr ⟨lwd_15, List.forall_mem_cons.mpr ⟨lwd_29, List.forall_mem_cons.mpr ⟨lwd_286, List.forall_mem_cons.mpr ⟨lwd_375, List.forall_mem_cons.mpr ⟨lwd_376, List.forall_mem_cons.mpr ⟨lwd_304, List.forall_mem_cons.mpr ⟨lwd_305, List.forall_mem_cons.mpr ⟨lwd_306, List.forall_mem_cons.mpr ⟨lwd_23, List.forall_mem_cons.mpr ⟨lwd_307, List.forall_mem_cons.mpr ⟨lwd_308, List.forall_mem_cons.mpr ⟨lwd_63, List.forall_mem_cons.mpr ⟨lwd_64, List.forall_mem_cons.mpr ⟨lwd_61, List.forall_mem_cons.mpr ⟨lwd_62, List.forall_mem_cons.mpr ⟨lwd_309, List.forall_mem_cons.mpr ⟨lwd_310, List.forall_mem_cons.mpr ⟨lwd_311, List.forall_mem_cons.mpr ⟨lwd_312, List.forall_mem_cons.mpr ⟨lwd_313, List.forall_mem_cons.mpr ⟨lwd_314, List.forall_mem_cons.mpr ⟨lwd_315, List.forall_mem_cons.mpr ⟨lwd_316, nil_all⟩⟩⟩⟩⟩⟩⟩⟩⟩⟩⟩⟩⟩⟩⟩⟩⟩⟩⟩⟩⟩⟩⟩⟩
theorem t_wsX6_side_r2 : ∀ w ∈ wsX6_side_r2, w ∈ lw_tbl := by
  unfold wsX6_side_r2
  exact List.forall_mem_cons.mpr ⟨lwd_35, List.forall_mem_cons.mpr ⟨lwd_317, List.forall_mem_cons.mpr ⟨lwd_45, List.forall_mem_cons.mpr ⟨lwd_318, List.forall_mem_cons.mpr ⟨lwd_319, List.forall_mem_cons.mpr ⟨lwd_320, List.forall_mem_cons.mpr ⟨lwd_321, List.forall_mem_cons.mpr ⟨lwd_76, List.forall_mem_cons.mpr ⟨lwd_322, List.forall_mem_cons.mpr ⟨lwd_323, List.forall_mem_cons.mpr ⟨lwd_324, List.forall_mem_cons.mpr ⟨lwd_325, List.forall_mem_cons.mpr ⟨lwd_46, List.forall_mem_cons.mpr ⟨lwd_326, List.forall_mem_cons.mpr ⟨lwd_327, List.forall_mem_cons.mpr ⟨lwd_328, List.forall_mem_cons.mpr ⟨lwd_329, List.forall_mem_cons.mpr ⟨lwd_75, nil_all⟩⟩⟩⟩⟩⟩⟩⟩⟩⟩⟩⟩⟩⟩⟩⟩⟩⟩
theorem t_wsX6_side : ∀ w ∈ wsX6_side, w ∈ lw_tbl := by
  unfold wsX6_side
  exact List.forall_mem_cons.mpr ⟨lwd_374, List.forall_mem_append.mpr ⟨List.forall_mem_append.mpr ⟨List.forall_mem_append.mpr ⟨List.forall_mem_append.mpr ⟨List.forall_mem_append.mpr ⟨t_wsX6_side_r1, t_wsX6_side_r2⟩, inX60⟩, inX00⟩, inX50⟩, inX20⟩⟩
theorem t_wsX6_bounds_r1 : ∀ w ∈ wsX6_bounds_r1, w ∈ lw_tbl := by
  unfold wsX6_bounds_r1
  exact List.forall_mem_cons.mpr ⟨lwd_15, List.forall_mem_cons.mpr ⟨lwd_29, List.forall_mem_cons.mpr ⟨lwd_197, List.forall_mem_cons.mpr ⟨lwd_198, List.forall_mem_cons.mpr ⟨lwd_20, List.forall_mem_cons.mpr ⟨lwd_241, List.forall_mem_cons.mpr ⟨lwd_242, List.forall_mem_cons.mpr ⟨lwd_168, List.forall_mem_cons.mpr ⟨lwd_169, List.forall_mem_cons.mpr ⟨lwd_170, List.forall_mem_cons.mpr ⟨lwd_35, List.forall_mem_cons.mpr ⟨lwd_171, List.forall_mem_cons.mpr ⟨lwd_76, List.forall_mem_cons.mpr ⟨lwd_243, List.forall_mem_cons.mpr ⟨lwd_244, List.forall_mem_cons.mpr ⟨lwd_245, List.forall_mem_cons.mpr ⟨lwd_19, List.forall_mem_cons.mpr ⟨lwd_246, List.forall_mem_cons.mpr ⟨lwd_247, List.forall_mem_cons.mpr ⟨lwd_248, List.forall_mem_cons.mpr ⟨lwd_56, List.forall_mem_cons.mpr ⟨lwd_249, List.forall_mem_cons.mpr ⟨lwd_250, List.forall_mem_cons.mpr ⟨lwd_251, nil_all⟩⟩⟩⟩⟩⟩⟩⟩⟩⟩⟩⟩⟩⟩⟩⟩⟩⟩⟩⟩⟩⟩⟩⟩
theorem t_wsX6_bounds_r2 : ∀ w ∈ wsX6_bounds_r2, w ∈ lw_tbl := by
  unfold wsX6_bounds_r2
  exact List.forall_mem_cons.mpr ⟨lwd_252, List.forall_mem_cons.mpr ⟨lwd_2, List.forall_mem_cons.mpr ⟨lwd_253, List.forall_mem_cons.mpr ⟨lwd_254, List.forall_mem_cons.mpr ⟨lwd_255, List.forall_mem_cons.mpr ⟨lwd_256, List.forall_mem_cons.mpr ⟨lwd_257, List.forall_mem_cons.mpr ⟨lwd_258, List.forall_mem_cons.mpr ⟨lwd_259, List.forall_mem_cons.mpr ⟨lwd_260, List.forall_mem_cons.mpr ⟨lwd_261, List.forall_mem_cons.mpr ⟨lwd_57, List.forall_mem_cons.mpr ⟨lwd_385, List.forall_mem_cons.mpr ⟨lwd_386, List.forall_mem_cons.mpr ⟨lwd_327, List.forall_mem_cons.mpr ⟨lwd_328, List.forall_mem_cons.mpr ⟨lwd_329, List.forall_mem_cons.mpr ⟨lwd_75, nil_all⟩⟩⟩⟩⟩⟩⟩⟩⟩⟩⟩⟩⟩⟩⟩⟩⟩⟩
theorem t_wsX6_bounds : ∀ w ∈ wsX6_bounds, w ∈ lw_tbl := by
  unfold wsX6_bounds
  exact List.forall_mem_cons.mpr ⟨lwd_384, List.forall_mem_append.mpr ⟨List.forall_mem_append.mpr ⟨List.forall_mem_append.mpr ⟨List.forall_mem_append.mpr ⟨List.forall_mem_append.mpr ⟨t_wsX6_bounds_r1, t_wsX6_bounds_r2⟩, inX60⟩, inX00⟩, inX20⟩, inX30⟩⟩
theorem t_wsX6_isDijoin_r1 : ∀ w ∈ wsX6_isDijoin_r1, w ∈ lw_tbl := by
  unfold wsX6_isDijoin_r1
  exact List.forall_mem_cons.mpr ⟨lwd_24, List.forall_mem_cons.mpr ⟨lwd_15, List.forall_mem_cons.mpr ⟨lwd_29, List.forall_mem_cons.mpr ⟨lwd_286, List.forall_mem_cons.mpr ⟨lwd_376, List.forall_mem_cons.mpr ⟨lwd_304, List.forall_mem_cons.mpr ⟨lwd_305, List.forall_mem_cons.mpr ⟨lwd_306, List.forall_mem_cons.mpr ⟨lwd_23, List.forall_mem_cons.mpr ⟨lwd_307, List.forall_mem_cons.mpr ⟨lwd_308, List.forall_mem_cons.mpr ⟨lwd_63, List.forall_mem_cons.mpr ⟨lwd_64, List.forall_mem_cons.mpr ⟨lwd_61, List.forall_mem_cons.mpr ⟨lwd_62, List.forall_mem_cons.mpr ⟨lwd_309, List.forall_mem_cons.mpr ⟨lwd_310, List.forall_mem_cons.mpr ⟨lwd_311, List.forall_mem_cons.mpr ⟨lwd_312, List.forall_mem_cons.mpr ⟨lwd_313, List.forall_mem_cons.mpr ⟨lwd_314, List.forall_mem_cons.mpr ⟨lwd_315, List.forall_mem_cons.mpr ⟨lwd_316, List.forall_mem_cons.mpr ⟨lwd_35, nil_all⟩⟩⟩⟩⟩⟩⟩⟩⟩⟩⟩⟩⟩⟩⟩⟩⟩⟩⟩⟩⟩⟩⟩⟩
theorem t_wsX6_isDijoin_r2 : ∀ w ∈ wsX6_isDijoin_r2, w ∈ lw_tbl := by
  unfold wsX6_isDijoin_r2
  exact List.forall_mem_cons.mpr ⟨lwd_317, List.forall_mem_cons.mpr ⟨lwd_45, List.forall_mem_cons.mpr ⟨lwd_318, List.forall_mem_cons.mpr ⟨lwd_319, List.forall_mem_cons.mpr ⟨lwd_320, List.forall_mem_cons.mpr ⟨lwd_321, List.forall_mem_cons.mpr ⟨lwd_76, List.forall_mem_cons.mpr ⟨lwd_322, List.forall_mem_cons.mpr ⟨lwd_323, List.forall_mem_cons.mpr ⟨lwd_324, List.forall_mem_cons.mpr ⟨lwd_325, List.forall_mem_cons.mpr ⟨lwd_46, List.forall_mem_cons.mpr ⟨lwd_326, List.forall_mem_cons.mpr ⟨lwd_327, List.forall_mem_cons.mpr ⟨lwd_328, List.forall_mem_cons.mpr ⟨lwd_329, List.forall_mem_cons.mpr ⟨lwd_75, nil_all⟩⟩⟩⟩⟩⟩⟩⟩⟩⟩⟩⟩⟩⟩⟩⟩⟩
theorem t_wsX6_isDijoin : ∀ w ∈ wsX6_isDijoin, w ∈ lw_tbl := by
  unfold wsX6_isDijoin
  exact List.forall_mem_cons.mpr ⟨lwd_394, List.forall_mem_append.mpr ⟨List.forall_mem_append.mpr ⟨List.forall_mem_append.mpr ⟨List.forall_mem_append.mpr ⟨List.forall_mem_append.mpr ⟨t_wsX6_isDijoin_r1, t_wsX6_isDijoin_r2⟩, inX60⟩, inX00⟩, inX50⟩, inX20⟩⟩
theorem t_wsX6_dijoin_r1 : ∀ w ∈ wsX6_dijoin_r1, w ∈ lw_tbl := by
  unfold wsX6_dijoin_r1
  exact List.forall_mem_cons.mpr ⟨lwd_28, List.forall_mem_cons.mpr ⟨lwd_15, List.forall_mem_cons.mpr ⟨lwd_29, List.forall_mem_cons.mpr ⟨lwd_408, List.forall_mem_cons.mpr ⟨lwd_409, List.forall_mem_cons.mpr ⟨lwd_111, List.forall_mem_cons.mpr ⟨lwd_188, List.forall_mem_cons.mpr ⟨lwd_292, List.forall_mem_cons.mpr ⟨lwd_293, List.forall_mem_cons.mpr ⟨lwd_294, List.forall_mem_cons.mpr ⟨lwd_2, List.forall_mem_cons.mpr ⟨lwd_295, List.forall_mem_cons.mpr ⟨lwd_240, List.forall_mem_cons.mpr ⟨lwd_296, List.forall_mem_cons.mpr ⟨lwd_297, List.forall_mem_cons.mpr ⟨lwd_298, List.forall_mem_cons.mpr ⟨lwd_299, List.forall_mem_cons.mpr ⟨lwd_20, List.forall_mem_cons.mpr ⟨lwd_243, List.forall_mem_cons.mpr ⟨lwd_244, List.forall_mem_cons.mpr ⟨lwd_245, List.forall_mem_cons.mpr ⟨lwd_19, List.forall_mem_cons.mpr ⟨lwd_246, List.forall_mem_cons.mpr ⟨lwd_247, nil_all⟩⟩⟩⟩⟩⟩⟩⟩⟩⟩⟩⟩⟩⟩⟩⟩⟩⟩⟩⟩⟩⟩⟩⟩
theorem t_wsX6_dijoin_r2 : ∀ w ∈ wsX6_dijoin_r2, w ∈ lw_tbl := by
  unfold wsX6_dijoin_r2
  exact List.forall_mem_cons.mpr ⟨lwd_248, List.forall_mem_cons.mpr ⟨lwd_56, List.forall_mem_cons.mpr ⟨lwd_249, List.forall_mem_cons.mpr ⟨lwd_250, List.forall_mem_cons.mpr ⟨lwd_251, List.forall_mem_cons.mpr ⟨lwd_252, List.forall_mem_cons.mpr ⟨lwd_253, List.forall_mem_cons.mpr ⟨lwd_254, List.forall_mem_cons.mpr ⟨lwd_255, List.forall_mem_cons.mpr ⟨lwd_256, List.forall_mem_cons.mpr ⟨lwd_257, List.forall_mem_cons.mpr ⟨lwd_258, List.forall_mem_cons.mpr ⟨lwd_259, List.forall_mem_cons.mpr ⟨lwd_260, List.forall_mem_cons.mpr ⟨lwd_261, List.forall_mem_cons.mpr ⟨lwd_57, List.forall_mem_cons.mpr ⟨lwd_300, List.forall_mem_cons.mpr ⟨lwd_301, List.forall_mem_cons.mpr ⟨lwd_302, List.forall_mem_cons.mpr ⟨lwd_303, List.forall_mem_cons.mpr ⟨lwd_410, List.forall_mem_cons.mpr ⟨lwd_411, List.forall_mem_cons.mpr ⟨lwd_412, List.forall_mem_cons.mpr ⟨lwd_413, nil_all⟩⟩⟩⟩⟩⟩⟩⟩⟩⟩⟩⟩⟩⟩⟩⟩⟩⟩⟩⟩⟩⟩⟩⟩
theorem t_wsX6_dijoin_r3 : ∀ w ∈ wsX6_dijoin_r3, w ∈ lw_tbl := by
  unfold wsX6_dijoin_r3
  exact List.forall_mem_cons.mpr ⟨lwd_24, List.forall_mem_cons.mpr ⟨lwd_304, List.forall_mem_cons.mpr ⟨lwd_305, List.forall_mem_cons.mpr ⟨lwd_306, List.forall_mem_cons.mpr ⟨lwd_23, List.forall_mem_cons.mpr ⟨lwd_307, List.forall_mem_cons.mpr ⟨lwd_308, List.forall_mem_cons.mpr ⟨lwd_63, List.forall_mem_cons.mpr ⟨lwd_64, List.forall_mem_cons.mpr ⟨lwd_61, List.forall_mem_cons.mpr ⟨lwd_62, List.forall_mem_cons.mpr ⟨lwd_309, List.forall_mem_cons.mpr ⟨lwd_310, List.forall_mem_cons.mpr ⟨lwd_311, List.forall_mem_cons.mpr ⟨lwd_312, List.forall_mem_cons.mpr ⟨lwd_313, List.forall_mem_cons.mpr ⟨lwd_314, List.forall_mem_cons.mpr ⟨lwd_315, List.forall_mem_cons.mpr ⟨lwd_316, List.forall_mem_cons.mpr ⟨lwd_35, List.forall_mem_cons.mpr ⟨lwd_317, List.forall_mem_cons.mpr ⟨lwd_45, List.forall_mem_cons.mpr ⟨lwd_318, List.forall_mem_cons.mpr ⟨lwd_319, nil_all⟩⟩⟩⟩⟩⟩⟩⟩⟩⟩⟩⟩⟩⟩⟩⟩⟩⟩⟩⟩⟩⟩⟩⟩
theorem t_wsX6_dijoin_r4 : ∀ w ∈ wsX6_dijoin_r4, w ∈ lw_tbl := by
  unfold wsX6_dijoin_r4
  exact List.forall_mem_cons.mpr ⟨lwd_320, List.forall_mem_cons.mpr ⟨lwd_321, List.forall_mem_cons.mpr ⟨lwd_76, List.forall_mem_cons.mpr ⟨lwd_322, List.forall_mem_cons.mpr ⟨lwd_323, List.forall_mem_cons.mpr ⟨lwd_324, List.forall_mem_cons.mpr ⟨lwd_325, List.forall_mem_cons.mpr ⟨lwd_46, List.forall_mem_cons.mpr ⟨lwd_326, List.forall_mem_cons.mpr ⟨lwd_327, List.forall_mem_cons.mpr ⟨lwd_328, List.forall_mem_cons.mpr ⟨lwd_329, List.forall_mem_cons.mpr ⟨lwd_75, List.forall_mem_cons.mpr ⟨lwd_414, List.forall_mem_cons.mpr ⟨lwd_415, List.forall_mem_cons.mpr ⟨lwd_416, List.forall_mem_cons.mpr ⟨lwd_27, List.forall_mem_cons.mpr ⟨lwd_417, List.forall_mem_cons.mpr ⟨lwd_418, List.forall_mem_cons.mpr ⟨lwd_419, List.forall_mem_cons.mpr ⟨lwd_420, List.forall_mem_cons.mpr ⟨lwd_421, List.forall_mem_cons.mpr ⟨lwd_422, List.forall_mem_cons.mpr ⟨lwd_423, nil_all⟩⟩⟩⟩⟩⟩⟩⟩⟩⟩⟩⟩⟩⟩⟩⟩⟩⟩⟩⟩⟩⟩⟩⟩
theorem t_wsX6_dijoin_r5 : ∀ w ∈ wsX6_dijoin_r5, w ∈ lw_tbl := by
  unfold wsX6_dijoin_r5
  exact List.forall_mem_cons.mpr ⟨lwd_424, List.forall_mem_cons.mpr ⟨lwd_68, List.forall_mem_cons.mpr ⟨lwd_425, List.forall_mem_cons.mpr ⟨lwd_426, List.forall_mem_cons.mpr ⟨lwd_427, List.forall_mem_cons.mpr ⟨lwd_428, List.forall_mem_cons.mpr ⟨lwd_429, List.forall_mem_cons.mpr ⟨lwd_430, List.forall_mem_cons.mpr ⟨lwd_431, List.forall_mem_cons.mpr ⟨lwd_69, List.forall_mem_cons.mpr ⟨lwd_432, List.forall_mem_cons.mpr ⟨lwd_433, List.forall_mem_cons.mpr ⟨lwd_434, List.forall_mem_cons.mpr ⟨lwd_435, List.forall_mem_cons.mpr ⟨lwd_436, List.forall_mem_cons.mpr ⟨lwd_437, List.forall_mem_cons.mpr ⟨lwd_438, List.forall_mem_cons.mpr ⟨lwd_439, List.forall_mem_cons.mpr ⟨lwd_440, List.forall_mem_cons.mpr ⟨lwd_441, List.forall_mem_cons.mpr ⟨lwd_442, List.forall_mem_cons.mpr ⟨lwd_443, List.forall_mem_cons.mpr ⟨lwd_444, List.forall_mem_cons.mpr ⟨lwd_445, nil_all⟩⟩⟩⟩⟩⟩⟩⟩⟩⟩⟩⟩⟩⟩⟩⟩⟩⟩⟩⟩⟩⟩⟩⟩
theorem t_wsX6_dijoin_r6 : ∀ w ∈ wsX6_dijoin_r6, w ∈ lw_tbl := by
  unfold wsX6_dijoin_r6
  exact List.forall_mem_cons.mpr ⟨lwd_446, List.forall_mem_cons.mpr ⟨lwd_447, List.forall_mem_cons.mpr ⟨lwd_70, List.forall_mem_cons.mpr ⟨lwd_448, List.forall_mem_cons.mpr ⟨lwd_449, List.forall_mem_cons.mpr ⟨lwd_450, List.forall_mem_cons.mpr ⟨lwd_451, List.forall_mem_cons.mpr ⟨lwd_452, List.forall_mem_cons.mpr ⟨lwd_453, List.forall_mem_cons.mpr ⟨lwd_454, List.forall_mem_cons.mpr ⟨lwd_455, List.forall_mem_cons.mpr ⟨lwd_456, List.forall_mem_cons.mpr ⟨lwd_457, List.forall_mem_cons.mpr ⟨lwd_458, List.forall_mem_cons.mpr ⟨lwd_459, List.forall_mem_cons.mpr ⟨lwd_460, List.forall_mem_cons.mpr ⟨lwd_461, List.forall_mem_cons.mpr ⟨lwd_462, List.forall_mem_cons.mpr ⟨lwd_463, List.forall_mem_cons.mpr ⟨lwd_464, List.forall_mem_cons.mpr ⟨lwd_465, List.forall_mem_cons.mpr ⟨lwd_466, List.forall_mem_cons.mpr ⟨lwd_467, List.forall_mem_cons.mpr ⟨lwd_468, nil_all⟩⟩⟩⟩⟩⟩⟩⟩⟩⟩⟩⟩⟩⟩⟩⟩⟩⟩⟩⟩⟩⟩⟩⟩
theorem t_wsX6_dijoin_r7 : ∀ w ∈ wsX6_dijoin_r7, w ∈ lw_tbl := by
  unfold wsX6_dijoin_r7
  exact List.forall_mem_cons.mpr ⟨lwd_469, List.forall_mem_cons.mpr ⟨lwd_470, List.forall_mem_cons.mpr ⟨lwd_385, nil_all⟩⟩⟩
theorem t_wsX6_dijoin : ∀ w ∈ wsX6_dijoin, w ∈ lw_tbl := by
  unfold wsX6_dijoin
  exact List.forall_mem_cons.mpr ⟨lwd_407, List.forall_mem_append.mpr ⟨List.forall_mem_append.mpr ⟨List.forall_mem_append.mpr ⟨List.forall_mem_append.mpr ⟨List.forall_mem_append.mpr ⟨List.forall_mem_append.mpr ⟨List.forall_mem_append.mpr ⟨t_wsX6_dijoin_r1, List.forall_mem_append.mpr ⟨t_wsX6_dijoin_r2, List.forall_mem_append.mpr ⟨t_wsX6_dijoin_r3, List.forall_mem_append.mpr ⟨t_wsX6_dijoin_r4, List.forall_mem_append.mpr ⟨t_wsX6_dijoin_r5, List.forall_mem_append.mpr ⟨t_wsX6_dijoin_r6, t_wsX6_dijoin_r7⟩⟩⟩⟩⟩⟩, inX60⟩, inX00⟩, inX40⟩, inX20⟩, inX30⟩, inX50⟩⟩
theorem t_wsX6_chosen : ∀ w ∈ wsX6_chosen, w ∈ lw_tbl := by
  unfold wsX6_chosen
  exact List.forall_mem_cons.mpr ⟨lwd_491, List.forall_mem_append.mpr ⟨List.forall_mem_append.mpr ⟨List.forall_mem_cons.mpr ⟨lwd_15, List.forall_mem_cons.mpr ⟨lwd_111, nil_all⟩⟩, inX60⟩, inX00⟩⟩
theorem t_wsX6_cost_r1 : ∀ w ∈ wsX6_cost_r1, w ∈ lw_tbl := by
  unfold wsX6_cost_r1
  exact List.forall_mem_cons.mpr ⟨lwd_15, List.forall_mem_cons.mpr ⟨lwd_29, List.forall_mem_cons.mpr ⟨lwd_28, List.forall_mem_cons.mpr ⟨lwd_408, List.forall_mem_cons.mpr ⟨lwd_500, List.forall_mem_cons.mpr ⟨lwd_168, List.forall_mem_cons.mpr ⟨lwd_169, List.forall_mem_cons.mpr ⟨lwd_170, List.forall_mem_cons.mpr ⟨lwd_35, List.forall_mem_cons.mpr ⟨lwd_171, List.forall_mem_cons.mpr ⟨lwd_76, List.forall_mem_cons.mpr ⟨lwd_153, List.forall_mem_cons.mpr ⟨lwd_154, List.forall_mem_cons.mpr ⟨lwd_2, List.forall_mem_cons.mpr ⟨lwd_155, List.forall_mem_cons.mpr ⟨lwd_292, List.forall_mem_cons.mpr ⟨lwd_293, List.forall_mem_cons.mpr ⟨lwd_294, List.forall_mem_cons.mpr ⟨lwd_295, List.forall_mem_cons.mpr ⟨lwd_240, List.forall_mem_cons.mpr ⟨lwd_296, List.forall_mem_cons.mpr ⟨lwd_297, List.forall_mem_cons.mpr ⟨lwd_298, List.forall_mem_cons.mpr ⟨lwd_299, nil_all⟩⟩⟩⟩⟩⟩⟩⟩⟩⟩⟩⟩⟩⟩⟩⟩⟩⟩⟩⟩⟩⟩⟩⟩
theorem t_wsX6_cost_r2 : ∀ w ∈ wsX6_cost_r2, w ∈ lw_tbl := by
  unfold wsX6_cost_r2
  exact List.forall_mem_cons.mpr ⟨lwd_20, List.forall_mem_cons.mpr ⟨lwd_243, List.forall_mem_cons.mpr ⟨lwd_244, List.forall_mem_cons.mpr ⟨lwd_245, List.forall_mem_cons.mpr ⟨lwd_19, List.forall_mem_cons.mpr ⟨lwd_246, List.forall_mem_cons.mpr ⟨lwd_247, List.forall_mem_cons.mpr ⟨lwd_248, List.forall_mem_cons.mpr ⟨lwd_56, List.forall_mem_cons.mpr ⟨lwd_249, List.forall_mem_cons.mpr ⟨lwd_250, List.forall_mem_cons.mpr ⟨lwd_251, List.forall_mem_cons.mpr ⟨lwd_252, List.forall_mem_cons.mpr ⟨lwd_253, List.forall_mem_cons.mpr ⟨lwd_254, List.forall_mem_cons.mpr ⟨lwd_255, List.forall_mem_cons.mpr ⟨lwd_256, List.forall_mem_cons.mpr ⟨lwd_257, List.forall_mem_cons.mpr ⟨lwd_258, List.forall_mem_cons.mpr ⟨lwd_259, List.forall_mem_cons.mpr ⟨lwd_260, List.forall_mem_cons.mpr ⟨lwd_261, List.forall_mem_cons.mpr ⟨lwd_57, List.forall_mem_cons.mpr ⟨lwd_300, nil_all⟩⟩⟩⟩⟩⟩⟩⟩⟩⟩⟩⟩⟩⟩⟩⟩⟩⟩⟩⟩⟩⟩⟩⟩
theorem t_wsX6_cost_r3 : ∀ w ∈ wsX6_cost_r3, w ∈ lw_tbl := by
  unfold wsX6_cost_r3
  exact List.forall_mem_cons.mpr ⟨lwd_301, List.forall_mem_cons.mpr ⟨lwd_302, List.forall_mem_cons.mpr ⟨lwd_303, List.forall_mem_cons.mpr ⟨lwd_410, List.forall_mem_cons.mpr ⟨lwd_411, List.forall_mem_cons.mpr ⟨lwd_412, List.forall_mem_cons.mpr ⟨lwd_413, List.forall_mem_cons.mpr ⟨lwd_24, List.forall_mem_cons.mpr ⟨lwd_304, List.forall_mem_cons.mpr ⟨lwd_305, List.forall_mem_cons.mpr ⟨lwd_306, List.forall_mem_cons.mpr ⟨lwd_23, List.forall_mem_cons.mpr ⟨lwd_307, List.forall_mem_cons.mpr ⟨lwd_308, List.forall_mem_cons.mpr ⟨lwd_63, List.forall_mem_cons.mpr ⟨lwd_64, List.forall_mem_cons.mpr ⟨lwd_61, List.forall_mem_cons.mpr ⟨lwd_62, List.forall_mem_cons.mpr ⟨lwd_309, List.forall_mem_cons.mpr ⟨lwd_310, List.forall_mem_cons.mpr ⟨lwd_311, List.forall_mem_cons.mpr ⟨lwd_312, List.forall_mem_cons.mpr ⟨lwd_313, List.forall_mem_cons.mpr ⟨lwd_314, nil_all⟩⟩⟩⟩⟩⟩⟩⟩⟩⟩⟩⟩⟩⟩⟩⟩⟩⟩⟩⟩⟩⟩⟩⟩
theorem t_wsX6_cost_r4 : ∀ w ∈ wsX6_cost_r4, w ∈ lw_tbl := by
  unfold wsX6_cost_r4
  exact List.forall_mem_cons.mpr ⟨lwd_315, List.forall_mem_cons.mpr ⟨lwd_316, List.forall_mem_cons.mpr ⟨lwd_317, List.forall_mem_cons.mpr ⟨lwd_45, List.forall_mem_cons.mpr ⟨lwd_318, List.forall_mem_cons.mpr ⟨lwd_319, List.forall_mem_cons.mpr ⟨lwd_320, List.forall_mem_cons.mpr ⟨lwd_321, List.forall_mem_cons.mpr ⟨lwd_322, List.forall_mem_cons.mpr ⟨lwd_323, List.forall_mem_cons.mpr ⟨lwd_324, List.forall_mem_cons.mpr ⟨lwd_325, List.forall_mem_cons.mpr ⟨lwd_46, List.forall_mem_cons.mpr ⟨lwd_326, List.forall_mem_cons.mpr ⟨lwd_327, List.forall_mem_cons.mpr ⟨lwd_328, List.forall_mem_cons.mpr ⟨lwd_329, List.forall_mem_cons.mpr ⟨lwd_75, List.forall_mem_cons.mpr ⟨lwd_414, List.forall_mem_cons.mpr ⟨lwd_415, List.forall_mem_cons.mpr ⟨lwd_416, List.forall_mem_cons.mpr ⟨lwd_27, List.forall_mem_cons.mpr ⟨lwd_417, List.forall_mem_cons.mpr ⟨lwd_418, nil_all⟩⟩⟩⟩⟩⟩⟩⟩⟩⟩⟩⟩⟩⟩⟩⟩⟩⟩⟩⟩⟩⟩⟩⟩
theorem t_wsX6_cost_r5 : ∀ w ∈ wsX6_cost_r5, w ∈ lw_tbl := by
  unfold wsX6_cost_r5
  exact List.forall_mem_cons.mpr ⟨lwd_419, List.forall_mem_cons.mpr ⟨lwd_420, List.forall_mem_cons.mpr ⟨lwd_421, List.forall_mem_cons.mpr ⟨lwd_422, List.forall_mem_cons.mpr ⟨lwd_423, List.forall_mem_cons.mpr ⟨lwd_424, List.forall_mem_cons.mpr ⟨lwd_68, List.forall_mem_cons.mpr ⟨lwd_501, List.forall_mem_cons.mpr ⟨lwd_502, List.forall_mem_cons.mpr ⟨lwd_503, List.forall_mem_cons.mpr ⟨lwd_504, List.forall_mem_cons.mpr ⟨lwd_429, List.forall_mem_cons.mpr ⟨lwd_430, List.forall_mem_cons.mpr ⟨lwd_431, List.forall_mem_cons.mpr ⟨lwd_432, List.forall_mem_cons.mpr ⟨lwd_69, List.forall_mem_cons.mpr ⟨lwd_448, List.forall_mem_cons.mpr ⟨lwd_449, List.forall_mem_cons.mpr ⟨lwd_450, List.forall_mem_cons.mpr ⟨lwd_451, List.forall_mem_cons.mpr ⟨lwd_505, List.forall_mem_cons.mpr ⟨lwd_506, List.forall_mem_cons.mpr ⟨lwd_507, List.forall_mem_cons.mpr ⟨lwd_508, nil_all⟩⟩⟩⟩⟩⟩⟩⟩⟩⟩⟩⟩⟩⟩⟩⟩⟩⟩⟩⟩⟩⟩⟩⟩
theorem t_wsX6_cost_r6 : ∀ w ∈ wsX6_cost_r6, w ∈ lw_tbl := by
  unfold wsX6_cost_r6
  exact List.forall_mem_cons.mpr ⟨lwd_433, List.forall_mem_cons.mpr ⟨lwd_434, List.forall_mem_cons.mpr ⟨lwd_435, List.forall_mem_cons.mpr ⟨lwd_436, List.forall_mem_cons.mpr ⟨lwd_437, List.forall_mem_cons.mpr ⟨lwd_438, List.forall_mem_cons.mpr ⟨lwd_439, List.forall_mem_cons.mpr ⟨lwd_440, List.forall_mem_cons.mpr ⟨lwd_441, List.forall_mem_cons.mpr ⟨lwd_442, List.forall_mem_cons.mpr ⟨lwd_443, List.forall_mem_cons.mpr ⟨lwd_444, List.forall_mem_cons.mpr ⟨lwd_445, List.forall_mem_cons.mpr ⟨lwd_446, List.forall_mem_cons.mpr ⟨lwd_447, List.forall_mem_cons.mpr ⟨lwd_70, List.forall_mem_cons.mpr ⟨lwd_452, List.forall_mem_cons.mpr ⟨lwd_453, List.forall_mem_cons.mpr ⟨lwd_454, List.forall_mem_cons.mpr ⟨lwd_455, List.forall_mem_cons.mpr ⟨lwd_456, List.forall_mem_cons.mpr ⟨lwd_457, List.forall_mem_cons.mpr ⟨lwd_458, List.forall_mem_cons.mpr ⟨lwd_459, nil_all⟩⟩⟩⟩⟩⟩⟩⟩⟩⟩⟩⟩⟩⟩⟩⟩⟩⟩⟩⟩⟩⟩⟩⟩
theorem t_wsX6_cost_r7 : ∀ w ∈ wsX6_cost_r7, w ∈ lw_tbl := by
  unfold wsX6_cost_r7
  exact List.forall_mem_cons.mpr ⟨lwd_460, List.forall_mem_cons.mpr ⟨lwd_461, List.forall_mem_cons.mpr ⟨lwd_462, List.forall_mem_cons.mpr ⟨lwd_463, List.forall_mem_cons.mpr ⟨lwd_464, List.forall_mem_cons.mpr ⟨lwd_465, List.forall_mem_cons.mpr ⟨lwd_466, List.forall_mem_cons.mpr ⟨lwd_467, nil_all⟩⟩⟩⟩⟩⟩⟩⟩
theorem t_wsX6_cost : ∀ w ∈ wsX6_cost, w ∈ lw_tbl := by
  unfold wsX6_cost
  exact List.forall_mem_cons.mpr ⟨lwd_499, List.forall_mem_append.mpr ⟨List.forall_mem_append.mpr ⟨List.forall_mem_append.mpr ⟨List.forall_mem_append.mpr ⟨List.forall_mem_append.mpr ⟨List.forall_mem_append.mpr ⟨List.forall_mem_append.mpr ⟨t_wsX6_cost_r1, List.forall_mem_append.mpr ⟨t_wsX6_cost_r2, List.forall_mem_append.mpr ⟨t_wsX6_cost_r3, List.forall_mem_append.mpr ⟨t_wsX6_cost_r4, List.forall_mem_append.mpr ⟨t_wsX6_cost_r5, List.forall_mem_append.mpr ⟨t_wsX6_cost_r6, t_wsX6_cost_r7⟩⟩⟩⟩⟩⟩, inX60⟩, inX00⟩, inX40⟩, inX20⟩, inX30⟩, inX50⟩⟩
theorem t_wsX6_packing_r1 : ∀ w ∈ wsX6_packing_r1, w ∈ lw_tbl := by
  unfold wsX6_packing_r1
  exact List.forall_mem_cons.mpr ⟨lwd_28, List.forall_mem_cons.mpr ⟨lwd_15, List.forall_mem_cons.mpr ⟨lwd_29, List.forall_mem_cons.mpr ⟨lwd_408, List.forall_mem_cons.mpr ⟨lwd_500, List.forall_mem_cons.mpr ⟨lwd_112, List.forall_mem_cons.mpr ⟨lwd_207, List.forall_mem_cons.mpr ⟨lwd_24, List.forall_mem_cons.mpr ⟨lwd_286, List.forall_mem_cons.mpr ⟨lwd_376, List.forall_mem_cons.mpr ⟨lwd_375, List.forall_mem_cons.mpr ⟨lwd_292, List.forall_mem_cons.mpr ⟨lwd_293, List.forall_mem_cons.mpr ⟨lwd_294, List.forall_mem_cons.mpr ⟨lwd_2, List.forall_mem_cons.mpr ⟨lwd_295, List.forall_mem_cons.mpr ⟨lwd_240, List.forall_mem_cons.mpr ⟨lwd_296, List.forall_mem_cons.mpr ⟨lwd_297, List.forall_mem_cons.mpr ⟨lwd_298, List.forall_mem_cons.mpr ⟨lwd_299, List.forall_mem_cons.mpr ⟨lwd_20, List.forall_mem_cons.mpr ⟨lwd_243, List.forall_mem_cons.mpr ⟨lwd_244, nil_all⟩⟩⟩⟩⟩⟩⟩⟩⟩⟩⟩⟩⟩⟩⟩⟩⟩⟩⟩⟩⟩⟩⟩⟩
theorem t_wsX6_packing_r2 : ∀ w ∈ wsX6_packing_r2, w ∈ lw_tbl := by
  unfold wsX6_packing_r2
  exact List.forall_mem_cons.mpr ⟨lwd_245, List.forall_mem_cons.mpr ⟨lwd_19, List.forall_mem_cons.mpr ⟨lwd_246, List.forall_mem_cons.mpr ⟨lwd_247, List.forall_mem_cons.mpr ⟨lwd_248, List.forall_mem_cons.mpr ⟨lwd_56, List.forall_mem_cons.mpr ⟨lwd_249, List.forall_mem_cons.mpr ⟨lwd_250, List.forall_mem_cons.mpr ⟨lwd_251, List.forall_mem_cons.mpr ⟨lwd_252, List.forall_mem_cons.mpr ⟨lwd_253, List.forall_mem_cons.mpr ⟨lwd_254, List.forall_mem_cons.mpr ⟨lwd_255, List.forall_mem_cons.mpr ⟨lwd_256, List.forall_mem_cons.mpr ⟨lwd_257, List.forall_mem_cons.mpr ⟨lwd_258, List.forall_mem_cons.mpr ⟨lwd_259, List.forall_mem_cons.mpr ⟨lwd_260, List.forall_mem_cons.mpr ⟨lwd_261, List.forall_mem_cons.mpr ⟨lwd_57, List.forall_mem_cons.mpr ⟨lwd_300, List.forall_mem_cons.mpr ⟨lwd_301, List.forall_mem_cons.mpr ⟨lwd_302, List.forall_mem_cons.mpr ⟨lwd_303, nil_all⟩⟩⟩⟩⟩⟩⟩⟩⟩⟩⟩⟩⟩⟩⟩⟩⟩⟩⟩⟩⟩⟩⟩⟩
theorem t_wsX6_packing_r3 : ∀ w ∈ wsX6_packing_r3, w ∈ lw_tbl := by
  unfold wsX6_packing_r3
  exact List.forall_mem_cons.mpr ⟨lwd_410, List.forall_mem_cons.mpr ⟨lwd_411, List.forall_mem_cons.mpr ⟨lwd_412, List.forall_mem_cons.mpr ⟨lwd_413, List.forall_mem_cons.mpr ⟨lwd_304, List.forall_mem_cons.mpr ⟨lwd_305, List.forall_mem_cons.mpr ⟨lwd_306, List.forall_mem_cons.mpr ⟨lwd_23, List.forall_mem_cons.mpr ⟨lwd_307, List.forall_mem_cons.mpr ⟨lwd_308, List.forall_mem_cons.mpr ⟨lwd_63, List.forall_mem_cons.mpr ⟨lwd_64, List.forall_mem_cons.mpr ⟨lwd_61, List.forall_mem_cons.mpr ⟨lwd_62, List.forall_mem_cons.mpr ⟨lwd_309, List.forall_mem_cons.mpr ⟨lwd_310, List.forall_mem_cons.mpr ⟨lwd_311, List.forall_mem_cons.mpr ⟨lwd_312, List.forall_mem_cons.mpr ⟨lwd_313, List.forall_mem_cons.mpr ⟨lwd_314, List.forall_mem_cons.mpr ⟨lwd_315, List.forall_mem_cons.mpr ⟨lwd_316, List.forall_mem_cons.mpr ⟨lwd_35, List.forall_mem_cons.mpr ⟨lwd_317, nil_all⟩⟩⟩⟩⟩⟩⟩⟩⟩⟩⟩⟩⟩⟩⟩⟩⟩⟩⟩⟩⟩⟩⟩⟩
theorem t_wsX6_packing_r4 : ∀ w ∈ wsX6_packing_r4, w ∈ lw_tbl := by
  unfold wsX6_packing_r4
  exact List.forall_mem_cons.mpr ⟨lwd_45, List.forall_mem_cons.mpr ⟨lwd_318, List.forall_mem_cons.mpr ⟨lwd_319, List.forall_mem_cons.mpr ⟨lwd_320, List.forall_mem_cons.mpr ⟨lwd_321, List.forall_mem_cons.mpr ⟨lwd_76, List.forall_mem_cons.mpr ⟨lwd_322, List.forall_mem_cons.mpr ⟨lwd_323, List.forall_mem_cons.mpr ⟨lwd_324, List.forall_mem_cons.mpr ⟨lwd_325, List.forall_mem_cons.mpr ⟨lwd_46, List.forall_mem_cons.mpr ⟨lwd_326, List.forall_mem_cons.mpr ⟨lwd_327, List.forall_mem_cons.mpr ⟨lwd_328, List.forall_mem_cons.mpr ⟨lwd_329, List.forall_mem_cons.mpr ⟨lwd_75, List.forall_mem_cons.mpr ⟨lwd_414, List.forall_mem_cons.mpr ⟨lwd_415, List.forall_mem_cons.mpr ⟨lwd_416, List.forall_mem_cons.mpr ⟨lwd_27, List.forall_mem_cons.mpr ⟨lwd_417, List.forall_mem_cons.mpr ⟨lwd_418, List.forall_mem_cons.mpr ⟨lwd_419, List.forall_mem_cons.mpr ⟨lwd_420, nil_all⟩⟩⟩⟩⟩⟩⟩⟩⟩⟩⟩⟩⟩⟩⟩⟩⟩⟩⟩⟩⟩⟩⟩⟩
theorem t_wsX6_packing_r5 : ∀ w ∈ wsX6_packing_r5, w ∈ lw_tbl := by
  unfold wsX6_packing_r5
  exact List.forall_mem_cons.mpr ⟨lwd_421, List.forall_mem_cons.mpr ⟨lwd_422, List.forall_mem_cons.mpr ⟨lwd_423, List.forall_mem_cons.mpr ⟨lwd_424, List.forall_mem_cons.mpr ⟨lwd_68, List.forall_mem_cons.mpr ⟨lwd_501, List.forall_mem_cons.mpr ⟨lwd_502, List.forall_mem_cons.mpr ⟨lwd_503, List.forall_mem_cons.mpr ⟨lwd_504, List.forall_mem_cons.mpr ⟨lwd_429, List.forall_mem_cons.mpr ⟨lwd_430, List.forall_mem_cons.mpr ⟨lwd_431, List.forall_mem_cons.mpr ⟨lwd_432, List.forall_mem_cons.mpr ⟨lwd_69, List.forall_mem_cons.mpr ⟨lwd_448, List.forall_mem_cons.mpr ⟨lwd_449, List.forall_mem_cons.mpr ⟨lwd_450, List.forall_mem_cons.mpr ⟨lwd_451, List.forall_mem_cons.mpr ⟨lwd_433, List.forall_mem_cons.mpr ⟨lwd_434, List.forall_mem_cons.mpr ⟨lwd_435, List.forall_mem_cons.mpr ⟨lwd_436, List.forall_mem_cons.mpr ⟨lwd_437, List.forall_mem_cons.mpr ⟨lwd_438, nil_all⟩⟩⟩⟩⟩⟩⟩⟩⟩⟩⟩⟩⟩⟩⟩⟩⟩⟩⟩⟩⟩⟩⟩⟩
theorem t_wsX6_packing_r6 : ∀ w ∈ wsX6_packing_r6, w ∈ lw_tbl := by
  unfold wsX6_packing_r6
  exact List.forall_mem_cons.mpr ⟨lwd_439, List.forall_mem_cons.mpr ⟨lwd_440, List.forall_mem_cons.mpr ⟨lwd_441, List.forall_mem_cons.mpr ⟨lwd_442, List.forall_mem_cons.mpr ⟨lwd_443, List.forall_mem_cons.mpr ⟨lwd_444, List.forall_mem_cons.mpr ⟨lwd_445, List.forall_mem_cons.mpr ⟨lwd_446, List.forall_mem_cons.mpr ⟨lwd_447, List.forall_mem_cons.mpr ⟨lwd_70, List.forall_mem_cons.mpr ⟨lwd_452, List.forall_mem_cons.mpr ⟨lwd_453, List.forall_mem_cons.mpr ⟨lwd_454, List.forall_mem_cons.mpr ⟨lwd_455, List.forall_mem_cons.mpr ⟨lwd_456, List.forall_mem_cons.mpr ⟨lwd_457, List.forall_mem_cons.mpr ⟨lwd_458, List.forall_mem_cons.mpr ⟨lwd_459, List.forall_mem_cons.mpr ⟨lwd_460, List.forall_mem_cons.mpr ⟨lwd_461, List.forall_mem_cons.mpr ⟨lwd_462, List.forall_mem_cons.mpr ⟨lwd_463, List.forall_mem_cons.mpr ⟨lwd_464, List.forall_mem_cons.mpr ⟨lwd_465, nil_all⟩⟩⟩⟩⟩⟩⟩⟩⟩⟩⟩⟩⟩⟩⟩⟩⟩⟩⟩⟩⟩⟩⟩⟩
theorem t_wsX6_packing_r7 : ∀ w ∈ wsX6_packing_r7, w ∈ lw_tbl := by
  unfold wsX6_packing_r7
  exact List.forall_mem_cons.mpr ⟨lwd_466, List.forall_mem_cons.mpr ⟨lwd_467, List.forall_mem_cons.mpr ⟨lwd_517, List.forall_mem_cons.mpr ⟨lwd_119, List.forall_mem_cons.mpr ⟨lwd_120, List.forall_mem_cons.mpr ⟨lwd_39, List.forall_mem_cons.mpr ⟨lwd_121, List.forall_mem_cons.mpr ⟨lwd_117, List.forall_mem_cons.mpr ⟨lwd_122, List.forall_mem_cons.mpr ⟨lwd_51, List.forall_mem_cons.mpr ⟨lwd_52, List.forall_mem_cons.mpr ⟨lwd_123, List.forall_mem_cons.mpr ⟨lwd_124, List.forall_mem_cons.mpr ⟨lwd_125, List.forall_mem_cons.mpr ⟨lwd_126, List.forall_mem_cons.mpr ⟨lwd_518, List.forall_mem_cons.mpr ⟨lwd_519, List.forall_mem_cons.mpr ⟨lwd_520, List.forall_mem_cons.mpr ⟨lwd_521, List.forall_mem_cons.mpr ⟨lwd_522, List.forall_mem_cons.mpr ⟨lwd_523, List.forall_mem_cons.mpr ⟨lwd_524, List.forall_mem_cons.mpr ⟨lwd_525, List.forall_mem_cons.mpr ⟨lwd_526, nil_all⟩⟩⟩⟩⟩⟩⟩⟩⟩⟩⟩⟩⟩⟩⟩⟩⟩⟩⟩⟩⟩⟩⟩⟩
theorem t_wsX6_packing_r8 : ∀ w ∈ wsX6_packing_r8, w ∈ lw_tbl := by
  unfold wsX6_packing_r8
  exact List.forall_mem_cons.mpr ⟨lwd_527, List.forall_mem_cons.mpr ⟨lwd_528, List.forall_mem_cons.mpr ⟨lwd_529, List.forall_mem_cons.mpr ⟨lwd_530, List.forall_mem_cons.mpr ⟨lwd_469, List.forall_mem_cons.mpr ⟨lwd_470, List.forall_mem_cons.mpr ⟨lwd_385, List.forall_mem_cons.mpr ⟨lwd_531, List.forall_mem_cons.mpr ⟨lwd_532, List.forall_mem_cons.mpr ⟨lwd_533, List.forall_mem_cons.mpr ⟨lwd_534, List.forall_mem_cons.mpr ⟨lwd_535, nil_all⟩⟩⟩⟩⟩⟩⟩⟩⟩⟩⟩⟩
theorem t_wsX6_packing : ∀ w ∈ wsX6_packing, w ∈ lw_tbl := by
  unfold wsX6_packing
  exact List.forall_mem_cons.mpr ⟨lwd_516, List.forall_mem_append.mpr ⟨List.forall_mem_append.mpr ⟨List.forall_mem_append.mpr ⟨List.forall_mem_append.mpr ⟨List.forall_mem_append.mpr ⟨List.forall_mem_append.mpr ⟨List.forall_mem_append.mpr ⟨List.forall_mem_append.mpr ⟨t_wsX6_packing_r1, List.forall_mem_append.mpr ⟨t_wsX6_packing_r2, List.forall_mem_append.mpr ⟨t_wsX6_packing_r3, List.forall_mem_append.mpr ⟨t_wsX6_packing_r4, List.forall_mem_append.mpr ⟨t_wsX6_packing_r5, List.forall_mem_append.mpr ⟨t_wsX6_packing_r6, List.forall_mem_append.mpr ⟨t_wsX6_packing_r7, t_wsX6_packing_r8⟩⟩⟩⟩⟩⟩⟩, inX60⟩, inX00⟩, inX40⟩, inX20⟩, inX50⟩, inX30⟩, inX10⟩⟩
theorem t_wsX6_draw_r1 : ∀ w ∈ wsX6_draw_r1, w ∈ lw_tbl := by
  unfold wsX6_draw_r1
  exact List.forall_mem_cons.mpr ⟨lwd_15, List.forall_mem_cons.mpr ⟨lwd_112, List.forall_mem_cons.mpr ⟨lwd_29, List.forall_mem_cons.mpr ⟨lwd_552, List.forall_mem_cons.mpr ⟨lwd_553, List.forall_mem_cons.mpr ⟨lwd_207, List.forall_mem_cons.mpr ⟨lwd_554, List.forall_mem_cons.mpr ⟨lwd_555, List.forall_mem_cons.mpr ⟨lwd_556, List.forall_mem_cons.mpr ⟨lwd_557, List.forall_mem_cons.mpr ⟨lwd_558, List.forall_mem_cons.mpr ⟨lwd_35, List.forall_mem_cons.mpr ⟨lwd_559, List.forall_mem_cons.mpr ⟨lwd_560, List.forall_mem_cons.mpr ⟨lwd_327, List.forall_mem_cons.mpr ⟨lwd_328, List.forall_mem_cons.mpr ⟨lwd_329, List.forall_mem_cons.mpr ⟨lwd_75, List.forall_mem_cons.mpr ⟨lwd_561, List.forall_mem_cons.mpr ⟨lwd_562, List.forall_mem_cons.mpr ⟨lwd_563, List.forall_mem_cons.mpr ⟨lwd_564, List.forall_mem_cons.mpr ⟨lwd_565, List.forall_mem_cons.mpr ⟨lwd_566, nil_all⟩⟩⟩⟩⟩⟩⟩⟩⟩⟩⟩⟩⟩⟩⟩⟩⟩⟩⟩⟩⟩⟩⟩⟩
theorem t_wsX6_draw_r2 : ∀ w ∈ wsX6_draw_r2, w ∈ lw_tbl := by
  unfold wsX6_draw_r2
  exact List.forall_mem_cons.mpr ⟨lwd_567, List.forall_mem_cons.mpr ⟨lwd_568, List.forall_mem_cons.mpr ⟨lwd_76, List.forall_mem_cons.mpr ⟨lwd_46, List.forall_mem_cons.mpr ⟨lwd_45, List.forall_mem_cons.mpr ⟨lwd_252, List.forall_mem_cons.mpr ⟨lwd_2, List.forall_mem_cons.mpr ⟨lwd_253, List.forall_mem_cons.mpr ⟨lwd_517, List.forall_mem_cons.mpr ⟨lwd_119, List.forall_mem_cons.mpr ⟨lwd_120, List.forall_mem_cons.mpr ⟨lwd_39, List.forall_mem_cons.mpr ⟨lwd_121, List.forall_mem_cons.mpr ⟨lwd_117, List.forall_mem_cons.mpr ⟨lwd_122, List.forall_mem_cons.mpr ⟨lwd_51, List.forall_mem_cons.mpr ⟨lwd_52, List.forall_mem_cons.mpr ⟨lwd_123, List.forall_mem_cons.mpr ⟨lwd_124, List.forall_mem_cons.mpr ⟨lwd_125, List.forall_mem_cons.mpr ⟨lwd_126, List.forall_mem_cons.mpr ⟨lwd_569, List.forall_mem_cons.mpr ⟨lwd_532, List.forall_mem_cons.mpr ⟨lwd_533, nil_all⟩⟩⟩⟩⟩⟩⟩⟩⟩⟩⟩⟩⟩⟩⟩⟩⟩⟩⟩⟩⟩⟩⟩⟩
theorem t_wsX6_draw_r3 : ∀ w ∈ wsX6_draw_r3, w ∈ lw_tbl := by
  unfold wsX6_draw_r3
  exact List.forall_mem_cons.mpr ⟨lwd_534, List.forall_mem_cons.mpr ⟨lwd_535, nil_all⟩⟩
theorem t_wsX6_draw : ∀ w ∈ wsX6_draw, w ∈ lw_tbl := by
  unfold wsX6_draw
  exact List.forall_mem_cons.mpr ⟨lwd_551, List.forall_mem_append.mpr ⟨List.forall_mem_append.mpr ⟨List.forall_mem_append.mpr ⟨List.forall_mem_append.mpr ⟨List.forall_mem_append.mpr ⟨t_wsX6_draw_r1, List.forall_mem_append.mpr ⟨t_wsX6_draw_r2, t_wsX6_draw_r3⟩⟩, inX60⟩, inX00⟩, inX10⟩, inX20⟩⟩
theorem t_wsX6_uncross_r1 : ∀ w ∈ wsX6_uncross_r1, w ∈ lw_tbl := by
  unfold wsX6_uncross_r1
  exact List.forall_mem_cons.mpr ⟨lwd_15, List.forall_mem_cons.mpr ⟨lwd_112, List.forall_mem_cons.mpr ⟨lwd_552, List.forall_mem_cons.mpr ⟨lwd_579, List.forall_mem_cons.mpr ⟨lwd_580, List.forall_mem_cons.mpr ⟨lwd_581, List.forall_mem_cons.mpr ⟨lwd_39, List.forall_mem_cons.mpr ⟨lwd_582, List.forall_mem_cons.mpr ⟨lwd_583, List.forall_mem_cons.mpr ⟨lwd_584, List.forall_mem_cons.mpr ⟨lwd_585, List.forall_mem_cons.mpr ⟨lwd_586, List.forall_mem_cons.mpr ⟨lwd_587, List.forall_mem_cons.mpr ⟨lwd_588, List.forall_mem_cons.mpr ⟨lwd_589, List.forall_mem_cons.mpr ⟨lwd_590, List.forall_mem_cons.mpr ⟨lwd_591, List.forall_mem_cons.mpr ⟨lwd_51, List.forall_mem_cons.mpr ⟨lwd_592, List.forall_mem_cons.mpr ⟨lwd_593, List.forall_mem_cons.mpr ⟨lwd_594, List.forall_mem_cons.mpr ⟨lwd_595, List.forall_mem_cons.mpr ⟨lwd_122, List.forall_mem_cons.mpr ⟨lwd_596, nil_all⟩⟩⟩⟩⟩⟩⟩⟩⟩⟩⟩⟩⟩⟩⟩⟩⟩⟩⟩⟩⟩⟩⟩⟩
theorem t_wsX6_uncross_r2 : ∀ w ∈ wsX6_uncross_r2, w ∈ lw_tbl := by
  unfold wsX6_uncross_r2
  exact List.forall_mem_cons.mpr ⟨lwd_597, List.forall_mem_cons.mpr ⟨lwd_598, List.forall_mem_cons.mpr ⟨lwd_599, List.forall_mem_cons.mpr ⟨lwd_600, List.forall_mem_cons.mpr ⟨lwd_458, List.forall_mem_cons.mpr ⟨lwd_459, List.forall_mem_cons.mpr ⟨lwd_460, nil_all⟩⟩⟩⟩⟩⟩⟩
theorem t_wsX6_uncross : ∀ w ∈ wsX6_uncross, w ∈ lw_tbl := by
  unfold wsX6_uncross
  exact List.forall_mem_cons.mpr ⟨lwd_578, List.forall_mem_append.mpr ⟨List.forall_mem_append.mpr ⟨List.forall_mem_append.mpr ⟨List.forall_mem_append.mpr ⟨t_wsX6_uncross_r1, t_wsX6_uncross_r2⟩, inX60⟩, inX00⟩, inX10⟩⟩
theorem t_wsX6_member : ∀ w ∈ wsX6_member, w ∈ lw_tbl := by
  unfold wsX6_member
  exact List.forall_mem_cons.mpr ⟨lwd_616, List.forall_mem_append.mpr ⟨List.forall_mem_append.mpr ⟨List.forall_mem_append.mpr ⟨List.forall_mem_cons.mpr ⟨lwd_15, List.forall_mem_cons.mpr ⟨lwd_112, List.forall_mem_cons.mpr ⟨lwd_554, List.forall_mem_cons.mpr ⟨lwd_617, List.forall_mem_cons.mpr ⟨lwd_618, List.forall_mem_cons.mpr ⟨lwd_619, List.forall_mem_cons.mpr ⟨lwd_39, List.forall_mem_cons.mpr ⟨lwd_620, List.forall_mem_cons.mpr ⟨lwd_51, nil_all⟩⟩⟩⟩⟩⟩⟩⟩⟩, inX60⟩, inX00⟩, inX10⟩⟩
theorem t_wsX6_image_r1 : ∀ w ∈ wsX6_image_r1, w ∈ lw_tbl := by
  unfold wsX6_image_r1
  exact List.forall_mem_cons.mpr ⟨lwd_16, List.forall_mem_cons.mpr ⟨lwd_12, List.forall_mem_cons.mpr ⟨lwd_13, List.forall_mem_cons.mpr ⟨lwd_14, List.forall_mem_cons.mpr ⟨lwd_15, List.forall_mem_cons.mpr ⟨lwd_30, List.forall_mem_cons.mpr ⟨lwd_31, List.forall_mem_cons.mpr ⟨lwd_32, List.forall_mem_cons.mpr ⟨lwd_10, List.forall_mem_cons.mpr ⟨lwd_11, List.forall_mem_cons.mpr ⟨lwd_33, List.forall_mem_cons.mpr ⟨lwd_34, List.forall_mem_cons.mpr ⟨lwd_35, List.forall_mem_cons.mpr ⟨lwd_36, List.forall_mem_cons.mpr ⟨lwd_37, List.forall_mem_cons.mpr ⟨lwd_38, List.forall_mem_cons.mpr ⟨lwd_39, List.forall_mem_cons.mpr ⟨lwd_40, List.forall_mem_cons.mpr ⟨lwd_41, List.forall_mem_cons.mpr ⟨lwd_42, List.forall_mem_cons.mpr ⟨lwd_43, List.forall_mem_cons.mpr ⟨lwd_44, List.forall_mem_cons.mpr ⟨lwd_45, List.forall_mem_cons.mpr ⟨lwd_46, nil_all⟩⟩⟩⟩⟩⟩⟩⟩⟩⟩⟩⟩⟩⟩⟩⟩⟩⟩⟩⟩⟩⟩⟩⟩
theorem t_wsX6_image_r2 : ∀ w ∈ wsX6_image_r2, w ∈ lw_tbl := by
  unfold wsX6_image_r2
  exact List.forall_mem_cons.mpr ⟨lwd_47, List.forall_mem_cons.mpr ⟨lwd_48, List.forall_mem_cons.mpr ⟨lwd_49, List.forall_mem_cons.mpr ⟨lwd_50, List.forall_mem_cons.mpr ⟨lwd_51, List.forall_mem_cons.mpr ⟨lwd_52, List.forall_mem_cons.mpr ⟨lwd_629, List.forall_mem_cons.mpr ⟨lwd_630, List.forall_mem_cons.mpr ⟨lwd_631, List.forall_mem_cons.mpr ⟨lwd_632, List.forall_mem_cons.mpr ⟨lwd_633, List.forall_mem_cons.mpr ⟨lwd_634, List.forall_mem_cons.mpr ⟨lwd_635, List.forall_mem_cons.mpr ⟨lwd_636, List.forall_mem_cons.mpr ⟨lwd_637, List.forall_mem_cons.mpr ⟨lwd_75, List.forall_mem_cons.mpr ⟨lwd_76, List.forall_mem_cons.mpr ⟨lwd_638, List.forall_mem_cons.mpr ⟨lwd_449, List.forall_mem_cons.mpr ⟨lwd_450, List.forall_mem_cons.mpr ⟨lwd_451, List.forall_mem_cons.mpr ⟨lwd_639, List.forall_mem_cons.mpr ⟨lwd_640, List.forall_mem_cons.mpr ⟨lwd_641, nil_all⟩⟩⟩⟩⟩⟩⟩⟩⟩⟩⟩⟩⟩⟩⟩⟩⟩⟩⟩⟩⟩⟩⟩⟩
theorem t_wsX6_image_r3 : ∀ w ∈ wsX6_image_r3, w ∈ lw_tbl := by
  unfold wsX6_image_r3
  exact List.forall_mem_cons.mpr ⟨lwd_642, List.forall_mem_cons.mpr ⟨lwd_117, List.forall_mem_cons.mpr ⟨lwd_122, List.forall_mem_cons.mpr ⟨lwd_643, nil_all⟩⟩⟩⟩
theorem t_wsX6_image : ∀ w ∈ wsX6_image, w ∈ lw_tbl := by
  unfold wsX6_image
  exact List.forall_mem_cons.mpr ⟨lwd_628, List.forall_mem_append.mpr ⟨List.forall_mem_append.mpr ⟨List.forall_mem_append.mpr ⟨List.forall_mem_append.mpr ⟨List.forall_mem_append.mpr ⟨t_wsX6_image_r1, List.forall_mem_append.mpr ⟨t_wsX6_image_r2, t_wsX6_image_r3⟩⟩, inX60⟩, inX00⟩, inX20⟩, inX10⟩⟩
theorem t_wsX6_again_r1 : ∀ w ∈ wsX6_again_r1, w ∈ lw_tbl := by
  unfold wsX6_again_r1
  exact List.forall_mem_cons.mpr ⟨lwd_16, List.forall_mem_cons.mpr ⟨lwd_15, List.forall_mem_cons.mpr ⟨lwd_629, List.forall_mem_cons.mpr ⟨lwd_630, List.forall_mem_cons.mpr ⟨lwd_631, List.forall_mem_cons.mpr ⟨lwd_14, List.forall_mem_cons.mpr ⟨lwd_632, List.forall_mem_cons.mpr ⟨lwd_36, List.forall_mem_cons.mpr ⟨lwd_40, List.forall_mem_cons.mpr ⟨lwd_633, List.forall_mem_cons.mpr ⟨lwd_634, List.forall_mem_cons.mpr ⟨lwd_635, List.forall_mem_cons.mpr ⟨lwd_636, List.forall_mem_cons.mpr ⟨lwd_35, List.forall_mem_cons.mpr ⟨lwd_637, List.forall_mem_cons.mpr ⟨lwd_75, List.forall_mem_cons.mpr ⟨lwd_76, List.forall_mem_cons.mpr ⟨lwd_45, List.forall_mem_cons.mpr ⟨lwd_638, List.forall_mem_cons.mpr ⟨lwd_449, List.forall_mem_cons.mpr ⟨lwd_450, List.forall_mem_cons.mpr ⟨lwd_451, List.forall_mem_cons.mpr ⟨lwd_46, List.forall_mem_cons.mpr ⟨lwd_47, nil_all⟩⟩⟩⟩⟩⟩⟩⟩⟩⟩⟩⟩⟩⟩⟩⟩⟩⟩⟩⟩⟩⟩⟩⟩
theorem t_wsX6_again_r2 : ∀ w ∈ wsX6_again_r2, w ∈ lw_tbl := by
  unfold wsX6_again_r2
  exact List.forall_mem_cons.mpr ⟨lwd_639, List.forall_mem_cons.mpr ⟨lwd_640, List.forall_mem_cons.mpr ⟨lwd_641, List.forall_mem_cons.mpr ⟨lwd_39, List.forall_mem_cons.mpr ⟨lwd_642, List.forall_mem_cons.mpr ⟨lwd_117, List.forall_mem_cons.mpr ⟨lwd_122, List.forall_mem_cons.mpr ⟨lwd_51, List.forall_mem_cons.mpr ⟨lwd_643, List.forall_mem_cons.mpr ⟨lwd_52, nil_all⟩⟩⟩⟩⟩⟩⟩⟩⟩⟩
theorem t_wsX6_again : ∀ w ∈ wsX6_again, w ∈ lw_tbl := by
  unfold wsX6_again
  exact List.forall_mem_cons.mpr ⟨lwd_651, List.forall_mem_append.mpr ⟨List.forall_mem_append.mpr ⟨List.forall_mem_append.mpr ⟨List.forall_mem_append.mpr ⟨List.forall_mem_append.mpr ⟨t_wsX6_again_r1, t_wsX6_again_r2⟩, inX60⟩, inX00⟩, inX20⟩, inX10⟩⟩
theorem t_wsX7_init_r1 : ∀ w ∈ wsX7_init_r1, w ∈ lw_tbl := by
  unfold wsX7_init_r1
  exact List.forall_mem_cons.mpr ⟨lwd_80, List.forall_mem_cons.mpr ⟨lwd_10, List.forall_mem_cons.mpr ⟨lwd_11, List.forall_mem_cons.mpr ⟨lwd_81, List.forall_mem_cons.mpr ⟨lwd_44, List.forall_mem_cons.mpr ⟨lwd_82, List.forall_mem_cons.mpr ⟨lwd_83, List.forall_mem_cons.mpr ⟨lwd_84, List.forall_mem_cons.mpr ⟨lwd_85, List.forall_mem_cons.mpr ⟨lwd_86, List.forall_mem_cons.mpr ⟨lwd_87, List.forall_mem_cons.mpr ⟨lwd_88, List.forall_mem_cons.mpr ⟨lwd_89, List.forall_mem_cons.mpr ⟨lwd_90, List.forall_mem_cons.mpr ⟨lwd_91, List.forall_mem_cons.mpr ⟨lwd_92, List.forall_mem_cons.mpr ⟨lwd_93, List.forall_mem_cons.mpr ⟨lwd_94, List.forall_mem_cons.mpr ⟨lwd_95, List.forall_mem_cons.mpr ⟨lwd_96, List.forall_mem_cons.mpr ⟨lwd_97, List.forall_mem_cons.mpr ⟨lwd_98, List.forall_mem_cons.mpr ⟨lwd_99, List.forall_mem_cons.mpr ⟨lwd_100, nil_all⟩⟩⟩⟩⟩⟩⟩⟩⟩⟩⟩⟩⟩⟩⟩⟩⟩⟩⟩⟩⟩⟩⟩⟩
theorem t_wsX7_init_r2 : ∀ w ∈ wsX7_init_r2, w ∈ lw_tbl := by
  unfold wsX7_init_r2
  exact List.forall_mem_cons.mpr ⟨lwd_101, List.forall_mem_cons.mpr ⟨lwd_102, List.forall_mem_cons.mpr ⟨lwd_103, List.forall_mem_cons.mpr ⟨lwd_104, List.forall_mem_cons.mpr ⟨lwd_105, List.forall_mem_cons.mpr ⟨lwd_106, nil_all⟩⟩⟩⟩⟩⟩
theorem t_wsX7_init : ∀ w ∈ wsX7_init, w ∈ lw_tbl := by
  unfold wsX7_init
  exact List.forall_mem_cons.mpr ⟨lwd_79, List.forall_mem_append.mpr ⟨List.forall_mem_append.mpr ⟨t_wsX7_init_r1, t_wsX7_init_r2⟩, inX70⟩⟩
theorem t_wsX7_begin : ∀ w ∈ wsX7_begin, w ∈ lw_tbl := by
  unfold wsX7_begin
  exact List.forall_mem_cons.mpr ⟨lwd_130, List.forall_mem_append.mpr ⟨List.forall_mem_cons.mpr ⟨lwd_131, List.forall_mem_cons.mpr ⟨lwd_81, List.forall_mem_cons.mpr ⟨lwd_132, List.forall_mem_cons.mpr ⟨lwd_133, List.forall_mem_cons.mpr ⟨lwd_134, List.forall_mem_cons.mpr ⟨lwd_135, List.forall_mem_cons.mpr ⟨lwd_136, List.forall_mem_cons.mpr ⟨lwd_5, List.forall_mem_cons.mpr ⟨lwd_137, List.forall_mem_cons.mpr ⟨lwd_138, List.forall_mem_cons.mpr ⟨lwd_139, List.forall_mem_cons.mpr ⟨lwd_140, List.forall_mem_cons.mpr ⟨lwd_141, List.forall_mem_cons.mpr ⟨lwd_142, List.forall_mem_cons.mpr ⟨lwd_143, nil_all⟩⟩⟩⟩⟩⟩⟩⟩⟩⟩⟩⟩⟩⟩⟩, inX70⟩⟩
theorem t_wsX7_arc : ∀ w ∈ wsX7_arc, w ∈ lw_tbl := by
  unfold wsX7_arc
  exact List.forall_mem_cons.mpr ⟨lwd_163, List.forall_mem_append.mpr ⟨List.forall_mem_cons.mpr ⟨lwd_131, List.forall_mem_cons.mpr ⟨lwd_132, List.forall_mem_cons.mpr ⟨lwd_81, List.forall_mem_cons.mpr ⟨lwd_82, List.forall_mem_cons.mpr ⟨lwd_83, List.forall_mem_cons.mpr ⟨lwd_84, List.forall_mem_cons.mpr ⟨lwd_135, List.forall_mem_cons.mpr ⟨lwd_136, List.forall_mem_cons.mpr ⟨lwd_5, List.forall_mem_cons.mpr ⟨lwd_137, List.forall_mem_cons.mpr ⟨lwd_138, List.forall_mem_cons.mpr ⟨lwd_139, List.forall_mem_cons.mpr ⟨lwd_140, List.forall_mem_cons.mpr ⟨lwd_141, List.forall_mem_cons.mpr ⟨lwd_142, List.forall_mem_cons.mpr ⟨lwd_143, nil_all⟩⟩⟩⟩⟩⟩⟩⟩⟩⟩⟩⟩⟩⟩⟩⟩, inX70⟩⟩
theorem t_wsX7_drop : ∀ w ∈ wsX7_drop, w ∈ lw_tbl := by
  unfold wsX7_drop
  exact List.forall_mem_cons.mpr ⟨lwd_179, List.forall_mem_append.mpr ⟨List.forall_mem_cons.mpr ⟨lwd_131, List.forall_mem_cons.mpr ⟨lwd_132, List.forall_mem_cons.mpr ⟨lwd_82, List.forall_mem_cons.mpr ⟨lwd_83, List.forall_mem_cons.mpr ⟨lwd_84, List.forall_mem_cons.mpr ⟨lwd_180, List.forall_mem_cons.mpr ⟨lwd_181, List.forall_mem_cons.mpr ⟨lwd_182, List.forall_mem_cons.mpr ⟨lwd_5, List.forall_mem_cons.mpr ⟨lwd_183, List.forall_mem_cons.mpr ⟨lwd_135, List.forall_mem_cons.mpr ⟨lwd_136, List.forall_mem_cons.mpr ⟨lwd_137, List.forall_mem_cons.mpr ⟨lwd_138, List.forall_mem_cons.mpr ⟨lwd_139, List.forall_mem_cons.mpr ⟨lwd_140, List.forall_mem_cons.mpr ⟨lwd_141, List.forall_mem_cons.mpr ⟨lwd_142, List.forall_mem_cons.mpr ⟨lwd_143, nil_all⟩⟩⟩⟩⟩⟩⟩⟩⟩⟩⟩⟩⟩⟩⟩⟩⟩⟩⟩, inX70⟩⟩
theorem t_wsX7_weigh : ∀ w ∈ wsX7_weigh, w ∈ lw_tbl := by
  unfold wsX7_weigh
  exact List.forall_mem_cons.mpr ⟨lwd_192, List.forall_mem_append.mpr ⟨List.forall_mem_cons.mpr ⟨lwd_131, List.forall_mem_cons.mpr ⟨lwd_84, List.forall_mem_cons.mpr ⟨lwd_180, List.forall_mem_cons.mpr ⟨lwd_181, List.forall_mem_cons.mpr ⟨lwd_182, List.forall_mem_cons.mpr ⟨lwd_5, List.forall_mem_cons.mpr ⟨lwd_183, List.forall_mem_cons.mpr ⟨lwd_132, List.forall_mem_cons.mpr ⟨lwd_135, List.forall_mem_cons.mpr ⟨lwd_136, List.forall_mem_cons.mpr ⟨lwd_137, nil_all⟩⟩⟩⟩⟩⟩⟩⟩⟩⟩⟩, inX70⟩⟩
theorem t_wsX7_turn : ∀ w ∈ wsX7_turn, w ∈ lw_tbl := by
  unfold wsX7_turn
  exact List.forall_mem_cons.mpr ⟨lwd_202, List.forall_mem_append.mpr ⟨List.forall_mem_cons.mpr ⟨lwd_131, List.forall_mem_cons.mpr ⟨lwd_82, List.forall_mem_cons.mpr ⟨lwd_83, List.forall_mem_cons.mpr ⟨lwd_180, List.forall_mem_cons.mpr ⟨lwd_181, List.forall_mem_cons.mpr ⟨lwd_182, List.forall_mem_cons.mpr ⟨lwd_5, List.forall_mem_cons.mpr ⟨lwd_183, List.forall_mem_cons.mpr ⟨lwd_132, List.forall_mem_cons.mpr ⟨lwd_135, List.forall_mem_cons.mpr ⟨lwd_136, List.forall_mem_cons.mpr ⟨lwd_137, List.forall_mem_cons.mpr ⟨lwd_138, List.forall_mem_cons.mpr ⟨lwd_139, List.forall_mem_cons.mpr ⟨lwd_140, List.forall_mem_cons.mpr ⟨lwd_141, List.forall_mem_cons.mpr ⟨lwd_142, List.forall_mem_cons.mpr ⟨lwd_143, nil_all⟩⟩⟩⟩⟩⟩⟩⟩⟩⟩⟩⟩⟩⟩⟩⟩⟩⟩, inX70⟩⟩
theorem t_wsX7_join : ∀ w ∈ wsX7_join, w ∈ lw_tbl := by
  unfold wsX7_join
  exact List.forall_mem_cons.mpr ⟨lwd_218, List.forall_mem_append.mpr ⟨List.forall_mem_cons.mpr ⟨lwd_131, List.forall_mem_cons.mpr ⟨lwd_132, List.forall_mem_cons.mpr ⟨lwd_82, List.forall_mem_cons.mpr ⟨lwd_83, List.forall_mem_cons.mpr ⟨lwd_81, List.forall_mem_cons.mpr ⟨lwd_219, List.forall_mem_cons.mpr ⟨lwd_220, List.forall_mem_cons.mpr ⟨lwd_221, List.forall_mem_cons.mpr ⟨lwd_5, List.forall_mem_cons.mpr ⟨lwd_222, List.forall_mem_cons.mpr ⟨lwd_135, List.forall_mem_cons.mpr ⟨lwd_136, List.forall_mem_cons.mpr ⟨lwd_137, List.forall_mem_cons.mpr ⟨lwd_223, List.forall_mem_cons.mpr ⟨lwd_224, List.forall_mem_cons.mpr ⟨lwd_225, List.forall_mem_cons.mpr ⟨lwd_138, List.forall_mem_cons.mpr ⟨lwd_139, List.forall_mem_cons.mpr ⟨lwd_140, List.forall_mem_cons.mpr ⟨lwd_141, List.forall_mem_cons.mpr ⟨lwd_142, List.forall_mem_cons.mpr ⟨lwd_143, nil_all⟩⟩⟩⟩⟩⟩⟩⟩⟩⟩⟩⟩⟩⟩⟩⟩⟩⟩⟩⟩⟩⟩, inX70⟩⟩
theorem t_wsX7_tell : ∀ w ∈ wsX7_tell, w ∈ lw_tbl := by
  unfold wsX7_tell
  exact List.forall_mem_cons.mpr ⟨lwd_234, List.forall_mem_append.mpr ⟨List.forall_mem_cons.mpr ⟨lwd_131, List.forall_mem_cons.mpr ⟨lwd_82, List.forall_mem_cons.mpr ⟨lwd_83, List.forall_mem_cons.mpr ⟨lwd_84, List.forall_mem_cons.mpr ⟨lwd_134, List.forall_mem_cons.mpr ⟨lwd_85, List.forall_mem_cons.mpr ⟨lwd_133, List.forall_mem_cons.mpr ⟨lwd_235, List.forall_mem_cons.mpr ⟨lwd_180, List.forall_mem_cons.mpr ⟨lwd_181, List.forall_mem_cons.mpr ⟨lwd_182, List.forall_mem_cons.mpr ⟨lwd_5, List.forall_mem_cons.mpr ⟨lwd_183, List.forall_mem_cons.mpr ⟨lwd_132, List.forall_mem_cons.mpr ⟨lwd_135, List.forall_mem_cons.mpr ⟨lwd_136, List.forall_mem_cons.mpr ⟨lwd_137, nil_all⟩⟩⟩⟩⟩⟩⟩⟩⟩⟩⟩⟩⟩⟩⟩⟩⟩, inX70⟩⟩
theorem t_wsX7_node_r1 : ∀ w ∈ wsX7_node_r1, w ∈ lw_tbl := by
  unfold wsX7_node_r1
  exact List.forall_mem_cons.mpr ⟨lwd_131, List.forall_mem_cons.mpr ⟨lwd_270, List.forall_mem_cons.mpr ⟨lwd_219, List.forall_mem_cons.mpr ⟨lwd_220, List.forall_mem_cons.mpr ⟨lwd_221, List.forall_mem_cons.mpr ⟨lwd_5, List.forall_mem_cons.mpr ⟨lwd_222, List.forall_mem_cons.mpr ⟨lwd_81, List.forall_mem_cons.mpr ⟨lwd_135, List.forall_mem_cons.mpr ⟨lwd_136, List.forall_mem_cons.mpr ⟨lwd_137, List.forall_mem_cons.mpr ⟨lwd_271, List.forall_mem_cons.mpr ⟨lwd_272, List.forall_mem_cons.mpr ⟨lwd_273, List.forall_mem_cons.mpr ⟨lwd_274, List.forall_mem_cons.mpr ⟨lwd_275, List.forall_mem_cons.mpr ⟨lwd_276, List.forall_mem_cons.mpr ⟨lwd_277, List.forall_mem_cons.mpr ⟨lwd_278, List.forall_mem_cons.mpr ⟨lwd_132, List.forall_mem_cons.mpr ⟨lwd_82, List.forall_mem_cons.mpr ⟨lwd_83, List.forall_mem_cons.mpr ⟨lwd_279, List.forall_mem_cons.mpr ⟨lwd_280, nil_all⟩⟩⟩⟩⟩⟩⟩⟩⟩⟩⟩⟩⟩⟩⟩⟩⟩⟩⟩⟩⟩⟩⟩⟩
theorem t_wsX7_node_r2 : ∀ w ∈ wsX7_node_r2, w ∈ lw_tbl := by
  unfold wsX7_node_r2
  exact List.forall_mem_cons.mpr ⟨lwd_281, nil_all⟩
theorem t_wsX7_node : ∀ w ∈ wsX7_node, w ∈ lw_tbl := by
  unfold wsX7_node
  exact List.forall_mem_cons.mpr ⟨lwd_269, List.forall_mem_append.mpr ⟨List.forall_mem_append.mpr ⟨t_wsX7_node_r1, t_wsX7_node_r2⟩, inX70⟩⟩
theorem t_wsX7_count_r1 : ∀ w ∈ wsX7_count_r1, w ∈ lw_tbl := by
  unfold wsX7_count_r1
  exact List.forall_mem_cons.mpr ⟨lwd_131, List.forall_mem_cons.mpr ⟨lwd_81, List.forall_mem_cons.mpr ⟨lwd_132, List.forall_mem_cons.mpr ⟨lwd_342, List.forall_mem_cons.mpr ⟨lwd_88, List.forall_mem_cons.mpr ⟨lwd_271, List.forall_mem_cons.mpr ⟨lwd_272, List.forall_mem_cons.mpr ⟨lwd_273, List.forall_mem_cons.mpr ⟨lwd_5, List.forall_mem_cons.mpr ⟨lwd_274, List.forall_mem_cons.mpr ⟨lwd_275, List.forall_mem_cons.mpr ⟨lwd_276, List.forall_mem_cons.mpr ⟨lwd_277, List.forall_mem_cons.mpr ⟨lwd_278, List.forall_mem_cons.mpr ⟨lwd_82, List.forall_mem_cons.mpr ⟨lwd_83, List.forall_mem_cons.mpr ⟨lwd_279, List.forall_mem_cons.mpr ⟨lwd_280, List.forall_mem_cons.mpr ⟨lwd_281, List.forall_mem_cons.mpr ⟨lwd_343, List.forall_mem_cons.mpr ⟨lwd_344, List.forall_mem_cons.mpr ⟨lwd_345, List.forall_mem_cons.mpr ⟨lwd_346, List.forall_mem_cons.mpr ⟨lwd_270, nil_all⟩⟩⟩⟩⟩⟩⟩⟩⟩⟩⟩⟩⟩⟩⟩⟩⟩⟩⟩⟩⟩⟩⟩⟩
theorem t_wsX7_count_r2 : ∀ w ∈ wsX7_count_r2, w ∈ lw_tbl := by
  unfold wsX7_count_r2
  exact List.forall_mem_cons.mpr ⟨lwd_347, List.forall_mem_cons.mpr ⟨lwd_348, List.forall_mem_cons.mpr ⟨lwd_349, List.forall_mem_cons.mpr ⟨lwd_350, List.forall_mem_cons.mpr ⟨lwd_351, List.forall_mem_cons.mpr ⟨lwd_352, List.forall_mem_cons.mpr ⟨lwd_353, List.forall_mem_cons.mpr ⟨lwd_354, List.forall_mem_cons.mpr ⟨lwd_355, List.forall_mem_cons.mpr ⟨lwd_356, List.forall_mem_cons.mpr ⟨lwd_357, List.forall_mem_cons.mpr ⟨lwd_358, List.forall_mem_cons.mpr ⟨lwd_142, List.forall_mem_cons.mpr ⟨lwd_100, List.forall_mem_cons.mpr ⟨lwd_101, List.forall_mem_cons.mpr ⟨lwd_359, List.forall_mem_cons.mpr ⟨lwd_360, List.forall_mem_cons.mpr ⟨lwd_361, List.forall_mem_cons.mpr ⟨lwd_362, List.forall_mem_cons.mpr ⟨lwd_363, List.forall_mem_cons.mpr ⟨lwd_364, List.forall_mem_cons.mpr ⟨lwd_365, List.forall_mem_cons.mpr ⟨lwd_366, List.forall_mem_cons.mpr ⟨lwd_367, nil_all⟩⟩⟩⟩⟩⟩⟩⟩⟩⟩⟩⟩⟩⟩⟩⟩⟩⟩⟩⟩⟩⟩⟩⟩
theorem t_wsX7_count_r3 : ∀ w ∈ wsX7_count_r3, w ∈ lw_tbl := by
  unfold wsX7_count_r3
  exact List.forall_mem_cons.mpr ⟨lwd_368, List.forall_mem_cons.mpr ⟨lwd_369, List.forall_mem_cons.mpr ⟨lwd_370, List.forall_mem_cons.mpr ⟨lwd_134, List.forall_mem_cons.mpr ⟨lwd_86, nil_all⟩⟩⟩⟩⟩
theorem t_wsX7_count : ∀ w ∈ wsX7_count, w ∈ lw_tbl := by
  unfold wsX7_count
  exact List.forall_mem_cons.mpr ⟨lwd_341, List.forall_mem_append.mpr ⟨List.forall_mem_append.mpr ⟨t_wsX7_count_r1, List.forall_mem_append.mpr ⟨t_wsX7_count_r2, t_wsX7_count_r3⟩⟩, inX70⟩⟩
theorem t_wsX7_side_r1 : ∀ w ∈ wsX7_side_r1, w ∈ lw_tbl := by
  unfold wsX7_side_r1
  exact List.forall_mem_cons.mpr ⟨lwd_131, List.forall_mem_cons.mpr ⟨lwd_342, List.forall_mem_cons.mpr ⟨lwd_100, List.forall_mem_cons.mpr ⟨lwd_101, List.forall_mem_cons.mpr ⟨lwd_355, List.forall_mem_cons.mpr ⟨lwd_356, List.forall_mem_cons.mpr ⟨lwd_357, List.forall_mem_cons.mpr ⟨lwd_5, List.forall_mem_cons.mpr ⟨lwd_358, List.forall_mem_cons.mpr ⟨lwd_142, List.forall_mem_cons.mpr ⟨lwd_347, List.forall_mem_cons.mpr ⟨lwd_348, List.forall_mem_cons.mpr ⟨lwd_349, List.forall_mem_cons.mpr ⟨lwd_350, List.forall_mem_cons.mpr ⟨lwd_81, List.forall_mem_cons.mpr ⟨lwd_359, List.forall_mem_cons.mpr ⟨lwd_360, List.forall_mem_cons.mpr ⟨lwd_361, List.forall_mem_cons.mpr ⟨lwd_362, List.forall_mem_cons.mpr ⟨lwd_132, List.forall_mem_cons.mpr ⟨lwd_82, List.forall_mem_cons.mpr ⟨lwd_83, List.forall_mem_cons.mpr ⟨lwd_363, List.forall_mem_cons.mpr ⟨lwd_364, nil_all⟩⟩⟩⟩⟩⟩⟩⟩⟩⟩⟩⟩⟩⟩⟩⟩⟩⟩⟩⟩⟩⟩⟩⟩
theorem t_wsX7_side_r2 : ∀ w ∈ wsX7_side_r2, w ∈ lw_tbl := by
  unfold wsX7_side_r2
  exact List.forall_mem_cons.mpr ⟨lwd_365, List.forall_mem_cons.mpr ⟨lwd_366, List.forall_mem_cons.mpr ⟨lwd_135, List.forall_mem_cons.mpr ⟨lwd_136, List.forall_mem_cons.mpr ⟨lwd_137, nil_all⟩⟩⟩⟩⟩
theorem t_wsX7_side : ∀ w ∈ wsX7_side, w ∈ lw_tbl := by
  unfold wsX7_side
  exact List.forall_mem_cons.mpr ⟨lwd_380, List.forall_mem_append.mpr ⟨List.forall_mem_append.mpr ⟨t_wsX7_side_r1, t_wsX7_side_r2⟩, inX70⟩⟩
theorem t_wsX7_bounds_r1 : ∀ w ∈ wsX7_bounds_r1, w ∈ lw_tbl := by
  unfold wsX7_bounds_r1
  exact List.forall_mem_cons.mpr ⟨lwd_131, List.forall_mem_cons.mpr ⟨lwd_342, List.forall_mem_cons.mpr ⟨lwd_101, List.forall_mem_cons.mpr ⟨lwd_100, List.forall_mem_cons.mpr ⟨lwd_355, List.forall_mem_cons.mpr ⟨lwd_356, List.forall_mem_cons.mpr ⟨lwd_357, List.forall_mem_cons.mpr ⟨lwd_5, List.forall_mem_cons.mpr ⟨lwd_358, List.forall_mem_cons.mpr ⟨lwd_142, List.forall_mem_cons.mpr ⟨lwd_347, List.forall_mem_cons.mpr ⟨lwd_348, List.forall_mem_cons.mpr ⟨lwd_349, List.forall_mem_cons.mpr ⟨lwd_350, List.forall_mem_cons.mpr ⟨lwd_81, List.forall_mem_cons.mpr ⟨lwd_359, List.forall_mem_cons.mpr ⟨lwd_360, List.forall_mem_cons.mpr ⟨lwd_361, List.forall_mem_cons.mpr ⟨lwd_362, List.forall_mem_cons.mpr ⟨lwd_132, List.forall_mem_cons.mpr ⟨lwd_82, List.forall_mem_cons.mpr ⟨lwd_83, List.forall_mem_cons.mpr ⟨lwd_363, List.forall_mem_cons.mpr ⟨lwd_364, nil_all⟩⟩⟩⟩⟩⟩⟩⟩⟩⟩⟩⟩⟩⟩⟩⟩⟩⟩⟩⟩⟩⟩⟩⟩
theorem t_wsX7_bounds_r2 : ∀ w ∈ wsX7_bounds_r2, w ∈ lw_tbl := by
  unfold wsX7_bounds_r2
  exact List.forall_mem_cons.mpr ⟨lwd_365, List.forall_mem_cons.mpr ⟨lwd_366, List.forall_mem_cons.mpr ⟨lwd_180, List.forall_mem_cons.mpr ⟨lwd_181, List.forall_mem_cons.mpr ⟨lwd_182, List.forall_mem_cons.mpr ⟨lwd_183, List.forall_mem_cons.mpr ⟨lwd_135, List.forall_mem_cons.mpr ⟨lwd_136, List.forall_mem_cons.mpr ⟨lwd_137, nil_all⟩⟩⟩⟩⟩⟩⟩⟩⟩
theorem t_wsX7_bounds : ∀ w ∈ wsX7_bounds, w ∈ lw_tbl := by
  unfold wsX7_bounds
  exact List.forall_mem_cons.mpr ⟨lwd_390, List.forall_mem_append.mpr ⟨List.forall_mem_append.mpr ⟨t_wsX7_bounds_r1, t_wsX7_bounds_r2⟩, inX70⟩⟩
theorem t_wsX7_isDijoin_r1 : ∀ w ∈ wsX7_isDijoin_r1, w ∈ lw_tbl := by
  unfold wsX7_isDijoin_r1
  exact List.forall_mem_cons.mpr ⟨lwd_131, List.forall_mem_cons.mpr ⟨lwd_342, List.forall_mem_cons.mpr ⟨lwd_101, List.forall_mem_cons.mpr ⟨lwd_355, List.forall_mem_cons.mpr ⟨lwd_356, List.forall_mem_cons.mpr ⟨lwd_357, List.forall_mem_cons.mpr ⟨lwd_5, List.forall_mem_cons.mpr ⟨lwd_358, List.forall_mem_cons.mpr ⟨lwd_142, List.forall_mem_cons.mpr ⟨lwd_100, List.forall_mem_cons.mpr ⟨lwd_347, List.forall_mem_cons.mpr ⟨lwd_348, List.forall_mem_cons.mpr ⟨lwd_349, List.forall_mem_cons.mpr ⟨lwd_350, List.forall_mem_cons.mpr ⟨lwd_81, List.forall_mem_cons.mpr ⟨lwd_359, List.forall_mem_cons.mpr ⟨lwd_360, List.forall_mem_cons.mpr ⟨lwd_361, List.forall_mem_cons.mpr ⟨lwd_362, List.forall_mem_cons.mpr ⟨lwd_132, List.forall_mem_cons.mpr ⟨lwd_82, List.forall_mem_cons.mpr ⟨lwd_83, List.forall_mem_cons.mpr ⟨lwd_363, List.forall_mem_cons.mpr ⟨lwd_364, nil_all⟩⟩⟩⟩⟩⟩⟩⟩⟩⟩⟩⟩⟩⟩⟩⟩⟩⟩⟩⟩⟩⟩⟩⟩
theorem t_wsX7_isDijoin_r2 : ∀ w ∈ wsX7_isDijoin_r2, w ∈ lw_tbl := by
  unfold wsX7_isDijoin_r2
  exact List.forall_mem_cons.mpr ⟨lwd_365, List.forall_mem_cons.mpr ⟨lwd_366, nil_all⟩⟩
theorem t_wsX7_isDijoin : ∀ w ∈ wsX7_isDijoin, w ∈ lw_tbl := by
  unfold wsX7_isDijoin
  exact List.forall_mem_cons.mpr ⟨lwd_398, List.forall_mem_append.mpr ⟨List.forall_mem_append.mpr ⟨t_wsX7_isDijoin_r1, t_wsX7_isDijoin_r2⟩, inX70⟩⟩
theorem t_wsX7_isStrong : ∀ w ∈ wsX7_isStrong, w ∈ lw_tbl := by
  unfold wsX7_isStrong
  exact List.forall_mem_cons.mpr ⟨lwd_403, List.forall_mem_append.mpr ⟨List.forall_mem_cons.mpr ⟨lwd_131, List.forall_mem_cons.mpr ⟨lwd_351, List.forall_mem_cons.mpr ⟨lwd_352, List.forall_mem_cons.mpr ⟨lwd_353, List.forall_mem_cons.mpr ⟨lwd_5, List.forall_mem_cons.mpr ⟨lwd_354, List.forall_mem_cons.mpr ⟨lwd_275, List.forall_mem_cons.mpr ⟨lwd_276, List.forall_mem_cons.mpr ⟨lwd_277, List.forall_mem_cons.mpr ⟨lwd_278, List.forall_mem_cons.mpr ⟨lwd_132, List.forall_mem_cons.mpr ⟨lwd_82, List.forall_mem_cons.mpr ⟨lwd_83, List.forall_mem_cons.mpr ⟨lwd_347, List.forall_mem_cons.mpr ⟨lwd_348, List.forall_mem_cons.mpr ⟨lwd_349, List.forall_mem_cons.mpr ⟨lwd_350, List.forall_mem_cons.mpr ⟨lwd_81, nil_all⟩⟩⟩⟩⟩⟩⟩⟩⟩⟩⟩⟩⟩⟩⟩⟩⟩⟩, inX70⟩⟩
theorem t_wsX7_dijoin_r1 : ∀ w ∈ wsX7_dijoin_r1, w ∈ lw_tbl := by
  unfold wsX7_dijoin_r1
  exact List.forall_mem_cons.mpr ⟨lwd_131, List.forall_mem_cons.mpr ⟨lwd_475, List.forall_mem_cons.mpr ⟨lwd_104, List.forall_mem_cons.mpr ⟨lwd_133, List.forall_mem_cons.mpr ⟨lwd_235, List.forall_mem_cons.mpr ⟨lwd_343, List.forall_mem_cons.mpr ⟨lwd_344, List.forall_mem_cons.mpr ⟨lwd_345, List.forall_mem_cons.mpr ⟨lwd_5, List.forall_mem_cons.mpr ⟨lwd_346, List.forall_mem_cons.mpr ⟨lwd_270, List.forall_mem_cons.mpr ⟨lwd_275, List.forall_mem_cons.mpr ⟨lwd_276, List.forall_mem_cons.mpr ⟨lwd_277, List.forall_mem_cons.mpr ⟨lwd_278, List.forall_mem_cons.mpr ⟨lwd_132, List.forall_mem_cons.mpr ⟨lwd_82, List.forall_mem_cons.mpr ⟨lwd_83, List.forall_mem_cons.mpr ⟨lwd_347, List.forall_mem_cons.mpr ⟨lwd_348, List.forall_mem_cons.mpr ⟨lwd_349, List.forall_mem_cons.mpr ⟨lwd_350, List.forall_mem_cons.mpr ⟨lwd_81, List.forall_mem_cons.mpr ⟨lwd_476, nil_all⟩⟩⟩⟩⟩⟩⟩⟩⟩⟩⟩⟩⟩⟩⟩⟩⟩⟩⟩⟩⟩⟩⟩⟩
theorem t_wsX7_dijoin_r2 : ∀ w ∈ wsX7_dijoin_r2, w ∈ lw_tbl := by
  unfold wsX7_dijoin_r2
  exact List.forall_mem_cons.mpr ⟨lwd_477, List.forall_mem_cons.mpr ⟨lwd_478, List.forall_mem_cons.mpr ⟨lwd_479, List.forall_mem_cons.mpr ⟨lwd_143, List.forall_mem_cons.mpr ⟨lwd_103, List.forall_mem_cons.mpr ⟨lwd_342, List.forall_mem_cons.mpr ⟨lwd_101, List.forall_mem_cons.mpr ⟨lwd_355, List.forall_mem_cons.mpr ⟨lwd_356, List.forall_mem_cons.mpr ⟨lwd_357, List.forall_mem_cons.mpr ⟨lwd_358, List.forall_mem_cons.mpr ⟨lwd_142, List.forall_mem_cons.mpr ⟨lwd_100, List.forall_mem_cons.mpr ⟨lwd_359, List.forall_mem_cons.mpr ⟨lwd_360, List.forall_mem_cons.mpr ⟨lwd_361, List.forall_mem_cons.mpr ⟨lwd_362, List.forall_mem_cons.mpr ⟨lwd_363, List.forall_mem_cons.mpr ⟨lwd_364, List.forall_mem_cons.mpr ⟨lwd_365, List.forall_mem_cons.mpr ⟨lwd_366, List.forall_mem_cons.mpr ⟨lwd_480, List.forall_mem_cons.mpr ⟨lwd_481, List.forall_mem_cons.mpr ⟨lwd_482, nil_all⟩⟩⟩⟩⟩⟩⟩⟩⟩⟩⟩⟩⟩⟩⟩⟩⟩⟩⟩⟩⟩⟩⟩⟩
theorem t_wsX7_dijoin_r3 : ∀ w ∈ wsX7_dijoin_r3, w ∈ lw_tbl := by
  unfold wsX7_dijoin_r3
  exact List.forall_mem_cons.mpr ⟨lwd_483, List.forall_mem_cons.mpr ⟨lwd_484, List.forall_mem_cons.mpr ⟨lwd_485, List.forall_mem_cons.mpr ⟨lwd_486, List.forall_mem_cons.mpr ⟨lwd_487, List.forall_mem_cons.mpr ⟨lwd_84, nil_all⟩⟩⟩⟩⟩⟩
theorem t_wsX7_dijoin : ∀ w ∈ wsX7_dijoin, w ∈ lw_tbl := by
  unfold wsX7_dijoin
  exact List.forall_mem_cons.mpr ⟨lwd_474, List.forall_mem_append.mpr ⟨List.forall_mem_append.mpr ⟨t_wsX7_dijoin_r1, List.forall_mem_append.mpr ⟨t_wsX7_dijoin_r2, t_wsX7_dijoin_r3⟩⟩, inX70⟩⟩
theorem t_wsX7_chosen : ∀ w ∈ wsX7_chosen, w ∈ lw_tbl := by
  unfold wsX7_chosen
  exact List.forall_mem_cons.mpr ⟨lwd_495, List.forall_mem_append.mpr ⟨List.forall_mem_cons.mpr ⟨lwd_131, List.forall_mem_cons.mpr ⟨lwd_133, List.forall_mem_cons.mpr ⟨lwd_235, nil_all⟩⟩⟩, inX70⟩⟩
theorem t_wsX7_cost_r1 : ∀ w ∈ wsX7_cost_r1, w ∈ lw_tbl := by
  unfold wsX7_cost_r1
  exact List.forall_mem_cons.mpr ⟨lwd_131, List.forall_mem_cons.mpr ⟨lwd_475, List.forall_mem_cons.mpr ⟨lwd_104, List.forall_mem_cons.mpr ⟨lwd_84, List.forall_mem_cons.mpr ⟨lwd_180, List.forall_mem_cons.mpr ⟨lwd_181, List.forall_mem_cons.mpr ⟨lwd_182, List.forall_mem_cons.mpr ⟨lwd_5, List.forall_mem_cons.mpr ⟨lwd_183, List.forall_mem_cons.mpr ⟨lwd_132, List.forall_mem_cons.mpr ⟨lwd_135, List.forall_mem_cons.mpr ⟨lwd_136, List.forall_mem_cons.mpr ⟨lwd_137, List.forall_mem_cons.mpr ⟨lwd_343, List.forall_mem_cons.mpr ⟨lwd_344, List.forall_mem_cons.mpr ⟨lwd_345, List.forall_mem_cons.mpr ⟨lwd_346, List.forall_mem_cons.mpr ⟨lwd_270, List.forall_mem_cons.mpr ⟨lwd_275, List.forall_mem_cons.mpr ⟨lwd_276, List.forall_mem_cons.mpr ⟨lwd_277, List.forall_mem_cons.mpr ⟨lwd_278, List.forall_mem_cons.mpr ⟨lwd_82, List.forall_mem_cons.mpr ⟨lwd_83, nil_all⟩⟩⟩⟩⟩⟩⟩⟩⟩⟩⟩⟩⟩⟩⟩⟩⟩⟩⟩⟩⟩⟩⟩⟩
theorem t_wsX7_cost_r2 : ∀ w ∈ wsX7_cost_r2, w ∈ lw_tbl := by
  unfold wsX7_cost_r2
  exact List.forall_mem_cons.mpr ⟨lwd_347, List.forall_mem_cons.mpr ⟨lwd_348, List.forall_mem_cons.mpr ⟨lwd_349, List.forall_mem_cons.mpr ⟨lwd_350, List.forall_mem_cons.mpr ⟨lwd_81, List.forall_mem_cons.mpr ⟨lwd_476, List.forall_mem_cons.mpr ⟨lwd_477, List.forall_mem_cons.mpr ⟨lwd_478, List.forall_mem_cons.mpr ⟨lwd_479, List.forall_mem_cons.mpr ⟨lwd_143, List.forall_mem_cons.mpr ⟨lwd_103, List.forall_mem_cons.mpr ⟨lwd_342, List.forall_mem_cons.mpr ⟨lwd_101, List.forall_mem_cons.mpr ⟨lwd_355, List.forall_mem_cons.mpr ⟨lwd_356, List.forall_mem_cons.mpr ⟨lwd_357, List.forall_mem_cons.mpr ⟨lwd_358, List.forall_mem_cons.mpr ⟨lwd_142, List.forall_mem_cons.mpr ⟨lwd_100, List.forall_mem_cons.mpr ⟨lwd_359, List.forall_mem_cons.mpr ⟨lwd_360, List.forall_mem_cons.mpr ⟨lwd_361, List.forall_mem_cons.mpr ⟨lwd_362, List.forall_mem_cons.mpr ⟨lwd_363, nil_all⟩⟩⟩⟩⟩⟩⟩⟩⟩⟩⟩⟩⟩⟩⟩⟩⟩⟩⟩⟩⟩⟩⟩⟩
theorem t_wsX7_cost_r3 : ∀ w ∈ wsX7_cost_r3, w ∈ lw_tbl := by
  unfold wsX7_cost_r3
  exact List.forall_mem_cons.mpr ⟨lwd_364, List.forall_mem_cons.mpr ⟨lwd_365, List.forall_mem_cons.mpr ⟨lwd_366, List.forall_mem_cons.mpr ⟨lwd_480, List.forall_mem_cons.mpr ⟨lwd_481, List.forall_mem_cons.mpr ⟨lwd_482, List.forall_mem_cons.mpr ⟨lwd_483, List.forall_mem_cons.mpr ⟨lwd_484, List.forall_mem_cons.mpr ⟨lwd_485, List.forall_mem_cons.mpr ⟨lwd_486, List.forall_mem_cons.mpr ⟨lwd_487, nil_all⟩⟩⟩⟩⟩⟩⟩⟩⟩⟩⟩
theorem t_wsX7_cost : ∀ w ∈ wsX7_cost, w ∈ lw_tbl := by
  unfold wsX7_cost
  exact List.forall_mem_cons.mpr ⟨lwd_512, List.forall_mem_append.mpr ⟨List.forall_mem_append.mpr ⟨t_wsX7_cost_r1, List.forall_mem_append.mpr ⟨t_wsX7_cost_r2, t_wsX7_cost_r3⟩⟩, inX70⟩⟩
theorem t_wsX7_packing_r1 : ∀ w ∈ wsX7_packing_r1, w ∈ lw_tbl := by
  unfold wsX7_packing_r1
  exact List.forall_mem_cons.mpr ⟨lwd_131, List.forall_mem_cons.mpr ⟨lwd_475, List.forall_mem_cons.mpr ⟨lwd_105, List.forall_mem_cons.mpr ⟨lwd_104, List.forall_mem_cons.mpr ⟨lwd_86, List.forall_mem_cons.mpr ⟨lwd_106, List.forall_mem_cons.mpr ⟨lwd_132, List.forall_mem_cons.mpr ⟨lwd_84, List.forall_mem_cons.mpr ⟨lwd_85, List.forall_mem_cons.mpr ⟨lwd_134, List.forall_mem_cons.mpr ⟨lwd_81, List.forall_mem_cons.mpr ⟨lwd_540, List.forall_mem_cons.mpr ⟨lwd_342, List.forall_mem_cons.mpr ⟨lwd_101, List.forall_mem_cons.mpr ⟨lwd_100, List.forall_mem_cons.mpr ⟨lwd_343, List.forall_mem_cons.mpr ⟨lwd_344, List.forall_mem_cons.mpr ⟨lwd_345, List.forall_mem_cons.mpr ⟨lwd_5, List.forall_mem_cons.mpr ⟨lwd_346, List.forall_mem_cons.mpr ⟨lwd_270, List.forall_mem_cons.mpr ⟨lwd_275, List.forall_mem_cons.mpr ⟨lwd_276, List.forall_mem_cons.mpr ⟨lwd_277, nil_all⟩⟩⟩⟩⟩⟩⟩⟩⟩⟩⟩⟩⟩⟩⟩⟩⟩⟩⟩⟩⟩⟩⟩⟩
theorem t_wsX7_packing_r2 : ∀ w ∈ wsX7_packing_r2, w ∈ lw_tbl := by
  unfold wsX7_packing_r2
  exact List.forall_mem_cons.mpr ⟨lwd_278, List.forall_mem_cons.mpr ⟨lwd_82, List.forall_mem_cons.mpr ⟨lwd_83, List.forall_mem_cons.mpr ⟨lwd_347, List.forall_mem_cons.mpr ⟨lwd_348, List.forall_mem_cons.mpr ⟨lwd_349, List.forall_mem_cons.mpr ⟨lwd_350, List.forall_mem_cons.mpr ⟨lwd_476, List.forall_mem_cons.mpr ⟨lwd_477, List.forall_mem_cons.mpr ⟨lwd_478, List.forall_mem_cons.mpr ⟨lwd_479, List.forall_mem_cons.mpr ⟨lwd_143, List.forall_mem_cons.mpr ⟨lwd_103, List.forall_mem_cons.mpr ⟨lwd_355, List.forall_mem_cons.mpr ⟨lwd_356, List.forall_mem_cons.mpr ⟨lwd_357, List.forall_mem_cons.mpr ⟨lwd_358, List.forall_mem_cons.mpr ⟨lwd_142, List.forall_mem_cons.mpr ⟨lwd_359, List.forall_mem_cons.mpr ⟨lwd_360, List.forall_mem_cons.mpr ⟨lwd_361, List.forall_mem_cons.mpr ⟨lwd_362, List.forall_mem_cons.mpr ⟨lwd_363, List.forall_mem_cons.mpr ⟨lwd_364, nil_all⟩⟩⟩⟩⟩⟩⟩⟩⟩⟩⟩⟩⟩⟩⟩⟩⟩⟩⟩⟩⟩⟩⟩⟩
theorem t_wsX7_packing_r3 : ∀ w ∈ wsX7_packing_r3, w ∈ lw_tbl := by
  unfold wsX7_packing_r3
  exact List.forall_mem_cons.mpr ⟨lwd_365, List.forall_mem_cons.mpr ⟨lwd_366, List.forall_mem_cons.mpr ⟨lwd_480, List.forall_mem_cons.mpr ⟨lwd_481, List.forall_mem_cons.mpr ⟨lwd_482, List.forall_mem_cons.mpr ⟨lwd_483, List.forall_mem_cons.mpr ⟨lwd_484, List.forall_mem_cons.mpr ⟨lwd_485, List.forall_mem_cons.mpr ⟨lwd_486, List.forall_mem_cons.mpr ⟨lwd_487, List.forall_mem_cons.mpr ⟨lwd_541, List.forall_mem_cons.mpr ⟨lwd_542, List.forall_mem_cons.mpr ⟨lwd_543, List.forall_mem_cons.mpr ⟨lwd_544, List.forall_mem_cons.mpr ⟨lwd_545, List.forall_mem_cons.mpr ⟨lwd_546, List.forall_mem_cons.mpr ⟨lwd_547, nil_all⟩⟩⟩⟩⟩⟩⟩⟩⟩⟩⟩⟩⟩⟩⟩⟩⟩
theorem t_wsX7_packing : ∀ w ∈ wsX7_packing, w ∈ lw_tbl := by
  unfold wsX7_packing
  exact List.forall_mem_cons.mpr ⟨lwd_539, List.forall_mem_append.mpr ⟨List.forall_mem_append.mpr ⟨t_wsX7_packing_r1, List.forall_mem_append.mpr ⟨t_wsX7_packing_r2, t_wsX7_packing_r3⟩⟩, inX70⟩⟩
theorem t_wsX7_draw_r1 : ∀ w ∈ wsX7_draw_r1, w ∈ lw_tbl := by
  unfold wsX7_draw_r1
  exact List.forall_mem_cons.mpr ⟨lwd_131, List.forall_mem_cons.mpr ⟨lwd_342, List.forall_mem_cons.mpr ⟨lwd_100, List.forall_mem_cons.mpr ⟨lwd_134, List.forall_mem_cons.mpr ⟨lwd_540, List.forall_mem_cons.mpr ⟨lwd_81, List.forall_mem_cons.mpr ⟨lwd_86, List.forall_mem_cons.mpr ⟨lwd_574, List.forall_mem_cons.mpr ⟨lwd_85, List.forall_mem_cons.mpr ⟨lwd_132, List.forall_mem_cons.mpr ⟨lwd_101, List.forall_mem_cons.mpr ⟨lwd_355, List.forall_mem_cons.mpr ⟨lwd_356, List.forall_mem_cons.mpr ⟨lwd_357, List.forall_mem_cons.mpr ⟨lwd_5, List.forall_mem_cons.mpr ⟨lwd_358, List.forall_mem_cons.mpr ⟨lwd_142, List.forall_mem_cons.mpr ⟨lwd_347, List.forall_mem_cons.mpr ⟨lwd_348, List.forall_mem_cons.mpr ⟨lwd_349, List.forall_mem_cons.mpr ⟨lwd_350, List.forall_mem_cons.mpr ⟨lwd_359, List.forall_mem_cons.mpr ⟨lwd_360, List.forall_mem_cons.mpr ⟨lwd_361, nil_all⟩⟩⟩⟩⟩⟩⟩⟩⟩⟩⟩⟩⟩⟩⟩⟩⟩⟩⟩⟩⟩⟩⟩⟩
theorem t_wsX7_draw_r2 : ∀ w ∈ wsX7_draw_r2, w ∈ lw_tbl := by
  unfold wsX7_draw_r2
  exact List.forall_mem_cons.mpr ⟨lwd_362, List.forall_mem_cons.mpr ⟨lwd_82, List.forall_mem_cons.mpr ⟨lwd_83, List.forall_mem_cons.mpr ⟨lwd_363, List.forall_mem_cons.mpr ⟨lwd_364, List.forall_mem_cons.mpr ⟨lwd_365, List.forall_mem_cons.mpr ⟨lwd_366, nil_all⟩⟩⟩⟩⟩⟩⟩
theorem t_wsX7_draw : ∀ w ∈ wsX7_draw, w ∈ lw_tbl := by
  unfold wsX7_draw
  exact List.forall_mem_cons.mpr ⟨lwd_573, List.forall_mem_append.mpr ⟨List.forall_mem_append.mpr ⟨t_wsX7_draw_r1, t_wsX7_draw_r2⟩, inX70⟩⟩
theorem t_wsX7_uncross : ∀ w ∈ wsX7_uncross, w ∈ lw_tbl := by
  unfold wsX7_uncross
  exact List.forall_mem_cons.mpr ⟨lwd_604, List.forall_mem_append.mpr ⟨List.forall_mem_cons.mpr ⟨lwd_131, List.forall_mem_cons.mpr ⟨lwd_134, List.forall_mem_cons.mpr ⟨lwd_86, List.forall_mem_cons.mpr ⟨lwd_605, List.forall_mem_cons.mpr ⟨lwd_606, List.forall_mem_cons.mpr ⟨lwd_607, List.forall_mem_cons.mpr ⟨lwd_5, List.forall_mem_cons.mpr ⟨lwd_608, List.forall_mem_cons.mpr ⟨lwd_609, List.forall_mem_cons.mpr ⟨lwd_610, List.forall_mem_cons.mpr ⟨lwd_611, List.forall_mem_cons.mpr ⟨lwd_612, List.forall_mem_cons.mpr ⟨lwd_540, nil_all⟩⟩⟩⟩⟩⟩⟩⟩⟩⟩⟩⟩⟩, inX70⟩⟩
theorem t_wsX7_member : ∀ w ∈ wsX7_member, w ∈ lw_tbl := by
  unfold wsX7_member
  exact List.forall_mem_cons.mpr ⟨lwd_624, List.forall_mem_append.mpr ⟨List.forall_mem_cons.mpr ⟨lwd_131, List.forall_mem_cons.mpr ⟨lwd_134, List.forall_mem_cons.mpr ⟨lwd_86, nil_all⟩⟩⟩, inX70⟩⟩
theorem t_wsX7_image_r1 : ∀ w ∈ wsX7_image_r1, w ∈ lw_tbl := by
  unfold wsX7_image_r1
  exact List.forall_mem_cons.mpr ⟨lwd_131, List.forall_mem_cons.mpr ⟨lwd_88, List.forall_mem_cons.mpr ⟨lwd_89, List.forall_mem_cons.mpr ⟨lwd_81, List.forall_mem_cons.mpr ⟨lwd_90, List.forall_mem_cons.mpr ⟨lwd_132, List.forall_mem_cons.mpr ⟨lwd_94, List.forall_mem_cons.mpr ⟨lwd_133, List.forall_mem_cons.mpr ⟨lwd_95, List.forall_mem_cons.mpr ⟨lwd_235, List.forall_mem_cons.mpr ⟨lwd_96, List.forall_mem_cons.mpr ⟨lwd_134, List.forall_mem_cons.mpr ⟨lwd_97, List.forall_mem_cons.mpr ⟨lwd_540, List.forall_mem_cons.mpr ⟨lwd_91, List.forall_mem_cons.mpr ⟨lwd_82, List.forall_mem_cons.mpr ⟨lwd_92, List.forall_mem_cons.mpr ⟨lwd_83, List.forall_mem_cons.mpr ⟨lwd_93, List.forall_mem_cons.mpr ⟨lwd_84, List.forall_mem_cons.mpr ⟨lwd_98, List.forall_mem_cons.mpr ⟨lwd_85, List.forall_mem_cons.mpr ⟨lwd_99, List.forall_mem_cons.mpr ⟨lwd_86, nil_all⟩⟩⟩⟩⟩⟩⟩⟩⟩⟩⟩⟩⟩⟩⟩⟩⟩⟩⟩⟩⟩⟩⟩⟩
theorem t_wsX7_image_r2 : ∀ w ∈ wsX7_image_r2, w ∈ lw_tbl := by
  unfold wsX7_image_r2
  exact List.forall_mem_cons.mpr ⟨lwd_135, List.forall_mem_cons.mpr ⟨lwd_136, List.forall_mem_cons.mpr ⟨lwd_5, List.forall_mem_cons.mpr ⟨lwd_137, nil_all⟩⟩⟩⟩
theorem t_wsX7_image : ∀ w ∈ wsX7_image, w ∈ lw_tbl := by
  unfold wsX7_image
  exact List.forall_mem_cons.mpr ⟨lwd_647, List.forall_mem_append.mpr ⟨List.forall_mem_append.mpr ⟨t_wsX7_image_r1, t_wsX7_image_r2⟩, inX70⟩⟩
theorem t_wsX7_again_r1 : ∀ w ∈ wsX7_again_r1, w ∈ lw_tbl := by
  unfold wsX7_again_r1
  exact List.forall_mem_cons.mpr ⟨lwd_131, List.forall_mem_cons.mpr ⟨lwd_88, List.forall_mem_cons.mpr ⟨lwd_89, List.forall_mem_cons.mpr ⟨lwd_81, List.forall_mem_cons.mpr ⟨lwd_90, List.forall_mem_cons.mpr ⟨lwd_132, List.forall_mem_cons.mpr ⟨lwd_94, List.forall_mem_cons.mpr ⟨lwd_133, List.forall_mem_cons.mpr ⟨lwd_95, List.forall_mem_cons.mpr ⟨lwd_235, List.forall_mem_cons.mpr ⟨lwd_96, List.forall_mem_cons.mpr ⟨lwd_134, List.forall_mem_cons.mpr ⟨lwd_97, List.forall_mem_cons.mpr ⟨lwd_540, List.forall_mem_cons.mpr ⟨lwd_82, List.forall_mem_cons.mpr ⟨lwd_91, List.forall_mem_cons.mpr ⟨lwd_83, List.forall_mem_cons.mpr ⟨lwd_92, List.forall_mem_cons.mpr ⟨lwd_84, List.forall_mem_cons.mpr ⟨lwd_93, List.forall_mem_cons.mpr ⟨lwd_85, List.forall_mem_cons.mpr ⟨lwd_98, List.forall_mem_cons.mpr ⟨lwd_86, List.forall_mem_cons.mpr ⟨lwd_99, nil_all⟩⟩⟩⟩⟩⟩⟩⟩⟩⟩⟩⟩⟩⟩⟩⟩⟩⟩⟩⟩⟩⟩⟩⟩
theorem t_wsX7_again_r2 : ∀ w ∈ wsX7_again_r2, w ∈ lw_tbl := by
  unfold wsX7_again_r2
  exact List.forall_mem_cons.mpr ⟨lwd_135, List.forall_mem_cons.mpr ⟨lwd_136, List.forall_mem_cons.mpr ⟨lwd_5, List.forall_mem_cons.mpr ⟨lwd_137, List.forall_mem_cons.mpr ⟨lwd_138, List.forall_mem_cons.mpr ⟨lwd_139, List.forall_mem_cons.mpr ⟨lwd_140, List.forall_mem_cons.mpr ⟨lwd_141, List.forall_mem_cons.mpr ⟨lwd_142, List.forall_mem_cons.mpr ⟨lwd_143, nil_all⟩⟩⟩⟩⟩⟩⟩⟩⟩⟩
theorem t_wsX7_again : ∀ w ∈ wsX7_again, w ∈ lw_tbl := by
  unfold wsX7_again
  exact List.forall_mem_cons.mpr ⟨lwd_655, List.forall_mem_append.mpr ⟨List.forall_mem_append.mpr ⟨t_wsX7_again_r1, t_wsX7_again_r2⟩, inX70⟩⟩
theorem tv_X6_begin : ∀ w ∈ wsV RL 13 RX6 yX6_begin wsX6_begin, w ∈ lw_tbl := by
  unfold wsV
  exact List.forall_mem_append.mpr ⟨List.forall_mem_cons.mpr ⟨lwd_107, List.forall_mem_cons.mpr ⟨lwd_108, List.forall_mem_cons.mpr ⟨lwd_109, List.forall_mem_cons.mpr ⟨lwd_2, nil_all⟩⟩⟩⟩, t_wsX6_begin⟩
theorem gv_X6_begin : GoodIn (wsV RL 13 RX6 yX6_begin wsX6_begin) (wsV RL 13 RX6 yX6_begin wsX6_begin) := goodIn_sub (fun _ h => h) (by decide +kernel)
theorem tv_X7_begin : ∀ w ∈ wsV RL 17 RX7 yX7_begin wsX7_begin, w ∈ lw_tbl := by
  unfold wsV
  exact List.forall_mem_append.mpr ⟨List.forall_mem_cons.mpr ⟨lwd_127, List.forall_mem_cons.mpr ⟨lwd_128, List.forall_mem_cons.mpr ⟨lwd_129, List.forall_mem_cons.mpr ⟨lwd_5, nil_all⟩⟩⟩⟩, t_wsX7_begin⟩
theorem gv_X7_begin : GoodIn (wsV RL 17 RX7 yX7_begin wsX7_begin) (wsV RL 17 RX7 yX7_begin wsX7_begin) := goodIn_sub (fun _ h => h) (by decide +kernel)
theorem tv_X6_arc : ∀ w ∈ wsV RL 18 RX6 yX6_arc wsX6_arc, w ∈ lw_tbl := by
  unfold wsV
  exact List.forall_mem_append.mpr ⟨List.forall_mem_cons.mpr ⟨lwd_144, List.forall_mem_cons.mpr ⟨lwd_145, List.forall_mem_cons.mpr ⟨lwd_146, List.forall_mem_cons.mpr ⟨lwd_2, nil_all⟩⟩⟩⟩, t_wsX6_arc⟩
theorem gv_X6_arc : GoodIn (wsV RL 18 RX6 yX6_arc wsX6_arc) (wsV RL 18 RX6 yX6_arc wsX6_arc) := goodIn_sub (fun _ h => h) (by decide +kernel)
theorem tv_X7_arc : ∀ w ∈ wsV RL 22 RX7 yX7_arc wsX7_arc, w ∈ lw_tbl := by
  unfold wsV
  exact List.forall_mem_append.mpr ⟨List.forall_mem_cons.mpr ⟨lwd_160, List.forall_mem_cons.mpr ⟨lwd_161, List.forall_mem_cons.mpr ⟨lwd_162, List.forall_mem_cons.mpr ⟨lwd_5, nil_all⟩⟩⟩⟩, t_wsX7_arc⟩
theorem gv_X7_arc : GoodIn (wsV RL 22 RX7 yX7_arc wsX7_arc) (wsV RL 22 RX7 yX7_arc wsX7_arc) := goodIn_sub (fun _ h => h) (by decide +kernel)
theorem tv_X6_drop : ∀ w ∈ wsV RL 23 RX6 yX6_drop wsX6_drop, w ∈ lw_tbl := by
  unfold wsV
  exact List.forall_mem_append.mpr ⟨List.forall_mem_cons.mpr ⟨lwd_164, List.forall_mem_cons.mpr ⟨lwd_165, List.forall_mem_cons.mpr ⟨lwd_166, List.forall_mem_cons.mpr ⟨lwd_2, nil_all⟩⟩⟩⟩, t_wsX6_drop⟩
theorem gv_X6_drop : GoodIn (wsV RL 23 RX6 yX6_drop wsX6_drop) (wsV RL 23 RX6 yX6_drop wsX6_drop) := goodIn_sub (fun _ h => h) (by decide +kernel)
theorem tv_X7_drop : ∀ w ∈ wsV RL 27 RX7 yX7_drop wsX7_drop, w ∈ lw_tbl := by
  unfold wsV
  exact List.forall_mem_append.mpr ⟨List.forall_mem_cons.mpr ⟨lwd_176, List.forall_mem_cons.mpr ⟨lwd_177, List.forall_mem_cons.mpr ⟨lwd_178, List.forall_mem_cons.mpr ⟨lwd_5, nil_all⟩⟩⟩⟩, t_wsX7_drop⟩
theorem gv_X7_drop : GoodIn (wsV RL 27 RX7 yX7_drop wsX7_drop) (wsV RL 27 RX7 yX7_drop wsX7_drop) := goodIn_sub (fun _ h => h) (by decide +kernel)
theorem tv_X6_weigh : ∀ w ∈ wsV RL 28 RX6 yX6_weigh wsX6_weigh, w ∈ lw_tbl := by
  unfold wsV
  exact List.forall_mem_append.mpr ⟨List.forall_mem_cons.mpr ⟨lwd_184, List.forall_mem_cons.mpr ⟨lwd_185, List.forall_mem_cons.mpr ⟨lwd_186, List.forall_mem_cons.mpr ⟨lwd_2, nil_all⟩⟩⟩⟩, t_wsX6_weigh⟩
theorem gv_X6_weigh : GoodIn (wsV RL 28 RX6 yX6_weigh wsX6_weigh) (wsV RL 28 RX6 yX6_weigh wsX6_weigh) := goodIn_sub (fun _ h => h) (by decide +kernel)
theorem tv_X7_weigh : ∀ w ∈ wsV RL 32 RX7 yX7_weigh wsX7_weigh, w ∈ lw_tbl := by
  unfold wsV
  exact List.forall_mem_append.mpr ⟨List.forall_mem_cons.mpr ⟨lwd_189, List.forall_mem_cons.mpr ⟨lwd_190, List.forall_mem_cons.mpr ⟨lwd_191, List.forall_mem_cons.mpr ⟨lwd_5, nil_all⟩⟩⟩⟩, t_wsX7_weigh⟩
theorem gv_X7_weigh : GoodIn (wsV RL 32 RX7 yX7_weigh wsX7_weigh) (wsV RL 32 RX7 yX7_weigh wsX7_weigh) := goodIn_sub (fun _ h => h) (by decide +kernel)
theorem tv_X6_turn : ∀ w ∈ wsV RL 33 RX6 yX6_turn wsX6_turn, w ∈ lw_tbl := by
  unfold wsV
  exact List.forall_mem_append.mpr ⟨List.forall_mem_cons.mpr ⟨lwd_193, List.forall_mem_cons.mpr ⟨lwd_194, List.forall_mem_cons.mpr ⟨lwd_195, List.forall_mem_cons.mpr ⟨lwd_2, nil_all⟩⟩⟩⟩, t_wsX6_turn⟩
theorem gv_X6_turn : GoodIn (wsV RL 33 RX6 yX6_turn wsX6_turn) (wsV RL 33 RX6 yX6_turn wsX6_turn) := goodIn_sub (fun _ h => h) (by decide +kernel)
theorem tv_X7_turn : ∀ w ∈ wsV RL 36 RX7 yX7_turn wsX7_turn, w ∈ lw_tbl := by
  unfold wsV
  exact List.forall_mem_append.mpr ⟨List.forall_mem_cons.mpr ⟨lwd_199, List.forall_mem_cons.mpr ⟨lwd_200, List.forall_mem_cons.mpr ⟨lwd_201, List.forall_mem_cons.mpr ⟨lwd_5, nil_all⟩⟩⟩⟩, t_wsX7_turn⟩
theorem gv_X7_turn : GoodIn (wsV RL 36 RX7 yX7_turn wsX7_turn) (wsV RL 36 RX7 yX7_turn wsX7_turn) := goodIn_sub (fun _ h => h) (by decide +kernel)
theorem tv_X6_join : ∀ w ∈ wsV RL 37 RX6 yX6_join wsX6_join, w ∈ lw_tbl := by
  unfold wsV
  exact List.forall_mem_append.mpr ⟨List.forall_mem_cons.mpr ⟨lwd_203, List.forall_mem_cons.mpr ⟨lwd_204, List.forall_mem_cons.mpr ⟨lwd_205, List.forall_mem_cons.mpr ⟨lwd_2, nil_all⟩⟩⟩⟩, t_wsX6_join⟩
theorem gv_X6_join : GoodIn (wsV RL 37 RX6 yX6_join wsX6_join) (wsV RL 37 RX6 yX6_join wsX6_join) := goodIn_sub (fun _ h => h) (by decide +kernel)
theorem tv_X7_join : ∀ w ∈ wsV RL 40 RX7 yX7_join wsX7_join, w ∈ lw_tbl := by
  unfold wsV
  exact List.forall_mem_append.mpr ⟨List.forall_mem_cons.mpr ⟨lwd_215, List.forall_mem_cons.mpr ⟨lwd_216, List.forall_mem_cons.mpr ⟨lwd_217, List.forall_mem_cons.mpr ⟨lwd_5, nil_all⟩⟩⟩⟩, t_wsX7_join⟩
theorem gv_X7_join : GoodIn (wsV RL 40 RX7 yX7_join wsX7_join) (wsV RL 40 RX7 yX7_join wsX7_join) := goodIn_sub (fun _ h => h) (by decide +kernel)
theorem tv_X6_tell : ∀ w ∈ wsV RL 41 RX6 yX6_tell wsX6_tell, w ∈ lw_tbl := by
  unfold wsV
  exact List.forall_mem_append.mpr ⟨List.forall_mem_cons.mpr ⟨lwd_226, List.forall_mem_cons.mpr ⟨lwd_227, List.forall_mem_cons.mpr ⟨lwd_228, List.forall_mem_cons.mpr ⟨lwd_2, nil_all⟩⟩⟩⟩, t_wsX6_tell⟩
theorem gv_X6_tell : GoodIn (wsV RL 41 RX6 yX6_tell wsX6_tell) (wsV RL 41 RX6 yX6_tell wsX6_tell) := goodIn_sub (fun _ h => h) (by decide +kernel)
theorem tv_X7_tell : ∀ w ∈ wsV RL 44 RX7 yX7_tell wsX7_tell, w ∈ lw_tbl := by
  unfold wsV
  exact List.forall_mem_append.mpr ⟨List.forall_mem_cons.mpr ⟨lwd_231, List.forall_mem_cons.mpr ⟨lwd_232, List.forall_mem_cons.mpr ⟨lwd_233, List.forall_mem_cons.mpr ⟨lwd_5, nil_all⟩⟩⟩⟩, t_wsX7_tell⟩
theorem gv_X7_tell : GoodIn (wsV RL 44 RX7 yX7_tell wsX7_tell) (wsV RL 44 RX7 yX7_tell wsX7_tell) := goodIn_sub (fun _ h => h) (by decide +kernel)
theorem tv_X6_node : ∀ w ∈ wsV RL 45 RX6 yX6_node wsX6_node, w ∈ lw_tbl := by
  unfold wsV
  exact List.forall_mem_append.mpr ⟨List.forall_mem_cons.mpr ⟨lwd_236, List.forall_mem_cons.mpr ⟨lwd_237, List.forall_mem_cons.mpr ⟨lwd_238, List.forall_mem_cons.mpr ⟨lwd_2, nil_all⟩⟩⟩⟩, t_wsX6_node⟩
theorem gv_X6_node : GoodIn (wsV RL 45 RX6 yX6_node wsX6_node) (wsV RL 45 RX6 yX6_node wsX6_node) := goodIn_sub (fun _ h => h) (by decide +kernel)
theorem tv_X7_node : ∀ w ∈ wsV RL 48 RX7 yX7_node wsX7_node, w ∈ lw_tbl := by
  unfold wsV
  exact List.forall_mem_append.mpr ⟨List.forall_mem_cons.mpr ⟨lwd_266, List.forall_mem_cons.mpr ⟨lwd_267, List.forall_mem_cons.mpr ⟨lwd_268, List.forall_mem_cons.mpr ⟨lwd_5, nil_all⟩⟩⟩⟩, t_wsX7_node⟩
theorem gv_X7_node : GoodIn (wsV RL 48 RX7 yX7_node wsX7_node) (wsV RL 48 RX7 yX7_node wsX7_node) := goodIn_sub (fun _ h => h) (by decide +kernel)
theorem tv_X6_count : ∀ w ∈ wsV RL 49 RX6 yX6_count wsX6_count, w ∈ lw_tbl := by
  unfold wsV
  exact List.forall_mem_append.mpr ⟨List.forall_mem_cons.mpr ⟨lwd_282, List.forall_mem_cons.mpr ⟨lwd_283, List.forall_mem_cons.mpr ⟨lwd_284, List.forall_mem_cons.mpr ⟨lwd_2, nil_all⟩⟩⟩⟩, t_wsX6_count⟩
theorem gv_X6_count : GoodIn (wsV RL 49 RX6 yX6_count wsX6_count) (wsV RL 49 RX6 yX6_count wsX6_count) := goodIn_sub (fun _ h => h) (by decide +kernel)
theorem tv_X7_count : ∀ w ∈ wsV RL 52 RX7 yX7_count wsX7_count, w ∈ lw_tbl := by
  unfold wsV
  exact List.forall_mem_append.mpr ⟨List.forall_mem_cons.mpr ⟨lwd_338, List.forall_mem_cons.mpr ⟨lwd_339, List.forall_mem_cons.mpr ⟨lwd_340, List.forall_mem_cons.mpr ⟨lwd_5, nil_all⟩⟩⟩⟩, t_wsX7_count⟩
theorem gv_X7_count : GoodIn (wsV RL 52 RX7 yX7_count wsX7_count) (wsV RL 52 RX7 yX7_count wsX7_count) := goodIn_sub (fun _ h => h) (by decide +kernel)
theorem tv_X6_side : ∀ w ∈ wsV RL 53 RX6 yX6_side wsX6_side, w ∈ lw_tbl := by
  unfold wsV
  exact List.forall_mem_append.mpr ⟨List.forall_mem_cons.mpr ⟨lwd_371, List.forall_mem_cons.mpr ⟨lwd_372, List.forall_mem_cons.mpr ⟨lwd_373, List.forall_mem_cons.mpr ⟨lwd_2, nil_all⟩⟩⟩⟩, t_wsX6_side⟩
theorem gv_X6_side : GoodIn (wsV RL 53 RX6 yX6_side wsX6_side) (wsV RL 53 RX6 yX6_side wsX6_side) := goodIn_sub (fun _ h => h) (by decide +kernel)
theorem tv_X7_side : ∀ w ∈ wsV RL 56 RX7 yX7_side wsX7_side, w ∈ lw_tbl := by
  unfold wsV
  exact List.forall_mem_append.mpr ⟨List.forall_mem_cons.mpr ⟨lwd_377, List.forall_mem_cons.mpr ⟨lwd_378, List.forall_mem_cons.mpr ⟨lwd_379, List.forall_mem_cons.mpr ⟨lwd_5, nil_all⟩⟩⟩⟩, t_wsX7_side⟩
theorem gv_X7_side : GoodIn (wsV RL 56 RX7 yX7_side wsX7_side) (wsV RL 56 RX7 yX7_side wsX7_side) := goodIn_sub (fun _ h => h) (by decide +kernel)
theorem tv_X6_bounds : ∀ w ∈ wsV RL 57 RX6 yX6_bounds wsX6_bounds, w ∈ lw_tbl := by
  unfold wsV
  exact List.forall_mem_append.mpr ⟨List.forall_mem_cons.mpr ⟨lwd_381, List.forall_mem_cons.mpr ⟨lwd_382, List.forall_mem_cons.mpr ⟨lwd_383, List.forall_mem_cons.mpr ⟨lwd_2, nil_all⟩⟩⟩⟩, t_wsX6_bounds⟩
theorem gv_X6_bounds : GoodIn (wsV RL 57 RX6 yX6_bounds wsX6_bounds) (wsV RL 57 RX6 yX6_bounds wsX6_bounds) := goodIn_sub (fun _ h => h) (by decide +kernel)
theorem tv_X7_bounds : ∀ w ∈ wsV RL 61 RX7 yX7_bounds wsX7_bounds, w ∈ lw_tbl := by
  unfold wsV
  exact List.forall_mem_append.mpr ⟨List.forall_mem_cons.mpr ⟨lwd_387, List.forall_mem_cons.mpr ⟨lwd_388, List.forall_mem_cons.mpr ⟨lwd_389, List.forall_mem_cons.mpr ⟨lwd_5, nil_all⟩⟩⟩⟩, t_wsX7_bounds⟩
theorem gv_X7_bounds : GoodIn (wsV RL 61 RX7 yX7_bounds wsX7_bounds) (wsV RL 61 RX7 yX7_bounds wsX7_bounds) := goodIn_sub (fun _ h => h) (by decide +kernel)
theorem tv_X6_isDijoin : ∀ w ∈ wsV RL 62 RX6 yX6_isDijoin wsX6_isDijoin, w ∈ lw_tbl := by
  unfold wsV
  exact List.forall_mem_append.mpr ⟨List.forall_mem_cons.mpr ⟨lwd_391, List.forall_mem_cons.mpr ⟨lwd_392, List.forall_mem_cons.mpr ⟨lwd_393, List.forall_mem_cons.mpr ⟨lwd_2, nil_all⟩⟩⟩⟩, t_wsX6_isDijoin⟩
theorem gv_X6_isDijoin : GoodIn (wsV RL 62 RX6 yX6_isDijoin wsX6_isDijoin) (wsV RL 62 RX6 yX6_isDijoin wsX6_isDijoin) := goodIn_sub (fun _ h => h) (by decide +kernel)
theorem tv_X7_isDijoin : ∀ w ∈ wsV RL 65 RX7 yX7_isDijoin wsX7_isDijoin, w ∈ lw_tbl := by
  unfold wsV
  exact List.forall_mem_append.mpr ⟨List.forall_mem_cons.mpr ⟨lwd_395, List.forall_mem_cons.mpr ⟨lwd_396, List.forall_mem_cons.mpr ⟨lwd_397, List.forall_mem_cons.mpr ⟨lwd_5, nil_all⟩⟩⟩⟩, t_wsX7_isDijoin⟩
theorem gv_X7_isDijoin : GoodIn (wsV RL 65 RX7 yX7_isDijoin wsX7_isDijoin) (wsV RL 65 RX7 yX7_isDijoin wsX7_isDijoin) := goodIn_sub (fun _ h => h) (by decide +kernel)
theorem tv_X6_isStrong : ∀ w ∈ wsV RL 66 RX6 yX6_isStrong wsX6_isStrong, w ∈ lw_tbl := by
  unfold wsV
  exact List.forall_mem_append.mpr ⟨List.forall_mem_cons.mpr ⟨lwd_399, List.forall_mem_cons.mpr ⟨lwd_297, List.forall_mem_cons.mpr ⟨lwd_298, List.forall_mem_cons.mpr ⟨lwd_2, nil_all⟩⟩⟩⟩, t_wsX6_isStrong⟩
theorem gv_X6_isStrong : GoodIn (wsV RL 66 RX6 yX6_isStrong wsX6_isStrong) (wsV RL 66 RX6 yX6_isStrong wsX6_isStrong) := goodIn_sub (fun _ h => h) (by decide +kernel)
theorem tv_X7_isStrong : ∀ w ∈ wsV RL 69 RX7 yX7_isStrong wsX7_isStrong, w ∈ lw_tbl := by
  unfold wsV
  exact List.forall_mem_append.mpr ⟨List.forall_mem_cons.mpr ⟨lwd_400, List.forall_mem_cons.mpr ⟨lwd_401, List.forall_mem_cons.mpr ⟨lwd_402, List.forall_mem_cons.mpr ⟨lwd_5, nil_all⟩⟩⟩⟩, t_wsX7_isStrong⟩
theorem gv_X7_isStrong : GoodIn (wsV RL 69 RX7 yX7_isStrong wsX7_isStrong) (wsV RL 69 RX7 yX7_isStrong wsX7_isStrong) := goodIn_sub (fun _ h => h) (by decide +kernel)
theorem tv_X6_dijoin : ∀ w ∈ wsV RL 70 RX6 yX6_dijoin wsX6_dijoin, w ∈ lw_tbl := by
  unfold wsV
  exact List.forall_mem_append.mpr ⟨List.forall_mem_cons.mpr ⟨lwd_404, List.forall_mem_cons.mpr ⟨lwd_405, List.forall_mem_cons.mpr ⟨lwd_406, List.forall_mem_cons.mpr ⟨lwd_2, nil_all⟩⟩⟩⟩, t_wsX6_dijoin⟩
theorem gv_X6_dijoin : GoodIn (wsV RL 70 RX6 yX6_dijoin wsX6_dijoin) (wsV RL 70 RX6 yX6_dijoin wsX6_dijoin) := goodIn_sub (fun _ h => h) (by decide +kernel)
theorem tv_X7_dijoin : ∀ w ∈ wsV RL 74 RX7 yX7_dijoin wsX7_dijoin, w ∈ lw_tbl := by
  unfold wsV
  exact List.forall_mem_append.mpr ⟨List.forall_mem_cons.mpr ⟨lwd_471, List.forall_mem_cons.mpr ⟨lwd_472, List.forall_mem_cons.mpr ⟨lwd_473, List.forall_mem_cons.mpr ⟨lwd_5, nil_all⟩⟩⟩⟩, t_wsX7_dijoin⟩
theorem gv_X7_dijoin : GoodIn (wsV RL 74 RX7 yX7_dijoin wsX7_dijoin) (wsV RL 74 RX7 yX7_dijoin wsX7_dijoin) := goodIn_sub (fun _ h => h) (by decide +kernel)
theorem tv_X6_chosen : ∀ w ∈ wsV RL 75 RX6 yX6_chosen wsX6_chosen, w ∈ lw_tbl := by
  unfold wsV
  exact List.forall_mem_append.mpr ⟨List.forall_mem_cons.mpr ⟨lwd_488, List.forall_mem_cons.mpr ⟨lwd_489, List.forall_mem_cons.mpr ⟨lwd_490, List.forall_mem_cons.mpr ⟨lwd_2, nil_all⟩⟩⟩⟩, t_wsX6_chosen⟩
theorem gv_X6_chosen : GoodIn (wsV RL 75 RX6 yX6_chosen wsX6_chosen) (wsV RL 75 RX6 yX6_chosen wsX6_chosen) := goodIn_sub (fun _ h => h) (by decide +kernel)
theorem tv_X7_chosen : ∀ w ∈ wsV RL 78 RX7 yX7_chosen wsX7_chosen, w ∈ lw_tbl := by
  unfold wsV
  exact List.forall_mem_append.mpr ⟨List.forall_mem_cons.mpr ⟨lwd_492, List.forall_mem_cons.mpr ⟨lwd_493, List.forall_mem_cons.mpr ⟨lwd_494, List.forall_mem_cons.mpr ⟨lwd_5, nil_all⟩⟩⟩⟩, t_wsX7_chosen⟩
theorem gv_X7_chosen : GoodIn (wsV RL 78 RX7 yX7_chosen wsX7_chosen) (wsV RL 78 RX7 yX7_chosen wsX7_chosen) := goodIn_sub (fun _ h => h) (by decide +kernel)
theorem tv_X6_cost : ∀ w ∈ wsV RL 79 RX6 yX6_cost wsX6_cost, w ∈ lw_tbl := by
  unfold wsV
  exact List.forall_mem_append.mpr ⟨List.forall_mem_cons.mpr ⟨lwd_496, List.forall_mem_cons.mpr ⟨lwd_497, List.forall_mem_cons.mpr ⟨lwd_498, List.forall_mem_cons.mpr ⟨lwd_2, nil_all⟩⟩⟩⟩, t_wsX6_cost⟩
theorem gv_X6_cost : GoodIn (wsV RL 79 RX6 yX6_cost wsX6_cost) (wsV RL 79 RX6 yX6_cost wsX6_cost) := goodIn_sub (fun _ h => h) (by decide +kernel)
theorem tv_X7_cost : ∀ w ∈ wsV RL 82 RX7 yX7_cost wsX7_cost, w ∈ lw_tbl := by
  unfold wsV
  exact List.forall_mem_append.mpr ⟨List.forall_mem_cons.mpr ⟨lwd_509, List.forall_mem_cons.mpr ⟨lwd_510, List.forall_mem_cons.mpr ⟨lwd_511, List.forall_mem_cons.mpr ⟨lwd_5, nil_all⟩⟩⟩⟩, t_wsX7_cost⟩
theorem gv_X7_cost : GoodIn (wsV RL 82 RX7 yX7_cost wsX7_cost) (wsV RL 82 RX7 yX7_cost wsX7_cost) := goodIn_sub (fun _ h => h) (by decide +kernel)
theorem tv_X6_packing : ∀ w ∈ wsV RL 83 RX6 yX6_packing wsX6_packing, w ∈ lw_tbl := by
  unfold wsV
  exact List.forall_mem_append.mpr ⟨List.forall_mem_cons.mpr ⟨lwd_513, List.forall_mem_cons.mpr ⟨lwd_514, List.forall_mem_cons.mpr ⟨lwd_515, List.forall_mem_cons.mpr ⟨lwd_2, nil_all⟩⟩⟩⟩, t_wsX6_packing⟩
theorem gv_X6_packing : GoodIn (wsV RL 83 RX6 yX6_packing wsX6_packing) (wsV RL 83 RX6 yX6_packing wsX6_packing) := goodIn_sub (fun _ h => h) (by decide +kernel)
theorem tv_X7_packing : ∀ w ∈ wsV RL 86 RX7 yX7_packing wsX7_packing, w ∈ lw_tbl := by
  unfold wsV
  exact List.forall_mem_append.mpr ⟨List.forall_mem_cons.mpr ⟨lwd_536, List.forall_mem_cons.mpr ⟨lwd_537, List.forall_mem_cons.mpr ⟨lwd_538, List.forall_mem_cons.mpr ⟨lwd_5, nil_all⟩⟩⟩⟩, t_wsX7_packing⟩
theorem gv_X7_packing : GoodIn (wsV RL 86 RX7 yX7_packing wsX7_packing) (wsV RL 86 RX7 yX7_packing wsX7_packing) := goodIn_sub (fun _ h => h) (by decide +kernel)
theorem tv_X6_draw : ∀ w ∈ wsV RL 87 RX6 yX6_draw wsX6_draw, w ∈ lw_tbl := by
  unfold wsV
  exact List.forall_mem_append.mpr ⟨List.forall_mem_cons.mpr ⟨lwd_548, List.forall_mem_cons.mpr ⟨lwd_549, List.forall_mem_cons.mpr ⟨lwd_550, List.forall_mem_cons.mpr ⟨lwd_2, nil_all⟩⟩⟩⟩, t_wsX6_draw⟩
theorem gv_X6_draw : GoodIn (wsV RL 87 RX6 yX6_draw wsX6_draw) (wsV RL 87 RX6 yX6_draw wsX6_draw) := goodIn_sub (fun _ h => h) (by decide +kernel)
theorem tv_X7_draw : ∀ w ∈ wsV RL 90 RX7 yX7_draw wsX7_draw, w ∈ lw_tbl := by
  unfold wsV
  exact List.forall_mem_append.mpr ⟨List.forall_mem_cons.mpr ⟨lwd_570, List.forall_mem_cons.mpr ⟨lwd_571, List.forall_mem_cons.mpr ⟨lwd_572, List.forall_mem_cons.mpr ⟨lwd_5, nil_all⟩⟩⟩⟩, t_wsX7_draw⟩
theorem gv_X7_draw : GoodIn (wsV RL 90 RX7 yX7_draw wsX7_draw) (wsV RL 90 RX7 yX7_draw wsX7_draw) := goodIn_sub (fun _ h => h) (by decide +kernel)
theorem tv_X6_uncross : ∀ w ∈ wsV RL 91 RX6 yX6_uncross wsX6_uncross, w ∈ lw_tbl := by
  unfold wsV
  exact List.forall_mem_append.mpr ⟨List.forall_mem_cons.mpr ⟨lwd_575, List.forall_mem_cons.mpr ⟨lwd_576, List.forall_mem_cons.mpr ⟨lwd_577, List.forall_mem_cons.mpr ⟨lwd_2, nil_all⟩⟩⟩⟩, t_wsX6_uncross⟩
theorem gv_X6_uncross : GoodIn (wsV RL 91 RX6 yX6_uncross wsX6_uncross) (wsV RL 91 RX6 yX6_uncross wsX6_uncross) := goodIn_sub (fun _ h => h) (by decide +kernel)
theorem tv_X7_uncross : ∀ w ∈ wsV RL 94 RX7 yX7_uncross wsX7_uncross, w ∈ lw_tbl := by
  unfold wsV
  exact List.forall_mem_append.mpr ⟨List.forall_mem_cons.mpr ⟨lwd_601, List.forall_mem_cons.mpr ⟨lwd_602, List.forall_mem_cons.mpr ⟨lwd_603, List.forall_mem_cons.mpr ⟨lwd_5, nil_all⟩⟩⟩⟩, t_wsX7_uncross⟩
theorem gv_X7_uncross : GoodIn (wsV RL 94 RX7 yX7_uncross wsX7_uncross) (wsV RL 94 RX7 yX7_uncross wsX7_uncross) := goodIn_sub (fun _ h => h) (by decide +kernel)
theorem tv_X6_member : ∀ w ∈ wsV RL 95 RX6 yX6_member wsX6_member, w ∈ lw_tbl := by
  unfold wsV
  exact List.forall_mem_append.mpr ⟨List.forall_mem_cons.mpr ⟨lwd_613, List.forall_mem_cons.mpr ⟨lwd_614, List.forall_mem_cons.mpr ⟨lwd_615, List.forall_mem_cons.mpr ⟨lwd_2, nil_all⟩⟩⟩⟩, t_wsX6_member⟩
theorem gv_X6_member : GoodIn (wsV RL 95 RX6 yX6_member wsX6_member) (wsV RL 95 RX6 yX6_member wsX6_member) := goodIn_sub (fun _ h => h) (by decide +kernel)
theorem tv_X7_member : ∀ w ∈ wsV RL 98 RX7 yX7_member wsX7_member, w ∈ lw_tbl := by
  unfold wsV
  exact List.forall_mem_append.mpr ⟨List.forall_mem_cons.mpr ⟨lwd_621, List.forall_mem_cons.mpr ⟨lwd_622, List.forall_mem_cons.mpr ⟨lwd_623, List.forall_mem_cons.mpr ⟨lwd_5, nil_all⟩⟩⟩⟩, t_wsX7_member⟩
theorem gv_X7_member : GoodIn (wsV RL 98 RX7 yX7_member wsX7_member) (wsV RL 98 RX7 yX7_member wsX7_member) := goodIn_sub (fun _ h => h) (by decide +kernel)
theorem tv_X6_image : ∀ w ∈ wsV RL 99 RX6 yX6_image wsX6_image, w ∈ lw_tbl := by
  unfold wsV
  exact List.forall_mem_append.mpr ⟨List.forall_mem_cons.mpr ⟨lwd_625, List.forall_mem_cons.mpr ⟨lwd_626, List.forall_mem_cons.mpr ⟨lwd_627, List.forall_mem_cons.mpr ⟨lwd_2, nil_all⟩⟩⟩⟩, t_wsX6_image⟩
theorem gv_X6_image : GoodIn (wsV RL 99 RX6 yX6_image wsX6_image) (wsV RL 99 RX6 yX6_image wsX6_image) := goodIn_sub (fun _ h => h) (by decide +kernel)
theorem tv_X7_image : ∀ w ∈ wsV RL 102 RX7 yX7_image wsX7_image, w ∈ lw_tbl := by
  unfold wsV
  exact List.forall_mem_append.mpr ⟨List.forall_mem_cons.mpr ⟨lwd_644, List.forall_mem_cons.mpr ⟨lwd_645, List.forall_mem_cons.mpr ⟨lwd_646, List.forall_mem_cons.mpr ⟨lwd_5, nil_all⟩⟩⟩⟩, t_wsX7_image⟩
theorem gv_X7_image : GoodIn (wsV RL 102 RX7 yX7_image wsX7_image) (wsV RL 102 RX7 yX7_image wsX7_image) := goodIn_sub (fun _ h => h) (by decide +kernel)
theorem tv_X6_again : ∀ w ∈ wsV RL 103 RX6 yX6_again wsX6_again, w ∈ lw_tbl := by
  unfold wsV
  exact List.forall_mem_append.mpr ⟨List.forall_mem_cons.mpr ⟨lwd_648, List.forall_mem_cons.mpr ⟨lwd_649, List.forall_mem_cons.mpr ⟨lwd_650, List.forall_mem_cons.mpr ⟨lwd_2, nil_all⟩⟩⟩⟩, t_wsX6_again⟩
theorem gv_X6_again : GoodIn (wsV RL 103 RX6 yX6_again wsX6_again) (wsV RL 103 RX6 yX6_again wsX6_again) := goodIn_sub (fun _ h => h) (by decide +kernel)
theorem tv_X7_again : ∀ w ∈ wsV RL 106 RX7 yX7_again wsX7_again, w ∈ lw_tbl := by
  unfold wsV
  exact List.forall_mem_append.mpr ⟨List.forall_mem_cons.mpr ⟨lwd_652, List.forall_mem_cons.mpr ⟨lwd_653, List.forall_mem_cons.mpr ⟨lwd_654, List.forall_mem_cons.mpr ⟨lwd_5, nil_all⟩⟩⟩⟩, t_wsX7_again⟩
theorem gv_X7_again : GoodIn (wsV RL 106 RX7 yX7_again wsX7_again) (wsV RL 106 RX7 yX7_again wsX7_again) := goodIn_sub (fun _ h => h) (by decide +kernel)
theorem gi_X6_init : GoodIn wsX6_init wsX6_init := goodIn_sub (fun _ h => h) (by decide +kernel)
theorem gi_X7_init : GoodIn wsX7_init wsX7_init := goodIn_sub (fun _ h => h) (by decide +kernel)
