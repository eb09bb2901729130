theorem mk_120 : mm_all mi_120 = true := by decide +kernel
theorem mk_121 : mm_all mi_121 = true := by decide +kernel
theorem mk_122 : mm_all mi_122 = true := by decide +kernel
theorem mk_123 : mm_all mi_123 = true := by decide +kernel
theorem mk_124 : mm_all mi_124 = true := by decide +kernel
theorem mk_125 : mm_all mi_125 = true := by decide +kernel
theorem mk_126 : mm_all mi_126 = true := by decide +kernel
theorem mk_127 : mm_all mi_127 = true := by decide +kernel
theorem mk_128 : mm_all mi_128 = true := by decide +kernel
theorem mk_129 : mm_all mi_129 = true := by decide +kernel
theorem mk_130 : mm_all mi_130 = true := by decide +kernel
theorem mk_131 : mm_all mi_131 = true := by decide +kernel
theorem mk_132 : mm_all mi_132 = true := by decide +kernel
theorem mk_133 : mm_all mi_133 = true := by decide +kernel
theorem mk_134 : mm_all mi_134 = true := by decide +kernel
theorem mk_135 : mm_all mi_135 = true := by decide +kernel
theorem mk_136 : mm_all mi_136 = true := by decide +kernel
theorem mk_137 : mm_all mi_137 = true := by decide +kernel
theorem mk_138 : mm_all mi_138 = true := by decide +kernel
theorem mk_139 : mm_all mi_139 = true := by decide +kernel
theorem mk_140 : mm_all mi_140 = true := by decide +kernel
theorem mk_141 : mm_all mi_141 = true := by decide +kernel
theorem mk_142 : mm_all mi_142 = true := by decide +kernel
theorem mk_143 : mm_all mi_143 = true := by decide +kernel
theorem mk_144 : mm_all mi_144 = true := by decide +kernel
theorem mk_145 : mm_all mi_145 = true := by decide +kernel
theorem mk_146 : mm_all mi_146 = true := by decide +kernel
theorem mk_147 : mm_all mi_147 = true := by decide +kernel
theorem mk_148 : mm_all mi_148 = true := by decide +kernel
theorem mk_149 : mm_all mi_149 = true := by decide +kernel
theorem mk_150 : mm_all mi_150 = true := by decide +kernel
theorem mk_151 : mm_all mi_151 = true := by decide +kernel
theorem mk_152 : mm_all mi_152 = true := by decide +kernel
theorem mk_153 : mm_all mi_153 = true := by decide +kernel
theorem mk_154 : mm_all mi_154 = true := by decide +kernel
theorem mk_155 : mm_all mi_155 = true := by decide +kernel
theorem mk_156 : mm_all mi_156 = true := by decide +kernel
theorem mk_157 : mm_all mi_157 = true := by decide +kernel
theorem mk_158 : mm_all mi_158 = true := by decide +kernel
theorem mk_159 : mm_all mi_159 = true := by decide +kernel
theorem mk_160_0 : mr_160_0.all (mm_chk mi_160) = true := by decide +kernel
theorem mk_160_1 : mr_160_1.all (mm_chk mi_160) = true := by decide +kernel
theorem mk_160_2 : mr_160_2.all (mm_chk mi_160) = true := by decide +kernel
theorem mk_160_3 : mr_160_3.all (mm_chk mi_160) = true := by decide +kernel
theorem mk_160_4 : mr_160_4.all (mm_chk mi_160) = true := by decide +kernel
theorem mk_160_5 : mr_160_5.all (mm_chk mi_160) = true := by decide +kernel
theorem mk_160_6 : mr_160_6.all (mm_chk mi_160) = true := by decide +kernel
theorem mk_160_7 : mr_160_7.all (mm_chk mi_160) = true := by decide +kernel
theorem mk_160_8 : mr_160_8.all (mm_chk mi_160) = true := by decide +kernel
theorem mk_160_9 : mr_160_9.all (mm_chk mi_160) = true := by decide +kernel
theorem mk_160_10 : mr_160_10.all (mm_chk mi_160) = true := by decide +kernel
theorem mk_160_11 : mr_160_11.all (mm_chk mi_160) = true := by decide +kernel
theorem mk_160_12 : mr_160_12.all (mm_chk mi_160) = true := by decide +kernel
theorem mk_160_13 : mr_160_13.all (mm_chk mi_160) = true := by decide +kernel
theorem mk_160_14 : mr_160_14.all (mm_chk mi_160) = true := by decide +kernel
theorem mk_160_15 : mr_160_15.all (mm_chk mi_160) = true := by decide +kernel
theorem mk_160_16 : mr_160_16.all (mm_chk mi_160) = true := by decide +kernel
theorem mk_160_p : (plainName mi_160.1.cls && decide (mi_160.2.2.1 ≤ 16)) = true := by decide +kernel
theorem mk_160 : mm_all mi_160 = true := by
  unfold mm_all
  rw [mk_160_p, Bool.and_true]
  show mr_160.all _ = true
  unfold mr_160
  simp only [List.all_append, mk_160_0, mk_160_1, mk_160_2, mk_160_3, mk_160_4, mk_160_5, mk_160_6, mk_160_7, mk_160_8, mk_160_9, mk_160_10, mk_160_11, mk_160_12, mk_160_13, mk_160_14, mk_160_15, mk_160_16, Bool.and_self]
theorem mm_tab_ok : ∀ mi ∈ mm_tab, mm_all mi = true := by
  unfold mm_tab
  refine List.forall_mem_cons.mpr ⟨mk_0, ?_⟩
  refine List.forall_mem_cons.mpr ⟨mk_1, ?_⟩
  refine List.forall_mem_cons.mpr ⟨mk_2, ?_⟩
  refine List.forall_mem_cons.mpr ⟨mk_3, ?_⟩
  refine List.forall_mem_cons.mpr ⟨mk_4, ?_⟩
  refine List.forall_mem_cons.mpr ⟨mk_5, ?_⟩
  refine List.forall_mem_cons.mpr ⟨mk_6, ?_⟩
  refine List.forall_mem_cons.mpr ⟨mk_7, ?_⟩
  refine List.forall_mem_cons.mpr ⟨mk_8, ?_⟩
  refine List.forall_mem_cons.mpr ⟨mk_9, ?_⟩
  refine List.forall_mem_cons.mpr ⟨mk_10, ?_⟩
  refine List.forall_mem_cons.mpr ⟨mk_11, ?_⟩
  refine List.forall_mem_cons.mpr ⟨mk_12, ?_⟩
  refine List.forall_mem_cons.mpr ⟨mk_13, ?_⟩
  refine List.forall_mem_cons.mpr ⟨mk_14, ?_⟩
  refine List.forall_mem_cons.mpr ⟨mk_15, ?_⟩
  refine List.forall_mem_cons.mpr ⟨mk_16, ?_⟩
  refine List.forall_mem_cons.mpr ⟨mk_17, ?_⟩
  refine List.forall_mem_cons.mpr ⟨mk_18, ?_⟩
  refine List.forall_mem_cons.mpr ⟨mk_19, ?_⟩
  refine List.forall_mem_cons.mpr ⟨mk_20, ?_⟩
  refine List.forall_mem_cons.mpr ⟨mk_21, ?_⟩
  refine List.forall_mem_cons.mpr ⟨mk_22, ?_⟩
  refine List.forall_mem_cons.mpr ⟨mk_23, ?_⟩
  refine List.forall_mem_cons.mpr ⟨mk_24, ?_⟩
  refine List.forall_mem_cons.mpr ⟨mk_25, ?_⟩
  refine List.forall_mem_cons.mpr ⟨mk_26, ?_⟩
  refine List.forall_mem_cons.mpr ⟨mk_27, ?_⟩
  refine List.forall_mem_cons.mpr ⟨mk_28, ?_⟩
  refine List.forall_mem_cons.mpr ⟨mk_29, ?_⟩
  refine List.forall_mem_cons.mpr ⟨mk_30, ?_⟩
  refine List.forall_mem_cons.mpr ⟨mk_31, ?_⟩
  refine List.forall_mem_cons.mpr ⟨mk_32, ?_⟩
  refine List.forall_mem_cons.mpr ⟨mk_33, ?_⟩
  refine List.forall_mem_cons.mpr ⟨mk_34, ?_⟩
  refine List.forall_mem_cons.mpr ⟨mk_35, ?_⟩
  refine List.forall_mem_cons.mpr ⟨mk_36, ?_⟩
  refine List.forall_mem_cons.mpr ⟨mk_37, ?_⟩
  refine List.forall_mem_cons.mpr ⟨mk_38, ?_⟩
  refine List.forall_mem_cons.mpr ⟨mk_39, ?_⟩
  refine List.forall_mem_cons.mpr ⟨mk_40, ?_⟩
  refine List.forall_mem_cons.mpr ⟨mk_41, ?_⟩
  refine List.forall_mem_cons.mpr ⟨mk_42, ?_⟩
  refine List.forall_mem_cons.mpr ⟨mk_43, ?_⟩
  refine List.forall_mem_cons.mpr ⟨mk_44, ?_⟩
  refine List.forall_mem_cons.mpr ⟨mk_45, ?_⟩
  refine List.forall_mem_cons.mpr ⟨mk_46, ?_⟩
  refine List.forall_mem_cons.mpr ⟨mk_47, ?_⟩
  refine List.forall_mem_cons.mpr ⟨mk_48, ?_⟩
  refine List.forall_mem_cons.mpr ⟨mk_49, ?_⟩
  refine List.forall_mem_cons.mpr ⟨mk_50, ?_⟩
  refine List.forall_mem_cons.mpr ⟨mk_51, ?_⟩
  refine List.forall_mem_cons.mpr ⟨mk_52, ?_⟩
  refine List.forall_mem_cons.mpr ⟨mk_53, ?_⟩
  refine List.forall_mem_cons.mpr ⟨mk_54, ?_⟩
  refine List.forall_mem_cons.mpr ⟨mk_55, ?_⟩
  refine List.forall_mem_cons.mpr ⟨mk_56, ?_⟩
  refine List.forall_mem_cons.mpr ⟨mk_57, ?_⟩
  refine List.forall_mem_cons.mpr ⟨mk_58, ?_⟩
  refine List.forall_mem_cons.mpr ⟨mk_59, ?_⟩
  refine List.forall_mem_cons.mpr ⟨mk_60, ?_⟩
  refine List.forall_mem_cons.mpr ⟨mk_61, ?_⟩
  refine List.forall_mem_cons.mpr ⟨mk_62, ?_⟩
  refine List.forall_mem_cons.mpr ⟨mk_63, ?_⟩
  refine List.forall_mem_cons.mpr ⟨mk_64, ?_⟩
  refine List.forall_mem_cons.mpr ⟨mk_65, ?_⟩
  refine List.forall_mem_cons.mpr ⟨mk_66, ?_⟩
  refine List.forall_mem_cons.mpr ⟨mk_67, ?_⟩
  refine List.forall_mem_cons.mpr ⟨mk_68, ?_⟩
  refine List.forall_mem_cons.mpr ⟨mk_69, ?_⟩
  refine List.forall_mem_cons.mpr ⟨mk_70, ?_⟩
  refine List.forall_mem_cons.mpr ⟨mk_71, ?_⟩
  refine List.forall_mem_cons.mpr ⟨mk_72, ?_⟩
  refine List.forall_mem_cons.mpr ⟨mk_73, ?_⟩
  refine List.forall_mem_cons.mpr ⟨mk_74, ?_⟩
  refine List.forall_mem_cons.mpr ⟨mk_75, ?_⟩
  refine List.forall_mem_cons.mpr ⟨mk_76, ?_⟩
  refine List.forall_mem_cons.mpr ⟨mk_77, ?_⟩
  refine List.forall_mem_cons.mpr ⟨mk_78, ?_⟩
  refine List.forall_mem_cons.mpr ⟨mk_79, ?_⟩
  refine List.forall_mem_cons.mpr ⟨mk_80, ?_⟩
  refine List.forall_mem_cons.mpr ⟨mk_81, ?_⟩
  refine List.forall_mem_cons.mpr ⟨mk_82, ?_⟩
  refine List.forall_mem_cons.mpr ⟨mk_83, ?_⟩
  refine List.forall_mem_cons.mpr ⟨mk_84, ?_⟩
  refine List.forall_mem_cons.mpr ⟨mk_85, ?_⟩
  refine List.forall_mem_cons.mpr ⟨mk_86, ?_⟩
  refine List.forall_mem_cons.mpr ⟨mk_87, ?_⟩
  refine List.forall_mem_cons.mpr ⟨mk_88, ?_⟩
  refine List.forall_mem_cons.mpr ⟨mk_89, ?_⟩
  refine List.forall_mem_cons.mpr ⟨mk_90, ?_⟩
  refine List.forall_mem_cons.mpr ⟨mk_91, ?_⟩
  refine List.forall_mem_cons.mpr ⟨mk_92, ?_⟩
  refine List.forall_mem_cons.mpr ⟨mk_93, ?_⟩
  refine List.forall_mem_cons.mpr ⟨mk_94, ?_⟩
  refine List.forall_mem_cons.mpr ⟨mk_95, ?_⟩
  refine List.forall_mem_cons.mpr ⟨mk_96, ?_⟩
  refine List.forall_mem_cons.mpr ⟨mk_97, ?_⟩
  refine List.forall_mem_cons.mpr ⟨mk_98, ?_⟩
  refine List.forall_mem_cons.mpr ⟨mk_99, ?_⟩
  refine List.forall_mem_cons.mpr ⟨mk_100, ?_⟩
  refine List.forall_mem_cons.mpr ⟨mk_101, ?_⟩
  refine List.forall_mem_cons.mpr ⟨mk_102, ?_⟩
  refine List.forall_mem_cons.mpr ⟨mk_103, ?_⟩
  refine List.forall_mem_cons.mpr ⟨mk_104, ?_⟩
  refine List.forall_mem_cons.mpr ⟨mk_105, ?_⟩
  refine List.forall_mem_cons.mpr ⟨mk_106, ?_⟩
  refine List.forall_mem_cons.mpr ⟨mk_107, ?_⟩
  refine List.forall_mem_cons.mpr ⟨mk_108, ?_⟩
  refine List.forall_mem_cons.mpr ⟨mk_109, ?_⟩
  refine List.forall_mem_cons.mpr ⟨mk_110, ?_⟩
  refine List.forall_mem_cons.mpr ⟨mk_111, ?_⟩
  refine List.forall_mem_cons.mpr ⟨mk_112, ?_⟩
  refine List.forall_mem_cons.mpr ⟨mk_113, ?_⟩
  refine List.forall_mem_cons.mpr ⟨mk_114, ?_⟩
  refine List.forall_mem_cons.mpr ⟨mk_115, ?_⟩
  refine List.forall_mem_cons.mpr ⟨mk_116, ?_⟩
  refine List.forall_mem_cons.mpr ⟨mk_117, ?_⟩
  refine List.forall_mem_cons.mpr ⟨mk_118, ?_⟩
  refine List.forall_mem_cons.mpr ⟨mk_119, ?_⟩
  refine List.forall_mem_cons.mpr ⟨mk_120, ?_⟩
  refine List.forall_mem_cons.mpr ⟨mk_121, ?_⟩
  refine List.forall_mem_cons.mpr ⟨mk_122, ?_⟩
  refine List.forall_mem_cons.mpr ⟨mk_123, ?_⟩
  refine List.forall_mem_cons.mpr ⟨mk_124, ?_⟩
  refine List.forall_mem_cons.mpr ⟨mk_125, ?_⟩
  refine List.forall_mem_cons.mpr ⟨mk_126, ?_⟩
  refine List.forall_mem_cons.mpr ⟨mk_127, ?_⟩
  refine List.forall_mem_cons.mpr ⟨mk_128, ?_⟩
  refine List.forall_mem_cons.mpr ⟨mk_129, ?_⟩
  refine List.forall_mem_cons.mpr ⟨mk_130, ?_⟩
  refine List.forall_mem_cons.mpr ⟨mk_131, ?_⟩
  refine List.forall_mem_cons.mpr ⟨mk_132, ?_⟩
  refine List.forall_mem_cons.mpr ⟨mk_133, ?_⟩
  refine List.forall_mem_cons.mpr ⟨mk_134, ?_⟩
  refine List.forall_mem_cons.mpr ⟨mk_135, ?_⟩
  refine List.forall_mem_cons.mpr ⟨mk_136, ?_⟩
  refine List.forall_mem_cons.mpr ⟨mk_137, ?_⟩
  refine List.forall_mem_cons.mpr ⟨mk_138, ?_⟩
  refine List.forall_mem_cons.mpr ⟨mk_139, ?_⟩
  refine List.forall_mem_cons.mpr ⟨mk_140, ?_⟩
  refine List.forall_mem_cons.mpr ⟨mk_141, ?_⟩
  refine List.forall_mem_cons.mpr ⟨mk_142, ?_⟩
  refine List.forall_mem_cons.mpr ⟨mk_143, ?_⟩
  refine List.forall_mem_cons.mpr ⟨mk_144, ?_⟩
  refine List.forall_mem_cons.mpr ⟨mk_145, ?_⟩
  refine List.forall_mem_cons.mpr ⟨mk_146, ?_⟩
  refine List.forall_mem_cons.mpr ⟨mk_147, ?_⟩
  refine List.forall_mem_cons.mpr ⟨mk_148, ?_⟩
  refine List.forall_mem_cons.mpr ⟨mk_149, ?_⟩
  refine List.forall_mem_cons.mpr ⟨mk_150, ?_⟩
  refine List.forall_mem_cons.mpr ⟨mk_151, ?_⟩
  refine List.forall_mem_cons.mpr ⟨mk_152, ?_⟩
  refine List.forall_mem_cons.mpr ⟨mk_153, ?_⟩
  refine List.forall_mem_cons.mpr ⟨mk_154, ?_⟩
  refine List.forall_mem_cons.mpr ⟨mk_155, ?_⟩
  refine List.forall_mem_cons.mpr ⟨mk_156, ?_⟩
  refine List.forall_mem_cons.mpr ⟨mk_157, ?_⟩
  refine List.forall_mem_cons.mpr ⟨mk_158, ?_⟩
  refine List.forall_mem_cons.mpr ⟨mk_159, ?_⟩
  refine List.forall_mem_cons.mpr ⟨mk_160, ?_⟩
  exact fun _ h => absurd h List.not_mem_nil
