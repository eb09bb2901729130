theorem mk_70 : mm_all mi_70 = true := by decide +kernel
theorem mk_71 : mm_all mi_71 = true := by decide +kernel
theorem mk_72 : mm_all mi_72 = true := by decide +kernel
theorem mk_73 : mm_all mi_73 = true := by decide +kernel
theorem mk_74 : mm_all mi_74 = true := by decide +kernel
theorem mk_75 : mm_all mi_75 = true := by decide +kernel
theorem mk_76 : mm_all mi_76 = true := by decide +kernel
theorem mk_77 : mm_all mi_77 = true := by decide +kernel
theorem mk_78 : mm_all mi_78 = true := by decide +kernel
theorem mk_79 : mm_all mi_79 = true := by decide +kernel
theorem mk_80 : mm_all mi_80 = true := by decide +kernel
theorem mk_81 : mm_all mi_81 = true := by decide +kernel
theorem mk_82 : mm_all mi_82 = true := by decide +kernel
theorem mk_83 : mm_all mi_83 = true := by decide +kernel
theorem mk_84 : mm_all mi_84 = true := by decide +kernel
theorem mk_85 : mm_all mi_85 = true := by decide +kernel
theorem mk_86 : mm_all mi_86 = true := by decide +kernel
theorem mk_87 : mm_all mi_87 = true := by decide +kernel
theorem mk_88 : mm_all mi_88 = true := by decide +kernel
theorem mk_89 : mm_all mi_89 = true := by decide +kernel
theorem mk_90 : mm_all mi_90 = true := by decide +kernel
theorem mk_91 : mm_all mi_91 = true := by decide +kernel
theorem mk_92 : mm_all mi_92 = true := by decide +kernel
theorem mk_93 : mm_all mi_93 = true := by decide +kernel
theorem mk_94 : mm_all mi_94 = true := by decide +kernel
theorem mk_95 : mm_all mi_95 = true := by decide +kernel
theorem mk_96 : mm_all mi_96 = true := by decide +kernel
theorem mk_97 : mm_all mi_97 = true := by decide +kernel
theorem mk_98_0 : mr_98_0.all (mm_chk mi_98) = true := by decide +kernel
theorem mk_98_1 : mr_98_1.all (mm_chk mi_98) = true := by decide +kernel
theorem mk_98_2 : mr_98_2.all (mm_chk mi_98) = true := by decide +kernel
theorem mk_98_3 : mr_98_3.all (mm_chk mi_98) = true := by decide +kernel
theorem mk_98_p : (plainName mi_98.1.cls && decide (mi_98.2.2.1 ≤ 16)) = true := by decide +kernel
theorem mk_98 : mm_all mi_98 = true := by
  unfold mm_all
  rw [mk_98_p, Bool.and_true]
  show mr_98.all _ = true
  unfold mr_98
  simp only [List.all_append, mk_98_0, mk_98_1, mk_98_2, mk_98_3, Bool.and_self]
theorem mk_99 : mm_all mi_99 = true := by decide +kernel
theorem mk_100 : mm_all mi_100 = true := by decide +kernel
theorem mk_101 : mm_all mi_101 = true := by decide +kernel
theorem mk_102 : mm_all mi_102 = true := by decide +kernel
theorem mk_103 : mm_all mi_103 = true := by decide +kernel
theorem mk_104 : mm_all mi_104 = true := by decide +kernel
theorem mk_105 : mm_all mi_105 = true := by decide +kernel
theorem mk_106 : mm_all mi_106 = true := by decide +kernel
theorem mk_107 : mm_all mi_107 = true := by decide +kernel
theorem mk_108 : mm_all mi_108 = true := by decide +kernel
theorem mk_109 : mm_all mi_109 = true := by decide +kernel
theorem mk_110 : mm_all mi_110 = true := by decide +kernel
theorem mk_111 : mm_all mi_111 = true := by decide +kernel
theorem mk_112 : mm_all mi_112 = true := by decide +kernel
theorem mk_113 : mm_all mi_113 = true := by decide +kernel
theorem mk_114 : mm_all mi_114 = true := by decide +kernel
theorem mk_115 : mm_all mi_115 = true := by decide +kernel
theorem mk_116 : mm_all mi_116 = true := by decide +kernel
theorem mk_117 : mm_all mi_117 = true := by decide +kernel
theorem mk_118 : mm_all mi_118 = true := by decide +kernel
theorem mk_119 : mm_all mi_119 = true := by decide +kernel
