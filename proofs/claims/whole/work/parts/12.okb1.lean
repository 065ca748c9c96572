set_option maxRecDepth 20000 in
theorem okB_70 : okB pM m_70 = true := by decide +kernel
set_option maxRecDepth 20000 in
theorem okB_71 : okB pM m_71 = true := by decide +kernel
set_option maxRecDepth 20000 in
theorem okB_72 : okB pM m_72 = true := by decide +kernel
set_option maxRecDepth 20000 in
theorem okB_73 : okB pM m_73 = true := by decide +kernel
set_option maxRecDepth 20000 in
theorem okB_74 : okB pM m_74 = true := by decide +kernel
set_option maxRecDepth 20000 in
theorem okB_75 : okB pM m_75 = true := by decide +kernel
set_option maxRecDepth 20000 in
theorem okB_76 : okB pM m_76 = true := by decide +kernel
set_option maxRecDepth 20000 in
theorem okB_77 : okB pM m_77 = true := by decide +kernel
set_option maxRecDepth 20000 in
theorem okB_78 : okB pM m_78 = true := by decide +kernel
set_option maxRecDepth 20000 in
theorem okB_79 : okB pM m_79 = true := by decide +kernel
set_option maxRecDepth 20000 in
theorem okB_80 : okB pM m_80 = true := by decide +kernel
set_option maxRecDepth 20000 in
theorem okB_81 : okB pM m_81 = true := by decide +kernel
set_option maxRecDepth 20000 in
theorem okB_82 : okB pM m_82 = true := by decide +kernel
set_option maxRecDepth 20000 in
theorem okB_83 : okB pM m_83 = true := by decide +kernel
set_option maxRecDepth 20000 in
theorem okB_84 : okB pM m_84 = true := by decide +kernel
set_option maxRecDepth 20000 in
theorem okB_85 : okB pM m_85 = true := by decide +kernel
set_option maxRecDepth 20000 in
theorem okB_86 : okB pM m_86 = true := by decide +kernel
set_option maxRecDepth 20000 in
theorem okB_87 : okB pM m_87 = true := by decide +kernel
set_option maxRecDepth 20000 in
theorem okB_88 : okB pM m_88 = true := by decide +kernel
set_option maxRecDepth 20000 in
theorem okB_89 : okB pM m_89 = true := by decide +kernel
set_option maxRecDepth 20000 in
theorem okB_90 : okB pM m_90 = true := by decide +kernel
set_option maxRecDepth 20000 in
theorem okB_91 : okB pM m_91 = true := by decide +kernel
set_option maxRecDepth 20000 in
theorem okB_92 : okB pM m_92 = true := by decide +kernel
set_option maxRecDepth 20000 in
theorem okB_93 : okB pM m_93 = true := by decide +kernel
set_option maxRecDepth 20000 in
theorem okB_94 : okB pM m_94 = true := by decide +kernel
set_option maxRecDepth 20000 in
theorem okB_95 : okB pM m_95 = true := by decide +kernel
set_option maxRecDepth 20000 in
theorem okB_96 : okB pM m_96 = true := by decide +kernel
set_option maxRecDepth 20000 in
theorem okB_97 : okB pM m_97 = true := by decide +kernel
set_option maxRecDepth 20000 in
theorem okB_98 : okB pM m_98 = true := by decide +kernel
set_option maxRecDepth 20000 in
theorem okB_99 : okB pM m_99 = true := by decide +kernel
set_option maxRecDepth 20000 in
theorem okB_100 : okB pM m_100 = true := by decide +kernel
set_option maxRecDepth 20000 in
theorem okB_101 : okB pM m_101 = true := by decide +kernel
set_option maxRecDepth 20000 in
theorem okB_102 : okB pM m_102 = true := by decide +kernel
set_option maxRecDepth 20000 in
theorem okB_103 : okB pM m_103 = true := by decide +kernel
set_option maxRecDepth 20000 in
theorem okB_104 : okB pM m_104 = true := by decide +kernel
set_option maxRecDepth 20000 in
theorem okB_105 : okB pM m_105 = true := by decide +kernel
set_option maxRecDepth 20000 in
theorem okB_106 : okB pM m_106 = true := by decide +kernel
set_option maxRecDepth 20000 in
theorem okB_107 : okB pM m_107 = true := by decide +kernel
set_option maxRecDepth 20000 in
theorem okB_108 : okB pM m_108 = true := by decide +kernel
set_option maxRecDepth 20000 in
theorem okB_109 : okB pM m_109 = true := by decide +kernel
set_option maxRecDepth 20000 in
theorem okB_110 : okB pM m_110 = true := by decide +kernel
set_option maxRecDepth 20000 in
theorem okB_111 : okB pM m_111 = true := by decide +kernel
set_option maxRecDepth 20000 in
theorem okB_112 : okB pM m_112 = true := by decide +kernel
set_option maxRecDepth 20000 in
theorem okB_113 : okB pM m_113 = true := by decide +kernel
set_option maxRecDepth 20000 in
theorem okB_114 : okB pM m_114 = true := by decide +kernel
set_option maxRecDepth 20000 in
theorem okB_115 : okB pM m_115 = true := by decide +kernel
set_option maxRecDepth 20000 in
theorem okB_116 : okB pM m_116 = true := by decide +kernel
set_option maxRecDepth 20000 in
theorem okB_117 : okB pM m_117 = true := by decide +kernel
set_option maxRecDepth 20000 in
theorem okB_118 : okB pM m_118 = true := by decide +kernel
set_option maxRecDepth 20000 in
theorem okB_119 : okB pM m_119 = true := by decide +kernel
set_option maxRecDepth 20000 in
theorem okB_120 : okB pM m_120 = true := by decide +kernel
set_option maxRecDepth 20000 in
theorem okB_121 : okB pM m_121 = true := by decide +kernel
set_option maxRecDepth 20000 in
theorem okB_122 : okB pM m_122 = true := by decide +kernel
set_option maxRecDepth 20000 in
theorem okB_123 : okB pM m_123 = true := by decide +kernel
set_option maxRecDepth 20000 in
theorem okB_124 : okB pM m_124 = true := by decide +kernel
set_option maxRecDepth 20000 in
theorem okB_125 : okB pM m_125 = true := by decide +kernel
set_option maxRecDepth 20000 in
theorem okB_126 : okB pM m_126 = true := by decide +kernel
set_option maxRecDepth 20000 in
theorem okB_127 : okB pM m_127 = true := by decide +kernel
set_option maxRecDepth 20000 in
theorem okB_128 : okB pM m_128 = true := by decide +kernel
set_option maxRecDepth 20000 in
theorem okB_129 : okB pM m_129 = true := by decide +kernel
set_option maxRecDepth 20000 in
theorem okB_130 : okB pM m_130 = true := by decide +kernel
set_option maxRecDepth 20000 in
theorem okB_131 : okB pM m_131 = true := by decide +kernel
set_option maxRecDepth 20000 in
theorem okB_132 : okB pM m_132 = true := by decide +kernel
set_option maxRecDepth 20000 in
theorem okB_133 : okB pM m_133 = true := by decide +kernel
set_option maxRecDepth 20000 in
theorem okB_134 : okB pM m_134 = true := by decide +kernel
set_option maxRecDepth 20000 in
theorem okB_135 : okB pM m_135 = true := by decide +kernel
set_option maxRecDepth 20000 in
theorem okB_136 : okB pM m_136 = true := by decide +kernel
set_option maxRecDepth 20000 in
theorem okB_137 : okB pM m_137 = true := by decide +kernel
set_option maxRecDepth 20000 in
theorem okB_138 : okB pM m_138 = true := by decide +kernel
set_option maxRecDepth 20000 in
theorem okB_139 : okB pM m_139 = true := by decide +kernel
