/-! the tables agree with the code, method by method -/
set_option maxRecDepth 100000 in
theorem pk_69 : pgok 69 := by unfold pgok; decide +kernel
set_option maxRecDepth 100000 in
theorem pk_70 : pgok 70 := by unfold pgok; decide +kernel
set_option maxRecDepth 100000 in
theorem pk_71 : pgok 71 := by unfold pgok; decide +kernel
set_option maxRecDepth 100000 in
theorem pk_72 : pgok 72 := by unfold pgok; decide +kernel
set_option maxRecDepth 100000 in
theorem pk_73 : pgok 73 := by unfold pgok; decide +kernel
set_option maxRecDepth 100000 in
theorem pk_74 : pgok 74 := by unfold pgok; decide +kernel
set_option maxRecDepth 100000 in
theorem pk_75 : pgok 75 := by unfold pgok; decide +kernel
set_option maxRecDepth 100000 in
theorem pk_76 : pgok 76 := by unfold pgok; decide +kernel
set_option maxRecDepth 100000 in
theorem pk_77 : pgok 77 := by unfold pgok; decide +kernel
set_option maxRecDepth 100000 in
theorem pk_78 : pgok 78 := by unfold pgok; decide +kernel
set_option maxRecDepth 100000 in
theorem pk_79 : pgok 79 := by unfold pgok; decide +kernel
set_option maxRecDepth 100000 in
theorem pk_80 : pgok 80 := by unfold pgok; decide +kernel
set_option maxRecDepth 100000 in
theorem pk_81 : pgok 81 := by unfold pgok; decide +kernel
set_option maxRecDepth 100000 in
theorem pk_82 : pgok 82 := by unfold pgok; decide +kernel
set_option maxRecDepth 100000 in
theorem pk_83 : pgok 83 := by unfold pgok; decide +kernel
set_option maxRecDepth 100000 in
theorem pk_84 : pgok 84 := by unfold pgok; decide +kernel
set_option maxRecDepth 100000 in
theorem pk_85 : pgok 85 := by unfold pgok; decide +kernel
set_option maxRecDepth 100000 in
theorem pk_86 : pgok 86 := by unfold pgok; decide +kernel
set_option maxRecDepth 100000 in
theorem pk_87 : pgok 87 := by unfold pgok; decide +kernel
set_option maxRecDepth 100000 in
theorem pk_88 : pgok 88 := by unfold pgok; decide +kernel
set_option maxRecDepth 100000 in
theorem pk_89 : pgok 89 := by unfold pgok; decide +kernel
set_option maxRecDepth 100000 in
theorem pk_90 : pgok 90 := by unfold pgok; decide +kernel
set_option maxRecDepth 100000 in
theorem pk_91 : pgok 91 := by unfold pgok; decide +kernel
set_option maxRecDepth 100000 in
theorem pk_92 : pgok 92 := by unfold pgok; decide +kernel
set_option maxRecDepth 100000 in
theorem pk_93 : pgok 93 := by unfold pgok; decide +kernel
set_option maxRecDepth 100000 in
theorem pk_94 : pgok 94 := by unfold pgok; decide +kernel
set_option maxRecDepth 100000 in
theorem pk_95 : pgok 95 := by unfold pgok; decide +kernel
set_option maxRecDepth 100000 in
theorem pk_96 : pgok 96 := by unfold pgok; decide +kernel
set_option maxRecDepth 100000 in
theorem pk_97 : pgok 97 := by unfold pgok; decide +kernel
set_option maxRecDepth 100000 in
theorem pk_98 : pgok 98 := by unfold pgok; decide +kernel
set_option maxRecDepth 100000 in
theorem pk_99 : pgok 99 := by unfold pgok; decide +kernel
set_option maxRecDepth 100000 in
theorem pk_100 : pgok 100 := by unfold pgok; decide +kernel
set_option maxRecDepth 100000 in
theorem pk_101 : pgok 101 := by unfold pgok; decide +kernel
set_option maxRecDepth 100000 in
theorem pk_102 : pgok 102 := by unfold pgok; decide +kernel
set_option maxRecDepth 100000 in
theorem pk_103 : pgok 103 := by unfold pgok; decide +kernel
set_option maxRecDepth 100000 in
theorem pk_104 : pgok 104 := by unfold pgok; decide +kernel
set_option maxRecDepth 100000 in
theorem pk_105 : pgok 105 := by unfold pgok; decide +kernel
set_option maxRecDepth 100000 in
theorem pk_106 : pgok 106 := by unfold pgok; decide +kernel
set_option maxRecDepth 100000 in
theorem pk_107 : pgok 107 := by unfold pgok; decide +kernel
set_option maxRecDepth 100000 in
theorem pk_108 : pgok 108 := by unfold pgok; decide +kernel
set_option maxRecDepth 100000 in
theorem pk_109 : pgok 109 := by unfold pgok; decide +kernel
set_option maxRecDepth 100000 in
theorem pk_110 : pgok 110 := by unfold pgok; decide +kernel
set_option maxRecDepth 100000 in
theorem pk_111 : pgok 111 := by unfold pgok; decide +kernel
set_option maxRecDepth 100000 in
theorem pk_112 : pgok 112 := by unfold pgok; decide +kernel
set_option maxRecDepth 100000 in
theorem pk_113 : pgok 113 := by unfold pgok; decide +kernel
set_option maxRecDepth 100000 in
theorem pk_114 : pgok 114 := by unfold pgok; decide +kernel
set_option maxRecDepth 100000 in
theorem pk_115 : pgok 115 := by unfold pgok; decide +kernel
set_option maxRecDepth 100000 in
theorem pk_116 : pgok 116 := by unfold pgok; decide +kernel
set_option maxRecDepth 100000 in
theorem pk_117 : pgok 117 := by unfold pgok; decide +kernel
