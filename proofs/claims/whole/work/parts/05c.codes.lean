/-! the tables agree with the code, method by method -/
set_option maxRecDepth 100000 in
theorem pk_118 : pgok 118 := by unfold pgok; decide +kernel
set_option maxRecDepth 100000 in
theorem pk_119 : pgok 119 := by unfold pgok; decide +kernel
set_option maxRecDepth 100000 in
theorem pk_120 : pgok 120 := by unfold pgok; decide +kernel
set_option maxRecDepth 100000 in
theorem pk_121 : pgok 121 := by unfold pgok; decide +kernel
set_option maxRecDepth 100000 in
theorem pk_122 : pgok 122 := by unfold pgok; decide +kernel
set_option maxRecDepth 100000 in
theorem pk_123 : pgok 123 := by unfold pgok; decide +kernel
set_option maxRecDepth 100000 in
theorem pk_124 : pgok 124 := by unfold pgok; decide +kernel
set_option maxRecDepth 100000 in
theorem pk_125 : pgok 125 := by unfold pgok; decide +kernel
set_option maxRecDepth 100000 in
theorem pk_126 : pgok 126 := by unfold pgok; decide +kernel
set_option maxRecDepth 100000 in
theorem pk_127 : pgok 127 := by unfold pgok; decide +kernel
set_option maxRecDepth 100000 in
theorem pk_128 : pgok 128 := by unfold pgok; decide +kernel
set_option maxRecDepth 100000 in
theorem pk_129 : pgok 129 := by unfold pgok; decide +kernel
set_option maxRecDepth 100000 in
theorem pk_130 : pgok 130 := by unfold pgok; decide +kernel
set_option maxRecDepth 100000 in
theorem pk_131 : pgok 131 := by unfold pgok; decide +kernel
set_option maxRecDepth 100000 in
theorem pk_132 : pgok 132 := by unfold pgok; decide +kernel
set_option maxRecDepth 100000 in
theorem pk_133 : pgok 133 := by unfold pgok; decide +kernel
set_option maxRecDepth 100000 in
theorem pk_134 : pgok 134 := by unfold pgok; decide +kernel
set_option maxRecDepth 100000 in
theorem pk_135 : pgok 135 := by unfold pgok; decide +kernel
set_option maxRecDepth 100000 in
theorem pk_136 : pgok 136 := by unfold pgok; decide +kernel
set_option maxRecDepth 100000 in
theorem pk_137 : pgok 137 := by unfold pgok; decide +kernel
set_option maxRecDepth 100000 in
theorem pk_138 : pgok 138 := by unfold pgok; decide +kernel
set_option maxRecDepth 100000 in
theorem pk_139 : pgok 139 := by unfold pgok; decide +kernel
set_option maxRecDepth 100000 in
theorem pk_140 : pgok 140 := by unfold pgok; decide +kernel
set_option maxRecDepth 100000 in
theorem pk_141 : pgok 141 := by unfold pgok; decide +kernel
set_option maxRecDepth 100000 in
theorem pk_142 : pgok 142 := by unfold pgok; decide +kernel
set_option maxRecDepth 100000 in
theorem pk_143 : pgok 143 := by unfold pgok; decide +kernel
set_option maxRecDepth 100000 in
theorem pk_144 : pgok 144 := by unfold pgok; decide +kernel
set_option maxRecDepth 100000 in
theorem pk_145 : pgok 145 := by unfold pgok; decide +kernel
set_option maxRecDepth 100000 in
theorem pk_146 : pgok 146 := by unfold pgok; decide +kernel
set_option maxRecDepth 100000 in
theorem pk_147 : pgok 147 := by unfold pgok; decide +kernel
set_option maxRecDepth 100000 in
theorem pk_148 : pgok 148 := by unfold pgok; decide +kernel
set_option maxRecDepth 100000 in
theorem pk_149 : pgok 149 := by unfold pgok; decide +kernel
set_option maxRecDepth 100000 in
theorem pk_150 : pgok 150 := by unfold pgok; decide +kernel
set_option maxRecDepth 100000 in
theorem pk_151 : pgok 151 := by unfold pgok; decide +kernel
set_option maxRecDepth 100000 in
theorem pk_152 : pgok 152 := by unfold pgok; decide +kernel
set_option maxRecDepth 100000 in
theorem pk_153 : pgok 153 := by unfold pgok; decide +kernel
set_option maxRecDepth 100000 in
theorem pk_154 : pgok 154 := by unfold pgok; decide +kernel
set_option maxRecDepth 100000 in
theorem pk_155 : pgok 155 := by unfold pgok; decide +kernel
set_option maxRecDepth 100000 in
theorem pk_156 : pgok 156 := by unfold pgok; decide +kernel
set_option maxRecDepth 100000 in
theorem pk_157 : pgok 157 := by unfold pgok; decide +kernel
set_option maxRecDepth 100000 in
theorem pk_158 : pgok 158 := by unfold pgok; decide +kernel
set_option maxRecDepth 100000 in
theorem pk_159 : pgok 159 := by unfold pgok; decide +kernel
set_option maxRecDepth 100000 in
theorem pk_160 : pgok 160 := by unfold pgok; decide +kernel
set_option maxRecDepth 100000 in
theorem pk_161 : pgok 161 := by unfold pgok; decide +kernel
set_option maxRecDepth 100000 in
theorem pk_162 : pgok 162 := by unfold pgok; decide +kernel
set_option maxRecDepth 100000 in
theorem pk_163 : pgok 163 := by unfold pgok; decide +kernel
set_option maxRecDepth 100000 in
theorem pk_164 : pgok 164 := by unfold pgok; decide +kernel
set_option maxRecDepth 100000 in
theorem pk_165 : pgok 165 := by unfold pgok; decide +kernel
set_option maxRecDepth 100000 in
theorem pk_166 : pgok 166 := by unfold pgok; decide +kernel
set_option maxRecDepth 100000 in
theorem pk_167 : pgok 167 := by unfold pgok; decide +kernel
set_option maxRecDepth 100000 in
theorem pk_168 : pgok 168 := by unfold pgok; decide +kernel
set_option maxRecDepth 100000 in
theorem pk_169 : pgok 169 := by unfold pgok; decide +kernel
set_option maxRecDepth 100000 in
theorem pk_170 : pgok 170 := by unfold pgok; decide +kernel
set_option maxRecDepth 100000 in
theorem pk_171 : pgok 171 := by unfold pgok; decide +kernel
set_option maxRecDepth 100000 in
theorem pk_172 : pgok 172 := by unfold pgok; decide +kernel
set_option maxRecDepth 100000 in
theorem pk_173 : pgok 173 := by unfold pgok; decide +kernel
set_option maxRecDepth 100000 in
theorem pk_174 : pgok 174 := by unfold pgok; decide +kernel
set_option maxRecDepth 100000 in
theorem pk_175 : pgok 175 := by unfold pgok; decide +kernel
set_option maxRecDepth 100000 in
theorem pk_176 : pgok 176 := by unfold pgok; decide +kernel
set_option maxRecDepth 100000 in
theorem pk_177 : pgok 177 := by unfold pgok; decide +kernel
set_option maxRecDepth 100000 in
theorem pk_178 : pgok 178 := by unfold pgok; decide +kernel
set_option maxRecDepth 100000 in
theorem pk_179 : pgok 179 := by unfold pgok; decide +kernel
set_option maxRecDepth 100000 in
theorem pk_180 : pgok 180 := by unfold pgok; decide +kernel
set_option maxRecDepth 100000 in
theorem pk_181 : pgok 181 := by unfold pgok; decide +kernel
set_option maxRecDepth 100000 in
theorem pk_182 : pgok 182 := by unfold pgok; decide +kernel
set_option maxRecDepth 100000 in
theorem pk_183 : pgok 183 := by unfold pgok; decide +kernel
set_option maxRecDepth 100000 in
theorem pk_184 : pgok 184 := by unfold pgok; decide +kernel
set_option maxRecDepth 100000 in
theorem pk_185 : pgok 185 := by unfold pgok; decide +kernel
