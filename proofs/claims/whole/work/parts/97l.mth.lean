/-! Every method holds: 105 to 209. -/
set_option maxRecDepth 1000000 in
theorem mt_105 : mthC2 105 = true := by decide +kernel
set_option maxRecDepth 1000000 in
theorem mt_106 : mthC2 106 = true := by decide +kernel
set_option maxRecDepth 1000000 in
theorem mt_107 : mthC2 107 = true := by decide +kernel
set_option maxRecDepth 1000000 in
theorem mt_108 : mthC2 108 = true := by decide +kernel
set_option maxRecDepth 1000000 in
theorem mt_109 : mthC2 109 = true := by decide +kernel
set_option maxRecDepth 1000000 in
theorem mt_110 : mthC2 110 = true := by decide +kernel
set_option maxRecDepth 1000000 in
theorem mt_111 : mthC2 111 = true := by decide +kernel
set_option maxRecDepth 1000000 in
theorem mt_112 : mthC2 112 = true := by decide +kernel
set_option maxRecDepth 1000000 in
theorem mt_113 : mthC2 113 = true := by decide +kernel
set_option maxRecDepth 1000000 in
theorem mt_114 : mthC2 114 = true := by decide +kernel
set_option maxRecDepth 1000000 in
theorem mt_115 : mthC2 115 = true := by decide +kernel
set_option maxRecDepth 1000000 in
theorem mt_116 : mthC2 116 = true := by decide +kernel
set_option maxRecDepth 1000000 in
theorem mt_117 : mthC2 117 = true := by decide +kernel
set_option maxRecDepth 1000000 in
theorem mt_118 : mthC2 118 = true := by decide +kernel
set_option maxRecDepth 1000000 in
theorem mt_119 : mthC2 119 = true := by decide +kernel
set_option maxRecDepth 1000000 in
theorem mt_120 : mthC2 120 = true := by decide +kernel
set_option maxRecDepth 1000000 in
theorem mt_121 : mthC2 121 = true := by decide +kernel
set_option maxRecDepth 1000000 in
theorem mt_122 : mthC2 122 = true := by decide +kernel
set_option maxRecDepth 1000000 in
theorem mt_123 : mthC2 123 = true := by decide +kernel
set_option maxRecDepth 1000000 in
theorem mt_124 : mthC2 124 = true := by decide +kernel
set_option maxRecDepth 1000000 in
theorem mt_125 : mthC2 125 = true := by decide +kernel
set_option maxRecDepth 1000000 in
theorem mt_126 : mthC2 126 = true := by decide +kernel
set_option maxRecDepth 1000000 in
theorem mt_127 : mthC2 127 = true := by decide +kernel
set_option maxRecDepth 1000000 in
theorem mt_128 : mthC2 128 = true := by decide +kernel
set_option maxRecDepth 1000000 in
theorem mt_129 : mthC2 129 = true := by decide +kernel
set_option maxRecDepth 1000000 in
theorem mt_130 : mthC2 130 = true := by decide +kernel
set_option maxRecDepth 1000000 in
theorem mt_131 : mthC2 131 = true := by decide +kernel
set_option maxRecDepth 1000000 in
theorem mt_132 : mthC2 132 = true := by decide +kernel
set_option maxRecDepth 1000000 in
theorem mt_133 : mthC2 133 = true := by decide +kernel
set_option maxRecDepth 1000000 in
theorem mt_134 : mthC2 134 = true := by decide +kernel
set_option maxRecDepth 1000000 in
theorem mt_135 : mthC2 135 = true := by decide +kernel
set_option maxRecDepth 1000000 in
theorem mt_136 : mthC2 136 = true := by decide +kernel
set_option maxRecDepth 1000000 in
theorem mt_137 : mthC2 137 = true := by decide +kernel
set_option maxRecDepth 1000000 in
theorem mt_138 : mthC2 138 = true := by decide +kernel
set_option maxRecDepth 1000000 in
theorem mt_139 : mthC2 139 = true := by decide +kernel
set_option maxRecDepth 1000000 in
theorem mt_140 : mthC2 140 = true := by decide +kernel
set_option maxRecDepth 1000000 in
theorem mt_141 : mthC2 141 = true := by decide +kernel
set_option maxRecDepth 1000000 in
theorem mt_142 : mthC2 142 = true := by decide +kernel
set_option maxRecDepth 1000000 in
theorem mt_143 : mthC2 143 = true := by decide +kernel
set_option maxRecDepth 1000000 in
theorem mt_144 : mthC2 144 = true := by decide +kernel
set_option maxRecDepth 1000000 in
theorem mt_145 : mthC2 145 = true := by decide +kernel
set_option maxRecDepth 1000000 in
theorem mt_146 : mthC2 146 = true := by decide +kernel
set_option maxRecDepth 1000000 in
theorem mt_147 : mthC2 147 = true := by decide +kernel
set_option maxRecDepth 1000000 in
theorem mt_148 : mthC2 148 = true := by decide +kernel
set_option maxRecDepth 1000000 in
theorem mt_149 : mthC2 149 = true := by decide +kernel
set_option maxRecDepth 1000000 in
theorem mt_150 : mthC2 150 = true := by decide +kernel
set_option maxRecDepth 1000000 in
theorem mt_151 : mthC2 151 = true := by decide +kernel
set_option maxRecDepth 1000000 in
theorem mt_152 : mthC2 152 = true := by decide +kernel
set_option maxRecDepth 1000000 in
theorem mt_153 : mthC2 153 = true := by decide +kernel
set_option maxRecDepth 1000000 in
theorem mt_154 : mthC2 154 = true := by decide +kernel
set_option maxRecDepth 1000000 in
theorem mt_155 : mthC2 155 = true := by decide +kernel
set_option maxRecDepth 1000000 in
theorem mt_156 : mthC2 156 = true := by decide +kernel
set_option maxRecDepth 1000000 in
theorem mt_157 : mthC2 157 = true := by decide +kernel
set_option maxRecDepth 1000000 in
theorem mt_158 : mthC2 158 = true := by decide +kernel
set_option maxRecDepth 1000000 in
theorem mt_159 : mthC2 159 = true := by decide +kernel
set_option maxRecDepth 1000000 in
theorem mt_160 : mthC2 160 = true := by decide +kernel
set_option maxRecDepth 1000000 in
theorem mt_161 : mthC2 161 = true := by decide +kernel
set_option maxRecDepth 1000000 in
theorem mt_162 : mthC2 162 = true := by decide +kernel
set_option maxRecDepth 1000000 in
theorem mt_163 : mthC2 163 = true := by decide +kernel
set_option maxRecDepth 1000000 in
theorem mt_164 : mthC2 164 = true := by decide +kernel
set_option maxRecDepth 1000000 in
theorem mt_165 : mthC2 165 = true := by decide +kernel
set_option maxRecDepth 1000000 in
theorem mt_166 : mthC2 166 = true := by decide +kernel
set_option maxRecDepth 1000000 in
theorem mt_167 : mthC2 167 = true := by decide +kernel
set_option maxRecDepth 1000000 in
theorem mt_168 : mthC2 168 = true := by decide +kernel
set_option maxRecDepth 1000000 in
theorem mt_169 : mthC2 169 = true := by decide +kernel
set_option maxRecDepth 1000000 in
theorem mt_170 : mthC2 170 = true := by decide +kernel
set_option maxRecDepth 1000000 in
theorem mt_171 : mthC2 171 = true := by decide +kernel
set_option maxRecDepth 1000000 in
theorem mt_172 : mthC2 172 = true := by decide +kernel
set_option maxRecDepth 1000000 in
theorem mt_173 : mthC2 173 = true := by decide +kernel
set_option maxRecDepth 1000000 in
theorem mt_174 : mthC2 174 = true := by decide +kernel
set_option maxRecDepth 1000000 in
theorem mt_175 : mthC2 175 = true := by decide +kernel
set_option maxRecDepth 1000000 in
theorem mt_176 : mthC2 176 = true := by decide +kernel
set_option maxRecDepth 1000000 in
theorem mt_177 : mthC2 177 = true := by decide +kernel
set_option maxRecDepth 1000000 in
theorem mt_178 : mthC2 178 = true := by decide +kernel
set_option maxRecDepth 1000000 in
theorem mt_179 : mthC2 179 = true := by decide +kernel
set_option maxRecDepth 1000000 in
theorem mt_180 : mthC2 180 = true := by decide +kernel
set_option maxRecDepth 1000000 in
theorem mt_181 : mthC2 181 = true := by decide +kernel
set_option maxRecDepth 1000000 in
theorem mt_182 : mthC2 182 = true := by decide +kernel
set_option maxRecDepth 1000000 in
theorem mt_183 : mthC2 183 = true := by decide +kernel
set_option maxRecDepth 1000000 in
theorem mt_184 : mthC2 184 = true := by decide +kernel
set_option maxRecDepth 1000000 in
theorem mt_185 : mthC2 185 = true := by decide +kernel
set_option maxRecDepth 1000000 in
theorem mt_186 : mthC2 186 = true := by decide +kernel
set_option maxRecDepth 1000000 in
theorem mt_187 : mthC2 187 = true := by decide +kernel
set_option maxRecDepth 1000000 in
theorem mt_188 : mthC2 188 = true := by decide +kernel
set_option maxRecDepth 1000000 in
theorem mt_189 : mthC2 189 = true := by decide +kernel
set_option maxRecDepth 1000000 in
theorem mt_190 : mthC2 190 = true := by decide +kernel
set_option maxRecDepth 1000000 in
theorem mt_191 : mthC2 191 = true := by decide +kernel
set_option maxRecDepth 1000000 in
theorem mt_192 : mthC2 192 = true := by decide +kernel
set_option maxRecDepth 1000000 in
theorem mt_193 : mthC2 193 = true := by decide +kernel
set_option maxRecDepth 1000000 in
theorem mt_194 : mthC2 194 = true := by decide +kernel
set_option maxRecDepth 1000000 in
theorem mt_195 : mthC2 195 = true := by decide +kernel
set_option maxRecDepth 1000000 in
theorem mt_196 : mthC2 196 = true := by decide +kernel
set_option maxRecDepth 1000000 in
theorem mt_197 : mthC2 197 = true := by decide +kernel
set_option maxRecDepth 1000000 in
theorem mt_198 : mthC2 198 = true := by decide +kernel
set_option maxRecDepth 1000000 in
theorem mt_199 : mthC2 199 = true := by decide +kernel
set_option maxRecDepth 1000000 in
theorem mt_200 : mthC2 200 = true := by decide +kernel
set_option maxRecDepth 1000000 in
theorem mt_201 : mthC2 201 = true := by decide +kernel
set_option maxRecDepth 1000000 in
theorem mt_202 : mthC2 202 = true := by decide +kernel
set_option maxRecDepth 1000000 in
theorem mt_203 : mthC2 203 = true := by decide +kernel
set_option maxRecDepth 1000000 in
theorem mt_204 : mthC2 204 = true := by decide +kernel
set_option maxRecDepth 1000000 in
theorem mt_205 : mthC2 205 = true := by decide +kernel
set_option maxRecDepth 1000000 in
theorem mt_206 : mthC2 206 = true := by decide +kernel
set_option maxRecDepth 1000000 in
theorem mt_207 : mthC2 207 = true := by decide +kernel
set_option maxRecDepth 1000000 in
theorem mt_208 : mthC2 208 = true := by decide +kernel
set_option maxRecDepth 1000000 in
theorem mt_209 : mthC2 209 = true := by decide +kernel
