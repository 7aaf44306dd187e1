/-! Every method holds: 105 to 209. -/
set_option maxRecDepth 1000000 in
theorem mh9_105 : mthC2 105 = true := by decide +kernel
set_option maxRecDepth 1000000 in
theorem mh9_106 : mthC2 106 = true := by decide +kernel
set_option maxRecDepth 1000000 in
theorem mh9_107 : mthC2 107 = true := by decide +kernel
set_option maxRecDepth 1000000 in
theorem mh9_108 : mthC2 108 = true := by decide +kernel
set_option maxRecDepth 1000000 in
theorem mh9_109 : mthC2 109 = true := by decide +kernel
set_option maxRecDepth 1000000 in
theorem mh9_110 : mthC2 110 = true := by decide +kernel
set_option maxRecDepth 1000000 in
theorem mh9_111 : mthC2 111 = true := by decide +kernel
set_option maxRecDepth 1000000 in
theorem mh9_112 : mthC2 112 = true := by decide +kernel
set_option maxRecDepth 1000000 in
theorem mh9_113 : mthC2 113 = true := by decide +kernel
set_option maxRecDepth 1000000 in
theorem mh9_114 : mthC2 114 = true := by decide +kernel
set_option maxRecDepth 1000000 in
theorem mh9_115 : mthC2 115 = true := by decide +kernel
set_option maxRecDepth 1000000 in
theorem mh9_116 : mthC2 116 = true := by decide +kernel
set_option maxRecDepth 1000000 in
theorem mh9_117 : mthC2 117 = true := by decide +kernel
set_option maxRecDepth 1000000 in
theorem mh9_118 : mthC2 118 = true := by decide +kernel
set_option maxRecDepth 1000000 in
theorem mh9_119 : mthC2 119 = true := by decide +kernel
set_option maxRecDepth 1000000 in
theorem mh9_120 : mthC2 120 = true := by decide +kernel
set_option maxRecDepth 1000000 in
theorem mh9_121 : mthC2 121 = true := by decide +kernel
set_option maxRecDepth 1000000 in
theorem mh9_122 : mthC2 122 = true := by decide +kernel
set_option maxRecDepth 1000000 in
theorem mh9_123 : mthC2 123 = true := by decide +kernel
set_option maxRecDepth 1000000 in
theorem mh9_124 : mthC2 124 = true := by decide +kernel
set_option maxRecDepth 1000000 in
theorem mh9_125 : mthC2 125 = true := by decide +kernel
set_option maxRecDepth 1000000 in
theorem mh9_126 : mthC2 126 = true := by decide +kernel
set_option maxRecDepth 1000000 in
theorem mh9_127 : mthC2 127 = true := by decide +kernel
set_option maxRecDepth 1000000 in
theorem mh9_128 : mthC2 128 = true := by decide +kernel
set_option maxRecDepth 1000000 in
theorem mh9_129 : mthC2 129 = true := by decide +kernel
set_option maxRecDepth 1000000 in
theorem mh9_130 : mthC2 130 = true := by decide +kernel
set_option maxRecDepth 1000000 in
theorem mh9_131 : mthC2 131 = true := by decide +kernel
set_option maxRecDepth 1000000 in
theorem mh9_132 : mthC2 132 = true := by decide +kernel
set_option maxRecDepth 1000000 in
theorem mh9_133 : mthC2 133 = true := by decide +kernel
set_option maxRecDepth 1000000 in
theorem mh9_134 : mthC2 134 = true := by decide +kernel
set_option maxRecDepth 1000000 in
theorem mh9_135 : mthC2 135 = true := by decide +kernel
set_option maxRecDepth 1000000 in
theorem mh9_136 : mthC2 136 = true := by decide +kernel
set_option maxRecDepth 1000000 in
theorem mh9_137 : mthC2 137 = true := by decide +kernel
set_option maxRecDepth 1000000 in
theorem mh9_138 : mthC2 138 = true := by decide +kernel
set_option maxRecDepth 1000000 in
theorem mh9_139 : mthC2 139 = true := by decide +kernel
set_option maxRecDepth 1000000 in
theorem mh9_140 : mthC2 140 = true := by decide +kernel
set_option maxRecDepth 1000000 in
theorem mh9_141 : mthC2 141 = true := by decide +kernel
set_option maxRecDepth 1000000 in
theorem mh9_142 : mthC2 142 = true := by decide +kernel
set_option maxRecDepth 1000000 in
theorem mh9_143 : mthC2 143 = true := by decide +kernel
set_option maxRecDepth 1000000 in
theorem mh9_144 : mthC2 144 = true := by decide +kernel
set_option maxRecDepth 1000000 in
theorem mh9_145 : mthC2 145 = true := by decide +kernel
set_option maxRecDepth 1000000 in
theorem mh9_146 : mthC2 146 = true := by decide +kernel
set_option maxRecDepth 1000000 in
theorem mh9_147 : mthC2 147 = true := by decide +kernel
set_option maxRecDepth 1000000 in
theorem mh9_148 : mthC2 148 = true := by decide +kernel
set_option maxRecDepth 1000000 in
theorem mh9_149 : mthC2 149 = true := by decide +kernel
set_option maxRecDepth 1000000 in
theorem mh9_150 : mthC2 150 = true := by decide +kernel
set_option maxRecDepth 1000000 in
theorem mh9_151 : mthC2 151 = true := by decide +kernel
set_option maxRecDepth 1000000 in
theorem mh9_152 : mthC2 152 = true := by decide +kernel
set_option maxRecDepth 1000000 in
theorem mh9_153 : mthC2 153 = true := by decide +kernel
set_option maxRecDepth 1000000 in
theorem mh9_154 : mthC2 154 = true := by decide +kernel
set_option maxRecDepth 1000000 in
theorem mh9_155 : mthC2 155 = true := by decide +kernel
set_option maxRecDepth 1000000 in
theorem mh9_156 : mthC2 156 = true := by decide +kernel
set_option maxRecDepth 1000000 in
theorem mh9_157 : mthC2 157 = true := by decide +kernel
set_option maxRecDepth 1000000 in
theorem mh9_158 : mthC2 158 = true := by decide +kernel
set_option maxRecDepth 1000000 in
theorem mh9_159 : mthC2 159 = true := by decide +kernel
set_option maxRecDepth 1000000 in
theorem mh9_160 : mthC2 160 = true := by decide +kernel
set_option maxRecDepth 1000000 in
theorem mh9_161 : mthC2 161 = true := by decide +kernel
set_option maxRecDepth 1000000 in
theorem mh9_162 : mthC2 162 = true := by decide +kernel
set_option maxRecDepth 1000000 in
theorem mh9_163 : mthC2 163 = true := by decide +kernel
set_option maxRecDepth 1000000 in
theorem mh9_164 : mthC2 164 = true := by decide +kernel
set_option maxRecDepth 1000000 in
theorem mh9_165 : mthC2 165 = true := by decide +kernel
set_option maxRecDepth 1000000 in
theorem mh9_166 : mthC2 166 = true := by decide +kernel
set_option maxRecDepth 1000000 in
theorem mh9_167 : mthC2 167 = true := by decide +kernel
set_option maxRecDepth 1000000 in
theorem mh9_168 : mthC2 168 = true := by decide +kernel
set_option maxRecDepth 1000000 in
theorem mh9_169 : mthC2 169 = true := by decide +kernel
set_option maxRecDepth 1000000 in
theorem mh9_170 : mthC2 170 = true := by decide +kernel
set_option maxRecDepth 1000000 in
theorem mh9_171 : mthC2 171 = true := by decide +kernel
set_option maxRecDepth 1000000 in
theorem mh9_172 : mthC2 172 = true := by decide +kernel
set_option maxRecDepth 1000000 in
theorem mh9_173 : mthC2 173 = true := by decide +kernel
set_option maxRecDepth 1000000 in
theorem mh9_174 : mthC2 174 = true := by decide +kernel
set_option maxRecDepth 1000000 in
theorem mh9_175 : mthC2 175 = true := by decide +kernel
set_option maxRecDepth 1000000 in
theorem mh9_176 : mthC2 176 = true := by decide +kernel
set_option maxRecDepth 1000000 in
theorem mh9_177 : mthC2 177 = true := by decide +kernel
set_option maxRecDepth 1000000 in
theorem mh9_178 : mthC2 178 = true := by decide +kernel
set_option maxRecDepth 1000000 in
theorem mh9_179 : mthC2 179 = true := by decide +kernel
set_option maxRecDepth 1000000 in
theorem mh9_180 : mthC2 180 = true := by decide +kernel
set_option maxRecDepth 1000000 in
theorem mh9_181 : mthC2 181 = true := by decide +kernel
set_option maxRecDepth 1000000 in
theorem mh9_182 : mthC2 182 = true := by decide +kernel
set_option maxRecDepth 1000000 in
theorem mh9_183 : mthC2 183 = true := by decide +kernel
set_option maxRecDepth 1000000 in
theorem mh9_184 : mthC2 184 = true := by decide +kernel
set_option maxRecDepth 1000000 in
theorem mh9_185 : mthC2 185 = true := by decide +kernel
set_option maxRecDepth 1000000 in
theorem mh9_186 : mthC2 186 = true := by decide +kernel
set_option maxRecDepth 1000000 in
theorem mh9_187 : mthC2 187 = true := by decide +kernel
set_option maxRecDepth 1000000 in
theorem mh9_188 : mthC2 188 = true := by decide +kernel
set_option maxRecDepth 1000000 in
theorem mh9_189 : mthC2 189 = true := by decide +kernel
set_option maxRecDepth 1000000 in
theorem mh9_190 : mthC2 190 = true := by decide +kernel
set_option maxRecDepth 1000000 in
theorem mh9_191 : mthC2 191 = true := by decide +kernel
set_option maxRecDepth 1000000 in
theorem mh9_192 : mthC2 192 = true := by decide +kernel
set_option maxRecDepth 1000000 in
theorem mh9_193 : mthC2 193 = true := by decide +kernel
set_option maxRecDepth 1000000 in
theorem mh9_194 : mthC2 194 = true := by decide +kernel
set_option maxRecDepth 1000000 in
theorem mh9_195 : mthC2 195 = true := by decide +kernel
set_option maxRecDepth 1000000 in
theorem mh9_196 : mthC2 196 = true := by decide +kernel
set_option maxRecDepth 1000000 in
theorem mh9_197 : mthC2 197 = true := by decide +kernel
set_option maxRecDepth 1000000 in
theorem mh9_198 : mthC2 198 = true := by decide +kernel
set_option maxRecDepth 1000000 in
theorem mh9_199 : mthC2 199 = true := by decide +kernel
set_option maxRecDepth 1000000 in
theorem mh9_200 : mthC2 200 = true := by decide +kernel
set_option maxRecDepth 1000000 in
theorem mh9_201 : mthC2 201 = true := by decide +kernel
set_option maxRecDepth 1000000 in
theorem mh9_202 : mthC2 202 = true := by decide +kernel
set_option maxRecDepth 1000000 in
theorem mh9_203 : mthC2 203 = true := by decide +kernel
set_option maxRecDepth 1000000 in
theorem mh9_204 : mthC2 204 = true := by decide +kernel
set_option maxRecDepth 1000000 in
theorem mh9_205 : mthC2 205 = true := by decide +kernel
set_option maxRecDepth 1000000 in
theorem mh9_206 : mthC2 206 = true := by decide +kernel
set_option maxRecDepth 1000000 in
theorem mh9_207 : mthC2 207 = true := by decide +kernel
set_option maxRecDepth 1000000 in
theorem mh9_208 : mthC2 208 = true := by decide +kernel
set_option maxRecDepth 1000000 in
theorem mh9_209 : mthC2 209 = true := by decide +kernel
