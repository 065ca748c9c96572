set_option maxRecDepth 20000 in
theorem okB_140 : okB pM m_140 = true := by decide +kernel
set_option maxRecDepth 20000 in
theorem okB_141 : okB pM m_141 = true := by decide +kernel
set_option maxRecDepth 20000 in
theorem okB_142 : okB pM m_142 = true := by decide +kernel
set_option maxRecDepth 20000 in
theorem okB_143 : okB pM m_143 = true := by decide +kernel
set_option maxRecDepth 20000 in
theorem okB_144 : okB pM m_144 = true := by decide +kernel
set_option maxRecDepth 20000 in
theorem okB_145 : okB pM m_145 = true := by decide +kernel
set_option maxRecDepth 20000 in
theorem okB_146 : okB pM m_146 = true := by decide +kernel
set_option maxRecDepth 20000 in
theorem okB_147 : okB pM m_147 = true := by decide +kernel
set_option maxRecDepth 20000 in
theorem okB_148 : okB pM m_148 = true := by decide +kernel
set_option maxRecDepth 20000 in
theorem okB_149 : okB pM m_149 = true := by decide +kernel
set_option maxRecDepth 20000 in
theorem okB_150 : okB pM m_150 = true := by decide +kernel
set_option maxRecDepth 20000 in
theorem okB_151 : okB pM m_151 = true := by decide +kernel
set_option maxRecDepth 20000 in
theorem okB_152 : okB pM m_152 = true := by decide +kernel
set_option maxRecDepth 20000 in
theorem okB_153 : okB pM m_153 = true := by decide +kernel
set_option maxRecDepth 20000 in
theorem okB_154 : okB pM m_154 = true := by decide +kernel
set_option maxRecDepth 20000 in
theorem okB_155 : okB pM m_155 = true := by decide +kernel
set_option maxRecDepth 20000 in
theorem okB_156 : okB pM m_156 = true := by decide +kernel
set_option maxRecDepth 20000 in
theorem okB_157 : okB pM m_157 = true := by decide +kernel
set_option maxRecDepth 20000 in
theorem okB_158 : okB pM m_158 = true := by decide +kernel
set_option maxRecDepth 20000 in
theorem okB_159 : okB pM m_159 = true := by decide +kernel
set_option maxRecDepth 20000 in
theorem okB_160 : okB pM m_160 = true := by decide +kernel
set_option maxRecDepth 20000 in
theorem okB_161 : okB pM m_161 = true := by decide +kernel
set_option maxRecDepth 20000 in
theorem okB_162 : okB pM m_162 = true := by decide +kernel
set_option maxRecDepth 20000 in
theorem okB_163 : okB pM m_163 = true := by decide +kernel
set_option maxRecDepth 20000 in
theorem okB_164 : okB pM m_164 = true := by decide +kernel
set_option maxRecDepth 20000 in
theorem okB_165 : okB pM m_165 = true := by decide +kernel
set_option maxRecDepth 20000 in
theorem okB_166 : okB pM m_166 = true := by decide +kernel
set_option maxRecDepth 20000 in
theorem okB_167 : okB pM m_167 = true := by decide +kernel
set_option maxRecDepth 20000 in
theorem okB_168 : okB pM m_168 = true := by decide +kernel
set_option maxRecDepth 20000 in
theorem okB_169 : okB pM m_169 = true := by decide +kernel
set_option maxRecDepth 20000 in
theorem okB_170 : okB pM m_170 = true := by decide +kernel
set_option maxRecDepth 20000 in
theorem okB_171 : okB pM m_171 = true := by decide +kernel
set_option maxRecDepth 20000 in
theorem okB_172 : okB pM m_172 = true := by decide +kernel
set_option maxRecDepth 20000 in
theorem okB_173 : okB pM m_173 = true := by decide +kernel
set_option maxRecDepth 20000 in
theorem okB_174 : okB pM m_174 = true := by decide +kernel
set_option maxRecDepth 20000 in
theorem okB_175 : okB pM m_175 = true := by decide +kernel
set_option maxRecDepth 20000 in
theorem okB_176 : okB pM m_176 = true := by decide +kernel
set_option maxRecDepth 20000 in
theorem okB_177 : okB pM m_177 = true := by decide +kernel
set_option maxRecDepth 20000 in
theorem okB_178 : okB pM m_178 = true := by decide +kernel
set_option maxRecDepth 20000 in
theorem okB_179 : okB pM m_179 = true := by decide +kernel
set_option maxRecDepth 20000 in
theorem okB_180 : okB pM m_180 = true := by decide +kernel
set_option maxRecDepth 20000 in
theorem okB_181 : okB pM m_181 = true := by decide +kernel
set_option maxRecDepth 20000 in
theorem okB_182 : okB pM m_182 = true := by decide +kernel
set_option maxRecDepth 20000 in
theorem okB_183 : okB pM m_183 = true := by decide +kernel
set_option maxRecDepth 20000 in
theorem okB_184 : okB pM m_184 = true := by decide +kernel
set_option maxRecDepth 20000 in
theorem okB_185 : okB pM m_185 = true := by decide +kernel
set_option maxRecDepth 20000 in
theorem okB_186 : okB pM m_186 = true := by decide +kernel
set_option maxRecDepth 20000 in
theorem okB_187 : okB pM m_187 = true := by decide +kernel
set_option maxRecDepth 20000 in
theorem okB_188 : okB pM m_188 = true := by decide +kernel
set_option maxRecDepth 20000 in
theorem okB_189 : okB pM m_189 = true := by decide +kernel
set_option maxRecDepth 20000 in
theorem okB_190 : okB pM m_190 = true := by decide +kernel
set_option maxRecDepth 20000 in
theorem okB_191 : okB pM m_191 = true := by decide +kernel
set_option maxRecDepth 20000 in
theorem okB_192 : okB pM m_192 = true := by decide +kernel
set_option maxRecDepth 20000 in
theorem okB_193 : okB pM m_193 = true := by decide +kernel
set_option maxRecDepth 20000 in
theorem okB_194 : okB pM m_194 = true := by decide +kernel
set_option maxRecDepth 20000 in
theorem okB_195 : okB pM m_195 = true := by decide +kernel
set_option maxRecDepth 20000 in
theorem okB_196 : okB pM m_196 = true := by decide +kernel
set_option maxRecDepth 20000 in
theorem okB_197 : okB pM m_197 = true := by decide +kernel
set_option maxRecDepth 20000 in
theorem okB_198 : okB pM m_198 = true := by decide +kernel
set_option maxRecDepth 20000 in
theorem okB_199 : okB pM m_199 = true := by decide +kernel
set_option maxRecDepth 20000 in
theorem okB_200 : okB pM m_200 = true := by decide +kernel
set_option maxRecDepth 20000 in
theorem okB_201 : okB pM m_201 = true := by decide +kernel
set_option maxRecDepth 20000 in
theorem okB_202 : okB pM m_202 = true := by decide +kernel
set_option maxRecDepth 20000 in
theorem okB_203 : okB pM m_203 = true := by decide +kernel
set_option maxRecDepth 20000 in
theorem okB_204 : okB pM m_204 = true := by decide +kernel
set_option maxRecDepth 20000 in
theorem okB_205 : okB pM m_205 = true := by decide +kernel
set_option maxRecDepth 20000 in
theorem okB_206 : okB pM m_206 = true := by decide +kernel
set_option maxRecDepth 20000 in
theorem okB_207 : okB pM m_207 = true := by decide +kernel
set_option maxRecDepth 20000 in
theorem okB_208 : okB pM m_208 = true := by decide +kernel
set_option maxRecDepth 20000 in
theorem okB_209 : okB pM m_209 = true := by decide +kernel
