set_option maxRecDepth 100000 in
theorem az_kc_130 : (az_ckc 130 && az_mok (az_m 130)) = true := by decide +kernel
set_option maxRecDepth 100000 in
theorem az_kc_131 : (az_ckc 131 && az_mok (az_m 131)) = true := by decide +kernel
set_option maxRecDepth 100000 in
theorem az_kc_132 : (az_ckc 132 && az_mok (az_m 132)) = true := by decide +kernel
set_option maxRecDepth 100000 in
theorem az_kc_133 : (az_ckc 133 && az_mok (az_m 133)) = true := by decide +kernel
set_option maxRecDepth 100000 in
theorem az_kc_134 : (az_ckc 134 && az_mok (az_m 134)) = true := by decide +kernel
set_option maxRecDepth 100000 in
theorem az_kc_135 : (az_ckc 135 && az_mok (az_m 135)) = true := by decide +kernel
set_option maxRecDepth 100000 in
theorem az_kc_136 : (az_ckc 136 && az_mok (az_m 136)) = true := by decide +kernel
set_option maxRecDepth 100000 in
theorem az_kc_137 : (az_ckc 137 && az_mok (az_m 137)) = true := by decide +kernel
set_option maxRecDepth 100000 in
theorem az_kc_138 : (az_ckc 138 && az_mok (az_m 138)) = true := by decide +kernel
set_option maxRecDepth 100000 in
theorem az_kc_139 : (az_ckc 139 && az_mok (az_m 139)) = true := by decide +kernel
set_option maxRecDepth 100000 in
theorem az_kc_140 : (az_ckc 140 && az_mok (az_m 140)) = true := by decide +kernel
set_option maxRecDepth 100000 in
theorem az_kc_141 : (az_ckc 141 && az_mok (az_m 141)) = true := by decide +kernel
set_option maxRecDepth 100000 in
theorem az_kc_142 : (az_ckc 142 && az_mok (az_m 142)) = true := by decide +kernel
set_option maxRecDepth 100000 in
theorem az_kc_143 : (az_ckc 143 && az_mok (az_m 143)) = true := by decide +kernel
set_option maxRecDepth 100000 in
theorem az_kc_144 : (az_ckc 144 && az_mok (az_m 144)) = true := by decide +kernel
set_option maxRecDepth 100000 in
theorem az_kc_145 : (az_ckc 145 && az_mok (az_m 145)) = true := by decide +kernel
set_option maxRecDepth 100000 in
theorem az_kc_146 : (az_ckc 146 && az_mok (az_m 146)) = true := by decide +kernel
set_option maxRecDepth 100000 in
theorem az_kc_147 : (az_ckc 147 && az_mok (az_m 147)) = true := by decide +kernel
set_option maxRecDepth 100000 in
theorem az_kc_148 : (az_ckc 148 && az_mok (az_m 148)) = true := by decide +kernel
set_option maxRecDepth 100000 in
theorem az_kc_149 : (az_ckc 149 && az_mok (az_m 149)) = true := by decide +kernel
set_option maxRecDepth 100000 in
theorem az_kc_150 : (az_ckc 150 && az_mok (az_m 150)) = true := by decide +kernel
set_option maxRecDepth 100000 in
theorem az_kc_151 : (az_ckc 151 && az_mok (az_m 151)) = true := by decide +kernel
set_option maxRecDepth 100000 in
theorem az_kc_152 : (az_ckc 152 && az_mok (az_m 152)) = true := by decide +kernel
set_option maxRecDepth 100000 in
theorem az_kc_153 : (az_ckc 153 && az_mok (az_m 153)) = true := by decide +kernel
set_option maxRecDepth 100000 in
theorem az_kc_154 : (az_ckc 154 && az_mok (az_m 154)) = true := by decide +kernel
set_option maxRecDepth 100000 in
theorem az_kc_155 : (az_ckc 155 && az_mok (az_m 155)) = true := by decide +kernel
set_option maxRecDepth 100000 in
theorem az_kc_156 : (az_ckc 156 && az_mok (az_m 156)) = true := by decide +kernel
set_option maxRecDepth 100000 in
theorem az_kc_157 : (az_ckc 157 && az_mok (az_m 157)) = true := by decide +kernel
set_option maxRecDepth 100000 in
theorem az_kc_158 : (az_ckc 158 && az_mok (az_m 158)) = true := by decide +kernel
set_option maxRecDepth 100000 in
theorem az_kc_159 : (az_ckc 159 && az_mok (az_m 159)) = true := by decide +kernel
set_option maxRecDepth 100000 in
theorem az_kc_160 : (az_ckc 160 && az_mok (az_m 160)) = true := by decide +kernel
set_option maxRecDepth 100000 in
theorem az_kc_161 : (az_ckc 161 && az_mok (az_m 161)) = true := by decide +kernel
set_option maxRecDepth 100000 in
theorem az_kc_162 : (az_ckc 162 && az_mok (az_m 162)) = true := by decide +kernel
set_option maxRecDepth 100000 in
theorem az_kc_163 : (az_ckc 163 && az_mok (az_m 163)) = true := by decide +kernel
set_option maxRecDepth 100000 in
theorem az_kc_164 : (az_ckc 164 && az_mok (az_m 164)) = true := by decide +kernel
set_option maxRecDepth 100000 in
theorem az_kc_165 : (az_ckc 165 && az_mok (az_m 165)) = true := by decide +kernel
set_option maxRecDepth 100000 in
theorem az_kc_166 : (az_ckc 166 && az_mok (az_m 166)) = true := by decide +kernel
set_option maxRecDepth 100000 in
theorem az_kc_167 : (az_ckc 167 && az_mok (az_m 167)) = true := by decide +kernel
set_option maxRecDepth 100000 in
theorem az_kc_168 : (az_ckc 168 && az_mok (az_m 168)) = true := by decide +kernel
set_option maxRecDepth 100000 in
theorem az_kc_169 : (az_ckc 169 && az_mok (az_m 169)) = true := by decide +kernel
set_option maxRecDepth 100000 in
theorem az_kc_170 : (az_ckc 170 && az_mok (az_m 170)) = true := by decide +kernel
set_option maxRecDepth 100000 in
theorem az_kc_171 : (az_ckc 171 && az_mok (az_m 171)) = true := by decide +kernel
set_option maxRecDepth 100000 in
theorem az_kc_172 : (az_ckc 172 && az_mok (az_m 172)) = true := by decide +kernel
set_option maxRecDepth 100000 in
theorem az_kc_173 : (az_ckc 173 && az_mok (az_m 173)) = true := by decide +kernel
set_option maxRecDepth 100000 in
theorem az_kc_174 : (az_ckc 174 && az_mok (az_m 174)) = true := by decide +kernel
set_option maxRecDepth 100000 in
theorem az_kc_175 : (az_ckc 175 && az_mok (az_m 175)) = true := by decide +kernel
set_option maxRecDepth 100000 in
theorem az_kc_176 : (az_ckc 176 && az_mok (az_m 176)) = true := by decide +kernel
set_option maxRecDepth 100000 in
theorem az_kc_177 : (az_ckc 177 && az_mok (az_m 177)) = true := by decide +kernel
set_option maxRecDepth 100000 in
theorem az_kc_178 : (az_ckc 178 && az_mok (az_m 178)) = true := by decide +kernel
set_option maxRecDepth 100000 in
theorem az_kc_179 : (az_ckc 179 && az_mok (az_m 179)) = true := by decide +kernel
set_option maxRecDepth 100000 in
theorem az_kc_180 : (az_ckc 180 && az_mok (az_m 180)) = true := by decide +kernel
set_option maxRecDepth 100000 in
theorem az_kc_181 : (az_ckc 181 && az_mok (az_m 181)) = true := by decide +kernel
set_option maxRecDepth 100000 in
theorem az_kc_182 : (az_ckc 182 && az_mok (az_m 182)) = true := by decide +kernel
set_option maxRecDepth 100000 in
theorem az_kc_183 : (az_ckc 183 && az_mok (az_m 183)) = true := by decide +kernel
set_option maxRecDepth 100000 in
theorem az_kc_184 : (az_ckc 184 && az_mok (az_m 184)) = true := by decide +kernel
set_option maxRecDepth 100000 in
theorem az_kc_185 : (az_ckc 185 && az_mok (az_m 185)) = true := by decide +kernel
set_option maxRecDepth 100000 in
theorem az_kc_186 : (az_ckc 186 && az_mok (az_m 186)) = true := by decide +kernel
set_option maxRecDepth 100000 in
theorem az_kc_187 : (az_ckc 187 && az_mok (az_m 187)) = true := by decide +kernel
set_option maxRecDepth 100000 in
theorem az_kc_188 : (az_ckc 188 && az_mok (az_m 188)) = true := by decide +kernel
set_option maxRecDepth 100000 in
theorem az_kc_189 : (az_ckc 189 && az_mok (az_m 189)) = true := by decide +kernel
set_option maxRecDepth 100000 in
theorem az_kc_190 : (az_ckc 190 && az_mok (az_m 190)) = true := by decide +kernel
set_option maxRecDepth 100000 in
theorem az_kc_191 : (az_ckc 191 && az_mok (az_m 191)) = true := by decide +kernel
set_option maxRecDepth 100000 in
theorem az_kc_192 : (az_ckc 192 && az_mok (az_m 192)) = true := by decide +kernel
set_option maxRecDepth 100000 in
theorem az_kc_193 : (az_ckc 193 && az_mok (az_m 193)) = true := by decide +kernel
set_option maxRecDepth 100000 in
theorem az_kc_194 : (az_ckc 194 && az_mok (az_m 194)) = true := by decide +kernel
set_option maxRecDepth 100000 in
theorem az_kc_195 : (az_ckc 195 && az_mok (az_m 195)) = true := by decide +kernel
set_option maxRecDepth 100000 in
theorem az_kc_196 : (az_ckc 196 && az_mok (az_m 196)) = true := by decide +kernel
set_option maxRecDepth 100000 in
theorem az_kc_197 : (az_ckc 197 && az_mok (az_m 197)) = true := by decide +kernel
set_option maxRecDepth 100000 in
theorem az_kc_198 : (az_ckc 198 && az_mok (az_m 198)) = true := by decide +kernel
set_option maxRecDepth 100000 in
theorem az_kc_199 : (az_ckc 199 && az_mok (az_m 199)) = true := by decide +kernel
set_option maxRecDepth 100000 in
theorem az_kc_200 : (az_ckc 200 && az_mok (az_m 200)) = true := by decide +kernel
set_option maxRecDepth 100000 in
theorem az_kc_201 : (az_ckc 201 && az_mok (az_m 201)) = true := by decide +kernel
set_option maxRecDepth 100000 in
theorem az_kc_202 : (az_ckc 202 && az_mok (az_m 202)) = true := by decide +kernel
set_option maxRecDepth 100000 in
theorem az_kc_203 : (az_ckc 203 && az_mok (az_m 203)) = true := by decide +kernel
set_option maxRecDepth 100000 in
theorem az_kc_204 : (az_ckc 204 && az_mok (az_m 204)) = true := by decide +kernel
set_option maxRecDepth 100000 in
theorem az_kc_205 : (az_ckc 205 && az_mok (az_m 205)) = true := by decide +kernel
set_option maxRecDepth 100000 in
theorem az_kc_206 : (az_ckc 206 && az_mok (az_m 206)) = true := by decide +kernel
set_option maxRecDepth 100000 in
theorem az_kc_207 : (az_ckc 207 && az_mok (az_m 207)) = true := by decide +kernel
set_option maxRecDepth 100000 in
theorem az_kc_208 : (az_ckc 208 && az_mok (az_m 208)) = true := by decide +kernel
set_option maxRecDepth 100000 in
theorem az_kc_209 : (az_ckc 209 && az_mok (az_m 209)) = true := by decide +kernel
set_option maxRecDepth 100000 in
theorem az_kc_210 : (az_ckc 210 && az_mok (az_m 210)) = true := by decide +kernel
set_option maxRecDepth 100000 in
theorem az_kc_211 : (az_ckc 211 && az_mok (az_m 211)) = true := by decide +kernel
set_option maxRecDepth 100000 in
theorem az_kc_212 : (az_ckc 212 && az_mok (az_m 212)) = true := by decide +kernel
set_option maxRecDepth 100000 in
theorem az_kc_213 : (az_ckc 213 && az_mok (az_m 213)) = true := by decide +kernel
set_option maxRecDepth 100000 in
theorem az_kc_214 : (az_ckc 214 && az_mok (az_m 214)) = true := by decide +kernel
set_option maxRecDepth 100000 in
theorem az_kc_215 : (az_ckc 215 && az_mok (az_m 215)) = true := by decide +kernel
set_option maxRecDepth 100000 in
theorem az_kc_216 : (az_ckc 216 && az_mok (az_m 216)) = true := by decide +kernel
set_option maxRecDepth 100000 in
theorem az_kc_217 : (az_ckc 217 && az_mok (az_m 217)) = true := by decide +kernel
set_option maxRecDepth 100000 in
theorem az_kc_218 : (az_ckc 218 && az_mok (az_m 218)) = true := by decide +kernel
set_option maxRecDepth 100000 in
theorem az_kc_219 : (az_ckc 219 && az_mok (az_m 219)) = true := by decide +kernel
set_option maxRecDepth 100000 in
theorem az_kc_220 : (az_ckc 220 && az_mok (az_m 220)) = true := by decide +kernel
set_option maxRecDepth 100000 in
theorem az_kc_221 : (az_ckc 221 && az_mok (az_m 221)) = true := by decide +kernel
set_option maxRecDepth 100000 in
theorem az_kc_222 : (az_ckc 222 && az_mok (az_m 222)) = true := by decide +kernel
set_option maxRecDepth 100000 in
theorem az_kc_223 : (az_ckc 223 && az_mok (az_m 223)) = true := by decide +kernel
set_option maxRecDepth 100000 in
theorem az_kc_224 : (az_ckc 224 && az_mok (az_m 224)) = true := by decide +kernel
set_option maxRecDepth 100000 in
theorem az_kc_225 : (az_ckc 225 && az_mok (az_m 225)) = true := by decide +kernel
set_option maxRecDepth 100000 in
theorem az_kc_226 : (az_ckc 226 && az_mok (az_m 226)) = true := by decide +kernel
set_option maxRecDepth 100000 in
theorem az_kc_227 : (az_ckc 227 && az_mok (az_m 227)) = true := by decide +kernel
set_option maxRecDepth 100000 in
theorem az_kc_228 : (az_ckc 228 && az_mok (az_m 228)) = true := by decide +kernel
set_option maxRecDepth 100000 in
theorem az_kc_229 : (az_ckc 229 && az_mok (az_m 229)) = true := by decide +kernel
set_option maxRecDepth 100000 in
theorem az_kc_230 : (az_ckc 230 && az_mok (az_m 230)) = true := by decide +kernel
set_option maxRecDepth 100000 in
theorem az_kc_231 : (az_ckc 231 && az_mok (az_m 231)) = true := by decide +kernel
set_option maxRecDepth 100000 in
theorem az_kc_232 : (az_ckc 232 && az_mok (az_m 232)) = true := by decide +kernel
set_option maxRecDepth 100000 in
theorem az_kc_233 : (az_ckc 233 && az_mok (az_m 233)) = true := by decide +kernel
set_option maxRecDepth 100000 in
theorem az_kc_234 : (az_ckc 234 && az_mok (az_m 234)) = true := by decide +kernel
set_option maxRecDepth 100000 in
theorem az_kc_235 : (az_ckc 235 && az_mok (az_m 235)) = true := by decide +kernel
set_option maxRecDepth 100000 in
theorem az_kc_236 : (az_ckc 236 && az_mok (az_m 236)) = true := by decide +kernel
set_option maxRecDepth 100000 in
theorem az_kc_237 : (az_ckc 237 && az_mok (az_m 237)) = true := by decide +kernel
set_option maxRecDepth 100000 in
theorem az_kc_238 : (az_ckc 238 && az_mok (az_m 238)) = true := by decide +kernel
set_option maxRecDepth 100000 in
theorem az_kc_239 : (az_ckc 239 && az_mok (az_m 239)) = true := by decide +kernel
set_option maxRecDepth 100000 in
theorem az_kc_240 : (az_ckc 240 && az_mok (az_m 240)) = true := by decide +kernel
set_option maxRecDepth 100000 in
theorem az_kc_241 : (az_ckc 241 && az_mok (az_m 241)) = true := by decide +kernel
set_option maxRecDepth 100000 in
theorem az_kc_242 : (az_ckc 242 && az_mok (az_m 242)) = true := by decide +kernel
set_option maxRecDepth 100000 in
theorem az_kc_243 : (az_ckc 243 && az_mok (az_m 243)) = true := by decide +kernel
set_option maxRecDepth 100000 in
theorem az_kc_244 : (az_ckc 244 && az_mok (az_m 244)) = true := by decide +kernel
set_option maxRecDepth 100000 in
theorem az_kc_245 : (az_ckc 245 && az_mok (az_m 245)) = true := by decide +kernel
set_option maxRecDepth 100000 in
theorem az_kc_246 : (az_ckc 246 && az_mok (az_m 246)) = true := by decide +kernel
set_option maxRecDepth 100000 in
theorem az_kc_247 : (az_ckc 247 && az_mok (az_m 247)) = true := by decide +kernel
set_option maxRecDepth 100000 in
theorem az_kc_248 : (az_ckc 248 && az_mok (az_m 248)) = true := by decide +kernel
set_option maxRecDepth 100000 in
theorem az_kc_249 : (az_ckc 249 && az_mok (az_m 249)) = true := by decide +kernel
set_option maxRecDepth 100000 in
theorem az_kc_250 : (az_ckc 250 && az_mok (az_m 250)) = true := by decide +kernel
set_option maxRecDepth 100000 in
theorem az_kc_251 : (az_ckc 251 && az_mok (az_m 251)) = true := by decide +kernel
set_option maxRecDepth 100000 in
theorem az_kc_252 : (az_ckc 252 && az_mok (az_m 252)) = true := by decide +kernel
set_option maxRecDepth 100000 in
theorem az_kc_253 : (az_ckc 253 && az_mok (az_m 253)) = true := by decide +kernel
set_option maxRecDepth 100000 in
theorem az_kc_254 : (az_ckc 254 && az_mok (az_m 254)) = true := by decide +kernel
set_option maxRecDepth 100000 in
theorem az_kc_255 : (az_ckc 255 && az_mok (az_m 255)) = true := by decide +kernel
set_option maxRecDepth 100000 in
theorem az_kc_256 : (az_ckc 256 && az_mok (az_m 256)) = true := by decide +kernel
set_option maxRecDepth 100000 in
theorem az_kc_257 : (az_ckc 257 && az_mok (az_m 257)) = true := by decide +kernel
