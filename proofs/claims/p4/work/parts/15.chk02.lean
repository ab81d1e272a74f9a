set_option maxRecDepth 1000000 in
theorem md_k196 : mm_chkM 196 md_L196 = true := by decide +kernel
set_option maxRecDepth 1000000 in
theorem md_k197 : mm_chkM 197 md_L197 = true := by decide +kernel
set_option maxRecDepth 1000000 in
theorem md_k198 : mm_chkM 198 md_L198 = true := by decide +kernel
set_option maxRecDepth 1000000 in
theorem md_k199 : mm_chkM 199 md_L199 = true := by decide +kernel
set_option maxRecDepth 1000000 in
theorem md_k200 : mm_chkM 200 md_L200 = true := by decide +kernel
set_option maxRecDepth 1000000 in
theorem md_k201 : mm_chkM 201 md_L201 = true := by decide +kernel
set_option maxRecDepth 1000000 in
theorem md_k202 : mm_chkM 202 md_L202 = true := by decide +kernel
set_option maxRecDepth 1000000 in
theorem md_k203 : mm_chkM 203 md_L203 = true := by decide +kernel
set_option maxRecDepth 1000000 in
theorem md_k204 : mm_chkM 204 md_L204 = true := by decide +kernel
set_option maxRecDepth 1000000 in
theorem md_k205 : mm_chkM 205 md_L205 = true := by decide +kernel
set_option maxRecDepth 1000000 in
theorem md_k206 : mm_chkM 206 md_L206 = true := by decide +kernel
set_option maxRecDepth 1000000 in
theorem md_k207 : mm_chkM 207 md_L207 = true := by decide +kernel
set_option maxRecDepth 1000000 in
theorem md_k208 : mm_chkM 208 md_L208 = true := by decide +kernel
set_option maxRecDepth 1000000 in
theorem md_k209 : mm_chkM 209 md_L209 = true := by decide +kernel
set_option maxRecDepth 1000000 in
theorem md_k210 : mm_chkM 210 md_L210 = true := by decide +kernel
set_option maxRecDepth 1000000 in
theorem md_k211 : mm_chkM 211 md_L211 = true := by decide +kernel
set_option maxRecDepth 1000000 in
theorem md_k212 : mm_chkM 212 md_L212 = true := by decide +kernel
set_option maxRecDepth 1000000 in
theorem md_k213 : mm_chkM 213 md_L213 = true := by decide +kernel
set_option maxRecDepth 1000000 in
theorem md_k214 : mm_chkM 214 md_L214 = true := by decide +kernel
set_option maxRecDepth 1000000 in
theorem md_k215 : mm_chkM 215 md_L215 = true := by decide +kernel
set_option maxRecDepth 1000000 in
theorem md_k216 : mm_chkM 216 md_L216 = true := by decide +kernel
set_option maxRecDepth 1000000 in
theorem md_k217 : mm_chkM 217 md_L217 = true := by decide +kernel
set_option maxRecDepth 1000000 in
theorem md_k218 : mm_chkM 218 md_L218 = true := by decide +kernel
set_option maxRecDepth 1000000 in
theorem md_k219 : mm_chkM 219 md_L219 = true := by decide +kernel
set_option maxRecDepth 1000000 in
theorem md_k220 : mm_chkM 220 md_L220 = true := by decide +kernel
set_option maxRecDepth 1000000 in
theorem md_k221 : mm_chkM 221 md_L221 = true := by decide +kernel
set_option maxRecDepth 1000000 in
theorem md_k222 : mm_chkM 222 md_L222 = true := by decide +kernel
set_option maxRecDepth 1000000 in
theorem md_k223 : mm_chkM 223 md_L223 = true := by decide +kernel
set_option maxRecDepth 1000000 in
theorem md_k224 : mm_chkM 224 md_L224 = true := by decide +kernel
set_option maxRecDepth 1000000 in
theorem md_k225 : mm_chkM 225 md_L225 = true := by decide +kernel
set_option maxRecDepth 1000000 in
theorem md_k226 : mm_chkM 226 md_L226 = true := by decide +kernel
set_option maxRecDepth 1000000 in
theorem md_k227 : mm_chkM 227 md_L227 = true := by decide +kernel
set_option maxRecDepth 1000000 in
theorem md_k228 : mm_chkM 228 md_L228 = true := by decide +kernel
set_option maxRecDepth 1000000 in
theorem md_k229 : mm_chkM 229 md_L229 = true := by decide +kernel
set_option maxRecDepth 1000000 in
theorem md_k230 : mm_chkM 230 md_L230 = true := by decide +kernel
set_option maxRecDepth 1000000 in
theorem md_k231 : mm_chkM 231 md_L231 = true := by decide +kernel
set_option maxRecDepth 1000000 in
theorem md_k232 : mm_chkM 232 md_L232 = true := by decide +kernel
set_option maxRecDepth 1000000 in
theorem md_k233 : mm_chkM 233 md_L233 = true := by decide +kernel
set_option maxRecDepth 1000000 in
theorem md_k234 : mm_chkM 234 md_L234 = true := by decide +kernel
set_option maxRecDepth 1000000 in
theorem md_k235 : mm_chkM 235 md_L235 = true := by decide +kernel
set_option maxRecDepth 1000000 in
theorem md_k236 : mm_chkM 236 md_L236 = true := by decide +kernel
set_option maxRecDepth 1000000 in
theorem md_k237 : mm_chkM 237 md_L237 = true := by decide +kernel
set_option maxRecDepth 1000000 in
theorem md_k238 : mm_chkM 238 md_L238 = true := by decide +kernel
set_option maxRecDepth 1000000 in
theorem md_k239 : mm_chkM 239 md_L239 = true := by decide +kernel
set_option maxRecDepth 1000000 in
theorem md_k240 : mm_chkM 240 md_L240 = true := by decide +kernel
set_option maxRecDepth 1000000 in
theorem md_k241 : mm_chkM 241 md_L241 = true := by decide +kernel
set_option maxRecDepth 1000000 in
theorem md_k242 : mm_chkM 242 md_L242 = true := by decide +kernel
set_option maxRecDepth 1000000 in
theorem md_k243 : mm_chkM 243 md_L243 = true := by decide +kernel
set_option maxRecDepth 1000000 in
theorem md_k244 : mm_chkM 244 md_L244 = true := by decide +kernel
set_option maxRecDepth 1000000 in
theorem md_k245 : mm_chkM 245 md_L245 = true := by decide +kernel
set_option maxRecDepth 1000000 in
theorem md_k246 : mm_chkM 246 md_L246 = true := by decide +kernel
set_option maxRecDepth 1000000 in
theorem md_k247 : mm_chkM 247 md_L247 = true := by decide +kernel
set_option maxRecDepth 1000000 in
theorem md_k248 : mm_chkM 248 md_L248 = true := by decide +kernel
set_option maxRecDepth 1000000 in
theorem md_k249 : mm_chkM 249 md_L249 = true := by decide +kernel
set_option maxRecDepth 1000000 in
theorem md_k250 : mm_chkM 250 md_L250 = true := by decide +kernel
set_option maxRecDepth 1000000 in
theorem md_k251 : mm_chkM 251 md_L251 = true := by decide +kernel
set_option maxRecDepth 1000000 in
theorem md_k252 : mm_chkM 252 md_L252 = true := by decide +kernel
set_option maxRecDepth 1000000 in
theorem md_k253 : mm_chkM 253 md_L253 = true := by decide +kernel
set_option maxRecDepth 1000000 in
theorem md_k254 : mm_chkM 254 md_L254 = true := by decide +kernel
set_option maxRecDepth 1000000 in
theorem md_k255 : mm_chkM 255 md_L255 = true := by decide +kernel
set_option maxRecDepth 1000000 in
theorem md_k256 : mm_chkM 256 md_L256 = true := by decide +kernel
set_option maxRecDepth 1000000 in
theorem md_k257 : mm_chkM 257 md_L257 = true := by decide +kernel
set_option maxRecDepth 1000000 in
theorem md_k258 : mm_chkM 258 md_L258 = true := by decide +kernel
set_option maxRecDepth 1000000 in
theorem md_k259 : mm_chkM 259 md_L259 = true := by decide +kernel
set_option maxRecDepth 1000000 in
theorem md_k260 : mm_chkM 260 md_L260 = true := by decide +kernel
set_option maxRecDepth 1000000 in
theorem md_k261 : mm_chkM 261 md_L261 = true := by decide +kernel
set_option maxRecDepth 1000000 in
theorem md_k262 : mm_chkM 262 md_L262 = true := by decide +kernel
set_option maxRecDepth 1000000 in
theorem md_k263 : mm_chkM 263 md_L263 = true := by decide +kernel
set_option maxRecDepth 1000000 in
theorem md_k264 : mm_chkM 264 md_L264 = true := by decide +kernel
set_option maxRecDepth 1000000 in
theorem md_k265 : mm_chkM 265 md_L265 = true := by decide +kernel
set_option maxRecDepth 1000000 in
theorem md_k266 : mm_chkM 266 md_L266 = true := by decide +kernel
set_option maxRecDepth 1000000 in
theorem md_k267 : mm_chkM 267 md_L267 = true := by decide +kernel
set_option maxRecDepth 1000000 in
theorem md_k268 : mm_chkM 268 md_L268 = true := by decide +kernel
set_option maxRecDepth 1000000 in
theorem md_k269 : mm_chkM 269 md_L269 = true := by decide +kernel
set_option maxRecDepth 1000000 in
theorem md_k270 : mm_chkM 270 md_L270 = true := by decide +kernel
set_option maxRecDepth 1000000 in
theorem md_k271 : mm_chkM 271 md_L271 = true := by decide +kernel
set_option maxRecDepth 1000000 in
theorem md_k272 : mm_chkM 272 md_L272 = true := by decide +kernel
set_option maxRecDepth 1000000 in
theorem md_k273 : mm_chkM 273 md_L273 = true := by decide +kernel
set_option maxRecDepth 1000000 in
theorem md_k274 : mm_chkM 274 md_L274 = true := by decide +kernel
set_option maxRecDepth 1000000 in
theorem md_k275 : mm_chkM 275 md_L275 = true := by decide +kernel
set_option maxRecDepth 1000000 in
theorem md_k276 : mm_chkM 276 md_L276 = true := by decide +kernel
set_option maxRecDepth 1000000 in
theorem md_k277 : mm_chkM 277 md_L277 = true := by decide +kernel
set_option maxRecDepth 1000000 in
theorem md_k278 : mm_chkM 278 md_L278 = true := by decide +kernel
set_option maxRecDepth 1000000 in
theorem md_k279 : mm_chkM 279 md_L279 = true := by decide +kernel
set_option maxRecDepth 1000000 in
theorem md_k280 : mm_chkM 280 md_L280 = true := by decide +kernel
set_option maxRecDepth 1000000 in
theorem md_k281 : mm_chkM 281 md_L281 = true := by decide +kernel
set_option maxRecDepth 1000000 in
theorem md_k282 : mm_chkM 282 md_L282 = true := by decide +kernel
set_option maxRecDepth 1000000 in
theorem md_k283 : mm_chkM 283 md_L283 = true := by decide +kernel
