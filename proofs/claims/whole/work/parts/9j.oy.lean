/-! the start: what holds there -/
theorem kN {M : Mem} {k a : Nat} (h : a ≠ k) : (uN M k).1 a = M.1 a := by
  funext b
  exact if_neg h
theorem kI {M : Mem} {k j a : Nat} {v : Int32} (h : a ≠ k) : (uI M k j v).1 a = M.1 a := by
  funext b
  exact if_neg (fun x => h x.1)
theorem kF {M : Mem} {k n a : Nat} {v : Int32} (h : a ≠ k) : (flI M k n v).1 a = M.1 a := by
  funext b
  exact if_neg (fun x => h x.1)
theorem kR {M : Mem} {k j a : Nat} {v : Option Nat} : (uR M k j v).1 a = M.1 a := rfl
theorem zN {M : Mem} {k a b : Nat} (h : M.1 a b = 0) : (uN M k).1 a b = 0 := by
  show (if a = k then 0 else M.1 a b) = 0
  split
  · rfl
  · exact h
theorem zI {M : Mem} {k j a b : Nat} {v : Int32} (h : b ≠ j) (h0 : M.1 a b = 0) : (uI M k j v).1 a b = 0 := by
  show (if a = k ∧ b = j then v else M.1 a b) = 0
  rw [if_neg (fun x => h x.2)]
  exact h0
theorem zF {M : Mem} {k n a b : Nat} {v : Int32} (h : ¬ b < n) (h0 : M.1 a b = 0) : (flI M k n v).1 a b = 0 := by
  show (if a = k ∧ b < n then v else M.1 a b) = 0
  rw [if_neg (fun x => h x.2)]
  exact h0
theorem zR {M : Mem} {k j a b : Nat} {v : Option Nat} (h : M.1 a b = 0) : (uR M k j v).1 a b = 0 := h
theorem ch_s {a : Nat} (ha : a < 33) : CX519.1 a = CX92.1 a := by
  have t92 : CX92.1 a = CX92.1 a := rfl
  have t93 : CX93.1 a = CX92.1 a := Eq.trans (kR) t92
  have t94 : CX94.1 a = CX92.1 a := Eq.trans (kN (by omega)) t93
  have t95 : CX95.1 a = CX92.1 a := Eq.trans (kR) t94
  have t96 : CX96.1 a = CX92.1 a := Eq.trans (kN (by omega)) t95
  have t97 : CX97.1 a = CX92.1 a := Eq.trans (kR) t96
  have t98 : CX98.1 a = CX92.1 a := Eq.trans (kN (by omega)) t97
  have t99 : CX99.1 a = CX92.1 a := Eq.trans (kN (by omega)) t98
  have t100 : CX100.1 a = CX92.1 a := Eq.trans (kR) t99
  have t101 : CX101.1 a = CX92.1 a := Eq.trans (kN (by omega)) t100
  have t102 : CX102.1 a = CX92.1 a := Eq.trans (kR) t101
  have t103 : CX103.1 a = CX92.1 a := Eq.trans (kN (by omega)) t102
  have t104 : CX104.1 a = CX92.1 a := Eq.trans (kR) t103
  have t105 : CX105.1 a = CX92.1 a := Eq.trans (kN (by omega)) t104
  have t106 : CX106.1 a = CX92.1 a := Eq.trans (kR) t105
  have t107 : CX107.1 a = CX92.1 a := Eq.trans (kN (by omega)) t106
  have t108 : CX108.1 a = CX92.1 a := Eq.trans (kR) t107
  have t109 : CX109.1 a = CX92.1 a := Eq.trans (kN (by omega)) t108
  have t110 : CX110.1 a = CX92.1 a := Eq.trans (kR) t109
  have t111 : CX111.1 a = CX92.1 a := Eq.trans (kN (by omega)) t110
  have t112 : CX112.1 a = CX92.1 a := Eq.trans (kN (by omega)) t111
  have t113 : CX113.1 a = CX92.1 a := Eq.trans (kR) t112
  have t114 : CX114.1 a = CX92.1 a := Eq.trans (kI (by omega)) t113
  have t115 : CX115.1 a = CX92.1 a := Eq.trans (kI (by omega)) t114
  have t116 : CX116.1 a = CX92.1 a := Eq.trans (kI (by omega)) t115
  have t117 : CX117.1 a = CX92.1 a := Eq.trans (kN (by omega)) t116
  have t118 : CX118.1 a = CX92.1 a := Eq.trans (kR) t117
  have t119 : CX119.1 a = CX92.1 a := Eq.trans (kI (by omega)) t118
  have t120 : CX120.1 a = CX92.1 a := Eq.trans (kI (by omega)) t119
  have t121 : CX121.1 a = CX92.1 a := Eq.trans (kN (by omega)) t120
  have t122 : CX122.1 a = CX92.1 a := Eq.trans (kR) t121
  have t123 : CX123.1 a = CX92.1 a := Eq.trans (kF (by omega)) t122
  have t124 : CX124.1 a = CX92.1 a := Eq.trans (kF (by omega)) t123
  have t125 : CX125.1 a = CX92.1 a := Eq.trans (kR) t124
  have t126 : CX126.1 a = CX92.1 a := Eq.trans (kR) t125
  have t127 : CX127.1 a = CX92.1 a := Eq.trans (kR) t126
  have t128 : CX128.1 a = CX92.1 a := Eq.trans (kR) t127
  have t129 : CX129.1 a = CX92.1 a := Eq.trans (kN (by omega)) t128
  have t130 : CX130.1 a = CX92.1 a := Eq.trans (kN (by omega)) t129
  have t131 : CX131.1 a = CX92.1 a := Eq.trans (kR) t130
  have t132 : CX132.1 a = CX92.1 a := Eq.trans (kR) t131
  have t133 : CX133.1 a = CX92.1 a := Eq.trans (kN (by omega)) t132
  have t134 : CX134.1 a = CX92.1 a := Eq.trans (kN (by omega)) t133
  have t135 : CX135.1 a = CX92.1 a := Eq.trans (kR) t134
  have t136 : CX136.1 a = CX92.1 a := Eq.trans (kN (by omega)) t135
  have t137 : CX137.1 a = CX92.1 a := Eq.trans (kR) t136
  have t138 : CX138.1 a = CX92.1 a := Eq.trans (kN (by omega)) t137
  have t139 : CX139.1 a = CX92.1 a := Eq.trans (kR) t138
  have t140 : CX140.1 a = CX92.1 a := Eq.trans (kR) t139
  have t141 : CX141.1 a = CX92.1 a := Eq.trans (kN (by omega)) t140
  have t142 : CX142.1 a = CX92.1 a := Eq.trans (kN (by omega)) t141
  have t143 : CX143.1 a = CX92.1 a := Eq.trans (kR) t142
  have t144 : CX144.1 a = CX92.1 a := Eq.trans (kN (by omega)) t143
  have t145 : CX145.1 a = CX92.1 a := Eq.trans (kR) t144
  have t146 : CX146.1 a = CX92.1 a := Eq.trans (kN (by omega)) t145
  have t147 : CX147.1 a = CX92.1 a := Eq.trans (kR) t146
  have t148 : CX148.1 a = CX92.1 a := Eq.trans (kN (by omega)) t147
  have t149 : CX149.1 a = CX92.1 a := Eq.trans (kN (by omega)) t148
  have t150 : CX150.1 a = CX92.1 a := Eq.trans (kR) t149
  have t151 : CX151.1 a = CX92.1 a := Eq.trans (kR) t150
  have t152 : CX152.1 a = CX92.1 a := Eq.trans (kR) t151
  have t153 : CX153.1 a = CX92.1 a := Eq.trans (kN (by omega)) t152
  have t154 : CX154.1 a = CX92.1 a := Eq.trans (kN (by omega)) t153
  have t155 : CX155.1 a = CX92.1 a := Eq.trans (kR) t154
  have t156 : CX156.1 a = CX92.1 a := Eq.trans (kR) t155
  have t157 : CX157.1 a = CX92.1 a := Eq.trans (kN (by omega)) t156
  have t158 : CX158.1 a = CX92.1 a := Eq.trans (kN (by omega)) t157
  have t159 : CX159.1 a = CX92.1 a := Eq.trans (kR) t158
  have t160 : CX160.1 a = CX92.1 a := Eq.trans (kN (by omega)) t159
  have t161 : CX161.1 a = CX92.1 a := Eq.trans (kR) t160
  have t162 : CX162.1 a = CX92.1 a := Eq.trans (kN (by omega)) t161
  have t163 : CX163.1 a = CX92.1 a := Eq.trans (kR) t162
  have t164 : CX164.1 a = CX92.1 a := Eq.trans (kN (by omega)) t163
  have t165 : CX165.1 a = CX92.1 a := Eq.trans (kR) t164
  have t166 : CX166.1 a = CX92.1 a := Eq.trans (kN (by omega)) t165
  have t167 : CX167.1 a = CX92.1 a := Eq.trans (kR) t166
  have t168 : CX168.1 a = CX92.1 a := Eq.trans (kN (by omega)) t167
  have t169 : CX169.1 a = CX92.1 a := Eq.trans (kR) t168
  have t170 : CX170.1 a = CX92.1 a := Eq.trans (kN (by omega)) t169
  have t171 : CX171.1 a = CX92.1 a := Eq.trans (kR) t170
  have t172 : CX172.1 a = CX92.1 a := Eq.trans (kR) t171
  have t173 : CX173.1 a = CX92.1 a := Eq.trans (kN (by omega)) t172
  have t174 : CX174.1 a = CX92.1 a := Eq.trans (kI (by omega)) t173
  have t175 : CX175.1 a = CX92.1 a := Eq.trans (kN (by omega)) t174
  have t176 : CX176.1 a = CX92.1 a := Eq.trans (kR) t175
  have t177 : CX177.1 a = CX92.1 a := Eq.trans (kN (by omega)) t176
  have t178 : CX178.1 a = CX92.1 a := Eq.trans (kR) t177
  have t179 : CX179.1 a = CX92.1 a := Eq.trans (kR) t178
  have t180 : CX180.1 a = CX92.1 a := Eq.trans (kN (by omega)) t179
  have t181 : CX181.1 a = CX92.1 a := Eq.trans (kN (by omega)) t180
  have t182 : CX182.1 a = CX92.1 a := Eq.trans (kN (by omega)) t181
  have t183 : CX183.1 a = CX92.1 a := Eq.trans (kR) t182
  have t184 : CX184.1 a = CX92.1 a := Eq.trans (kN (by omega)) t183
  have t185 : CX185.1 a = CX92.1 a := Eq.trans (kR) t184
  have t186 : CX186.1 a = CX92.1 a := Eq.trans (kN (by omega)) t185
  have t187 : CX187.1 a = CX92.1 a := Eq.trans (kR) t186
  have t188 : CX188.1 a = CX92.1 a := Eq.trans (kN (by omega)) t187
  have t189 : CX189.1 a = CX92.1 a := Eq.trans (kR) t188
  have t190 : CX190.1 a = CX92.1 a := Eq.trans (kN (by omega)) t189
  have t191 : CX191.1 a = CX92.1 a := Eq.trans (kR) t190
  have t192 : CX192.1 a = CX92.1 a := Eq.trans (kN (by omega)) t191
  have t193 : CX193.1 a = CX92.1 a := Eq.trans (kR) t192
  have t194 : CX194.1 a = CX92.1 a := Eq.trans (kN (by omega)) t193
  have t195 : CX195.1 a = CX92.1 a := Eq.trans (kR) t194
  have t196 : CX196.1 a = CX92.1 a := Eq.trans (kN (by omega)) t195
  have t197 : CX197.1 a = CX92.1 a := Eq.trans (kR) t196
  have t198 : CX198.1 a = CX92.1 a := Eq.trans (kR) t197
  have t199 : CX199.1 a = CX92.1 a := Eq.trans (kN (by omega)) t198
  have t200 : CX200.1 a = CX92.1 a := Eq.trans (kR) t199
  have t201 : CX201.1 a = CX92.1 a := Eq.trans (kN (by omega)) t200
  have t202 : CX202.1 a = CX92.1 a := Eq.trans (kN (by omega)) t201
  have t203 : CX203.1 a = CX92.1 a := Eq.trans (kR) t202
  have t204 : CX204.1 a = CX92.1 a := Eq.trans (kN (by omega)) t203
  have t205 : CX205.1 a = CX92.1 a := Eq.trans (kR) t204
  have t206 : CX206.1 a = CX92.1 a := Eq.trans (kI (by omega)) t205
  have t207 : CX207.1 a = CX92.1 a := Eq.trans (kR) t206
  have t208 : CX208.1 a = CX92.1 a := Eq.trans (kN (by omega)) t207
  have t209 : CX209.1 a = CX92.1 a := Eq.trans (kR) t208
  have t210 : CX210.1 a = CX92.1 a := Eq.trans (kN (by omega)) t209
  have t211 : CX211.1 a = CX92.1 a := Eq.trans (kR) t210
  have t212 : CX212.1 a = CX92.1 a := Eq.trans (kN (by omega)) t211
  have t213 : CX213.1 a = CX92.1 a := Eq.trans (kN (by omega)) t212
  have t214 : CX214.1 a = CX92.1 a := Eq.trans (kR) t213
  have t215 : CX215.1 a = CX92.1 a := Eq.trans (kI (by omega)) t214
  have t216 : CX216.1 a = CX92.1 a := Eq.trans (kI (by omega)) t215
  have t217 : CX217.1 a = CX92.1 a := Eq.trans (kI (by omega)) t216
  have t218 : CX218.1 a = CX92.1 a := Eq.trans (kN (by omega)) t217
  have t219 : CX219.1 a = CX92.1 a := Eq.trans (kR) t218
  have t220 : CX220.1 a = CX92.1 a := Eq.trans (kI (by omega)) t219
  have t221 : CX221.1 a = CX92.1 a := Eq.trans (kI (by omega)) t220
  have t222 : CX222.1 a = CX92.1 a := Eq.trans (kN (by omega)) t221
  have t223 : CX223.1 a = CX92.1 a := Eq.trans (kR) t222
  have t224 : CX224.1 a = CX92.1 a := Eq.trans (kF (by omega)) t223
  have t225 : CX225.1 a = CX92.1 a := Eq.trans (kF (by omega)) t224
  have t226 : CX226.1 a = CX92.1 a := Eq.trans (kR) t225
  have t227 : CX227.1 a = CX92.1 a := Eq.trans (kN (by omega)) t226
  have t228 : CX228.1 a = CX92.1 a := Eq.trans (kN (by omega)) t227
  have t229 : CX229.1 a = CX92.1 a := Eq.trans (kR) t228
  have t230 : CX230.1 a = CX92.1 a := Eq.trans (kI (by omega)) t229
  have t231 : CX231.1 a = CX92.1 a := Eq.trans (kI (by omega)) t230
  have t232 : CX232.1 a = CX92.1 a := Eq.trans (kI (by omega)) t231
  have t233 : CX233.1 a = CX92.1 a := Eq.trans (kN (by omega)) t232
  have t234 : CX234.1 a = CX92.1 a := Eq.trans (kR) t233
  have t235 : CX235.1 a = CX92.1 a := Eq.trans (kI (by omega)) t234
  have t236 : CX236.1 a = CX92.1 a := Eq.trans (kI (by omega)) t235
  have t237 : CX237.1 a = CX92.1 a := Eq.trans (kN (by omega)) t236
  have t238 : CX238.1 a = CX92.1 a := Eq.trans (kR) t237
  have t239 : CX239.1 a = CX92.1 a := Eq.trans (kF (by omega)) t238
  have t240 : CX240.1 a = CX92.1 a := Eq.trans (kF (by omega)) t239
  have t241 : CX241.1 a = CX92.1 a := Eq.trans (kR) t240
  have t242 : CX242.1 a = CX92.1 a := Eq.trans (kN (by omega)) t241
  have t243 : CX243.1 a = CX92.1 a := Eq.trans (kN (by omega)) t242
  have t244 : CX244.1 a = CX92.1 a := Eq.trans (kR) t243
  have t245 : CX245.1 a = CX92.1 a := Eq.trans (kI (by omega)) t244
  have t246 : CX246.1 a = CX92.1 a := Eq.trans (kI (by omega)) t245
  have t247 : CX247.1 a = CX92.1 a := Eq.trans (kI (by omega)) t246
  have t248 : CX248.1 a = CX92.1 a := Eq.trans (kN (by omega)) t247
  have t249 : CX249.1 a = CX92.1 a := Eq.trans (kR) t248
  have t250 : CX250.1 a = CX92.1 a := Eq.trans (kI (by omega)) t249
  have t251 : CX251.1 a = CX92.1 a := Eq.trans (kI (by omega)) t250
  have t252 : CX252.1 a = CX92.1 a := Eq.trans (kN (by omega)) t251
  have t253 : CX253.1 a = CX92.1 a := Eq.trans (kR) t252
  have t254 : CX254.1 a = CX92.1 a := Eq.trans (kF (by omega)) t253
  have t255 : CX255.1 a = CX92.1 a := Eq.trans (kF (by omega)) t254
  have t256 : CX256.1 a = CX92.1 a := Eq.trans (kR) t255
  have t257 : CX257.1 a = CX92.1 a := Eq.trans (kN (by omega)) t256
  have t258 : CX258.1 a = CX92.1 a := Eq.trans (kN (by omega)) t257
  have t259 : CX259.1 a = CX92.1 a := Eq.trans (kR) t258
  have t260 : CX260.1 a = CX92.1 a := Eq.trans (kI (by omega)) t259
  have t261 : CX261.1 a = CX92.1 a := Eq.trans (kI (by omega)) t260
  have t262 : CX262.1 a = CX92.1 a := Eq.trans (kI (by omega)) t261
  have t263 : CX263.1 a = CX92.1 a := Eq.trans (kN (by omega)) t262
  have t264 : CX264.1 a = CX92.1 a := Eq.trans (kR) t263
  have t265 : CX265.1 a = CX92.1 a := Eq.trans (kI (by omega)) t264
  have t266 : CX266.1 a = CX92.1 a := Eq.trans (kI (by omega)) t265
  have t267 : CX267.1 a = CX92.1 a := Eq.trans (kN (by omega)) t266
  have t268 : CX268.1 a = CX92.1 a := Eq.trans (kR) t267
  have t269 : CX269.1 a = CX92.1 a := Eq.trans (kF (by omega)) t268
  have t270 : CX270.1 a = CX92.1 a := Eq.trans (kF (by omega)) t269
  have t271 : CX271.1 a = CX92.1 a := Eq.trans (kR) t270
  have t272 : CX272.1 a = CX92.1 a := Eq.trans (kR) t271
  have t273 : CX273.1 a = CX92.1 a := Eq.trans (kN (by omega)) t272
  have t274 : CX274.1 a = CX92.1 a := Eq.trans (kN (by omega)) t273
  have t275 : CX275.1 a = CX92.1 a := Eq.trans (kN (by omega)) t274
  have t276 : CX276.1 a = CX92.1 a := Eq.trans (kR) t275
  have t277 : CX277.1 a = CX92.1 a := Eq.trans (kN (by omega)) t276
  have t278 : CX278.1 a = CX92.1 a := Eq.trans (kR) t277
  have t279 : CX279.1 a = CX92.1 a := Eq.trans (kN (by omega)) t278
  have t280 : CX280.1 a = CX92.1 a := Eq.trans (kR) t279
  have t281 : CX281.1 a = CX92.1 a := Eq.trans (kN (by omega)) t280
  have t282 : CX282.1 a = CX92.1 a := Eq.trans (kR) t281
  have t283 : CX283.1 a = CX92.1 a := Eq.trans (kN (by omega)) t282
  have t284 : CX284.1 a = CX92.1 a := Eq.trans (kR) t283
  have t285 : CX285.1 a = CX92.1 a := Eq.trans (kN (by omega)) t284
  have t286 : CX286.1 a = CX92.1 a := Eq.trans (kR) t285
  have t287 : CX287.1 a = CX92.1 a := Eq.trans (kN (by omega)) t286
  have t288 : CX288.1 a = CX92.1 a := Eq.trans (kR) t287
  have t289 : CX289.1 a = CX92.1 a := Eq.trans (kN (by omega)) t288
  have t290 : CX290.1 a = CX92.1 a := Eq.trans (kR) t289
  have t291 : CX291.1 a = CX92.1 a := Eq.trans (kR) t290
  have t292 : CX292.1 a = CX92.1 a := Eq.trans (kN (by omega)) t291
  have t293 : CX293.1 a = CX92.1 a := Eq.trans (kR) t292
  have t294 : CX294.1 a = CX92.1 a := Eq.trans (kN (by omega)) t293
  have t295 : CX295.1 a = CX92.1 a := Eq.trans (kN (by omega)) t294
  have t296 : CX296.1 a = CX92.1 a := Eq.trans (kR) t295
  have t297 : CX297.1 a = CX92.1 a := Eq.trans (kN (by omega)) t296
  have t298 : CX298.1 a = CX92.1 a := Eq.trans (kR) t297
  have t299 : CX299.1 a = CX92.1 a := Eq.trans (kI (by omega)) t298
  have t300 : CX300.1 a = CX92.1 a := Eq.trans (kR) t299
  have t301 : CX301.1 a = CX92.1 a := Eq.trans (kN (by omega)) t300
  have t302 : CX302.1 a = CX92.1 a := Eq.trans (kR) t301
  have t303 : CX303.1 a = CX92.1 a := Eq.trans (kN (by omega)) t302
  have t304 : CX304.1 a = CX92.1 a := Eq.trans (kR) t303
  have t305 : CX305.1 a = CX92.1 a := Eq.trans (kN (by omega)) t304
  have t306 : CX306.1 a = CX92.1 a := Eq.trans (kN (by omega)) t305
  have t307 : CX307.1 a = CX92.1 a := Eq.trans (kR) t306
  have t308 : CX308.1 a = CX92.1 a := Eq.trans (kI (by omega)) t307
  have t309 : CX309.1 a = CX92.1 a := Eq.trans (kI (by omega)) t308
  have t310 : CX310.1 a = CX92.1 a := Eq.trans (kI (by omega)) t309
  have t311 : CX311.1 a = CX92.1 a := Eq.trans (kN (by omega)) t310
  have t312 : CX312.1 a = CX92.1 a := Eq.trans (kR) t311
  have t313 : CX313.1 a = CX92.1 a := Eq.trans (kI (by omega)) t312
  have t314 : CX314.1 a = CX92.1 a := Eq.trans (kI (by omega)) t313
  have t315 : CX315.1 a = CX92.1 a := Eq.trans (kN (by omega)) t314
  have t316 : CX316.1 a = CX92.1 a := Eq.trans (kR) t315
  have t317 : CX317.1 a = CX92.1 a := Eq.trans (kF (by omega)) t316
  have t318 : CX318.1 a = CX92.1 a := Eq.trans (kF (by omega)) t317
  have t319 : CX319.1 a = CX92.1 a := Eq.trans (kR) t318
  have t320 : CX320.1 a = CX92.1 a := Eq.trans (kN (by omega)) t319
  have t321 : CX321.1 a = CX92.1 a := Eq.trans (kN (by omega)) t320
  have t322 : CX322.1 a = CX92.1 a := Eq.trans (kR) t321
  have t323 : CX323.1 a = CX92.1 a := Eq.trans (kI (by omega)) t322
  have t324 : CX324.1 a = CX92.1 a := Eq.trans (kI (by omega)) t323
  have t325 : CX325.1 a = CX92.1 a := Eq.trans (kI (by omega)) t324
  have t326 : CX326.1 a = CX92.1 a := Eq.trans (kN (by omega)) t325
  have t327 : CX327.1 a = CX92.1 a := Eq.trans (kR) t326
  have t328 : CX328.1 a = CX92.1 a := Eq.trans (kI (by omega)) t327
  have t329 : CX329.1 a = CX92.1 a := Eq.trans (kI (by omega)) t328
  have t330 : CX330.1 a = CX92.1 a := Eq.trans (kN (by omega)) t329
  have t331 : CX331.1 a = CX92.1 a := Eq.trans (kR) t330
  have t332 : CX332.1 a = CX92.1 a := Eq.trans (kF (by omega)) t331
  have t333 : CX333.1 a = CX92.1 a := Eq.trans (kF (by omega)) t332
  have t334 : CX334.1 a = CX92.1 a := Eq.trans (kR) t333
  have t335 : CX335.1 a = CX92.1 a := Eq.trans (kN (by omega)) t334
  have t336 : CX336.1 a = CX92.1 a := Eq.trans (kN (by omega)) t335
  have t337 : CX337.1 a = CX92.1 a := Eq.trans (kR) t336
  have t338 : CX338.1 a = CX92.1 a := Eq.trans (kI (by omega)) t337
  have t339 : CX339.1 a = CX92.1 a := Eq.trans (kI (by omega)) t338
  have t340 : CX340.1 a = CX92.1 a := Eq.trans (kI (by omega)) t339
  have t341 : CX341.1 a = CX92.1 a := Eq.trans (kN (by omega)) t340
  have t342 : CX342.1 a = CX92.1 a := Eq.trans (kR) t341
  have t343 : CX343.1 a = CX92.1 a := Eq.trans (kI (by omega)) t342
  have t344 : CX344.1 a = CX92.1 a := Eq.trans (kI (by omega)) t343
  have t345 : CX345.1 a = CX92.1 a := Eq.trans (kN (by omega)) t344
  have t346 : CX346.1 a = CX92.1 a := Eq.trans (kR) t345
  have t347 : CX347.1 a = CX92.1 a := Eq.trans (kF (by omega)) t346
  have t348 : CX348.1 a = CX92.1 a := Eq.trans (kF (by omega)) t347
  have t349 : CX349.1 a = CX92.1 a := Eq.trans (kR) t348
  have t350 : CX350.1 a = CX92.1 a := Eq.trans (kN (by omega)) t349
  have t351 : CX351.1 a = CX92.1 a := Eq.trans (kN (by omega)) t350
  have t352 : CX352.1 a = CX92.1 a := Eq.trans (kR) t351
  have t353 : CX353.1 a = CX92.1 a := Eq.trans (kI (by omega)) t352
  have t354 : CX354.1 a = CX92.1 a := Eq.trans (kI (by omega)) t353
  have t355 : CX355.1 a = CX92.1 a := Eq.trans (kI (by omega)) t354
  have t356 : CX356.1 a = CX92.1 a := Eq.trans (kN (by omega)) t355
  have t357 : CX357.1 a = CX92.1 a := Eq.trans (kR) t356
  have t358 : CX358.1 a = CX92.1 a := Eq.trans (kI (by omega)) t357
  have t359 : CX359.1 a = CX92.1 a := Eq.trans (kI (by omega)) t358
  have t360 : CX360.1 a = CX92.1 a := Eq.trans (kN (by omega)) t359
  have t361 : CX361.1 a = CX92.1 a := Eq.trans (kR) t360
  have t362 : CX362.1 a = CX92.1 a := Eq.trans (kF (by omega)) t361
  have t363 : CX363.1 a = CX92.1 a := Eq.trans (kF (by omega)) t362
  have t364 : CX364.1 a = CX92.1 a := Eq.trans (kR) t363
  have t365 : CX365.1 a = CX92.1 a := Eq.trans (kR) t364
  have t366 : CX366.1 a = CX92.1 a := Eq.trans (kN (by omega)) t365
  have t367 : CX367.1 a = CX92.1 a := Eq.trans (kN (by omega)) t366
  have t368 : CX368.1 a = CX92.1 a := Eq.trans (kR) t367
  have t369 : CX369.1 a = CX92.1 a := Eq.trans (kN (by omega)) t368
  have t370 : CX370.1 a = CX92.1 a := Eq.trans (kR) t369
  have t371 : CX371.1 a = CX92.1 a := Eq.trans (kN (by omega)) t370
  have t372 : CX372.1 a = CX92.1 a := Eq.trans (kR) t371
  have t373 : CX373.1 a = CX92.1 a := Eq.trans (kN (by omega)) t372
  have t374 : CX374.1 a = CX92.1 a := Eq.trans (kR) t373
  have t375 : CX375.1 a = CX92.1 a := Eq.trans (kN (by omega)) t374
  have t376 : CX376.1 a = CX92.1 a := Eq.trans (kR) t375
  have t377 : CX377.1 a = CX92.1 a := Eq.trans (kN (by omega)) t376
  have t378 : CX378.1 a = CX92.1 a := Eq.trans (kR) t377
  have t379 : CX379.1 a = CX92.1 a := Eq.trans (kN (by omega)) t378
  have t380 : CX380.1 a = CX92.1 a := Eq.trans (kR) t379
  have t381 : CX381.1 a = CX92.1 a := Eq.trans (kN (by omega)) t380
  have t382 : CX382.1 a = CX92.1 a := Eq.trans (kR) t381
  have t383 : CX383.1 a = CX92.1 a := Eq.trans (kN (by omega)) t382
  have t384 : CX384.1 a = CX92.1 a := Eq.trans (kR) t383
  have t385 : CX385.1 a = CX92.1 a := Eq.trans (kN (by omega)) t384
  have t386 : CX386.1 a = CX92.1 a := Eq.trans (kR) t385
  have t387 : CX387.1 a = CX92.1 a := Eq.trans (kN (by omega)) t386
  have t388 : CX388.1 a = CX92.1 a := Eq.trans (kR) t387
  have t389 : CX389.1 a = CX92.1 a := Eq.trans (kN (by omega)) t388
  have t390 : CX390.1 a = CX92.1 a := Eq.trans (kR) t389
  have t391 : CX391.1 a = CX92.1 a := Eq.trans (kN (by omega)) t390
  have t392 : CX392.1 a = CX92.1 a := Eq.trans (kR) t391
  have t393 : CX393.1 a = CX92.1 a := Eq.trans (kN (by omega)) t392
  have t394 : CX394.1 a = CX92.1 a := Eq.trans (kR) t393
  have t395 : CX395.1 a = CX92.1 a := Eq.trans (kN (by omega)) t394
  have t396 : CX396.1 a = CX92.1 a := Eq.trans (kR) t395
  have t397 : CX397.1 a = CX92.1 a := Eq.trans (kN (by omega)) t396
  have t398 : CX398.1 a = CX92.1 a := Eq.trans (kR) t397
  have t399 : CX399.1 a = CX92.1 a := Eq.trans (kN (by omega)) t398
  have t400 : CX400.1 a = CX92.1 a := Eq.trans (kR) t399
  have t401 : CX401.1 a = CX92.1 a := Eq.trans (kN (by omega)) t400
  have t402 : CX402.1 a = CX92.1 a := Eq.trans (kR) t401
  have t403 : CX403.1 a = CX92.1 a := Eq.trans (kI (by omega)) t402
  have t404 : CX404.1 a = CX92.1 a := Eq.trans (kI (by omega)) t403
  have t405 : CX405.1 a = CX92.1 a := Eq.trans (kI (by omega)) t404
  have t406 : CX406.1 a = CX92.1 a := Eq.trans (kI (by omega)) t405
  have t407 : CX407.1 a = CX92.1 a := Eq.trans (kI (by omega)) t406
  have t408 : CX408.1 a = CX92.1 a := Eq.trans (kI (by omega)) t407
  have t409 : CX409.1 a = CX92.1 a := Eq.trans (kI (by omega)) t408
  have t410 : CX410.1 a = CX92.1 a := Eq.trans (kI (by omega)) t409
  have t411 : CX411.1 a = CX92.1 a := Eq.trans (kI (by omega)) t410
  have t412 : CX412.1 a = CX92.1 a := Eq.trans (kI (by omega)) t411
  have t413 : CX413.1 a = CX92.1 a := Eq.trans (kI (by omega)) t412
  have t414 : CX414.1 a = CX92.1 a := Eq.trans (kI (by omega)) t413
  have t415 : CX415.1 a = CX92.1 a := Eq.trans (kI (by omega)) t414
  have t416 : CX416.1 a = CX92.1 a := Eq.trans (kI (by omega)) t415
  have t417 : CX417.1 a = CX92.1 a := Eq.trans (kI (by omega)) t416
  have t418 : CX418.1 a = CX92.1 a := Eq.trans (kI (by omega)) t417
  have t419 : CX419.1 a = CX92.1 a := Eq.trans (kI (by omega)) t418
  have t420 : CX420.1 a = CX92.1 a := Eq.trans (kI (by omega)) t419
  have t421 : CX421.1 a = CX92.1 a := Eq.trans (kI (by omega)) t420
  have t422 : CX422.1 a = CX92.1 a := Eq.trans (kI (by omega)) t421
  have t423 : CX423.1 a = CX92.1 a := Eq.trans (kI (by omega)) t422
  have t424 : CX424.1 a = CX92.1 a := Eq.trans (kI (by omega)) t423
  have t425 : CX425.1 a = CX92.1 a := Eq.trans (kI (by omega)) t424
  have t426 : CX426.1 a = CX92.1 a := Eq.trans (kI (by omega)) t425
  have t427 : CX427.1 a = CX92.1 a := Eq.trans (kI (by omega)) t426
  have t428 : CX428.1 a = CX92.1 a := Eq.trans (kI (by omega)) t427
  have t429 : CX429.1 a = CX92.1 a := Eq.trans (kI (by omega)) t428
  have t430 : CX430.1 a = CX92.1 a := Eq.trans (kI (by omega)) t429
  have t431 : CX431.1 a = CX92.1 a := Eq.trans (kI (by omega)) t430
  have t432 : CX432.1 a = CX92.1 a := Eq.trans (kI (by omega)) t431
  have t433 : CX433.1 a = CX92.1 a := Eq.trans (kI (by omega)) t432
  have t434 : CX434.1 a = CX92.1 a := Eq.trans (kI (by omega)) t433
  have t435 : CX435.1 a = CX92.1 a := Eq.trans (kI (by omega)) t434
  have t436 : CX436.1 a = CX92.1 a := Eq.trans (kI (by omega)) t435
  have t437 : CX437.1 a = CX92.1 a := Eq.trans (kI (by omega)) t436
  have t438 : CX438.1 a = CX92.1 a := Eq.trans (kI (by omega)) t437
  have t439 : CX439.1 a = CX92.1 a := Eq.trans (kI (by omega)) t438
  have t440 : CX440.1 a = CX92.1 a := Eq.trans (kI (by omega)) t439
  have t441 : CX441.1 a = CX92.1 a := Eq.trans (kI (by omega)) t440
  have t442 : CX442.1 a = CX92.1 a := Eq.trans (kI (by omega)) t441
  have t443 : CX443.1 a = CX92.1 a := Eq.trans (kI (by omega)) t442
  have t444 : CX444.1 a = CX92.1 a := Eq.trans (kI (by omega)) t443
  have t445 : CX445.1 a = CX92.1 a := Eq.trans (kI (by omega)) t444
  have t446 : CX446.1 a = CX92.1 a := Eq.trans (kI (by omega)) t445
  have t447 : CX447.1 a = CX92.1 a := Eq.trans (kI (by omega)) t446
  have t448 : CX448.1 a = CX92.1 a := Eq.trans (kI (by omega)) t447
  have t449 : CX449.1 a = CX92.1 a := Eq.trans (kI (by omega)) t448
  have t450 : CX450.1 a = CX92.1 a := Eq.trans (kI (by omega)) t449
  have t451 : CX451.1 a = CX92.1 a := Eq.trans (kI (by omega)) t450
  have t452 : CX452.1 a = CX92.1 a := Eq.trans (kI (by omega)) t451
  have t453 : CX453.1 a = CX92.1 a := Eq.trans (kI (by omega)) t452
  have t454 : CX454.1 a = CX92.1 a := Eq.trans (kI (by omega)) t453
  have t455 : CX455.1 a = CX92.1 a := Eq.trans (kI (by omega)) t454
  have t456 : CX456.1 a = CX92.1 a := Eq.trans (kI (by omega)) t455
  have t457 : CX457.1 a = CX92.1 a := Eq.trans (kI (by omega)) t456
  have t458 : CX458.1 a = CX92.1 a := Eq.trans (kI (by omega)) t457
  have t459 : CX459.1 a = CX92.1 a := Eq.trans (kI (by omega)) t458
  have t460 : CX460.1 a = CX92.1 a := Eq.trans (kI (by omega)) t459
  have t461 : CX461.1 a = CX92.1 a := Eq.trans (kI (by omega)) t460
  have t462 : CX462.1 a = CX92.1 a := Eq.trans (kI (by omega)) t461
  have t463 : CX463.1 a = CX92.1 a := Eq.trans (kI (by omega)) t462
  have t464 : CX464.1 a = CX92.1 a := Eq.trans (kI (by omega)) t463
  have t465 : CX465.1 a = CX92.1 a := Eq.trans (kI (by omega)) t464
  have t466 : CX466.1 a = CX92.1 a := Eq.trans (kI (by omega)) t465
  have t467 : CX467.1 a = CX92.1 a := Eq.trans (kI (by omega)) t466
  have t468 : CX468.1 a = CX92.1 a := Eq.trans (kI (by omega)) t467
  have t469 : CX469.1 a = CX92.1 a := Eq.trans (kI (by omega)) t468
  have t470 : CX470.1 a = CX92.1 a := Eq.trans (kI (by omega)) t469
  have t471 : CX471.1 a = CX92.1 a := Eq.trans (kI (by omega)) t470
  have t472 : CX472.1 a = CX92.1 a := Eq.trans (kI (by omega)) t471
  have t473 : CX473.1 a = CX92.1 a := Eq.trans (kI (by omega)) t472
  have t474 : CX474.1 a = CX92.1 a := Eq.trans (kI (by omega)) t473
  have t475 : CX475.1 a = CX92.1 a := Eq.trans (kI (by omega)) t474
  have t476 : CX476.1 a = CX92.1 a := Eq.trans (kI (by omega)) t475
  have t477 : CX477.1 a = CX92.1 a := Eq.trans (kI (by omega)) t476
  have t478 : CX478.1 a = CX92.1 a := Eq.trans (kI (by omega)) t477
  have t479 : CX479.1 a = CX92.1 a := Eq.trans (kI (by omega)) t478
  have t480 : CX480.1 a = CX92.1 a := Eq.trans (kI (by omega)) t479
  have t481 : CX481.1 a = CX92.1 a := Eq.trans (kI (by omega)) t480
  have t482 : CX482.1 a = CX92.1 a := Eq.trans (kI (by omega)) t481
  have t483 : CX483.1 a = CX92.1 a := Eq.trans (kI (by omega)) t482
  have t484 : CX484.1 a = CX92.1 a := Eq.trans (kI (by omega)) t483
  have t485 : CX485.1 a = CX92.1 a := Eq.trans (kI (by omega)) t484
  have t486 : CX486.1 a = CX92.1 a := Eq.trans (kI (by omega)) t485
  have t487 : CX487.1 a = CX92.1 a := Eq.trans (kI (by omega)) t486
  have t488 : CX488.1 a = CX92.1 a := Eq.trans (kI (by omega)) t487
  have t489 : CX489.1 a = CX92.1 a := Eq.trans (kI (by omega)) t488
  have t490 : CX490.1 a = CX92.1 a := Eq.trans (kI (by omega)) t489
  have t491 : CX491.1 a = CX92.1 a := Eq.trans (kI (by omega)) t490
  have t492 : CX492.1 a = CX92.1 a := Eq.trans (kI (by omega)) t491
  have t493 : CX493.1 a = CX92.1 a := Eq.trans (kI (by omega)) t492
  have t494 : CX494.1 a = CX92.1 a := Eq.trans (kI (by omega)) t493
  have t495 : CX495.1 a = CX92.1 a := Eq.trans (kI (by omega)) t494
  have t496 : CX496.1 a = CX92.1 a := Eq.trans (kI (by omega)) t495
  have t497 : CX497.1 a = CX92.1 a := Eq.trans (kI (by omega)) t496
  have t498 : CX498.1 a = CX92.1 a := Eq.trans (kI (by omega)) t497
  have t499 : CX499.1 a = CX92.1 a := Eq.trans (kI (by omega)) t498
  have t500 : CX500.1 a = CX92.1 a := Eq.trans (kI (by omega)) t499
  have t501 : CX501.1 a = CX92.1 a := Eq.trans (kI (by omega)) t500
  have t502 : CX502.1 a = CX92.1 a := Eq.trans (kI (by omega)) t501
  have t503 : CX503.1 a = CX92.1 a := Eq.trans (kI (by omega)) t502
  have t504 : CX504.1 a = CX92.1 a := Eq.trans (kI (by omega)) t503
  have t505 : CX505.1 a = CX92.1 a := Eq.trans (kI (by omega)) t504
  have t506 : CX506.1 a = CX92.1 a := Eq.trans (kI (by omega)) t505
  have t507 : CX507.1 a = CX92.1 a := Eq.trans (kI (by omega)) t506
  have t508 : CX508.1 a = CX92.1 a := Eq.trans (kI (by omega)) t507
  have t509 : CX509.1 a = CX92.1 a := Eq.trans (kI (by omega)) t508
  have t510 : CX510.1 a = CX92.1 a := Eq.trans (kI (by omega)) t509
  have t511 : CX511.1 a = CX92.1 a := Eq.trans (kI (by omega)) t510
  have t512 : CX512.1 a = CX92.1 a := Eq.trans (kI (by omega)) t511
  have t513 : CX513.1 a = CX92.1 a := Eq.trans (kI (by omega)) t512
  have t514 : CX514.1 a = CX92.1 a := Eq.trans (kI (by omega)) t513
  have t515 : CX515.1 a = CX92.1 a := Eq.trans (kI (by omega)) t514
  have t516 : CX516.1 a = CX92.1 a := Eq.trans (kI (by omega)) t515
  have t517 : CX517.1 a = CX92.1 a := Eq.trans (kI (by omega)) t516
  have t518 : CX518.1 a = CX92.1 a := Eq.trans (kI (by omega)) t517
  have t519 : CX519.1 a = CX92.1 a := Eq.trans (kI (by omega)) t518
  exact t519
theorem ch_z {a b : Nat} (hb : 16 ≤ b) : CX92.1 a b = 0 := by
  have t0 : CX0.1 a b = 0 := zN (M := M00) rfl
  have t1 : CX1.1 a b = 0 := zN t0
  have t2 : CX2.1 a b = 0 := zN t1
  have t3 : CX3.1 a b = 0 := zN t2
  have t4 : CX4.1 a b = 0 := zR t3
  have t5 : CX5.1 a b = 0 := zN t4
  have t6 : CX6.1 a b = 0 := zR t5
  have t7 : CX7.1 a b = 0 := zN t6
  have t8 : CX8.1 a b = 0 := zR t7
  have t9 : CX9.1 a b = 0 := zN t8
  have t10 : CX10.1 a b = 0 := zR t9
  have t11 : CX11.1 a b = 0 := zN t10
  have t12 : CX12.1 a b = 0 := zR t11
  have t13 : CX13.1 a b = 0 := zN t12
  have t14 : CX14.1 a b = 0 := zR t13
  have t15 : CX15.1 a b = 0 := zN t14
  have t16 : CX16.1 a b = 0 := zR t15
  have t17 : CX17.1 a b = 0 := zN t16
  have t18 : CX18.1 a b = 0 := zR t17
  have t19 : CX19.1 a b = 0 := zR t18
  have t20 : CX20.1 a b = 0 := zN t19
  have t21 : CX21.1 a b = 0 := zR t20
  have t22 : CX22.1 a b = 0 := zN t21
  have t23 : CX23.1 a b = 0 := zN t22
  have t24 : CX24.1 a b = 0 := zR t23
  have t25 : CX25.1 a b = 0 := zN t24
  have t26 : CX26.1 a b = 0 := zR t25
  have t27 : CX27.1 a b = 0 := zI (by omega) t26
  have t28 : CX28.1 a b = 0 := zR t27
  have t29 : CX29.1 a b = 0 := zN t28
  have t30 : CX30.1 a b = 0 := zR t29
  have t31 : CX31.1 a b = 0 := zN t30
  have t32 : CX32.1 a b = 0 := zR t31
  have t33 : CX33.1 a b = 0 := zN t32
  have t34 : CX34.1 a b = 0 := zN t33
  have t35 : CX35.1 a b = 0 := zR t34
  have t36 : CX36.1 a b = 0 := zI (by omega) t35
  have t37 : CX37.1 a b = 0 := zI (by omega) t36
  have t38 : CX38.1 a b = 0 := zI (by omega) t37
  have t39 : CX39.1 a b = 0 := zN t38
  have t40 : CX40.1 a b = 0 := zR t39
  have t41 : CX41.1 a b = 0 := zI (by omega) t40
  have t42 : CX42.1 a b = 0 := zI (by omega) t41
  have t43 : CX43.1 a b = 0 := zN t42
  have t44 : CX44.1 a b = 0 := zR t43
  have t45 : CX45.1 a b = 0 := zF (by omega) t44
  have t46 : CX46.1 a b = 0 := zF (by omega) t45
  have t47 : CX47.1 a b = 0 := zR t46
  have t48 : CX48.1 a b = 0 := zN t47
  have t49 : CX49.1 a b = 0 := zN t48
  have t50 : CX50.1 a b = 0 := zR t49
  have t51 : CX51.1 a b = 0 := zI (by omega) t50
  have t52 : CX52.1 a b = 0 := zI (by omega) t51
  have t53 : CX53.1 a b = 0 := zI (by omega) t52
  have t54 : CX54.1 a b = 0 := zN t53
  have t55 : CX55.1 a b = 0 := zR t54
  have t56 : CX56.1 a b = 0 := zI (by omega) t55
  have t57 : CX57.1 a b = 0 := zI (by omega) t56
  have t58 : CX58.1 a b = 0 := zN t57
  have t59 : CX59.1 a b = 0 := zR t58
  have t60 : CX60.1 a b = 0 := zF (by omega) t59
  have t61 : CX61.1 a b = 0 := zF (by omega) t60
  have t62 : CX62.1 a b = 0 := zR t61
  have t63 : CX63.1 a b = 0 := zN t62
  have t64 : CX64.1 a b = 0 := zN t63
  have t65 : CX65.1 a b = 0 := zR t64
  have t66 : CX66.1 a b = 0 := zI (by omega) t65
  have t67 : CX67.1 a b = 0 := zI (by omega) t66
  have t68 : CX68.1 a b = 0 := zI (by omega) t67
  have t69 : CX69.1 a b = 0 := zN t68
  have t70 : CX70.1 a b = 0 := zR t69
  have t71 : CX71.1 a b = 0 := zI (by omega) t70
  have t72 : CX72.1 a b = 0 := zI (by omega) t71
  have t73 : CX73.1 a b = 0 := zN t72
  have t74 : CX74.1 a b = 0 := zR t73
  have t75 : CX75.1 a b = 0 := zF (by omega) t74
  have t76 : CX76.1 a b = 0 := zF (by omega) t75
  have t77 : CX77.1 a b = 0 := zR t76
  have t78 : CX78.1 a b = 0 := zN t77
  have t79 : CX79.1 a b = 0 := zN t78
  have t80 : CX80.1 a b = 0 := zR t79
  have t81 : CX81.1 a b = 0 := zI (by omega) t80
  have t82 : CX82.1 a b = 0 := zI (by omega) t81
  have t83 : CX83.1 a b = 0 := zI (by omega) t82
  have t84 : CX84.1 a b = 0 := zN t83
  have t85 : CX85.1 a b = 0 := zR t84
  have t86 : CX86.1 a b = 0 := zI (by omega) t85
  have t87 : CX87.1 a b = 0 := zI (by omega) t86
  have t88 : CX88.1 a b = 0 := zN t87
  have t89 : CX89.1 a b = 0 := zR t88
  have t90 : CX90.1 a b = 0 := zF (by omega) t89
  have t91 : CX91.1 a b = 0 := zF (by omega) t90
  have t92 : CX92.1 a b = 0 := zR t91
  exact t92
theorem ch_m {j : Nat} (hj : j < 1106 ∨ (1346 ≤ j ∧ j ≠ 4218)) : CX519.1 136 j = 0 := by
  have t402 : CX402.1 136 j = 0 := by
    have t367 : CX367.1 136 j = 0 := (if_pos rfl : (if 136 = 136 then (0 : Int32) else CX366.1 136 j) = 0)
    have t368 : CX368.1 136 j = 0 := zR t367
    have t369 : CX369.1 136 j = 0 := zN t368
    have t370 : CX370.1 136 j = 0 := zR t369
    have t371 : CX371.1 136 j = 0 := zN t370
    have t372 : CX372.1 136 j = 0 := zR t371
    have t373 : CX373.1 136 j = 0 := zN t372
    have t374 : CX374.1 136 j = 0 := zR t373
    have t375 : CX375.1 136 j = 0 := zN t374
    have t376 : CX376.1 136 j = 0 := zR t375
    have t377 : CX377.1 136 j = 0 := zN t376
    have t378 : CX378.1 136 j = 0 := zR t377
    have t379 : CX379.1 136 j = 0 := zN t378
    have t380 : CX380.1 136 j = 0 := zR t379
    have t381 : CX381.1 136 j = 0 := zN t380
    have t382 : CX382.1 136 j = 0 := zR t381
    have t383 : CX383.1 136 j = 0 := zN t382
    have t384 : CX384.1 136 j = 0 := zR t383
    have t385 : CX385.1 136 j = 0 := zN t384
    have t386 : CX386.1 136 j = 0 := zR t385
    have t387 : CX387.1 136 j = 0 := zN t386
    have t388 : CX388.1 136 j = 0 := zR t387
    have t389 : CX389.1 136 j = 0 := zN t388
    have t390 : CX390.1 136 j = 0 := zR t389
    have t391 : CX391.1 136 j = 0 := zN t390
    have t392 : CX392.1 136 j = 0 := zR t391
    have t393 : CX393.1 136 j = 0 := zN t392
    have t394 : CX394.1 136 j = 0 := zR t393
    have t395 : CX395.1 136 j = 0 := zN t394
    have t396 : CX396.1 136 j = 0 := zR t395
    have t397 : CX397.1 136 j = 0 := zN t396
    have t398 : CX398.1 136 j = 0 := zR t397
    have t399 : CX399.1 136 j = 0 := zN t398
    have t400 : CX400.1 136 j = 0 := zR t399
    have t401 : CX401.1 136 j = 0 := zN t400
    have t402 : CX402.1 136 j = 0 := zR t401
    exact t402
  have t403 : CX403.1 136 j = 0 := zI (by omega) t402
  have t404 : CX404.1 136 j = 0 := zI (by omega) t403
  have t405 : CX405.1 136 j = 0 := zI (by omega) t404
  have t406 : CX406.1 136 j = 0 := zI (by omega) t405
  have t407 : CX407.1 136 j = 0 := zI (by omega) t406
  have t408 : CX408.1 136 j = 0 := zI (by omega) t407
  have t409 : CX409.1 136 j = 0 := zI (by omega) t408
  have t410 : CX410.1 136 j = 0 := zI (by omega) t409
  have t411 : CX411.1 136 j = 0 := zI (by omega) t410
  have t412 : CX412.1 136 j = 0 := zI (by omega) t411
  have t413 : CX413.1 136 j = 0 := zI (by omega) t412
  have t414 : CX414.1 136 j = 0 := zI (by omega) t413
  have t415 : CX415.1 136 j = 0 := zI (by omega) t414
  have t416 : CX416.1 136 j = 0 := zI (by omega) t415
  have t417 : CX417.1 136 j = 0 := zI (by omega) t416
  have t418 : CX418.1 136 j = 0 := zI (by omega) t417
  have t419 : CX419.1 136 j = 0 := zI (by omega) t418
  have t420 : CX420.1 136 j = 0 := zI (by omega) t419
  have t421 : CX421.1 136 j = 0 := zI (by omega) t420
  have t422 : CX422.1 136 j = 0 := zI (by omega) t421
  have t423 : CX423.1 136 j = 0 := zI (by omega) t422
  have t424 : CX424.1 136 j = 0 := zI (by omega) t423
  have t425 : CX425.1 136 j = 0 := zI (by omega) t424
  have t426 : CX426.1 136 j = 0 := zI (by omega) t425
  have t427 : CX427.1 136 j = 0 := zI (by omega) t426
  have t428 : CX428.1 136 j = 0 := zI (by omega) t427
  have t429 : CX429.1 136 j = 0 := zI (by omega) t428
  have t430 : CX430.1 136 j = 0 := zI (by omega) t429
  have t431 : CX431.1 136 j = 0 := zI (by omega) t430
  have t432 : CX432.1 136 j = 0 := zI (by omega) t431
  have t433 : CX433.1 136 j = 0 := zI (by omega) t432
  have t434 : CX434.1 136 j = 0 := zI (by omega) t433
  have t435 : CX435.1 136 j = 0 := zI (by omega) t434
  have t436 : CX436.1 136 j = 0 := zI (by omega) t435
  have t437 : CX437.1 136 j = 0 := zI (by omega) t436
  have t438 : CX438.1 136 j = 0 := zI (by omega) t437
  have t439 : CX439.1 136 j = 0 := zI (by omega) t438
  have t440 : CX440.1 136 j = 0 := zI (by omega) t439
  have t441 : CX441.1 136 j = 0 := zI (by omega) t440
  have t442 : CX442.1 136 j = 0 := zI (by omega) t441
  have t443 : CX443.1 136 j = 0 := zI (by omega) t442
  have t444 : CX444.1 136 j = 0 := zI (by omega) t443
  have t445 : CX445.1 136 j = 0 := zI (by omega) t444
  have t446 : CX446.1 136 j = 0 := zI (by omega) t445
  have t447 : CX447.1 136 j = 0 := zI (by omega) t446
  have t448 : CX448.1 136 j = 0 := zI (by omega) t447
  have t449 : CX449.1 136 j = 0 := zI (by omega) t448
  have t450 : CX450.1 136 j = 0 := zI (by omega) t449
  have t451 : CX451.1 136 j = 0 := zI (by omega) t450
  have t452 : CX452.1 136 j = 0 := zI (by omega) t451
  have t453 : CX453.1 136 j = 0 := zI (by omega) t452
  have t454 : CX454.1 136 j = 0 := zI (by omega) t453
  have t455 : CX455.1 136 j = 0 := zI (by omega) t454
  have t456 : CX456.1 136 j = 0 := zI (by omega) t455
  have t457 : CX457.1 136 j = 0 := zI (by omega) t456
  have t458 : CX458.1 136 j = 0 := zI (by omega) t457
  have t459 : CX459.1 136 j = 0 := zI (by omega) t458
  have t460 : CX460.1 136 j = 0 := zI (by omega) t459
  have t461 : CX461.1 136 j = 0 := zI (by omega) t460
  have t462 : CX462.1 136 j = 0 := zI (by omega) t461
  have t463 : CX463.1 136 j = 0 := zI (by omega) t462
  have t464 : CX464.1 136 j = 0 := zI (by omega) t463
  have t465 : CX465.1 136 j = 0 := zI (by omega) t464
  have t466 : CX466.1 136 j = 0 := zI (by omega) t465
  have t467 : CX467.1 136 j = 0 := zI (by omega) t466
  have t468 : CX468.1 136 j = 0 := zI (by omega) t467
  have t469 : CX469.1 136 j = 0 := zI (by omega) t468
  have t470 : CX470.1 136 j = 0 := zI (by omega) t469
  have t471 : CX471.1 136 j = 0 := zI (by omega) t470
  have t472 : CX472.1 136 j = 0 := zI (by omega) t471
  have t473 : CX473.1 136 j = 0 := zI (by omega) t472
  have t474 : CX474.1 136 j = 0 := zI (by omega) t473
  have t475 : CX475.1 136 j = 0 := zI (by omega) t474
  have t476 : CX476.1 136 j = 0 := zI (by omega) t475
  have t477 : CX477.1 136 j = 0 := zI (by omega) t476
  have t478 : CX478.1 136 j = 0 := zI (by omega) t477
  have t479 : CX479.1 136 j = 0 := zI (by omega) t478
  have t480 : CX480.1 136 j = 0 := zI (by omega) t479
  have t481 : CX481.1 136 j = 0 := zI (by omega) t480
  have t482 : CX482.1 136 j = 0 := zI (by omega) t481
  have t483 : CX483.1 136 j = 0 := zI (by omega) t482
  have t484 : CX484.1 136 j = 0 := zI (by omega) t483
  have t485 : CX485.1 136 j = 0 := zI (by omega) t484
  have t486 : CX486.1 136 j = 0 := zI (by omega) t485
  have t487 : CX487.1 136 j = 0 := zI (by omega) t486
  have t488 : CX488.1 136 j = 0 := zI (by omega) t487
  have t489 : CX489.1 136 j = 0 := zI (by omega) t488
  have t490 : CX490.1 136 j = 0 := zI (by omega) t489
  have t491 : CX491.1 136 j = 0 := zI (by omega) t490
  have t492 : CX492.1 136 j = 0 := zI (by omega) t491
  have t493 : CX493.1 136 j = 0 := zI (by omega) t492
  have t494 : CX494.1 136 j = 0 := zI (by omega) t493
  have t495 : CX495.1 136 j = 0 := zI (by omega) t494
  have t496 : CX496.1 136 j = 0 := zI (by omega) t495
  have t497 : CX497.1 136 j = 0 := zI (by omega) t496
  have t498 : CX498.1 136 j = 0 := zI (by omega) t497
  have t499 : CX499.1 136 j = 0 := zI (by omega) t498
  have t500 : CX500.1 136 j = 0 := zI (by omega) t499
  have t501 : CX501.1 136 j = 0 := zI (by omega) t500
  have t502 : CX502.1 136 j = 0 := zI (by omega) t501
  have t503 : CX503.1 136 j = 0 := zI (by omega) t502
  have t504 : CX504.1 136 j = 0 := zI (by omega) t503
  have t505 : CX505.1 136 j = 0 := zI (by omega) t504
  have t506 : CX506.1 136 j = 0 := zI (by omega) t505
  have t507 : CX507.1 136 j = 0 := zI (by omega) t506
  have t508 : CX508.1 136 j = 0 := zI (by omega) t507
  have t509 : CX509.1 136 j = 0 := zI (by omega) t508
  have t510 : CX510.1 136 j = 0 := zI (by omega) t509
  have t511 : CX511.1 136 j = 0 := zI (by omega) t510
  have t512 : CX512.1 136 j = 0 := zI (by omega) t511
  have t513 : CX513.1 136 j = 0 := zI (by omega) t512
  have t514 : CX514.1 136 j = 0 := zI (by omega) t513
  have t515 : CX515.1 136 j = 0 := zI (by omega) t514
  have t516 : CX516.1 136 j = 0 := zI (by omega) t515
  have t517 : CX517.1 136 j = 0 := zI (by omega) t516
  have t518 : CX518.1 136 j = 0 := zI (by omega) t517
  have t519 : CX519.1 136 j = 0 := zI (by omega) t518
  exact t519
theorem soff_lt {c j d : Nat} (h : soff c j = some d) : j < 32 := by
  unfold soff at h
  split at h <;> first | omega | cases h
set_option maxRecDepth 1000000 in
theorem st_A : ∀ k, k < 154 → ∀ j, j < 32 → (match sh k with | .inl c => (match soff c j with | some d => decide (CX519.2.2 k j = some (k + d)) | none => true) | .inr _ => true) = true := by decide +kernel
set_option maxRecDepth 1000000 in
theorem st_B : ∀ k, k < 154 → (match sh k with | .inl _ => true | .inr (t, n) => if t = 3 then decide (∀ j, j < n → CX519.2.2 k j = some (k + 6 + 4 * j)) else if t = 4 then decide (∀ j, j < n → CX519.2.2 k j = some (k + 38 + 32 * j)) else true) = true := by decide +kernel
theorem st_S : Stt CX519 := by
  intro k hk
  refine ⟨fun c hc j d hd => ?_, fun hA j hj => ?_, fun hA j hj => ?_⟩
  · have a := st_A k hk j (soff_lt hd)
    rw [hc] at a
    dsimp only at a
    rw [hd] at a
    exact of_decide_eq_true a
  · have a := st_B k hk
    have hA : sh k = .inr (3, len k) := hA
    rw [hA] at a
    dsimp only at a
    rw [if_pos rfl] at a
    exact of_decide_eq_true a j hj
  · have a := st_B k hk
    have hA : sh k = .inr (4, len k) := hA
    rw [hA] at a
    dsimp only at a
    rw [if_neg (by decide), if_pos rfl] at a
    exact of_decide_eq_true a j hj
def mI0 (r : Nat) : Int32 := if r < 8 then 1 else if r < 10 then 4 else if r = 10 then 10 else if r = 11 then 4 else if r = 12 then 5 else if r < 20 then 0 else if r < 36 then -1 else 0
def N00 (j : Nat) : Int32 := if j < 1106 then 0 else if j < 1346 then mI0 ((j - 1106) % 60) else if j = 4218 then 20 else 0
set_option maxRecDepth 1000000 in
theorem st_M : ∀ j, j < 240 → CX519.1 136 (1106 + j) = N00 (1106 + j) := by decide +kernel
theorem st_N (j : Nat) (_ : j < 4230) : CX519.1 136 j = N00 j := by
  by_cases a : j < 1106
  · rw [ch_m (Or.inl a)]
    exact (if_pos a).symm
  · by_cases b : j < 1346
    · have := st_M (j - 1106) (by omega)
      rw [show 1106 + (j - 1106) = j from by omega] at this
      exact this
    · by_cases c : j = 4218
      · rw [c]; decide +kernel
      · rw [ch_m (Or.inr ⟨by omega, c⟩)]
        unfold N00
        rw [if_neg a, if_neg b, if_neg c]
def I00 (c p : Nat) : Int32 := if c = 11 ∧ p = 4 then 20 else if c < 16 then 0 else if (c - 16) % 4 = 0 then (if p = 1 ∨ p = 2 ∨ p = 5 then 4 else if p = 3 then 10 else if p = 6 then 5 else 0) else if (c - 16) % 4 = 1 then (if p < 8 then 1 else 0) else if (c - 16) % 4 = 2 then (if p < 16 then -1 else 0) else 0
set_option maxRecDepth 1000000 in
theorem st_P : ∀ c, c < 32 → ∀ p, p < 16 → CX92.1 (1 + c) p = I00 c p := by decide +kernel
theorem st_C {c p : Nat} (hc : c < 32) : CX519.1 (1 + c) p = I00 c p := by
  rw [ch_s (a := 1 + c) (by omega)]
  by_cases h : p < 16
  · exact st_P c hc p h
  · rw [ch_z (by omega)]
    unfold I00
    rw [if_neg (by omega)]
    split
    · rfl
    · rw [if_neg (show ¬ (p = 1 ∨ p = 2 ∨ p = 5) by omega), if_neg (show ¬ p = 3 by omega), if_neg (show ¬ p = 6 by omega), if_neg (show ¬ p < 8 by omega)]
      repeat' split
      all_goals rfl
set_option maxRecDepth 1000000 in
theorem st_R : ∀ j, j < 4230 → (match loc j with | none => true | some q => decide (q.1 < 32 ∧ I00 q.1 q.2 = nv N00 j)) = true := by decide +kernel
set_option maxRecDepth 1000000 in
theorem st_G : ∀ j, j < 4230 → (rg j).1 ≤ (N00 j).toInt ∧ (N00 j).toInt ≤ (rg j).2 := by decide +kernel
theorem nv_cg {N N' : Nat → Int32} (h : ∀ j, j < 4230 → N j = N' j) {j : Nat} (hj : j < 4230) : nv N j = nv N' j := by
  unfold nv nl
  rw [h j hj, h (j - 3) (by omega), h (j - j % 4) (by omega), h (j - ((j - 966) % 6 - 2)) (by omega)]
theorem st_I : InvN (CX519.1 136) := by
  have z : ∀ j, j < 1106 → CX519.1 136 j = 0 := fun j hj => ch_m (Or.inl hj)
  refine ⟨fun j hj => by rw [st_N j hj]; exact st_G j hj, fun l hl => ?_, fun c hc => ?_, fun p hp _ => ?_, ?_⟩
  · unfold okL
    rw [z _ (by omega), z _ (by omega), z _ (by omega), z _ (by omega)]
    decide
  · unfold okL
    rw [z _ (by omega), z _ (by omega), z _ (by omega), z _ (by omega)]
    decide
  · exact z _ (by omega)
  · intro i hi h
    rw [ch_m (j := 4216) (by omega)] at h
    have : (0 : Int32).toInt = 0 := rfl
    omega
set_option maxRecDepth 1000000 in
theorem st_K : ∀ i, i < 2 → CX519.1 34 i = 0 ∧ CX519.1 138 i = 0 := by decide +kernel
theorem st_L : Rel CX519 := by
  refine ⟨fun j hj c p hl => ?_, st_I, fun i hi => ?_, fun i hi h => absurd (st_K i hi).2 h⟩
  · have a := st_R j hj
    rw [hl] at a
    have a : c < 32 ∧ I00 c p = nv N00 j := of_decide_eq_true a
    rw [nv_cg st_N hj, st_C a.1]
    exact a.2
  · rw [(st_K i hi).1, (st_K i hi).2]
theorem pure_main {L : Nat} {xs : Nat → Int32} (hL : L ≤ 4096) : w_start L xs := by
  unfold w_start
  refine st_11 (q := fun M2 => w_X12_init (uN M2 135) (fun M4 => Stt M4 ∧ w_law_l L xs (0, M4))) ?_
  exact st_12 (q := fun M4 => Stt M4 ∧ w_law_l L xs (0, M4)) ⟨st_S, law_all hL st_L⟩
