set_option maxRecDepth 100000 in
theorem hin0 : ∀ w ∈ u_ws RX0 TX0 5, w ∈ Ts := by
  intro w hw
  obtain ⟨j, hj, rfl⟩ := List.mem_map.mp hw
  have hj := List.mem_range.mp hj
  rcases (show j = 0 ∨ j = 1 ∨ j = 2 ∨ j = 3 ∨ j = 4 by omega) with rfl | rfl | rfl | rfl | rfl
  · exact mT 161 rfl rfl
  · exact mT 163 rfl rfl
  · exact mT 165 rfl rfl
  · exact mT 167 rfl rfl
  · exact mT 169 rfl rfl
set_option maxRecDepth 100000 in
theorem hin1 : ∀ w ∈ u_ws RX1 TX1 8, w ∈ Ts := by
  intro w hw
  obtain ⟨j, hj, rfl⟩ := List.mem_map.mp hw
  have hj := List.mem_range.mp hj
  rcases (show j = 0 ∨ j = 1 ∨ j = 2 ∨ j = 3 ∨ j = 4 ∨ j = 5 ∨ j = 6 ∨ j = 7 by omega) with rfl | rfl | rfl | rfl | rfl | rfl | rfl | rfl
  · exact mT 91 rfl rfl
  · exact mT 93 rfl rfl
  · exact mT 95 rfl rfl
  · exact mT 97 rfl rfl
  · exact mT 99 rfl rfl
  · exact mT 101 rfl rfl
  · exact mT 103 rfl rfl
  · exact mT 105 rfl rfl
set_option maxRecDepth 100000 in
theorem hin2 : ∀ w ∈ u_ws RX2 TX2 2, w ∈ Ts := by
  intro w hw
  obtain ⟨j, hj, rfl⟩ := List.mem_map.mp hw
  have hj := List.mem_range.mp hj
  rcases (show j = 0 ∨ j = 1 by omega) with rfl | rfl
  · exact mT 458 rfl rfl
  · exact mT 460 rfl rfl
set_option maxRecDepth 100000 in
theorem hin3 : ∀ w ∈ u_ws RX3 TX3 8, w ∈ Ts := by
  intro w hw
  obtain ⟨j, hj, rfl⟩ := List.mem_map.mp hw
  have hj := List.mem_range.mp hj
  rcases (show j = 0 ∨ j = 1 ∨ j = 2 ∨ j = 3 ∨ j = 4 ∨ j = 5 ∨ j = 6 ∨ j = 7 by omega) with rfl | rfl | rfl | rfl | rfl | rfl | rfl | rfl
  · exact mT 127 rfl rfl
  · exact mT 129 rfl rfl
  · exact mT 131 rfl rfl
  · exact mT 133 rfl rfl
  · exact mT 135 rfl rfl
  · exact mT 137 rfl rfl
  · exact mT 139 rfl rfl
  · exact mT 141 rfl rfl
set_option maxRecDepth 100000 in
theorem hin4 : ∀ w ∈ u_ws RX4 TX4 7, w ∈ Ts := by
  intro w hw
  obtain ⟨j, hj, rfl⟩ := List.mem_map.mp hw
  have hj := List.mem_range.mp hj
  rcases (show j = 0 ∨ j = 1 ∨ j = 2 ∨ j = 3 ∨ j = 4 ∨ j = 5 ∨ j = 6 by omega) with rfl | rfl | rfl | rfl | rfl | rfl | rfl
  · exact mT 222 rfl rfl
  · exact mT 224 rfl rfl
  · exact mT 226 rfl rfl
  · exact mT 228 rfl rfl
  · exact mT 230 rfl rfl
  · exact mT 232 rfl rfl
  · exact mT 234 rfl rfl
set_option maxRecDepth 100000 in
theorem hin5 : ∀ w ∈ u_ws RX5 TX5 19, w ∈ Ts := by
  intro w hw
  obtain ⟨j, hj, rfl⟩ := List.mem_map.mp hw
  have hj := List.mem_range.mp hj
  rcases (show j = 0 ∨ j = 1 ∨ j = 2 ∨ j = 3 ∨ j = 4 ∨ j = 5 ∨ j = 6 ∨ j = 7 ∨ j = 8 ∨ j = 9 ∨ j = 10 ∨ j = 11 ∨ j = 12 ∨ j = 13 ∨ j = 14 ∨ j = 15 ∨ j = 16 ∨ j = 17 ∨ j = 18 by omega) with rfl | rfl | rfl | rfl | rfl | rfl | rfl | rfl | rfl | rfl | rfl | rfl | rfl | rfl | rfl | rfl | rfl | rfl | rfl
  · exact mT 550 rfl rfl
  · exact mT 552 rfl rfl
  · exact mT 554 rfl rfl
  · exact mT 556 rfl rfl
  · exact mT 558 rfl rfl
  · exact mT 560 rfl rfl
  · exact mT 562 rfl rfl
  · exact mT 564 rfl rfl
  · exact mT 566 rfl rfl
  · exact mT 568 rfl rfl
  · exact mT 570 rfl rfl
  · exact mT 572 rfl rfl
  · exact mT 574 rfl rfl
  · exact mT 576 rfl rfl
  · exact mT 578 rfl rfl
  · exact mT 580 rfl rfl
  · exact mT 582 rfl rfl
  · exact mT 584 rfl rfl
  · exact mT 586 rfl rfl
set_option maxRecDepth 100000 in
theorem mc_X4_init : MC yX4_init cX4_init 1 0 := ⟨mT 62 rfl rfl, mT 49 rfl rfl, mT 63 rfl rfl, ⟨by decide +kernel, by decide +kernel, by decide +kernel⟩, rfl⟩
set_option maxRecDepth 100000 in
theorem mc_X1_init : MC yX1_init cX1_init 1 0 := ⟨mT 70 rfl rfl, mT 50 rfl rfl, mT 71 rfl rfl, ⟨by decide +kernel, by decide +kernel, by decide +kernel⟩, rfl⟩
set_option maxRecDepth 100000 in
theorem mc_X3_init : MC yX3_init cX3_init 2 1 := ⟨mT 112 rfl rfl, mT 51 rfl rfl, mT 113 rfl rfl, ⟨by decide +kernel, by decide +kernel, by decide +kernel⟩, rfl⟩
set_option maxRecDepth 100000 in
theorem mc_X0_init : MC yX0_init cX0_init 1 0 := ⟨mT 148 rfl rfl, mT 52 rfl rfl, mT 149 rfl rfl, ⟨by decide +kernel, by decide +kernel, by decide +kernel⟩, rfl⟩
set_option maxRecDepth 100000 in
theorem mi_X4_layGround : MI yX4_layGround cX4_layGround 4 none 3 := ⟨mT 176 rfl rfl, mT 0 rfl rfl, mT 49 rfl rfl, mT 177 rfl rfl, ⟨by decide +kernel, by decide +kernel, by decide +kernel⟩⟩
set_option maxRecDepth 100000 in
theorem mi_X1_lay : MI yX1_lay cX1_lay 4 none 3 := ⟨mT 179 rfl rfl, mT 180 rfl rfl, mT 50 rfl rfl, mT 181 rfl rfl, ⟨by decide +kernel, by decide +kernel, by decide +kernel⟩⟩
set_option maxRecDepth 100000 in
theorem mi_X1_corner : MI yX1_corner cX1_corner 6 (some .int) 2 := ⟨mT 184 rfl rfl, mT 1 rfl rfl, mT 50 rfl rfl, mT 185 rfl rfl, ⟨by decide +kernel, by decide +kernel, by decide +kernel⟩⟩
set_option maxRecDepth 100000 in
theorem mi_X1_addThings : MI yX1_addThings cX1_addThings 4 none 2 := ⟨mT 188 rfl rfl, mT 2 rfl rfl, mT 50 rfl rfl, mT 189 rfl rfl, ⟨by decide +kernel, by decide +kernel, by decide +kernel⟩⟩
set_option maxRecDepth 100000 in
theorem ms_X4_has : MS yX4_has cX4_has 2 (some .boolean) 2 := ⟨mT 191 rfl rfl, mT 49 rfl rfl, mT 192 rfl rfl, ⟨by decide +kernel, by decide +kernel, by decide +kernel⟩⟩
set_option maxRecDepth 100000 in
theorem mi_X3_makeSure : MI yX3_makeSure cX3_makeSure 1 none 0 := ⟨mT 194 rfl rfl, mT 195 rfl rfl, mT 51 rfl rfl, mT 196 rfl rfl, ⟨by decide +kernel, by decide +kernel, by decide +kernel⟩⟩
set_option maxRecDepth 100000 in
theorem ms_J7_fill_53178 : MS yJ7_fill_53178 cJ7_fill_53178 4 none 2 := ⟨mT 198 rfl rfl, mT 53 rfl rfl, mT 199 rfl rfl, ⟨by decide +kernel, by decide +kernel, by decide +kernel⟩⟩
set_option maxRecDepth 100000 in
theorem mi_X3_settle : MI yX3_settle cX3_settle 2 none 0 := ⟨mT 202 rfl rfl, mT 3 rfl rfl, mT 51 rfl rfl, mT 203 rfl rfl, ⟨by decide +kernel, by decide +kernel, by decide +kernel⟩⟩
set_option maxRecDepth 100000 in
theorem mi_X3_numberChances : MI yX3_numberChances cX3_numberChances 2 none 0 := ⟨mT 206 rfl rfl, mT 4 rfl rfl, mT 51 rfl rfl, mT 207 rfl rfl, ⟨by decide +kernel, by decide +kernel, by decide +kernel⟩⟩
set_option maxRecDepth 100000 in
theorem ms_J7_fill_d0a16 : MS yJ7_fill_d0a16 cJ7_fill_d0a16 5 none 2 := ⟨mT 209 rfl rfl, mT 53 rfl rfl, mT 210 rfl rfl, ⟨by decide +kernel, by decide +kernel, by decide +kernel⟩⟩
set_option maxRecDepth 100000 in
theorem mi_X3_settleOne : MI yX3_settleOne cX3_settleOne 4 none 2 := ⟨mT 213 rfl rfl, mT 5 rfl rfl, mT 51 rfl rfl, mT 214 rfl rfl, ⟨by decide +kernel, by decide +kernel, by decide +kernel⟩⟩
set_option maxRecDepth 100000 in
theorem mi_X4_ground : MI yX4_ground cX4_ground 4 (some .int) 3 := ⟨mT 238 rfl rfl, mT 239 rfl rfl, mT 49 rfl rfl, mT 240 rfl rfl, ⟨by decide +kernel, by decide +kernel, by decide +kernel⟩⟩
set_option maxRecDepth 100000 in
theorem ms_X4_isWithin : MS yX4_isWithin cX4_isWithin 3 (some .boolean) 3 := ⟨mT 242 rfl rfl, mT 49 rfl rfl, mT 243 rfl rfl, ⟨by decide +kernel, by decide +kernel, by decide +kernel⟩⟩
set_option maxRecDepth 100000 in
theorem mi_X4_kind : MI yX4_kind cX4_kind 3 (some .int) 2 := ⟨mT 245 rfl rfl, mT 246 rfl rfl, mT 49 rfl rfl, mT 247 rfl rfl, ⟨by decide +kernel, by decide +kernel, by decide +kernel⟩⟩
set_option maxRecDepth 100000 in
theorem mi_X4_isThing : MI yX4_isThing cX4_isThing 2 (some .boolean) 1 := ⟨mT 250 rfl rfl, mT 6 rfl rfl, mT 49 rfl rfl, mT 251 rfl rfl, ⟨by decide +kernel, by decide +kernel, by decide +kernel⟩⟩
set_option maxRecDepth 100000 in
theorem mi_X3_isElder : MI yX3_isElder cX3_isElder 3 (some .boolean) 1 := ⟨mT 253 rfl rfl, mT 254 rfl rfl, mT 51 rfl rfl, mT 255 rfl rfl, ⟨by decide +kernel, by decide +kernel, by decide +kernel⟩⟩
set_option maxRecDepth 100000 in
theorem mi_X3_become : MI yX3_become cX3_become 5 (some .int) 3 := ⟨mT 257 rfl rfl, mT 258 rfl rfl, mT 51 rfl rfl, mT 259 rfl rfl, ⟨by decide +kernel, by decide +kernel, by decide +kernel⟩⟩
set_option maxRecDepth 100000 in
theorem mi_X4_twin : MI yX4_twin cX4_twin 4 (some .int) 3 := ⟨mT 261 rfl rfl, mT 262 rfl rfl, mT 49 rfl rfl, mT 263 rfl rfl, ⟨by decide +kernel, by decide +kernel, by decide +kernel⟩⟩
set_option maxRecDepth 100000 in
theorem mi_X4_about : MI yX4_about cX4_about 3 (some .int) 2 := ⟨mT 265 rfl rfl, mT 266 rfl rfl, mT 49 rfl rfl, mT 267 rfl rfl, ⟨by decide +kernel, by decide +kernel, by decide +kernel⟩⟩
set_option maxRecDepth 100000 in
theorem mi_X1_placeOf : MI yX1_placeOf cX1_placeOf 2 (some .int) 1 := ⟨mT 269 rfl rfl, mT 270 rfl rfl, mT 50 rfl rfl, mT 271 rfl rfl, ⟨by decide +kernel, by decide +kernel, by decide +kernel⟩⟩
set_option maxRecDepth 100000 in
theorem mi_X1_otherPlaceOf : MI yX1_otherPlaceOf cX1_otherPlaceOf 2 (some .int) 1 := ⟨mT 273 rfl rfl, mT 274 rfl rfl, mT 50 rfl rfl, mT 275 rfl rfl, ⟨by decide +kernel, by decide +kernel, by decide +kernel⟩⟩
set_option maxRecDepth 100000 in
theorem mi_X4_told : MI yX4_told cX4_told 2 (some .int) 1 := ⟨mT 278 rfl rfl, mT 279 rfl rfl, mT 49 rfl rfl, mT 280 rfl rfl, ⟨by decide +kernel, by decide +kernel, by decide +kernel⟩⟩
set_option maxRecDepth 100000 in
theorem ms_X4_oneIf : MS yX4_oneIf cX4_oneIf 1 (some .int) 1 := ⟨mT 282 rfl rfl, mT 49 rfl rfl, mT 283 rfl rfl, ⟨by decide +kernel, by decide +kernel, by decide +kernel⟩⟩
set_option maxRecDepth 100000 in
theorem mi_X3_younger : MI yX3_younger cX3_younger 3 (some .int) 0 := ⟨mT 285 rfl rfl, mT 286 rfl rfl, mT 51 rfl rfl, mT 287 rfl rfl, ⟨by decide +kernel, by decide +kernel, by decide +kernel⟩⟩
set_option maxRecDepth 100000 in
theorem mi_X4_opens : MI yX4_opens cX4_opens 3 (some .int) 2 := ⟨mT 289 rfl rfl, mT 290 rfl rfl, mT 49 rfl rfl, mT 291 rfl rfl, ⟨by decide +kernel, by decide +kernel, by decide +kernel⟩⟩
set_option maxRecDepth 100000 in
theorem mi_X4_isSetting : MI yX4_isSetting cX4_isSetting 2 (some .boolean) 1 := ⟨mT 294 rfl rfl, mT 7 rfl rfl, mT 49 rfl rfl, mT 295 rfl rfl, ⟨by decide +kernel, by decide +kernel, by decide +kernel⟩⟩
set_option maxRecDepth 100000 in
theorem mi_X4_settings : MI yX4_settings cX4_settings 1 (some .int) 0 := ⟨mT 298 rfl rfl, mT 8 rfl rfl, mT 49 rfl rfl, mT 299 rfl rfl, ⟨by decide +kernel, by decide +kernel, by decide +kernel⟩⟩
set_option maxRecDepth 100000 in
theorem mi_X3_openBy : MI yX3_openBy cX3_openBy 5 (some .long) 1 := ⟨mT 303 rfl rfl, mT 304 rfl rfl, mT 51 rfl rfl, mT 305 rfl rfl, ⟨by decide +kernel, by decide +kernel, by decide +kernel⟩⟩
set_option maxRecDepth 100000 in
theorem mi_X4_through : MI yX4_through cX4_through 3 (some .int) 2 := ⟨mT 308 rfl rfl, mT 309 rfl rfl, mT 49 rfl rfl, mT 310 rfl rfl, ⟨by decide +kernel, by decide +kernel, by decide +kernel⟩⟩
set_option maxRecDepth 100000 in
theorem mi_X4_placesBy : MI yX4_placesBy cX4_placesBy 5 (some (.object "OpenGrounds$Grid")) 1 := ⟨mT 313 rfl rfl, mT 9 rfl rfl, mT 49 rfl rfl, mT 314 rfl rfl, ⟨by decide +kernel, by decide +kernel, by decide +kernel⟩⟩
set_option maxRecDepth 100000 in
theorem mi_X0_isCrossed : MI yX0_isCrossed cX0_isCrossed 2 (some .boolean) 1 := ⟨mT 316 rfl rfl, mT 317 rfl rfl, mT 52 rfl rfl, mT 318 rfl rfl, ⟨by decide +kernel, by decide +kernel, by decide +kernel⟩⟩
set_option maxRecDepth 100000 in
theorem ms_X0_line : MS yX0_line cX0_line 5 (some .int) 3 := ⟨mT 320 rfl rfl, mT 52 rfl rfl, mT 321 rfl rfl, ⟨by decide +kernel, by decide +kernel, by decide +kernel⟩⟩
set_option maxRecDepth 100000 in
theorem mi_X0_spread : MI yX0_spread cX0_spread 5 (some .int) 1 := ⟨mT 324 rfl rfl, mT 10 rfl rfl, mT 52 rfl rfl, mT 325 rfl rfl, ⟨by decide +kernel, by decide +kernel, by decide +kernel⟩⟩
set_option maxRecDepth 100000 in
theorem mi_X4_wall : MI yX4_wall cX4_wall 3 (some .int) 2 := ⟨mT 327 rfl rfl, mT 328 rfl rfl, mT 49 rfl rfl, mT 329 rfl rfl, ⟨by decide +kernel, by decide +kernel, by decide +kernel⟩⟩
set_option maxRecDepth 100000 in
theorem mi_X4_isWalled : MI yX4_isWalled cX4_isWalled 7 (some .boolean) 2 := ⟨mT 332 rfl rfl, mT 11 rfl rfl, mT 49 rfl rfl, mT 333 rfl rfl, ⟨by decide +kernel, by decide +kernel, by decide +kernel⟩⟩
set_option maxRecDepth 100000 in
theorem mi_X0_layBetween : MI yX0_layBetween cX0_layBetween 8 none 4 := ⟨mT 335 rfl rfl, mT 336 rfl rfl, mT 52 rfl rfl, mT 337 rfl rfl, ⟨by decide +kernel, by decide +kernel, by decide +kernel⟩⟩
set_option maxRecDepth 100000 in
theorem mi_X1_exchanged : MI yX1_exchanged cX1_exchanged 5 (some .int) 1 := ⟨mT 340 rfl rfl, mT 341 rfl rfl, mT 50 rfl rfl, mT 342 rfl rfl, ⟨by decide +kernel, by decide +kernel, by decide +kernel⟩⟩
set_option maxRecDepth 100000 in
theorem mi_X4_heap : MI yX4_heap cX4_heap 4 (some .int) 2 := ⟨mT 344 rfl rfl, mT 345 rfl rfl, mT 49 rfl rfl, mT 346 rfl rfl, ⟨by decide +kernel, by decide +kernel, by decide +kernel⟩⟩
set_option maxRecDepth 100000 in
theorem mi_X4_isPlace : MI yX4_isPlace cX4_isPlace 2 (some .boolean) 1 := ⟨mT 349 rfl rfl, mT 12 rfl rfl, mT 49 rfl rfl, mT 350 rfl rfl, ⟨by decide +kernel, by decide +kernel, by decide +kernel⟩⟩
set_option maxRecDepth 100000 in
theorem mi_X0_heapAt : MI yX0_heapAt cX0_heapAt 2 (some .int) 1 := ⟨mT 352 rfl rfl, mT 353 rfl rfl, mT 52 rfl rfl, mT 354 rfl rfl, ⟨by decide +kernel, by decide +kernel, by decide +kernel⟩⟩
set_option maxRecDepth 100000 in
theorem ms_J6_numberOfTrailingZeros_0f7a4 : MS yJ6_numberOfTrailingZeros_0f7a4 cJ6_numberOfTrailingZeros_0f7a4 2 (some .int) 1 := ⟨mT 356 rfl rfl, mT 55 rfl rfl, mT 357 rfl rfl, ⟨by decide +kernel, by decide +kernel, by decide +kernel⟩⟩
set_option maxRecDepth 100000 in
theorem mi_X4_heaps : MI yX4_heaps cX4_heaps 4 (some .int) 2 := ⟨mT 360 rfl rfl, mT 361 rfl rfl, mT 49 rfl rfl, mT 362 rfl rfl, ⟨by decide +kernel, by decide +kernel, by decide +kernel⟩⟩
set_option maxRecDepth 100000 in
theorem mi_X0_heapCount : MI yX0_heapCount cX0_heapCount 4 (some .int) 0 := ⟨mT 364 rfl rfl, mT 365 rfl rfl, mT 52 rfl rfl, mT 366 rfl rfl, ⟨by decide +kernel, by decide +kernel, by decide +kernel⟩⟩
set_option maxRecDepth 100000 in
theorem mi_X0_greatestHeap : MI yX0_greatestHeap cX0_greatestHeap 3 (some .int) 0 := ⟨mT 369 rfl rfl, mT 370 rfl rfl, mT 52 rfl rfl, mT 371 rfl rfl, ⟨by decide +kernel, by decide +kernel, by decide +kernel⟩⟩
set_option maxRecDepth 100000 in
theorem ms_J6_bitCount_0f7a4 : MS yJ6_bitCount_0f7a4 cJ6_bitCount_0f7a4 1 (some .int) 1 := ⟨mT 373 rfl rfl, mT 55 rfl rfl, mT 374 rfl rfl, ⟨by decide +kernel, by decide +kernel, by decide +kernel⟩⟩
set_option maxRecDepth 100000 in
theorem ms_J9_max_7cf53 : MS yJ9_max_7cf53 cJ9_max_7cf53 2 (some .int) 2 := ⟨mT 379 rfl rfl, mT 56 rfl rfl, mT 380 rfl rfl, ⟨by decide +kernel, by decide +kernel, by decide +kernel⟩⟩
set_option maxRecDepth 100000 in
theorem mi_X4_count : MI yX4_count cX4_count 3 (some .int) 2 := ⟨mT 382 rfl rfl, mT 383 rfl rfl, mT 49 rfl rfl, mT 384 rfl rfl, ⟨by decide +kernel, by decide +kernel, by decide +kernel⟩⟩
set_option maxRecDepth 100000 in
theorem ms_X4_isWay : MS yX4_isWay cX4_isWay 1 (some .boolean) 1 := ⟨mT 386 rfl rfl, mT 49 rfl rfl, mT 387 rfl rfl, ⟨by decide +kernel, by decide +kernel, by decide +kernel⟩⟩
set_option maxRecDepth 100000 in
theorem mi_X4_isSize : MI yX4_isSize cX4_isSize 2 (some .boolean) 1 := ⟨mT 390 rfl rfl, mT 13 rfl rfl, mT 49 rfl rfl, mT 391 rfl rfl, ⟨by decide +kernel, by decide +kernel, by decide +kernel⟩⟩
set_option maxRecDepth 100000 in
theorem mi_X4_waysOfSize : MI yX4_waysOfSize cX4_waysOfSize 5 (some .int) 2 := ⟨mT 394 rfl rfl, mT 14 rfl rfl, mT 49 rfl rfl, mT 395 rfl rfl, ⟨by decide +kernel, by decide +kernel, by decide +kernel⟩⟩
set_option maxRecDepth 100000 in
theorem mi_X4_comesThrough : MI yX4_comesThrough cX4_comesThrough 4 (some .boolean) 2 := ⟨mT 399 rfl rfl, mT 15 rfl rfl, mT 49 rfl rfl, mT 400 rfl rfl, ⟨by decide +kernel, by decide +kernel, by decide +kernel⟩⟩
set_option maxRecDepth 100000 in
theorem mi_X4_walls : MI yX4_walls cX4_walls 5 (some .int) 2 := ⟨mT 402 rfl rfl, mT 403 rfl rfl, mT 49 rfl rfl, mT 404 rfl rfl, ⟨by decide +kernel, by decide +kernel, by decide +kernel⟩⟩
set_option maxRecDepth 100000 in
theorem mi_X4_joined : MI yX4_joined cX4_joined 6 (some .int) 3 := ⟨mT 406 rfl rfl, mT 407 rfl rfl, mT 49 rfl rfl, mT 408 rfl rfl, ⟨by decide +kernel, by decide +kernel, by decide +kernel⟩⟩
set_option maxRecDepth 100000 in
theorem mi_X4_sized : MI yX4_sized cX4_sized 6 (some .int) 3 := ⟨mT 411 rfl rfl, mT 412 rfl rfl, mT 49 rfl rfl, mT 413 rfl rfl, ⟨by decide +kernel, by decide +kernel, by decide +kernel⟩⟩
set_option maxRecDepth 100000 in
theorem mi_X4_heapSum : MI yX4_heapSum cX4_heapSum 4 (some .int) 1 := ⟨mT 415 rfl rfl, mT 416 rfl rfl, mT 49 rfl rfl, mT 417 rfl rfl, ⟨by decide +kernel, by decide +kernel, by decide +kernel⟩⟩
set_option maxRecDepth 100000 in
theorem mi_X4_chance : MI yX4_chance cX4_chance 7 (some .long) 3 := ⟨mT 419 rfl rfl, mT 420 rfl rfl, mT 49 rfl rfl, mT 421 rfl rfl, ⟨by decide +kernel, by decide +kernel, by decide +kernel⟩⟩
set_option maxRecDepth 100000 in
theorem ms_X4_power : MS yX4_power cX4_power 5 (some .long) 2 := ⟨mT 424 rfl rfl, mT 49 rfl rfl, mT 425 rfl rfl, ⟨by decide +kernel, by decide +kernel, by decide +kernel⟩⟩
set_option maxRecDepth 100000 in
theorem mi_X4_pivot : MI yX4_pivot cX4_pivot 5 (some .int) 2 := ⟨mT 427 rfl rfl, mT 428 rfl rfl, mT 49 rfl rfl, mT 429 rfl rfl, ⟨by decide +kernel, by decide +kernel, by decide +kernel⟩⟩
set_option maxRecDepth 100000 in
theorem mi_X4_first : MI yX4_first cX4_first 4 (some .int) 2 := ⟨mT 431 rfl rfl, mT 432 rfl rfl, mT 49 rfl rfl, mT 433 rfl rfl, ⟨by decide +kernel, by decide +kernel, by decide +kernel⟩⟩
set_option maxRecDepth 100000 in
theorem mi_X4_sheet : MI yX4_sheet cX4_sheet 4 (some .int) 3 := ⟨mT 435 rfl rfl, mT 436 rfl rfl, mT 49 rfl rfl, mT 437 rfl rfl, ⟨by decide +kernel, by decide +kernel, by decide +kernel⟩⟩
set_option maxRecDepth 100000 in
theorem ms_X4_sheetFinding : MS yX4_sheetFinding cX4_sheetFinding 3 (some .int) 3 := ⟨mT 439 rfl rfl, mT 49 rfl rfl, mT 440 rfl rfl, ⟨by decide +kernel, by decide +kernel, by decide +kernel⟩⟩
set_option maxRecDepth 100000 in
theorem ms_X4_isSheet : MS yX4_isSheet cX4_isSheet 1 (some .boolean) 1 := ⟨mT 442 rfl rfl, mT 49 rfl rfl, mT 443 rfl rfl, ⟨by decide +kernel, by decide +kernel, by decide +kernel⟩⟩
set_option maxRecDepth 100000 in
theorem ms_X4_isSort : MS yX4_isSort cX4_isSort 1 (some .boolean) 1 := ⟨mT 445 rfl rfl, mT 49 rfl rfl, mT 446 rfl rfl, ⟨by decide +kernel, by decide +kernel, by decide +kernel⟩⟩
set_option maxRecDepth 100000 in
theorem mc_X2_init : MC yX2_init cX2_init 3 2 := ⟨mT 451 rfl rfl, mT 57 rfl rfl, mT 452 rfl rfl, ⟨by decide +kernel, by decide +kernel, by decide +kernel⟩, rfl⟩
set_option maxRecDepth 100000 in
theorem mi_X4_row : MI yX4_row cX4_row 4 (some .int) 3 := ⟨mT 464 rfl rfl, mT 465 rfl rfl, mT 49 rfl rfl, mT 466 rfl rfl, ⟨by decide +kernel, by decide +kernel, by decide +kernel⟩⟩
set_option maxRecDepth 100000 in
theorem mi_X4_newRowFinding : MI yX4_newRowFinding cX4_newRowFinding 4 (some .int) 3 := ⟨mT 469 rfl rfl, mT 16 rfl rfl, mT 49 rfl rfl, mT 470 rfl rfl, ⟨by decide +kernel, by decide +kernel, by decide +kernel⟩⟩
set_option maxRecDepth 100000 in
theorem mi_X2_hasRow : MI yX2_hasRow cX2_hasRow 2 (some .boolean) 1 := ⟨mT 472 rfl rfl, mT 473 rfl rfl, mT 57 rfl rfl, mT 474 rfl rfl, ⟨by decide +kernel, by decide +kernel, by decide +kernel⟩⟩
set_option maxRecDepth 100000 in
theorem mi_X4_put : MI yX4_put cX4_put 6 (some .int) 5 := ⟨mT 476 rfl rfl, mT 477 rfl rfl, mT 49 rfl rfl, mT 478 rfl rfl, ⟨by decide +kernel, by decide +kernel, by decide +kernel⟩⟩
set_option maxRecDepth 100000 in
theorem mi_X4_putFinding : MI yX4_putFinding cX4_putFinding 7 (some .int) 4 := ⟨mT 481 rfl rfl, mT 17 rfl rfl, mT 49 rfl rfl, mT 482 rfl rfl, ⟨by decide +kernel, by decide +kernel, by decide +kernel⟩⟩
set_option maxRecDepth 100000 in
theorem ms_X4_rowFinding : MS yX4_rowFinding cX4_rowFinding 2 (some .int) 2 := ⟨mT 484 rfl rfl, mT 49 rfl rfl, mT 485 rfl rfl, ⟨by decide +kernel, by decide +kernel, by decide +kernel⟩⟩
set_option maxRecDepth 100000 in
theorem mi_X2_holds : MI yX2_holds cX2_holds 5 (some .boolean) 3 := ⟨mT 487 rfl rfl, mT 488 rfl rfl, mT 57 rfl rfl, mT 489 rfl rfl, ⟨by decide +kernel, by decide +kernel, by decide +kernel⟩⟩
set_option maxRecDepth 100000 in
theorem mi_X4_copy : MI yX4_copy cX4_copy 8 (some .int) 7 := ⟨mT 491 rfl rfl, mT 492 rfl rfl, mT 49 rfl rfl, mT 493 rfl rfl, ⟨by decide +kernel, by decide +kernel, by decide +kernel⟩⟩
set_option maxRecDepth 100000 in
theorem mi_X4_copyFinding : MI yX4_copyFinding cX4_copyFinding 10 (some .int) 7 := ⟨mT 496 rfl rfl, mT 18 rfl rfl, mT 49 rfl rfl, mT 497 rfl rfl, ⟨by decide +kernel, by decide +kernel, by decide +kernel⟩⟩
set_option maxRecDepth 100000 in
theorem mi_X4_read : MI yX4_read cX4_read 3 (some .int) 2 := ⟨mT 502 rfl rfl, mT 503 rfl rfl, mT 49 rfl rfl, mT 504 rfl rfl, ⟨by decide +kernel, by decide +kernel, by decide +kernel⟩⟩
set_option maxRecDepth 100000 in
theorem mi_X4_readKinds : MI yX4_readKinds cX4_readKinds 5 (some .int) 1 := ⟨mT 507 rfl rfl, mT 19 rfl rfl, mT 49 rfl rfl, mT 508 rfl rfl, ⟨by decide +kernel, by decide +kernel, by decide +kernel⟩⟩
set_option maxRecDepth 100000 in
theorem ms_J9_min_7cf53 : MS yJ9_min_7cf53 cJ9_min_7cf53 2 (some .int) 2 := ⟨mT 510 rfl rfl, mT 56 rfl rfl, mT 511 rfl rfl, ⟨by decide +kernel, by decide +kernel, by decide +kernel⟩⟩
set_option maxRecDepth 100000 in
theorem mi_X4_trace : MI yX4_trace cX4_trace 1 (some .long) 0 := ⟨mT 514 rfl rfl, mT 515 rfl rfl, mT 49 rfl rfl, mT 516 rfl rfl, ⟨by decide +kernel, by decide +kernel, by decide +kernel⟩⟩
set_option maxRecDepth 100000 in
theorem mi_X4_status : MI yX4_status cX4_status 1 (some .int) 0 := ⟨mT 518 rfl rfl, mT 519 rfl rfl, mT 49 rfl rfl, mT 520 rfl rfl, ⟨by decide +kernel, by decide +kernel, by decide +kernel⟩⟩
set_option maxRecDepth 100000 in
theorem mc_X5_init : MC yX5_init cX5_init 1 0 := ⟨mT 524 rfl rfl, mT 54 rfl rfl, mT 525 rfl rfl, ⟨by decide +kernel, by decide +kernel, by decide +kernel⟩, rfl⟩
set_option maxRecDepth 100000 in
theorem mi_X5_all : MI yX5_all cX5_all 3 none 1 := ⟨mT 529 rfl rfl, mT 20 rfl rfl, mT 54 rfl rfl, mT 530 rfl rfl, ⟨by decide +kernel, by decide +kernel, by decide +kernel⟩⟩
set_option maxRecDepth 100000 in
theorem mi_X5_ground : MI yX5_ground cX5_ground 4 (some .int) 3 := ⟨mT 591 rfl rfl, mT 592 rfl rfl, mT 54 rfl rfl, mT 593 rfl rfl, ⟨by decide +kernel, by decide +kernel, by decide +kernel⟩⟩
set_option maxRecDepth 100000 in
theorem ms_X5_in : MS yX5_in cX5_in 3 (some .boolean) 3 := ⟨mT 595 rfl rfl, mT 54 rfl rfl, mT 596 rfl rfl, ⟨by decide +kernel, by decide +kernel, by decide +kernel⟩⟩
set_option maxRecDepth 100000 in
theorem mi_X5_things : MI yX5_things cX5_things 1 (some .int) 0 := ⟨mT 599 rfl rfl, mT 21 rfl rfl, mT 54 rfl rfl, mT 600 rfl rfl, ⟨by decide +kernel, by decide +kernel, by decide +kernel⟩⟩
set_option maxRecDepth 100000 in
theorem mi_X5_places : MI yX5_places cX5_places 1 (some .int) 0 := ⟨mT 603 rfl rfl, mT 22 rfl rfl, mT 54 rfl rfl, mT 604 rfl rfl, ⟨by decide +kernel, by decide +kernel, by decide +kernel⟩⟩
set_option maxRecDepth 100000 in
theorem mi_X5_roads : MI yX5_roads cX5_roads 1 (some .int) 0 := ⟨mT 607 rfl rfl, mT 23 rfl rfl, mT 54 rfl rfl, mT 608 rfl rfl, ⟨by decide +kernel, by decide +kernel, by decide +kernel⟩⟩
set_option maxRecDepth 100000 in
theorem mi_X5_across : MI yX5_across cX5_across 1 (some .int) 0 := ⟨mT 611 rfl rfl, mT 24 rfl rfl, mT 54 rfl rfl, mT 612 rfl rfl, ⟨by decide +kernel, by decide +kernel, by decide +kernel⟩⟩
set_option maxRecDepth 100000 in
theorem mi_X5_kind : MI yX5_kind cX5_kind 3 (some .int) 2 := ⟨mT 614 rfl rfl, mT 615 rfl rfl, mT 54 rfl rfl, mT 616 rfl rfl, ⟨by decide +kernel, by decide +kernel, by decide +kernel⟩⟩
set_option maxRecDepth 100000 in
theorem mi_X5_becomes : MI yX5_becomes cX5_becomes 4 (some .int) 2 := ⟨mT 619 rfl rfl, mT 25 rfl rfl, mT 54 rfl rfl, mT 620 rfl rfl, ⟨by decide +kernel, by decide +kernel, by decide +kernel⟩⟩
set_option maxRecDepth 100000 in
theorem mi_X5_isThing : MI yX5_isThing cX5_isThing 2 (some .boolean) 1 := ⟨mT 623 rfl rfl, mT 26 rfl rfl, mT 54 rfl rfl, mT 624 rfl rfl, ⟨by decide +kernel, by decide +kernel, by decide +kernel⟩⟩
set_option maxRecDepth 100000 in
theorem mi_X5_isElder : MI yX5_isElder cX5_isElder 4 (some .boolean) 1 := ⟨mT 627 rfl rfl, mT 27 rfl rfl, mT 54 rfl rfl, mT 628 rfl rfl, ⟨by decide +kernel, by decide +kernel, by decide +kernel⟩⟩
set_option maxRecDepth 100000 in
theorem mi_X5_chances : MI yX5_chances cX5_chances 3 (some .int) 0 := ⟨mT 631 rfl rfl, mT 28 rfl rfl, mT 54 rfl rfl, mT 632 rfl rfl, ⟨by decide +kernel, by decide +kernel, by decide +kernel⟩⟩
set_option maxRecDepth 100000 in
theorem mi_X5_twin : MI yX5_twin cX5_twin 5 (some .int) 3 := ⟨mT 634 rfl rfl, mT 635 rfl rfl, mT 54 rfl rfl, mT 636 rfl rfl, ⟨by decide +kernel, by decide +kernel, by decide +kernel⟩⟩
set_option maxRecDepth 100000 in
theorem mi_X5_about : MI yX5_about cX5_about 3 (some .int) 2 := ⟨mT 638 rfl rfl, mT 639 rfl rfl, mT 54 rfl rfl, mT 640 rfl rfl, ⟨by decide +kernel, by decide +kernel, by decide +kernel⟩⟩
set_option maxRecDepth 100000 in
theorem mi_X5_numberOf : MI yX5_numberOf cX5_numberOf 4 (some .int) 1 := ⟨mT 643 rfl rfl, mT 29 rfl rfl, mT 54 rfl rfl, mT 644 rfl rfl, ⟨by decide +kernel, by decide +kernel, by decide +kernel⟩⟩
set_option maxRecDepth 100000 in
theorem mi_X5_end : MI yX5_end cX5_end 4 (some .int) 2 := ⟨mT 647 rfl rfl, mT 30 rfl rfl, mT 54 rfl rfl, mT 648 rfl rfl, ⟨by decide +kernel, by decide +kernel, by decide +kernel⟩⟩
set_option maxRecDepth 100000 in
theorem mi_X5_told : MI yX5_told cX5_told 4 (some .int) 1 := ⟨mT 650 rfl rfl, mT 651 rfl rfl, mT 54 rfl rfl, mT 652 rfl rfl, ⟨by decide +kernel, by decide +kernel, by decide +kernel⟩⟩
set_option maxRecDepth 100000 in
theorem mi_X5_opens : MI yX5_opens cX5_opens 4 (some .int) 2 := ⟨mT 654 rfl rfl, mT 655 rfl rfl, mT 54 rfl rfl, mT 656 rfl rfl, ⟨by decide +kernel, by decide +kernel, by decide +kernel⟩⟩
set_option maxRecDepth 100000 in
theorem mi_X5_isSetting : MI yX5_isSetting cX5_isSetting 2 (some .boolean) 1 := ⟨mT 659 rfl rfl, mT 31 rfl rfl, mT 54 rfl rfl, mT 660 rfl rfl, ⟨by decide +kernel, by decide +kernel, by decide +kernel⟩⟩
set_option maxRecDepth 100000 in
theorem mi_X5_opensBy : MI yX5_opensBy cX5_opensBy 3 (some .boolean) 2 := ⟨mT 667 rfl rfl, mT 32 rfl rfl, mT 54 rfl rfl, mT 668 rfl rfl, ⟨by decide +kernel, by decide +kernel, by decide +kernel⟩⟩
set_option maxRecDepth 100000 in
theorem mi_X5_through : MI yX5_through cX5_through 3 (some .int) 2 := ⟨mT 670 rfl rfl, mT 671 rfl rfl, mT 54 rfl rfl, mT 672 rfl rfl, ⟨by decide +kernel, by decide +kernel, by decide +kernel⟩⟩
set_option maxRecDepth 100000 in
theorem mi_X5_needWays : MI yX5_needWays cX5_needWays 2 none 0 := ⟨mT 675 rfl rfl, mT 33 rfl rfl, mT 54 rfl rfl, mT 676 rfl rfl, ⟨by decide +kernel, by decide +kernel, by decide +kernel⟩⟩
set_option maxRecDepth 100000 in
theorem mi_X5_joins : MI yX5_joins cX5_joins 7 none 1 := ⟨mT 679 rfl rfl, mT 34 rfl rfl, mT 54 rfl rfl, mT 680 rfl rfl, ⟨by decide +kernel, by decide +kernel, by decide +kernel⟩⟩
set_option maxRecDepth 100000 in
theorem mi_X5_root : MI yX5_root cX5_root 3 (some .int) 1 := ⟨mT 683 rfl rfl, mT 35 rfl rfl, mT 54 rfl rfl, mT 684 rfl rfl, ⟨by decide +kernel, by decide +kernel, by decide +kernel⟩⟩
set_option maxRecDepth 100000 in
theorem mi_X5_isThrough : MI yX5_isThrough cX5_isThrough 6 (some .boolean) 1 := ⟨mT 687 rfl rfl, mT 36 rfl rfl, mT 54 rfl rfl, mT 688 rfl rfl, ⟨by decide +kernel, by decide +kernel, by decide +kernel⟩⟩
set_option maxRecDepth 100000 in
theorem mi_X5_heapOf : MI yX5_heapOf cX5_heapOf 2 (some .int) 1 := ⟨mT 691 rfl rfl, mT 37 rfl rfl, mT 54 rfl rfl, mT 692 rfl rfl, ⟨by decide +kernel, by decide +kernel, by decide +kernel⟩⟩
set_option maxRecDepth 100000 in
theorem mi_X5_is : MI yX5_is cX5_is 4 (some .boolean) 2 := ⟨mT 695 rfl rfl, mT 38 rfl rfl, mT 54 rfl rfl, mT 696 rfl rfl, ⟨by decide +kernel, by decide +kernel, by decide +kernel⟩⟩
set_option maxRecDepth 100000 in
theorem mi_X5_wall : MI yX5_wall cX5_wall 3 (some .int) 2 := ⟨mT 698 rfl rfl, mT 699 rfl rfl, mT 54 rfl rfl, mT 700 rfl rfl, ⟨by decide +kernel, by decide +kernel, by decide +kernel⟩⟩
set_option maxRecDepth 100000 in
theorem mi_X5_isWall : MI yX5_isWall cX5_isWall 8 (some .boolean) 1 := ⟨mT 703 rfl rfl, mT 39 rfl rfl, mT 54 rfl rfl, mT 704 rfl rfl, ⟨by decide +kernel, by decide +kernel, by decide +kernel⟩⟩
set_option maxRecDepth 100000 in
theorem mi_X5_roadRight : MI yX5_roadRight cX5_roadRight 4 (some .int) 3 := ⟨mT 707 rfl rfl, mT 40 rfl rfl, mT 54 rfl rfl, mT 708 rfl rfl, ⟨by decide +kernel, by decide +kernel, by decide +kernel⟩⟩
set_option maxRecDepth 100000 in
theorem mi_X5_roadDown : MI yX5_roadDown cX5_roadDown 4 (some .int) 3 := ⟨mT 711 rfl rfl, mT 41 rfl rfl, mT 54 rfl rfl, mT 712 rfl rfl, ⟨by decide +kernel, by decide +kernel, by decide +kernel⟩⟩
set_option maxRecDepth 100000 in
theorem mi_X5_heap : MI yX5_heap cX5_heap 3 (some .int) 2 := ⟨mT 714 rfl rfl, mT 715 rfl rfl, mT 54 rfl rfl, mT 716 rfl rfl, ⟨by decide +kernel, by decide +kernel, by decide +kernel⟩⟩
set_option maxRecDepth 100000 in
theorem mi_X5_isPlace : MI yX5_isPlace cX5_isPlace 2 (some .boolean) 1 := ⟨mT 719 rfl rfl, mT 42 rfl rfl, mT 54 rfl rfl, mT 720 rfl rfl, ⟨by decide +kernel, by decide +kernel, by decide +kernel⟩⟩
set_option maxRecDepth 100000 in
theorem mi_X5_heaps : MI yX5_heaps cX5_heaps 6 (some .int) 2 := ⟨mT 722 rfl rfl, mT 723 rfl rfl, mT 54 rfl rfl, mT 724 rfl rfl, ⟨by decide +kernel, by decide +kernel, by decide +kernel⟩⟩
set_option maxRecDepth 100000 in
theorem mi_X5_heapCount : MI yX5_heapCount cX5_heapCount 3 (some .int) 0 := ⟨mT 727 rfl rfl, mT 43 rfl rfl, mT 54 rfl rfl, mT 728 rfl rfl, ⟨by decide +kernel, by decide +kernel, by decide +kernel⟩⟩
set_option maxRecDepth 100000 in
theorem mi_X5_sizeOf : MI yX5_sizeOf cX5_sizeOf 4 (some .int) 1 := ⟨mT 731 rfl rfl, mT 44 rfl rfl, mT 54 rfl rfl, mT 732 rfl rfl, ⟨by decide +kernel, by decide +kernel, by decide +kernel⟩⟩
set_option maxRecDepth 100000 in
theorem mi_X5_count : MI yX5_count cX5_count 3 (some .int) 2 := ⟨mT 734 rfl rfl, mT 735 rfl rfl, mT 54 rfl rfl, mT 736 rfl rfl, ⟨by decide +kernel, by decide +kernel, by decide +kernel⟩⟩
set_option maxRecDepth 100000 in
theorem mi_X5_isSize : MI yX5_isSize cX5_isSize 2 (some .boolean) 1 := ⟨mT 739 rfl rfl, mT 45 rfl rfl, mT 54 rfl rfl, mT 740 rfl rfl, ⟨by decide +kernel, by decide +kernel, by decide +kernel⟩⟩
set_option maxRecDepth 100000 in
theorem mi_X5_countOf : MI yX5_countOf cX5_countOf 5 (some .int) 2 := ⟨mT 743 rfl rfl, mT 46 rfl rfl, mT 54 rfl rfl, mT 744 rfl rfl, ⟨by decide +kernel, by decide +kernel, by decide +kernel⟩⟩
set_option maxRecDepth 100000 in
theorem ms_X5_bits : MS yX5_bits cX5_bits 3 (some .int) 1 := ⟨mT 746 rfl rfl, mT 54 rfl rfl, mT 747 rfl rfl, ⟨by decide +kernel, by decide +kernel, by decide +kernel⟩⟩
set_option maxRecDepth 100000 in
theorem mi_X5_walls : MI yX5_walls cX5_walls 5 (some .int) 2 := ⟨mT 749 rfl rfl, mT 750 rfl rfl, mT 54 rfl rfl, mT 751 rfl rfl, ⟨by decide +kernel, by decide +kernel, by decide +kernel⟩⟩
set_option maxRecDepth 100000 in
theorem mi_X5_joined : MI yX5_joined cX5_joined 6 (some .int) 3 := ⟨mT 753 rfl rfl, mT 754 rfl rfl, mT 54 rfl rfl, mT 755 rfl rfl, ⟨by decide +kernel, by decide +kernel, by decide +kernel⟩⟩
set_option maxRecDepth 100000 in
theorem mi_X5_sized : MI yX5_sized cX5_sized 6 (some .int) 3 := ⟨mT 757 rfl rfl, mT 758 rfl rfl, mT 54 rfl rfl, mT 759 rfl rfl, ⟨by decide +kernel, by decide +kernel, by decide +kernel⟩⟩
set_option maxRecDepth 100000 in
theorem mi_X5_heapSum : MI yX5_heapSum cX5_heapSum 4 (some .int) 1 := ⟨mT 761 rfl rfl, mT 762 rfl rfl, mT 54 rfl rfl, mT 763 rfl rfl, ⟨by decide +kernel, by decide +kernel, by decide +kernel⟩⟩
set_option maxRecDepth 100000 in
theorem mi_X5_chance : MI yX5_chance cX5_chance 11 (some .long) 3 := ⟨mT 765 rfl rfl, mT 766 rfl rfl, mT 54 rfl rfl, mT 767 rfl rfl, ⟨by decide +kernel, by decide +kernel, by decide +kernel⟩⟩
set_option maxRecDepth 100000 in
theorem mi_X5_pivot : MI yX5_pivot cX5_pivot 5 (some .int) 2 := ⟨mT 770 rfl rfl, mT 771 rfl rfl, mT 54 rfl rfl, mT 772 rfl rfl, ⟨by decide +kernel, by decide +kernel, by decide +kernel⟩⟩
set_option maxRecDepth 100000 in
theorem mi_X5_first : MI yX5_first cX5_first 4 (some .int) 2 := ⟨mT 774 rfl rfl, mT 775 rfl rfl, mT 54 rfl rfl, mT 776 rfl rfl, ⟨by decide +kernel, by decide +kernel, by decide +kernel⟩⟩
set_option maxRecDepth 100000 in
theorem mi_X5_sheet : MI yX5_sheet cX5_sheet 5 (some .int) 3 := ⟨mT 778 rfl rfl, mT 779 rfl rfl, mT 54 rfl rfl, mT 780 rfl rfl, ⟨by decide +kernel, by decide +kernel, by decide +kernel⟩⟩
set_option maxRecDepth 100000 in
theorem mi_X5_no : MI yX5_no cX5_no 2 (some .int) 1 := ⟨mT 783 rfl rfl, mT 47 rfl rfl, mT 54 rfl rfl, mT 784 rfl rfl, ⟨by decide +kernel, by decide +kernel, by decide +kernel⟩⟩
set_option maxRecDepth 100000 in
theorem mi_X5_row : MI yX5_row cX5_row 5 (some .int) 3 := ⟨mT 786 rfl rfl, mT 787 rfl rfl, mT 54 rfl rfl, mT 788 rfl rfl, ⟨by decide +kernel, by decide +kernel, by decide +kernel⟩⟩
set_option maxRecDepth 100000 in
theorem mi_X5_put : MI yX5_put cX5_put 7 (some .int) 5 := ⟨mT 790 rfl rfl, mT 791 rfl rfl, mT 54 rfl rfl, mT 792 rfl rfl, ⟨by decide +kernel, by decide +kernel, by decide +kernel⟩⟩
set_option maxRecDepth 100000 in
theorem mi_X5_copy : MI yX5_copy cX5_copy 11 (some .int) 7 := ⟨mT 794 rfl rfl, mT 795 rfl rfl, mT 54 rfl rfl, mT 796 rfl rfl, ⟨by decide +kernel, by decide +kernel, by decide +kernel⟩⟩
set_option maxRecDepth 100000 in
theorem ms_X5_areThere : MS yX5_areThere cX5_areThere 3 (some .boolean) 3 := ⟨mT 798 rfl rfl, mT 54 rfl rfl, mT 799 rfl rfl, ⟨by decide +kernel, by decide +kernel, by decide +kernel⟩⟩
set_option maxRecDepth 100000 in
theorem mi_X5_read : MI yX5_read cX5_read 6 (some .int) 2 := ⟨mT 801 rfl rfl, mT 802 rfl rfl, mT 54 rfl rfl, mT 803 rfl rfl, ⟨by decide +kernel, by decide +kernel, by decide +kernel⟩⟩
set_option maxRecDepth 100000 in
theorem mi_X5_trace : MI yX5_trace cX5_trace 1 (some .long) 0 := ⟨mT 805 rfl rfl, mT 806 rfl rfl, mT 54 rfl rfl, mT 807 rfl rfl, ⟨by decide +kernel, by decide +kernel, by decide +kernel⟩⟩
set_option maxRecDepth 100000 in
theorem mi_X5_status : MI yX5_status cX5_status 1 (some .int) 0 := ⟨mT 809 rfl rfl, mT 810 rfl rfl, mT 54 rfl rfl, mT 811 rfl rfl, ⟨by decide +kernel, by decide +kernel, by decide +kernel⟩⟩
set_option maxRecDepth 100000 in
theorem it_RL : Cond.initialized RL ∈ Ts := mT 48 rfl rfl
set_option maxRecDepth 100000 in
theorem it_RX4 : Cond.initialized RX4 ∈ Ts := mT 49 rfl rfl
set_option maxRecDepth 100000 in
theorem it_RX1 : Cond.initialized RX1 ∈ Ts := mT 50 rfl rfl
set_option maxRecDepth 100000 in
theorem it_RX3 : Cond.initialized RX3 ∈ Ts := mT 51 rfl rfl
set_option maxRecDepth 100000 in
theorem it_RX0 : Cond.initialized RX0 ∈ Ts := mT 52 rfl rfl
set_option maxRecDepth 100000 in
theorem it_RJ7 : Cond.initialized RJ7 ∈ Ts := mT 53 rfl rfl
set_option maxRecDepth 100000 in
theorem it_RX5 : Cond.initialized RX5 ∈ Ts := mT 54 rfl rfl
set_option maxRecDepth 100000 in
theorem it_RJ6 : Cond.initialized RJ6 ∈ Ts := mT 55 rfl rfl
set_option maxRecDepth 100000 in
theorem it_RJ9 : Cond.initialized RJ9 ∈ Ts := mT 56 rfl rfl
set_option maxRecDepth 100000 in
theorem it_RX2 : Cond.initialized RX2 ∈ Ts := mT 57 rfl rfl
set_option maxRecDepth 100000 in
theorem it_RJ10 : Cond.initialized RJ10 ∈ Ts := mT 58 rfl rfl
set_option maxRecDepth 100000 in
theorem cl_RL_7 : Cond.classLink RL 7 RX4 ∈ Ts := mT 59 rfl rfl
set_option maxRecDepth 100000 in
theorem in_RX4 : Cond.instantiable RX4 7 ∈ Ts := mT 60 rfl rfl
set_option maxRecDepth 100000 in
theorem ml_RL_9 : Cond.methodLink RL 9 yX4_init ∈ Ts := mT 61 rfl rfl
set_option maxRecDepth 100000 in
theorem ml_RX4_1 : Cond.methodLink RX4 1 objectInit ∈ Ts := mT 64 rfl rfl
set_option maxRecDepth 100000 in
theorem im_objectInit : Cond.instanceMethod objectInit ∈ Ts := mT 65 rfl rfl
set_option maxRecDepth 100000 in
theorem co_objectInit : Cond.code objectInit ⟨#[0xb1]⟩ 1 none ∈ Ts := mT 66 rfl rfl
set_option maxRecDepth 100000 in
theorem cl_RX4_7 : Cond.classLink RX4 7 RX1 ∈ Ts := mT 67 rfl rfl
set_option maxRecDepth 100000 in
theorem in_RX1 : Cond.instantiable RX1 8 ∈ Ts := mT 68 rfl rfl
set_option maxRecDepth 100000 in
theorem ml_RX1_3 : Cond.methodLink RX1 3 objectInit ∈ Ts := mT 72 rfl rfl
set_option maxRecDepth 100000 in
theorem fl_RX1_15 : Cond.fieldLink RX1 15 (TX1 0).1 (TX1 0).2.1 (TX1 0).2.2.1 ∈ Ts := mT 73 rfl rfl
set_option maxRecDepth 100000 in
theorem fl_RX4_90 : Cond.fieldLink RX4 90 (TX1 0).1 (TX1 0).2.1 (TX1 0).2.2.1 ∈ Ts := mT 74 rfl rfl
set_option maxRecDepth 100000 in
theorem fl_RX1_19 : Cond.fieldLink RX1 19 (TX1 1).1 (TX1 1).2.1 (TX1 1).2.2.1 ∈ Ts := mT 75 rfl rfl
set_option maxRecDepth 100000 in
theorem fl_RX4_93 : Cond.fieldLink RX4 93 (TX1 1).1 (TX1 1).2.1 (TX1 1).2.2.1 ∈ Ts := mT 76 rfl rfl
set_option maxRecDepth 100000 in
theorem fl_RX1_22 : Cond.fieldLink RX1 22 (TX1 2).1 (TX1 2).2.1 (TX1 2).2.2.1 ∈ Ts := mT 77 rfl rfl
set_option maxRecDepth 100000 in
theorem fl_RX4_96 : Cond.fieldLink RX4 96 (TX1 2).1 (TX1 2).2.1 (TX1 2).2.2.1 ∈ Ts := mT 78 rfl rfl
set_option maxRecDepth 100000 in
theorem fl_RX4_57 : Cond.fieldLink RX4 57 (TX1 3).1 (TX1 3).2.1 (TX1 3).2.2.1 ∈ Ts := mT 79 rfl rfl
set_option maxRecDepth 100000 in
theorem fl_RX1_39 : Cond.fieldLink RX1 39 (TX1 3).1 (TX1 3).2.1 (TX1 3).2.2.1 ∈ Ts := mT 80 rfl rfl
set_option maxRecDepth 100000 in
theorem fl_RX3_41 : Cond.fieldLink RX3 41 (TX1 3).1 (TX1 3).2.1 (TX1 3).2.2.1 ∈ Ts := mT 81 rfl rfl
set_option maxRecDepth 100000 in
theorem fl_RX1_30 : Cond.fieldLink RX1 30 (TX1 4).1 (TX1 4).2.1 (TX1 4).2.2.1 ∈ Ts := mT 82 rfl rfl
set_option maxRecDepth 100000 in
theorem fl_RX4_238 : Cond.fieldLink RX4 238 (TX1 4).1 (TX1 4).2.1 (TX1 4).2.2.1 ∈ Ts := mT 83 rfl rfl
set_option maxRecDepth 100000 in
theorem fl_RX1_33 : Cond.fieldLink RX1 33 (TX1 5).1 (TX1 5).2.1 (TX1 5).2.2.1 ∈ Ts := mT 84 rfl rfl
set_option maxRecDepth 100000 in
theorem fl_RX4_226 : Cond.fieldLink RX4 226 (TX1 5).1 (TX1 5).2.1 (TX1 5).2.2.1 ∈ Ts := mT 85 rfl rfl
set_option maxRecDepth 100000 in
theorem fl_RX1_36 : Cond.fieldLink RX1 36 (TX1 6).1 (TX1 6).2.1 (TX1 6).2.2.1 ∈ Ts := mT 86 rfl rfl
set_option maxRecDepth 100000 in
theorem fl_RX4_232 : Cond.fieldLink RX4 232 (TX1 6).1 (TX1 6).2.1 (TX1 6).2.2.1 ∈ Ts := mT 87 rfl rfl
set_option maxRecDepth 100000 in
theorem fl_RX1_9 : Cond.fieldLink RX1 9 (TX1 7).1 (TX1 7).2.1 (TX1 7).2.2.1 ∈ Ts := mT 88 rfl rfl
set_option maxRecDepth 100000 in
theorem fl_RX3_64 : Cond.fieldLink RX3 64 (TX1 7).1 (TX1 7).2.1 (TX1 7).2.2.1 ∈ Ts := mT 89 rfl rfl
set_option maxRecDepth 100000 in
theorem fl_RX4_118 : Cond.fieldLink RX4 118 (TX1 7).1 (TX1 7).2.1 (TX1 7).2.2.1 ∈ Ts := mT 90 rfl rfl
set_option maxRecDepth 100000 in
theorem ac_int : Cond.arrayClass .int ∈ Ts := mT 108 rfl rfl
set_option maxRecDepth 100000 in
theorem cl_RX4_16 : Cond.classLink RX4 16 RX3 ∈ Ts := mT 109 rfl rfl
set_option maxRecDepth 100000 in
theorem in_RX3 : Cond.instantiable RX3 8 ∈ Ts := mT 110 rfl rfl
set_option maxRecDepth 100000 in
theorem ml_RX4_18 : Cond.methodLink RX4 18 yX3_init ∈ Ts := mT 111 rfl rfl
set_option maxRecDepth 100000 in
theorem ml_RX3_3 : Cond.methodLink RX3 3 objectInit ∈ Ts := mT 114 rfl rfl
set_option maxRecDepth 100000 in
theorem fl_RX3_28 : Cond.fieldLink RX3 28 (TX3 0).1 (TX3 0).2.1 (TX3 0).2.2.1 ∈ Ts := mT 115 rfl rfl
set_option maxRecDepth 100000 in
theorem fl_RX3_9 : Cond.fieldLink RX3 9 (TX3 1).1 (TX3 1).2.1 (TX3 1).2.2.1 ∈ Ts := mT 116 rfl rfl
set_option maxRecDepth 100000 in
theorem fl_RX4_66 : Cond.fieldLink RX4 66 (TX3 1).1 (TX3 1).2.1 (TX3 1).2.2.1 ∈ Ts := mT 117 rfl rfl
set_option maxRecDepth 100000 in
theorem fl_RX3_15 : Cond.fieldLink RX3 15 (TX3 2).1 (TX3 2).2.1 (TX3 2).2.2.1 ∈ Ts := mT 118 rfl rfl
set_option maxRecDepth 100000 in
theorem fl_RX4_77 : Cond.fieldLink RX4 77 (TX3 2).1 (TX3 2).2.1 (TX3 2).2.2.1 ∈ Ts := mT 119 rfl rfl
set_option maxRecDepth 100000 in
theorem fl_RX3_18 : Cond.fieldLink RX3 18 (TX3 3).1 (TX3 3).2.1 (TX3 3).2.2.1 ∈ Ts := mT 120 rfl rfl
set_option maxRecDepth 100000 in
theorem fl_RX4_80 : Cond.fieldLink RX4 80 (TX3 3).1 (TX3 3).2.1 (TX3 3).2.2.1 ∈ Ts := mT 121 rfl rfl
set_option maxRecDepth 100000 in
theorem fl_RX4_70 : Cond.fieldLink RX4 70 (TX3 4).1 (TX3 4).2.1 (TX3 4).2.2.1 ∈ Ts := mT 122 rfl rfl
set_option maxRecDepth 100000 in
theorem fl_RX3_51 : Cond.fieldLink RX3 51 (TX3 4).1 (TX3 4).2.1 (TX3 4).2.2.1 ∈ Ts := mT 123 rfl rfl
set_option maxRecDepth 100000 in
theorem fl_RX3_47 : Cond.fieldLink RX3 47 (TX3 5).1 (TX3 5).2.1 (TX3 5).2.2.1 ∈ Ts := mT 124 rfl rfl
set_option maxRecDepth 100000 in
theorem fl_RX3_21 : Cond.fieldLink RX3 21 (TX3 6).1 (TX3 6).2.1 (TX3 6).2.2.1 ∈ Ts := mT 125 rfl rfl
set_option maxRecDepth 100000 in
theorem fl_RX3_25 : Cond.fieldLink RX3 25 (TX3 7).1 (TX3 7).2.1 (TX3 7).2.2.1 ∈ Ts := mT 126 rfl rfl
set_option maxRecDepth 100000 in
theorem ac_long : Cond.arrayClass .long ∈ Ts := mT 144 rfl rfl
set_option maxRecDepth 100000 in
theorem cl_RX4_25 : Cond.classLink RX4 25 RX0 ∈ Ts := mT 145 rfl rfl
set_option maxRecDepth 100000 in
theorem in_RX0 : Cond.instantiable RX0 5 ∈ Ts := mT 146 rfl rfl
set_option maxRecDepth 100000 in
theorem ml_RX0_3 : Cond.methodLink RX0 3 objectInit ∈ Ts := mT 150 rfl rfl
set_option maxRecDepth 100000 in
theorem fl_RX0_9 : Cond.fieldLink RX0 9 (TX0 0).1 (TX0 0).2.1 (TX0 0).2.2.1 ∈ Ts := mT 151 rfl rfl
set_option maxRecDepth 100000 in
theorem fl_RX4_221 : Cond.fieldLink RX4 221 (TX0 0).1 (TX0 0).2.1 (TX0 0).2.2.1 ∈ Ts := mT 152 rfl rfl
set_option maxRecDepth 100000 in
theorem fl_RX0_15 : Cond.fieldLink RX0 15 (TX0 1).1 (TX0 1).2.1 (TX0 1).2.2.1 ∈ Ts := mT 153 rfl rfl
set_option maxRecDepth 100000 in
theorem fl_RX4_222 : Cond.fieldLink RX4 222 (TX0 1).1 (TX0 1).2.1 (TX0 1).2.2.1 ∈ Ts := mT 154 rfl rfl
set_option maxRecDepth 100000 in
theorem fl_RX0_18 : Cond.fieldLink RX0 18 (TX0 2).1 (TX0 2).2.1 (TX0 2).2.2.1 ∈ Ts := mT 155 rfl rfl
set_option maxRecDepth 100000 in
theorem fl_RX4_223 : Cond.fieldLink RX4 223 (TX0 2).1 (TX0 2).2.1 (TX0 2).2.2.1 ∈ Ts := mT 156 rfl rfl
set_option maxRecDepth 100000 in
theorem fl_RX0_21 : Cond.fieldLink RX0 21 (TX0 3).1 (TX0 3).2.1 (TX0 3).2.2.1 ∈ Ts := mT 157 rfl rfl
set_option maxRecDepth 100000 in
theorem fl_RX4_229 : Cond.fieldLink RX4 229 (TX0 3).1 (TX0 3).2.1 (TX0 3).2.2.1 ∈ Ts := mT 158 rfl rfl
set_option maxRecDepth 100000 in
theorem fl_RX0_24 : Cond.fieldLink RX0 24 (TX0 4).1 (TX0 4).2.1 (TX0 4).2.2.1 ∈ Ts := mT 159 rfl rfl
set_option maxRecDepth 100000 in
theorem fl_RX4_235 : Cond.fieldLink RX4 235 (TX0 4).1 (TX0 4).2.1 (TX0 4).2.2.1 ∈ Ts := mT 160 rfl rfl
set_option maxRecDepth 100000 in
theorem cl_RX4_35 : Cond.classLink RX4 35 RX2 ∈ Ts := mT 172 rfl rfl
set_option maxRecDepth 100000 in
theorem ml_RX4_49 : Cond.methodLink RX4 49 yX4_layGround ∈ Ts := mT 174 rfl rfl
set_option maxRecDepth 100000 in
theorem ml_RX4_215 : Cond.methodLink RX4 215 yX1_lay ∈ Ts := mT 178 rfl rfl
set_option maxRecDepth 100000 in
theorem ml_RX1_26 : Cond.methodLink RX1 26 yX1_corner ∈ Ts := mT 182 rfl rfl
set_option maxRecDepth 100000 in
theorem ml_RX1_42 : Cond.methodLink RX1 42 yX1_addThings ∈ Ts := mT 186 rfl rfl
set_option maxRecDepth 100000 in
theorem ml_RX4_218 : Cond.methodLink RX4 218 yX3_makeSure ∈ Ts := mT 193 rfl rfl
set_option maxRecDepth 100000 in
theorem ml_RX3_32 : Cond.methodLink RX3 32 yJ7_fill_53178 ∈ Ts := mT 197 rfl rfl
set_option maxRecDepth 100000 in
theorem ml_RX3_38 : Cond.methodLink RX3 38 yX3_settle ∈ Ts := mT 200 rfl rfl
set_option maxRecDepth 100000 in
theorem ml_RX3_58 : Cond.methodLink RX3 58 yX3_numberChances ∈ Ts := mT 204 rfl rfl
set_option maxRecDepth 100000 in
theorem ml_RX3_61 : Cond.methodLink RX3 61 yJ7_fill_d0a16 ∈ Ts := mT 208 rfl rfl
set_option maxRecDepth 100000 in
theorem ml_RX3_67 : Cond.methodLink RX3 67 yX3_settleOne ∈ Ts := mT 211 rfl rfl
set_option maxRecDepth 100000 in
theorem fl_RX4_10 : Cond.fieldLink RX4 10 (TX4 0).1 (TX4 0).2.1 (TX4 0).2.2.1 ∈ Ts := mT 215 rfl rfl
set_option maxRecDepth 100000 in
theorem fl_RX4_21 : Cond.fieldLink RX4 21 (TX4 1).1 (TX4 1).2.1 (TX4 1).2.2.1 ∈ Ts := mT 216 rfl rfl
set_option maxRecDepth 100000 in
theorem fl_RX4_28 : Cond.fieldLink RX4 28 (TX4 2).1 (TX4 2).2.1 (TX4 2).2.2.1 ∈ Ts := mT 217 rfl rfl
set_option maxRecDepth 100000 in
theorem fl_RX4_32 : Cond.fieldLink RX4 32 (TX4 3).1 (TX4 3).2.1 (TX4 3).2.2.1 ∈ Ts := mT 218 rfl rfl
set_option maxRecDepth 100000 in
theorem fl_RX4_37 : Cond.fieldLink RX4 37 (TX4 4).1 (TX4 4).2.1 (TX4 4).2.2.1 ∈ Ts := mT 219 rfl rfl
set_option maxRecDepth 100000 in
theorem fl_RX4_41 : Cond.fieldLink RX4 41 (TX4 5).1 (TX4 5).2.1 (TX4 5).2.2.1 ∈ Ts := mT 220 rfl rfl
set_option maxRecDepth 100000 in
theorem fl_RX4_45 : Cond.fieldLink RX4 45 (TX4 6).1 (TX4 6).2.1 (TX4 6).2.2.1 ∈ Ts := mT 221 rfl rfl
set_option maxRecDepth 100000 in
theorem ml_RL_13 : Cond.methodLink RL 13 yX4_ground ∈ Ts := mT 237 rfl rfl
set_option maxRecDepth 100000 in
theorem ml_RX4_53 : Cond.methodLink RX4 53 yX4_isWithin ∈ Ts := mT 241 rfl rfl
set_option maxRecDepth 100000 in
theorem ml_RL_18 : Cond.methodLink RL 18 yX4_kind ∈ Ts := mT 244 rfl rfl
set_option maxRecDepth 100000 in
theorem ml_RX4_59 : Cond.methodLink RX4 59 yX4_isThing ∈ Ts := mT 248 rfl rfl
set_option maxRecDepth 100000 in
theorem ml_RX4_63 : Cond.methodLink RX4 63 yX3_isElder ∈ Ts := mT 252 rfl rfl
set_option maxRecDepth 100000 in
theorem ml_RX4_73 : Cond.methodLink RX4 73 yX3_become ∈ Ts := mT 256 rfl rfl
set_option maxRecDepth 100000 in
theorem ml_RL_23 : Cond.methodLink RL 23 yX4_twin ∈ Ts := mT 260 rfl rfl
set_option maxRecDepth 100000 in
theorem ml_RL_27 : Cond.methodLink RL 27 yX4_about ∈ Ts := mT 264 rfl rfl
set_option maxRecDepth 100000 in
theorem ml_RX4_83 : Cond.methodLink RX4 83 yX1_placeOf ∈ Ts := mT 268 rfl rfl
set_option maxRecDepth 100000 in
theorem ml_RX4_87 : Cond.methodLink RX4 87 yX1_otherPlaceOf ∈ Ts := mT 272 rfl rfl
set_option maxRecDepth 100000 in
theorem ml_RX1_50 : Cond.methodLink RX1 50 yX1_placeOf ∈ Ts := mT 276 rfl rfl
set_option maxRecDepth 100000 in
theorem ml_RL_31 : Cond.methodLink RL 31 yX4_told ∈ Ts := mT 277 rfl rfl
set_option maxRecDepth 100000 in
theorem ml_RX4_100 : Cond.methodLink RX4 100 yX4_oneIf ∈ Ts := mT 281 rfl rfl
set_option maxRecDepth 100000 in
theorem ml_RX4_104 : Cond.methodLink RX4 104 yX3_younger ∈ Ts := mT 284 rfl rfl
set_option maxRecDepth 100000 in
theorem ml_RL_36 : Cond.methodLink RL 36 yX4_opens ∈ Ts := mT 288 rfl rfl
set_option maxRecDepth 100000 in
theorem ml_RX4_108 : Cond.methodLink RX4 108 yX4_isSetting ∈ Ts := mT 292 rfl rfl
set_option maxRecDepth 100000 in
theorem ml_RX4_159 : Cond.methodLink RX4 159 yX4_settings ∈ Ts := mT 296 rfl rfl
set_option maxRecDepth 100000 in
theorem fl_RX4_111 : Cond.fieldLink RX4 111 "OpenGrounds" "BODIES_ASKED" "[I" ∈ Ts := mT 300 rfl rfl
set_option maxRecDepth 100000 in
theorem ml_RX4_114 : Cond.methodLink RX4 114 yX3_openBy ∈ Ts := mT 302 rfl rfl
set_option maxRecDepth 100000 in
theorem ml_RL_40 : Cond.methodLink RL 40 yX4_through ∈ Ts := mT 307 rfl rfl
set_option maxRecDepth 100000 in
theorem ml_RX4_121 : Cond.methodLink RX4 121 yX4_placesBy ∈ Ts := mT 311 rfl rfl
set_option maxRecDepth 100000 in
theorem ml_RX4_125 : Cond.methodLink RX4 125 yX0_isCrossed ∈ Ts := mT 315 rfl rfl
set_option maxRecDepth 100000 in
theorem ml_RX0_31 : Cond.methodLink RX0 31 yX0_line ∈ Ts := mT 319 rfl rfl
set_option maxRecDepth 100000 in
theorem ml_RX0_35 : Cond.methodLink RX0 35 yX0_spread ∈ Ts := mT 322 rfl rfl
set_option maxRecDepth 100000 in
theorem ml_RL_44 : Cond.methodLink RL 44 yX4_wall ∈ Ts := mT 326 rfl rfl
set_option maxRecDepth 100000 in
theorem ml_RX4_128 : Cond.methodLink RX4 128 yX4_isWalled ∈ Ts := mT 330 rfl rfl
set_option maxRecDepth 100000 in
theorem ml_RX4_241 : Cond.methodLink RX4 241 yX0_layBetween ∈ Ts := mT 334 rfl rfl
set_option maxRecDepth 100000 in
theorem ml_RX4_245 : Cond.methodLink RX4 245 yX1_exchanged ∈ Ts := mT 339 rfl rfl
set_option maxRecDepth 100000 in
theorem ml_RL_48 : Cond.methodLink RL 48 yX4_heap ∈ Ts := mT 343 rfl rfl
set_option maxRecDepth 100000 in
theorem ml_RX4_132 : Cond.methodLink RX4 132 yX4_isPlace ∈ Ts := mT 347 rfl rfl
set_option maxRecDepth 100000 in
theorem ml_RX4_135 : Cond.methodLink RX4 135 yX0_heapAt ∈ Ts := mT 351 rfl rfl
set_option maxRecDepth 100000 in
theorem ml_RX4_138 : Cond.methodLink RX4 138 yJ6_numberOfTrailingZeros_0f7a4 ∈ Ts := mT 355 rfl rfl
set_option maxRecDepth 100000 in
theorem co_RJ6_264 : Cond.constant RJ6 264 (65536) ∈ Ts := mT 358 rfl rfl
set_option maxRecDepth 100000 in
theorem ml_RL_52 : Cond.methodLink RL 52 yX4_heaps ∈ Ts := mT 359 rfl rfl
set_option maxRecDepth 100000 in
theorem ml_RX4_143 : Cond.methodLink RX4 143 yX0_heapCount ∈ Ts := mT 363 rfl rfl
set_option maxRecDepth 100000 in
theorem ml_RX0_39 : Cond.methodLink RX0 39 yX0_heapAt ∈ Ts := mT 367 rfl rfl
set_option maxRecDepth 100000 in
theorem ml_RX4_146 : Cond.methodLink RX4 146 yX0_greatestHeap ∈ Ts := mT 368 rfl rfl
set_option maxRecDepth 100000 in
theorem ml_RX0_42 : Cond.methodLink RX0 42 yJ6_bitCount_0f7a4 ∈ Ts := mT 372 rfl rfl
set_option maxRecDepth 100000 in
theorem co_RJ6_265 : Cond.constant RJ6 265 (1431655765) ∈ Ts := mT 375 rfl rfl
set_option maxRecDepth 100000 in
theorem co_RJ6_266 : Cond.constant RJ6 266 (858993459) ∈ Ts := mT 376 rfl rfl
set_option maxRecDepth 100000 in
theorem co_RJ6_267 : Cond.constant RJ6 267 (252645135) ∈ Ts := mT 377 rfl rfl
set_option maxRecDepth 100000 in
theorem ml_RX0_47 : Cond.methodLink RX0 47 Lib.Math.max.name ∈ Ts := mT 378 rfl rfl
set_option maxRecDepth 100000 in
theorem st_Lib_Math_max_name : Cond.static Lib.Math.max.name ∈ Ts := mT 379 rfl rfl
set_option maxRecDepth 100000 in
theorem co_max : Cond.code Lib.Math.max.name Lib.Math.max.code 2 (some .int) ∈ Ts := mT 380 rfl rfl
set_option maxRecDepth 100000 in
theorem ml_RL_56 : Cond.methodLink RL 56 yX4_count ∈ Ts := mT 381 rfl rfl
set_option maxRecDepth 100000 in
theorem ml_RX4_149 : Cond.methodLink RX4 149 yX4_isWay ∈ Ts := mT 385 rfl rfl
set_option maxRecDepth 100000 in
theorem ml_RX4_152 : Cond.methodLink RX4 152 yX4_isSize ∈ Ts := mT 388 rfl rfl
set_option maxRecDepth 100000 in
theorem ml_RX4_155 : Cond.methodLink RX4 155 yX4_waysOfSize ∈ Ts := mT 392 rfl rfl
set_option maxRecDepth 100000 in
theorem ml_RX4_162 : Cond.methodLink RX4 162 yJ6_bitCount_0f7a4 ∈ Ts := mT 396 rfl rfl
set_option maxRecDepth 100000 in
theorem ml_RX4_174 : Cond.methodLink RX4 174 yX4_comesThrough ∈ Ts := mT 397 rfl rfl
set_option maxRecDepth 100000 in
theorem ml_RL_60 : Cond.methodLink RL 60 yX4_walls ∈ Ts := mT 401 rfl rfl
set_option maxRecDepth 100000 in
theorem ml_RL_64 : Cond.methodLink RL 64 yX4_joined ∈ Ts := mT 405 rfl rfl
set_option maxRecDepth 100000 in
theorem ml_RX4_165 : Cond.methodLink RX4 165 yX4_has ∈ Ts := mT 409 rfl rfl
set_option maxRecDepth 100000 in
theorem ml_RL_69 : Cond.methodLink RL 69 yX4_sized ∈ Ts := mT 410 rfl rfl
set_option maxRecDepth 100000 in
theorem ml_RL_73 : Cond.methodLink RL 73 yX4_heapSum ∈ Ts := mT 414 rfl rfl
set_option maxRecDepth 100000 in
theorem ml_RL_77 : Cond.methodLink RL 77 yX4_chance ∈ Ts := mT 418 rfl rfl
set_option maxRecDepth 100000 in
theorem co_RX4_168 : Cond.constantLong RX4 168 (-1) ∈ Ts := mT 422 rfl rfl
set_option maxRecDepth 100000 in
theorem ml_RX4_170 : Cond.methodLink RX4 170 yX4_power ∈ Ts := mT 423 rfl rfl
set_option maxRecDepth 100000 in
theorem ml_RL_82 : Cond.methodLink RL 82 yX4_pivot ∈ Ts := mT 426 rfl rfl
set_option maxRecDepth 100000 in
theorem ml_RL_86 : Cond.methodLink RL 86 yX4_first ∈ Ts := mT 430 rfl rfl
set_option maxRecDepth 100000 in
theorem ml_RL_90 : Cond.methodLink RL 90 yX4_sheet ∈ Ts := mT 434 rfl rfl
set_option maxRecDepth 100000 in
theorem ml_RX4_177 : Cond.methodLink RX4 177 yX4_sheetFinding ∈ Ts := mT 438 rfl rfl
set_option maxRecDepth 100000 in
theorem ml_RX4_204 : Cond.methodLink RX4 204 yX4_isSheet ∈ Ts := mT 441 rfl rfl
set_option maxRecDepth 100000 in
theorem ml_RX4_248 : Cond.methodLink RX4 248 yX4_isSort ∈ Ts := mT 444 rfl rfl
set_option maxRecDepth 100000 in
theorem in_RX2 : Cond.instantiable RX2 2 ∈ Ts := mT 447 rfl rfl
set_option maxRecDepth 100000 in
theorem cl_RX4_180 : Cond.classLink RX4 180 "[I" ∈ Ts := mT 448 rfl rfl
set_option maxRecDepth 100000 in
theorem ml_RX4_181 : Cond.methodLink RX4 181 yX2_init ∈ Ts := mT 450 rfl rfl
set_option maxRecDepth 100000 in
theorem ml_RX2_1 : Cond.methodLink RX2 1 objectInit ∈ Ts := mT 453 rfl rfl
set_option maxRecDepth 100000 in
theorem fl_RX2_7 : Cond.fieldLink RX2 7 (TX2 0).1 (TX2 0).2.1 (TX2 0).2.2.1 ∈ Ts := mT 454 rfl rfl
set_option maxRecDepth 100000 in
theorem fl_RX4_254 : Cond.fieldLink RX4 254 (TX2 0).1 (TX2 0).2.1 (TX2 0).2.2.1 ∈ Ts := mT 455 rfl rfl
set_option maxRecDepth 100000 in
theorem fl_RX2_13 : Cond.fieldLink RX2 13 (TX2 1).1 (TX2 1).2.1 (TX2 1).2.2.1 ∈ Ts := mT 456 rfl rfl
set_option maxRecDepth 100000 in
theorem fl_RX4_187 : Cond.fieldLink RX4 187 (TX2 1).1 (TX2 1).2.1 (TX2 1).2.2.1 ∈ Ts := mT 457 rfl rfl
set_option maxRecDepth 100000 in
theorem ml_RL_94 : Cond.methodLink RL 94 yX4_row ∈ Ts := mT 463 rfl rfl
set_option maxRecDepth 100000 in
theorem ml_RX4_184 : Cond.methodLink RX4 184 yX4_newRowFinding ∈ Ts := mT 467 rfl rfl
set_option maxRecDepth 100000 in
theorem ml_RX4_251 : Cond.methodLink RX4 251 yX2_hasRow ∈ Ts := mT 471 rfl rfl
set_option maxRecDepth 100000 in
theorem ml_RL_98 : Cond.methodLink RL 98 yX4_put ∈ Ts := mT 475 rfl rfl
set_option maxRecDepth 100000 in
theorem ml_RX4_190 : Cond.methodLink RX4 190 yX4_putFinding ∈ Ts := mT 479 rfl rfl
set_option maxRecDepth 100000 in
theorem ml_RX4_207 : Cond.methodLink RX4 207 yX4_rowFinding ∈ Ts := mT 483 rfl rfl
set_option maxRecDepth 100000 in
theorem ml_RX4_257 : Cond.methodLink RX4 257 yX2_holds ∈ Ts := mT 486 rfl rfl
set_option maxRecDepth 100000 in
theorem ml_RL_103 : Cond.methodLink RL 103 yX4_copy ∈ Ts := mT 490 rfl rfl
set_option maxRecDepth 100000 in
theorem ml_RX4_194 : Cond.methodLink RX4 194 yX4_copyFinding ∈ Ts := mT 494 rfl rfl
set_option maxRecDepth 100000 in
theorem ml_RX4_198 : Cond.methodLink RX4 198 arraycopyName ∈ Ts := mT 498 rfl rfl
set_option maxRecDepth 100000 in
theorem st_arraycopyName : Cond.static arraycopyName ∈ Ts := mT 499 rfl rfl
set_option maxRecDepth 100000 in
theorem na_arraycopyName : Cond.native arraycopyName ∈ Ts := mT 500 rfl rfl
set_option maxRecDepth 100000 in
theorem ml_RL_108 : Cond.methodLink RL 108 yX4_read ∈ Ts := mT 501 rfl rfl
set_option maxRecDepth 100000 in
theorem ml_RX4_211 : Cond.methodLink RX4 211 yX4_readKinds ∈ Ts := mT 505 rfl rfl
set_option maxRecDepth 100000 in
theorem ml_RX4_260 : Cond.methodLink RX4 260 Lib.Math.min.name ∈ Ts := mT 509 rfl rfl
set_option maxRecDepth 100000 in
theorem st_Lib_Math_min_name : Cond.static Lib.Math.min.name ∈ Ts := mT 510 rfl rfl
set_option maxRecDepth 100000 in
theorem co_min : Cond.code Lib.Math.min.name Lib.Math.min.code 2 (some .int) ∈ Ts := mT 511 rfl rfl
set_option maxRecDepth 100000 in
theorem ml_RX4_265 : Cond.methodLink RX4 265 yX4_kind ∈ Ts := mT 512 rfl rfl
set_option maxRecDepth 100000 in
theorem ml_RL_112 : Cond.methodLink RL 112 yX4_trace ∈ Ts := mT 513 rfl rfl
set_option maxRecDepth 100000 in
theorem ml_RL_117 : Cond.methodLink RL 117 yX4_status ∈ Ts := mT 517 rfl rfl
set_option maxRecDepth 100000 in
theorem cl_RL_10 : Cond.classLink RL 10 RX5 ∈ Ts := mT 521 rfl rfl
set_option maxRecDepth 100000 in
theorem in_RX5 : Cond.instantiable RX5 19 ∈ Ts := mT 522 rfl rfl
set_option maxRecDepth 100000 in
theorem ml_RL_12 : Cond.methodLink RL 12 yX5_init ∈ Ts := mT 523 rfl rfl
set_option maxRecDepth 100000 in
theorem ml_RX5_1 : Cond.methodLink RX5 1 objectInit ∈ Ts := mT 526 rfl rfl
set_option maxRecDepth 100000 in
theorem ml_RX5_54 : Cond.methodLink RX5 54 yX5_all ∈ Ts := mT 527 rfl rfl
set_option maxRecDepth 100000 in
theorem fl_RX5_58 : Cond.fieldLink RX5 58 (TX5 0).1 (TX5 0).2.1 (TX5 0).2.2.1 ∈ Ts := mT 531 rfl rfl
set_option maxRecDepth 100000 in
theorem fl_RX5_175 : Cond.fieldLink RX5 175 (TX5 1).1 (TX5 1).2.1 (TX5 1).2.2.1 ∈ Ts := mT 532 rfl rfl
set_option maxRecDepth 100000 in
theorem fl_RX5_110 : Cond.fieldLink RX5 110 (TX5 2).1 (TX5 2).2.1 (TX5 2).2.2.1 ∈ Ts := mT 533 rfl rfl
set_option maxRecDepth 100000 in
theorem fl_RX5_7 : Cond.fieldLink RX5 7 (TX5 3).1 (TX5 3).2.1 (TX5 3).2.2.1 ∈ Ts := mT 534 rfl rfl
set_option maxRecDepth 100000 in
theorem fl_RX5_13 : Cond.fieldLink RX5 13 (TX5 4).1 (TX5 4).2.1 (TX5 4).2.2.1 ∈ Ts := mT 535 rfl rfl
set_option maxRecDepth 100000 in
theorem fl_RX5_69 : Cond.fieldLink RX5 69 (TX5 5).1 (TX5 5).2.1 (TX5 5).2.2.1 ∈ Ts := mT 536 rfl rfl
set_option maxRecDepth 100000 in
theorem fl_RX5_16 : Cond.fieldLink RX5 16 (TX5 6).1 (TX5 6).2.1 (TX5 6).2.2.1 ∈ Ts := mT 537 rfl rfl
set_option maxRecDepth 100000 in
theorem fl_RX5_20 : Cond.fieldLink RX5 20 (TX5 7).1 (TX5 7).2.1 (TX5 7).2.2.1 ∈ Ts := mT 538 rfl rfl
set_option maxRecDepth 100000 in
theorem fl_RX5_23 : Cond.fieldLink RX5 23 (TX5 8).1 (TX5 8).2.1 (TX5 8).2.2.1 ∈ Ts := mT 539 rfl rfl
set_option maxRecDepth 100000 in
theorem fl_RX5_26 : Cond.fieldLink RX5 26 (TX5 9).1 (TX5 9).2.1 (TX5 9).2.2.1 ∈ Ts := mT 540 rfl rfl
set_option maxRecDepth 100000 in
theorem fl_RX5_30 : Cond.fieldLink RX5 30 (TX5 10).1 (TX5 10).2.1 (TX5 10).2.2.1 ∈ Ts := mT 541 rfl rfl
set_option maxRecDepth 100000 in
theorem fl_RX5_61 : Cond.fieldLink RX5 61 (TX5 11).1 (TX5 11).2.1 (TX5 11).2.2.1 ∈ Ts := mT 542 rfl rfl
set_option maxRecDepth 100000 in
theorem fl_RX5_33 : Cond.fieldLink RX5 33 (TX5 12).1 (TX5 12).2.1 (TX5 12).2.2.1 ∈ Ts := mT 543 rfl rfl
set_option maxRecDepth 100000 in
theorem fl_RX5_36 : Cond.fieldLink RX5 36 (TX5 13).1 (TX5 13).2.1 (TX5 13).2.2.1 ∈ Ts := mT 544 rfl rfl
set_option maxRecDepth 100000 in
theorem fl_RX5_39 : Cond.fieldLink RX5 39 (TX5 14).1 (TX5 14).2.1 (TX5 14).2.2.1 ∈ Ts := mT 545 rfl rfl
set_option maxRecDepth 100000 in
theorem fl_RX5_42 : Cond.fieldLink RX5 42 (TX5 15).1 (TX5 15).2.1 (TX5 15).2.2.1 ∈ Ts := mT 546 rfl rfl
set_option maxRecDepth 100000 in
theorem fl_RX5_45 : Cond.fieldLink RX5 45 (TX5 16).1 (TX5 16).2.1 (TX5 16).2.2.1 ∈ Ts := mT 547 rfl rfl
set_option maxRecDepth 100000 in
theorem fl_RX5_48 : Cond.fieldLink RX5 48 (TX5 17).1 (TX5 17).2.1 (TX5 17).2.2.1 ∈ Ts := mT 548 rfl rfl
set_option maxRecDepth 100000 in
theorem fl_RX5_51 : Cond.fieldLink RX5 51 (TX5 18).1 (TX5 18).2.1 (TX5 18).2.2.1 ∈ Ts := mT 549 rfl rfl
set_option maxRecDepth 100000 in
theorem ac_boolean : Cond.arrayClass .boolean ∈ Ts := mT 589 rfl rfl
set_option maxRecDepth 100000 in
theorem ml_RL_17 : Cond.methodLink RL 17 yX5_ground ∈ Ts := mT 590 rfl rfl
set_option maxRecDepth 100000 in
theorem ml_RX5_81 : Cond.methodLink RX5 81 yX5_in ∈ Ts := mT 594 rfl rfl
set_option maxRecDepth 100000 in
theorem ml_RX5_78 : Cond.methodLink RX5 78 yX5_things ∈ Ts := mT 597 rfl rfl
set_option maxRecDepth 100000 in
theorem ml_RX5_72 : Cond.methodLink RX5 72 yX5_places ∈ Ts := mT 601 rfl rfl
set_option maxRecDepth 100000 in
theorem ml_RX5_75 : Cond.methodLink RX5 75 yX5_roads ∈ Ts := mT 605 rfl rfl
set_option maxRecDepth 100000 in
theorem ml_RX5_65 : Cond.methodLink RX5 65 yX5_across ∈ Ts := mT 609 rfl rfl
set_option maxRecDepth 100000 in
theorem ml_RL_22 : Cond.methodLink RL 22 yX5_kind ∈ Ts := mT 613 rfl rfl
set_option maxRecDepth 100000 in
theorem ml_RX5_95 : Cond.methodLink RX5 95 yX5_becomes ∈ Ts := mT 617 rfl rfl
set_option maxRecDepth 100000 in
theorem ml_RX5_88 : Cond.methodLink RX5 88 yX5_isThing ∈ Ts := mT 621 rfl rfl
set_option maxRecDepth 100000 in
theorem ml_RX5_92 : Cond.methodLink RX5 92 yX5_isElder ∈ Ts := mT 625 rfl rfl
set_option maxRecDepth 100000 in
theorem ml_RX5_85 : Cond.methodLink RX5 85 yX5_chances ∈ Ts := mT 629 rfl rfl
set_option maxRecDepth 100000 in
theorem ml_RL_26 : Cond.methodLink RL 26 yX5_twin ∈ Ts := mT 633 rfl rfl
set_option maxRecDepth 100000 in
theorem ml_RL_30 : Cond.methodLink RL 30 yX5_about ∈ Ts := mT 637 rfl rfl
set_option maxRecDepth 100000 in
theorem ml_RX5_99 : Cond.methodLink RX5 99 yX5_numberOf ∈ Ts := mT 641 rfl rfl
set_option maxRecDepth 100000 in
theorem ml_RX5_103 : Cond.methodLink RX5 103 yX5_end ∈ Ts := mT 645 rfl rfl
set_option maxRecDepth 100000 in
theorem ml_RL_35 : Cond.methodLink RL 35 yX5_told ∈ Ts := mT 649 rfl rfl
set_option maxRecDepth 100000 in
theorem ml_RL_39 : Cond.methodLink RL 39 yX5_opens ∈ Ts := mT 653 rfl rfl
set_option maxRecDepth 100000 in
theorem ml_RX5_107 : Cond.methodLink RX5 107 yX5_isSetting ∈ Ts := mT 657 rfl rfl
set_option maxRecDepth 100000 in
theorem co_RX5_114 : Cond.constantLong RX5 114 (11) ∈ Ts := mT 661 rfl rfl
set_option maxRecDepth 100000 in
theorem co_RX5_116 : Cond.constantLong RX5 116 (111) ∈ Ts := mT 662 rfl rfl
set_option maxRecDepth 100000 in
theorem co_RX5_118 : Cond.constantLong RX5 118 (1111) ∈ Ts := mT 663 rfl rfl
set_option maxRecDepth 100000 in
theorem co_RX5_120 : Cond.constantLong RX5 120 (11111) ∈ Ts := mT 664 rfl rfl
set_option maxRecDepth 100000 in
theorem ml_RX5_122 : Cond.methodLink RX5 122 yX5_opensBy ∈ Ts := mT 665 rfl rfl
set_option maxRecDepth 100000 in
theorem ml_RL_43 : Cond.methodLink RL 43 yX5_through ∈ Ts := mT 669 rfl rfl
set_option maxRecDepth 100000 in
theorem ml_RX5_138 : Cond.methodLink RX5 138 yX5_needWays ∈ Ts := mT 673 rfl rfl
set_option maxRecDepth 100000 in
theorem ml_RX5_132 : Cond.methodLink RX5 132 yX5_joins ∈ Ts := mT 677 rfl rfl
set_option maxRecDepth 100000 in
theorem ml_RX5_126 : Cond.methodLink RX5 126 yX5_root ∈ Ts := mT 681 rfl rfl
set_option maxRecDepth 100000 in
theorem ml_RX5_135 : Cond.methodLink RX5 135 yX5_isThrough ∈ Ts := mT 685 rfl rfl
set_option maxRecDepth 100000 in
theorem ml_RX5_129 : Cond.methodLink RX5 129 yX5_heapOf ∈ Ts := mT 689 rfl rfl
set_option maxRecDepth 100000 in
theorem ml_RX5_141 : Cond.methodLink RX5 141 yX5_is ∈ Ts := mT 693 rfl rfl
set_option maxRecDepth 100000 in
theorem ml_RL_47 : Cond.methodLink RL 47 yX5_wall ∈ Ts := mT 697 rfl rfl
set_option maxRecDepth 100000 in
theorem ml_RX5_151 : Cond.methodLink RX5 151 yX5_isWall ∈ Ts := mT 701 rfl rfl
set_option maxRecDepth 100000 in
theorem ml_RX5_144 : Cond.methodLink RX5 144 yX5_roadRight ∈ Ts := mT 705 rfl rfl
set_option maxRecDepth 100000 in
theorem ml_RX5_148 : Cond.methodLink RX5 148 yX5_roadDown ∈ Ts := mT 709 rfl rfl
set_option maxRecDepth 100000 in
theorem ml_RL_51 : Cond.methodLink RL 51 yX5_heap ∈ Ts := mT 713 rfl rfl
set_option maxRecDepth 100000 in
theorem ml_RX5_155 : Cond.methodLink RX5 155 yX5_isPlace ∈ Ts := mT 717 rfl rfl
set_option maxRecDepth 100000 in
theorem ml_RL_55 : Cond.methodLink RL 55 yX5_heaps ∈ Ts := mT 721 rfl rfl
set_option maxRecDepth 100000 in
theorem ml_RX5_158 : Cond.methodLink RX5 158 yX5_heapCount ∈ Ts := mT 725 rfl rfl
set_option maxRecDepth 100000 in
theorem ml_RX5_161 : Cond.methodLink RX5 161 yX5_sizeOf ∈ Ts := mT 729 rfl rfl
set_option maxRecDepth 100000 in
theorem ml_RL_59 : Cond.methodLink RL 59 yX5_count ∈ Ts := mT 733 rfl rfl
set_option maxRecDepth 100000 in
theorem ml_RX5_167 : Cond.methodLink RX5 167 yX5_isSize ∈ Ts := mT 737 rfl rfl
set_option maxRecDepth 100000 in
theorem ml_RX5_170 : Cond.methodLink RX5 170 yX5_countOf ∈ Ts := mT 741 rfl rfl
set_option maxRecDepth 100000 in
theorem ml_RX5_164 : Cond.methodLink RX5 164 yX5_bits ∈ Ts := mT 745 rfl rfl
set_option maxRecDepth 100000 in
theorem ml_RL_63 : Cond.methodLink RL 63 yX5_walls ∈ Ts := mT 748 rfl rfl
set_option maxRecDepth 100000 in
theorem ml_RL_68 : Cond.methodLink RL 68 yX5_joined ∈ Ts := mT 752 rfl rfl
set_option maxRecDepth 100000 in
theorem ml_RL_72 : Cond.methodLink RL 72 yX5_sized ∈ Ts := mT 756 rfl rfl
set_option maxRecDepth 100000 in
theorem ml_RL_76 : Cond.methodLink RL 76 yX5_heapSum ∈ Ts := mT 760 rfl rfl
set_option maxRecDepth 100000 in
theorem ml_RL_81 : Cond.methodLink RL 81 yX5_chance ∈ Ts := mT 764 rfl rfl
set_option maxRecDepth 100000 in
theorem co_RX5_173 : Cond.constantLong RX5 173 (-1) ∈ Ts := mT 768 rfl rfl
set_option maxRecDepth 100000 in
theorem ml_RL_85 : Cond.methodLink RL 85 yX5_pivot ∈ Ts := mT 769 rfl rfl
set_option maxRecDepth 100000 in
theorem ml_RL_89 : Cond.methodLink RL 89 yX5_first ∈ Ts := mT 773 rfl rfl
set_option maxRecDepth 100000 in
theorem ml_RL_93 : Cond.methodLink RL 93 yX5_sheet ∈ Ts := mT 777 rfl rfl
set_option maxRecDepth 100000 in
theorem ml_RX5_178 : Cond.methodLink RX5 178 yX5_no ∈ Ts := mT 781 rfl rfl
set_option maxRecDepth 100000 in
theorem ml_RL_97 : Cond.methodLink RL 97 yX5_row ∈ Ts := mT 785 rfl rfl
set_option maxRecDepth 100000 in
theorem ml_RL_102 : Cond.methodLink RL 102 yX5_put ∈ Ts := mT 789 rfl rfl
set_option maxRecDepth 100000 in
theorem ml_RL_107 : Cond.methodLink RL 107 yX5_copy ∈ Ts := mT 793 rfl rfl
set_option maxRecDepth 100000 in
theorem ml_RX5_181 : Cond.methodLink RX5 181 yX5_areThere ∈ Ts := mT 797 rfl rfl
set_option maxRecDepth 100000 in
theorem ml_RL_111 : Cond.methodLink RL 111 yX5_read ∈ Ts := mT 800 rfl rfl
set_option maxRecDepth 100000 in
theorem ml_RL_116 : Cond.methodLink RL 116 yX5_trace ∈ Ts := mT 804 rfl rfl
set_option maxRecDepth 100000 in
theorem ml_RL_121 : Cond.methodLink RL 121 yX5_status ∈ Ts := mT 808 rfl rfl
set_option maxRecDepth 100000 in
theorem nl_RX4_9 : ∀ U, NW U → va_Nw (.methodLinkNest RX4 9 yX1_init RX4) U := fun _ h => h.1
set_option maxRecDepth 100000 in
theorem nl_RX4_27 : ∀ U, NW U → va_Nw (.methodLinkNest RX4 27 yX0_init RX4) U := fun _ h => h.2.1
set_option maxRecDepth 100000 in
theorem nl_RX1_46 : ∀ U, NW U → va_Nw (.methodLinkNest RX1 46 yX4_has RX4) U := fun _ h => h.2.2.1
set_option maxRecDepth 100000 in
theorem nl_RX3_54 : ∀ U, NW U → va_Nw (.methodLinkNest RX3 54 yX4_has RX4) U := fun _ h => h.2.2.2.1
set_option maxRecDepth 100000 in
theorem nl_RX0_27 : ∀ U, NW U → va_Nw (.methodLinkNest RX0 27 yX4_has RX4) U := fun _ h => h.2.2.2.2
