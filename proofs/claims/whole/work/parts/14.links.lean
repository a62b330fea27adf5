theorem gb_wi (i : Nat) {w : Cond} (h : lw_tbl[i]? = some w) (hg : goodWord w = true) : w ∈ gb_ws := List.mem_filter.mpr ⟨List.mem_of_getElem? h, hg⟩
theorem gb_ni (i : Nat) {w : Cond} (h : lw_tbl[i]? = some w) (hg : gb_isN w = true) : w ∈ gb_nest := List.mem_filter.mpr ⟨List.mem_of_getElem? h, hg⟩
theorem gb_wis {ws : List Cond} (ps : List Nat) (hp : ws = ps.filterMap (fun i => lw_tbl[i]?)) (hg : ws.all goodWord = true) : ∀ w ∈ ws, w ∈ gb_ws := by
  intro w hw
  have h1 := List.all_eq_true.mp hg w hw
  rw [hp] at hw
  obtain ⟨i, -, hi⟩ := List.mem_filterMap.mp hw
  exact List.mem_filter.mpr ⟨List.mem_of_getElem? hi, h1⟩
theorem cf0 : gb_cf 0 RX0 TX0 7 := ⟨by decide, rfl, gb_wis [388, 390, 392, 394, 396, 398, 400] (by decide +kernel) (by decide +kernel), tyX0_ok, nmX0, gb_wi 374 (by decide +kernel) rfl, gb_wi 117 (by decide +kernel) rfl⟩
theorem df0 : ∀ k, k < 7 → defaultValue (gb_ty 0 k) = gb_val (gb_ty 0 k) 0 0 none := by decide +kernel
theorem cf1 : gb_cf 1 RX1 TX1 7 := ⟨by decide, rfl, gb_wis [268, 270, 272, 274, 276, 278, 280] (by decide +kernel) (by decide +kernel), tyX1_ok, nmX1, gb_wi 256 (by decide +kernel) rfl, gb_wi 112 (by decide +kernel) rfl⟩
theorem df1 : ∀ k, k < 7 → defaultValue (gb_ty 1 k) = gb_val (gb_ty 1 k) 0 0 none := by decide +kernel
theorem cf2 : gb_cf 2 RX2 TX2 2 := ⟨by decide, rfl, gb_wis [223, 225] (by decide +kernel) (by decide +kernel), tyX2_ok, nmX2, gb_wi 157 (by decide +kernel) rfl, gb_wi 110 (by decide +kernel) rfl⟩
theorem df2 : ∀ k, k < 2 → defaultValue (gb_ty 2 k) = gb_val (gb_ty 2 k) 0 0 none := by decide +kernel
theorem cf3 : gb_cf 3 RX3 TX3 8 := ⟨by decide, rfl, gb_wis [301, 303, 305, 307, 309, 311, 313, 315] (by decide +kernel) (by decide +kernel), tyX3_ok, nmX3, gb_wi 285 (by decide +kernel) rfl, gb_wi 113 (by decide +kernel) rfl⟩
theorem df3 : ∀ k, k < 8 → defaultValue (gb_ty 3 k) = gb_val (gb_ty 3 k) 0 0 none := by decide +kernel
theorem cf4 : gb_cf 4 RX4 TX4 5 := ⟨by decide, rfl, gb_wis [334, 336, 338, 340, 342] (by decide +kernel) (by decide +kernel), tyX4_ok, nmX4, gb_wi 319 (by decide +kernel) rfl, gb_wi 114 (by decide +kernel) rfl⟩
theorem df4 : ∀ k, k < 5 → defaultValue (gb_ty 4 k) = gb_val (gb_ty 4 k) 0 0 none := by decide +kernel
theorem cf5 : gb_cf 5 RX5 TX5 9 := ⟨by decide, rfl, gb_wis [196, 198, 200, 202, 204, 206, 208, 210, 212] (by decide +kernel) (by decide +kernel), tyX5_ok, nmX5, gb_wi 164 (by decide +kernel) rfl, gb_wi 111 (by decide +kernel) rfl⟩
theorem df5 : ∀ k, k < 9 → defaultValue (gb_ty 5 k) = gb_val (gb_ty 5 k) 0 0 none := by decide +kernel
theorem cf6 : gb_cf 6 RX6 TX6 10 := ⟨by decide, rfl, gb_wis [417, 419, 421, 423, 425, 427, 429, 431, 433, 435] (by decide +kernel) (by decide +kernel), tyX6_ok, nmX6, gb_wi 346 (by decide +kernel) rfl, gb_wi 115 (by decide +kernel) rfl⟩
theorem df6 : ∀ k, k < 10 → defaultValue (gb_ty 6 k) = gb_val (gb_ty 6 k) 0 0 none := by decide +kernel
theorem cf7 : gb_cf 7 RX7 TX7 7 := ⟨by decide, rfl, gb_wis [236, 238, 240, 242, 244, 246, 248] (by decide +kernel) (by decide +kernel), tyX7_ok, nmX7, gb_wi 151 (by decide +kernel) rfl, gb_wi 109 (by decide +kernel) rfl⟩
theorem df7 : ∀ k, k < 7 → defaultValue (gb_ty 7 k) = gb_val (gb_ty 7 k) 0 0 none := by decide +kernel
theorem cf8 : gb_cf 8 RX8 TX8 3 := ⟨by decide, rfl, gb_wis [366, 368, 370] (by decide +kernel) (by decide +kernel), tyX8_ok, nmX8, gb_wi 356 (by decide +kernel) rfl, gb_wi 116 (by decide +kernel) rfl⟩
theorem df8 : ∀ k, k < 3 → defaultValue (gb_ty 8 k) = gb_val (gb_ty 8 k) 0 0 none := by decide +kernel
theorem cf9 : gb_cf 9 RX9 TX9 2 := ⟨by decide, rfl, gb_wis [144, 146] (by decide +kernel) (by decide +kernel), tyX9_ok, nmX9, gb_wi 134 (by decide +kernel) rfl, gb_wi 108 (by decide +kernel) rfl⟩
theorem df9 : ∀ k, k < 2 → defaultValue (gb_ty 9 k) = gb_val (gb_ty 9 k) 0 0 none := by decide +kernel
theorem cf10 : gb_cf 10 RX10 TX10 16 := ⟨by decide, rfl, gb_wis [458, 460, 462, 464, 466, 468, 470, 472, 474, 476, 478, 480, 482, 484, 486, 488] (by decide +kernel) (by decide +kernel), tyX10_ok, nmX10, gb_wi 126 (by decide +kernel) rfl, gb_wi 107 (by decide +kernel) rfl⟩
theorem df10 : ∀ k, k < 16 → defaultValue (gb_ty 10 k) = gb_val (gb_ty 10 k) 0 0 none := by decide +kernel
theorem cf11 : gb_cf 11 RX11 TX11 57 := ⟨by decide, rfl, gb_wis [1134, 1136, 1138, 1140, 1142, 1144, 1146, 1148, 1150, 1152, 1154, 1156, 1158, 1160, 1162, 1164, 1166, 1168, 1170, 1172, 1174, 1176, 1178, 1180, 1182, 1184, 1186, 1188, 1190, 1192, 1194, 1196, 1198, 1200, 1202, 1204, 1206, 1208, 1210, 1212, 1214, 1216, 1218, 1220, 1222, 1224, 1226, 1228, 1230, 1232, 1234, 1236, 1238, 1240, 1242, 1244, 1246] (by decide +kernel) (by decide +kernel), tyX11_ok, nmX11, gb_wi 1072 (by decide +kernel) rfl, gb_wi 118 (by decide +kernel) rfl⟩
theorem df11 : ∀ k, k < 57 → defaultValue (gb_ty 11 k) = gb_val (gb_ty 11 k) 0 0 none := by decide +kernel
theorem fX10_12 : gb_fR RX10 12 10 0 := ⟨⟨RX10, TX10, 16, cf10, by decide, Or.inl (gb_wi 442 (by decide +kernel) rfl)⟩, fun _ _ _ => rfl⟩
theorem fX10_21 : gb_fR RX10 21 10 1 := ⟨⟨RX10, TX10, 16, cf10, by decide, Or.inl (gb_wi 443 (by decide +kernel) rfl)⟩, fun _ _ _ => rfl⟩
theorem fX10_27 : gb_fR RX10 27 10 2 := ⟨⟨RX10, TX10, 16, cf10, by decide, Or.inl (gb_wi 444 (by decide +kernel) rfl)⟩, fun _ _ _ => rfl⟩
theorem fX10_33 : gb_fR RX10 33 10 4 := ⟨⟨RX10, TX10, 16, cf10, by decide, Or.inl (gb_wi 446 (by decide +kernel) rfl)⟩, fun _ _ _ => rfl⟩
theorem fX10_41 : gb_fR RX10 41 10 3 := ⟨⟨RX10, TX10, 16, cf10, by decide, Or.inl (gb_wi 445 (by decide +kernel) rfl)⟩, fun _ _ _ => rfl⟩
theorem fX10_48 : gb_fR RX10 48 10 5 := ⟨⟨RX10, TX10, 16, cf10, by decide, Or.inl (gb_wi 447 (by decide +kernel) rfl)⟩, fun _ _ _ => rfl⟩
theorem fX10_55 : gb_fR RX10 55 10 7 := ⟨⟨RX10, TX10, 16, cf10, by decide, Or.inl (gb_wi 449 (by decide +kernel) rfl)⟩, fun _ _ _ => rfl⟩
theorem fX10_64 : gb_fR RX10 64 10 6 := ⟨⟨RX10, TX10, 16, cf10, by decide, Or.inl (gb_wi 448 (by decide +kernel) rfl)⟩, fun _ _ _ => rfl⟩
theorem fX10_71 : gb_fR RX10 71 10 8 := ⟨⟨RX10, TX10, 16, cf10, by decide, Or.inl (gb_wi 450 (by decide +kernel) rfl)⟩, fun _ _ _ => rfl⟩
theorem fX10_75 : gb_fR RX10 75 10 9 := ⟨⟨RX10, TX10, 16, cf10, by decide, Or.inl (gb_wi 451 (by decide +kernel) rfl)⟩, fun _ _ _ => rfl⟩
theorem fX10_81 : gb_fR RX10 81 10 10 := ⟨⟨RX10, TX10, 16, cf10, by decide, Or.inl (gb_wi 452 (by decide +kernel) rfl)⟩, fun _ _ _ => rfl⟩
theorem fX10_85 : gb_fR RX10 85 10 11 := ⟨⟨RX10, TX10, 16, cf10, by decide, Or.inl (gb_wi 453 (by decide +kernel) rfl)⟩, fun _ _ _ => rfl⟩
theorem fX10_89 : gb_fR RX10 89 10 12 := ⟨⟨RX10, TX10, 16, cf10, by decide, Or.inl (gb_wi 454 (by decide +kernel) rfl)⟩, fun _ _ _ => rfl⟩
theorem fX10_92 : gb_fI RX10 92 10 14 := ⟨⟨RX10, TX10, 16, cf10, by decide, Or.inl (gb_wi 456 (by decide +kernel) rfl)⟩, fun _ _ _ => rfl⟩
theorem fX10_100 : gb_fI RX10 100 10 13 := ⟨⟨RX10, TX10, 16, cf10, by decide, Or.inl (gb_wi 455 (by decide +kernel) rfl)⟩, fun _ _ _ => rfl⟩
theorem fX10_116 : gb_fI RX10 116 9 1 := ⟨⟨RX9, TX9, 2, cf9, by decide, Or.inr ⟨"GrainBench", gb_ni 142 (by decide +kernel) rfl⟩⟩, fun _ _ _ => rfl⟩
theorem fX10_126 : gb_fR RX10 126 7 1 := ⟨⟨RX7, TX7, 7, cf7, by decide, Or.inr ⟨"GrainBench", gb_ni 230 (by decide +kernel) rfl⟩⟩, fun _ _ _ => rfl⟩
theorem fX10_132 : gb_fI RX10 132 1 6 := ⟨⟨RX1, TX1, 7, cf1, by decide, Or.inr ⟨"GrainBench", gb_ni 267 (by decide +kernel) rfl⟩⟩, fun _ _ _ => rfl⟩
theorem fX10_136 : gb_fI RX10 136 2 1 := ⟨⟨RX2, TX2, 2, cf2, by decide, Or.inr ⟨"GrainBench", gb_ni 222 (by decide +kernel) rfl⟩⟩, fun _ _ _ => rfl⟩
theorem fX10_142 : gb_fR RX10 142 2 0 := ⟨⟨RX2, TX2, 2, cf2, by decide, Or.inr ⟨"GrainBench", gb_ni 218 (by decide +kernel) rfl⟩⟩, fun _ _ _ => rfl⟩
theorem fX10_197 : gb_fI RX10 197 3 3 := ⟨⟨RX3, TX3, 8, cf3, by decide, Or.inr ⟨"GrainBench", gb_ni 294 (by decide +kernel) rfl⟩⟩, fun _ _ _ => rfl⟩
theorem fX10_205 : gb_fI RX10 205 3 5 := ⟨⟨RX3, TX3, 8, cf3, by decide, Or.inr ⟨"GrainBench", gb_ni 298 (by decide +kernel) rfl⟩⟩, fun _ _ _ => rfl⟩
theorem fX10_208 : gb_fR RX10 208 3 4 := ⟨⟨RX3, TX3, 8, cf3, by decide, Or.inr ⟨"GrainBench", gb_ni 296 (by decide +kernel) rfl⟩⟩, fun _ _ _ => rfl⟩
theorem fX10_231 : gb_fL RX10 231 8 0 := ⟨⟨RX8, TX8, 3, cf8, by decide, Or.inr ⟨"GrainBench", gb_ni 362 (by decide +kernel) rfl⟩⟩, fun _ _ _ => rfl⟩
theorem fX10_235 : gb_fL RX10 235 8 2 := ⟨⟨RX8, TX8, 3, cf8, by decide, Or.inr ⟨"GrainBench", gb_ni 365 (by decide +kernel) rfl⟩⟩, fun _ _ _ => rfl⟩
theorem fX10_247 : gb_fI RX10 247 6 7 := ⟨⟨RX6, TX6, 10, cf6, by decide, Or.inr ⟨"GrainBench", gb_ni 413 (by decide +kernel) rfl⟩⟩, fun _ _ _ => rfl⟩
theorem fX10_250 : gb_fR RX10 250 6 8 := ⟨⟨RX6, TX6, 10, cf6, by decide, Or.inr ⟨"GrainBench", gb_ni 415 (by decide +kernel) rfl⟩⟩, fun _ _ _ => rfl⟩
theorem fX10_253 : gb_fR RX10 253 6 6 := ⟨⟨RX6, TX6, 10, cf6, by decide, Or.inr ⟨"GrainBench", gb_ni 411 (by decide +kernel) rfl⟩⟩, fun _ _ _ => rfl⟩
theorem fX10_256 : gb_fI RX10 256 10 15 := ⟨⟨RX10, TX10, 16, cf10, by decide, Or.inl (gb_wi 457 (by decide +kernel) rfl)⟩, fun _ _ _ => rfl⟩
theorem fX10_270 : gb_fI RX10 270 1 5 := ⟨⟨RX1, TX1, 7, cf1, by decide, Or.inr ⟨"GrainBench", gb_ni 266 (by decide +kernel) rfl⟩⟩, fun _ _ _ => rfl⟩
theorem fX10_289 : gb_fI RX10 289 5 0 := ⟨⟨RX5, TX5, 9, cf5, by decide, Or.inr ⟨"GrainBench", gb_ni 172 (by decide +kernel) rfl⟩⟩, fun _ _ _ => rfl⟩
theorem fX0_9 : gb_fR RX0 9 0 0 := ⟨⟨RX0, TX0, 7, cf0, by decide, Or.inl (gb_wi 379 (by decide +kernel) rfl)⟩, fun _ _ _ => rfl⟩
theorem fX0_15 : gb_fR RX0 15 0 1 := ⟨⟨RX0, TX0, 7, cf0, by decide, Or.inl (gb_wi 381 (by decide +kernel) rfl)⟩, fun _ _ _ => rfl⟩
theorem fX0_19 : gb_fR RX0 19 0 2 := ⟨⟨RX0, TX0, 7, cf0, by decide, Or.inl (gb_wi 382 (by decide +kernel) rfl)⟩, fun _ _ _ => rfl⟩
theorem fX0_23 : gb_fR RX0 23 0 3 := ⟨⟨RX0, TX0, 7, cf0, by decide, Or.inl (gb_wi 383 (by decide +kernel) rfl)⟩, fun _ _ _ => rfl⟩
theorem fX0_26 : gb_fR RX0 26 0 4 := ⟨⟨RX0, TX0, 7, cf0, by decide, Or.inl (gb_wi 384 (by decide +kernel) rfl)⟩, fun _ _ _ => rfl⟩
theorem fX0_29 : gb_fR RX0 29 0 5 := ⟨⟨RX0, TX0, 7, cf0, by decide, Or.inl (gb_wi 385 (by decide +kernel) rfl)⟩, fun _ _ _ => rfl⟩
theorem fX0_68 : gb_fI RX0 68 0 6 := ⟨⟨RX0, TX0, 7, cf0, by decide, Or.inl (gb_wi 387 (by decide +kernel) rfl)⟩, fun _ _ _ => rfl⟩
theorem fX0_97 : gb_fI RX0 97 5 1 := ⟨⟨RX5, TX5, 9, cf5, by decide, Or.inr ⟨"GrainBench", gb_ni 176 (by decide +kernel) rfl⟩⟩, fun _ _ _ => rfl⟩
theorem fX0_107 : gb_fI RX0 107 5 2 := ⟨⟨RX5, TX5, 9, cf5, by decide, Or.inr ⟨"GrainBench", gb_ni 180 (by decide +kernel) rfl⟩⟩, fun _ _ _ => rfl⟩
theorem fX0_110 : gb_fR RX0 110 4 0 := ⟨⟨RX4, TX4, 5, cf4, by decide, Or.inr ⟨"GrainBench", gb_ni 325 (by decide +kernel) rfl⟩⟩, fun _ _ _ => rfl⟩
theorem fX0_115 : gb_fR RX0 115 4 1 := ⟨⟨RX4, TX4, 5, cf4, by decide, Or.inr ⟨"GrainBench", gb_ni 327 (by decide +kernel) rfl⟩⟩, fun _ _ _ => rfl⟩
theorem fX0_118 : gb_fR RX0 118 4 2 := ⟨⟨RX4, TX4, 5, cf4, by decide, Or.inr ⟨"GrainBench", gb_ni 329 (by decide +kernel) rfl⟩⟩, fun _ _ _ => rfl⟩
theorem fX0_121 : gb_fR RX0 121 4 3 := ⟨⟨RX4, TX4, 5, cf4, by decide, Or.inr ⟨"GrainBench", gb_ni 331 (by decide +kernel) rfl⟩⟩, fun _ _ _ => rfl⟩
theorem fX0_124 : gb_fR RX0 124 4 4 := ⟨⟨RX4, TX4, 5, cf4, by decide, Or.inr ⟨"GrainBench", gb_ni 333 (by decide +kernel) rfl⟩⟩, fun _ _ _ => rfl⟩
theorem fX1_9 : gb_fR RX1 9 1 0 := ⟨⟨RX1, TX1, 7, cf1, by decide, Or.inl (gb_wi 261 (by decide +kernel) rfl)⟩, fun _ _ _ => rfl⟩
theorem fX1_15 : gb_fR RX1 15 1 1 := ⟨⟨RX1, TX1, 7, cf1, by decide, Or.inl (gb_wi 262 (by decide +kernel) rfl)⟩, fun _ _ _ => rfl⟩
theorem fX1_18 : gb_fR RX1 18 1 2 := ⟨⟨RX1, TX1, 7, cf1, by decide, Or.inl (gb_wi 263 (by decide +kernel) rfl)⟩, fun _ _ _ => rfl⟩
theorem fX1_21 : gb_fR RX1 21 1 3 := ⟨⟨RX1, TX1, 7, cf1, by decide, Or.inl (gb_wi 264 (by decide +kernel) rfl)⟩, fun _ _ _ => rfl⟩
theorem fX1_24 : gb_fL RX1 24 1 4 := ⟨⟨RX1, TX1, 7, cf1, by decide, Or.inl (gb_wi 265 (by decide +kernel) rfl)⟩, fun _ _ _ => rfl⟩
theorem fX1_28 : gb_fI RX1 28 0 6 := ⟨⟨RX0, TX0, 7, cf0, by decide, Or.inr ⟨"GrainBench", gb_ni 386 (by decide +kernel) rfl⟩⟩, fun _ _ _ => rfl⟩
theorem fX1_34 : gb_fR RX1 34 0 0 := ⟨⟨RX0, TX0, 7, cf0, by decide, Or.inr ⟨"GrainBench", gb_ni 380 (by decide +kernel) rfl⟩⟩, fun _ _ _ => rfl⟩
theorem fX2_11 : gb_fR RX2 11 2 0 := ⟨⟨RX2, TX2, 2, cf2, by decide, Or.inl (gb_wi 215 (by decide +kernel) rfl)⟩, fun _ _ _ => rfl⟩
theorem fX2_18 : gb_fI RX2 18 2 1 := ⟨⟨RX2, TX2, 2, cf2, by decide, Or.inl (gb_wi 219 (by decide +kernel) rfl)⟩, fun _ _ _ => rfl⟩
theorem fX3_9 : gb_fR RX3 9 3 0 := ⟨⟨RX3, TX3, 8, cf3, by decide, Or.inl (gb_wi 290 (by decide +kernel) rfl)⟩, fun _ _ _ => rfl⟩
theorem fX3_15 : gb_fR RX3 15 3 1 := ⟨⟨RX3, TX3, 8, cf3, by decide, Or.inl (gb_wi 291 (by decide +kernel) rfl)⟩, fun _ _ _ => rfl⟩
theorem fX3_18 : gb_fR RX3 18 3 2 := ⟨⟨RX3, TX3, 8, cf3, by decide, Or.inl (gb_wi 292 (by decide +kernel) rfl)⟩, fun _ _ _ => rfl⟩
theorem fX3_21 : gb_fR RX3 21 3 4 := ⟨⟨RX3, TX3, 8, cf3, by decide, Or.inl (gb_wi 295 (by decide +kernel) rfl)⟩, fun _ _ _ => rfl⟩
theorem fX3_24 : gb_fR RX3 24 3 6 := ⟨⟨RX3, TX3, 8, cf3, by decide, Or.inl (gb_wi 299 (by decide +kernel) rfl)⟩, fun _ _ _ => rfl⟩
theorem fX3_27 : gb_fR RX3 27 3 7 := ⟨⟨RX3, TX3, 8, cf3, by decide, Or.inl (gb_wi 300 (by decide +kernel) rfl)⟩, fun _ _ _ => rfl⟩
theorem fX3_30 : gb_fI RX3 30 3 3 := ⟨⟨RX3, TX3, 8, cf3, by decide, Or.inl (gb_wi 293 (by decide +kernel) rfl)⟩, fun _ _ _ => rfl⟩
theorem fX3_34 : gb_fI RX3 34 3 5 := ⟨⟨RX3, TX3, 8, cf3, by decide, Or.inl (gb_wi 297 (by decide +kernel) rfl)⟩, fun _ _ _ => rfl⟩
theorem fX4_9 : gb_fR RX4 9 4 0 := ⟨⟨RX4, TX4, 5, cf4, by decide, Or.inl (gb_wi 324 (by decide +kernel) rfl)⟩, fun _ _ _ => rfl⟩
theorem fX4_15 : gb_fR RX4 15 4 1 := ⟨⟨RX4, TX4, 5, cf4, by decide, Or.inl (gb_wi 326 (by decide +kernel) rfl)⟩, fun _ _ _ => rfl⟩
theorem fX4_18 : gb_fR RX4 18 4 2 := ⟨⟨RX4, TX4, 5, cf4, by decide, Or.inl (gb_wi 328 (by decide +kernel) rfl)⟩, fun _ _ _ => rfl⟩
theorem fX4_21 : gb_fR RX4 21 4 3 := ⟨⟨RX4, TX4, 5, cf4, by decide, Or.inl (gb_wi 330 (by decide +kernel) rfl)⟩, fun _ _ _ => rfl⟩
theorem fX4_24 : gb_fR RX4 24 4 4 := ⟨⟨RX4, TX4, 5, cf4, by decide, Or.inl (gb_wi 332 (by decide +kernel) rfl)⟩, fun _ _ _ => rfl⟩
theorem fX4_37 : gb_fI RX4 37 5 1 := ⟨⟨RX5, TX5, 9, cf5, by decide, Or.inr ⟨"GrainBench", gb_ni 174 (by decide +kernel) rfl⟩⟩, fun _ _ _ => rfl⟩
theorem fX4_45 : gb_fI RX4 45 5 2 := ⟨⟨RX5, TX5, 9, cf5, by decide, Or.inr ⟨"GrainBench", gb_ni 178 (by decide +kernel) rfl⟩⟩, fun _ _ _ => rfl⟩
theorem fX4_48 : gb_fI RX4 48 5 0 := ⟨⟨RX5, TX5, 9, cf5, by decide, Or.inr ⟨"GrainBench", gb_ni 170 (by decide +kernel) rfl⟩⟩, fun _ _ _ => rfl⟩
theorem fX4_55 : gb_fI RX4 55 5 4 := ⟨⟨RX5, TX5, 9, cf5, by decide, Or.inr ⟨"GrainBench", gb_ni 184 (by decide +kernel) rfl⟩⟩, fun _ _ _ => rfl⟩
theorem fX4_58 : gb_fI RX4 58 5 5 := ⟨⟨RX5, TX5, 9, cf5, by decide, Or.inr ⟨"GrainBench", gb_ni 187 (by decide +kernel) rfl⟩⟩, fun _ _ _ => rfl⟩
theorem fX4_65 : gb_fI RX4 65 5 8 := ⟨⟨RX5, TX5, 9, cf5, by decide, Or.inr ⟨"GrainBench", gb_ni 194 (by decide +kernel) rfl⟩⟩, fun _ _ _ => rfl⟩
theorem fX5_9 : gb_fI RX5 9 5 0 := ⟨⟨RX5, TX5, 9, cf5, by decide, Or.inl (gb_wi 169 (by decide +kernel) rfl)⟩, fun _ _ _ => rfl⟩
theorem fX5_15 : gb_fI RX5 15 5 1 := ⟨⟨RX5, TX5, 9, cf5, by decide, Or.inl (gb_wi 173 (by decide +kernel) rfl)⟩, fun _ _ _ => rfl⟩
theorem fX5_18 : gb_fI RX5 18 5 2 := ⟨⟨RX5, TX5, 9, cf5, by decide, Or.inl (gb_wi 177 (by decide +kernel) rfl)⟩, fun _ _ _ => rfl⟩
theorem fX5_21 : gb_fI RX5 21 5 3 := ⟨⟨RX5, TX5, 9, cf5, by decide, Or.inl (gb_wi 181 (by decide +kernel) rfl)⟩, fun _ _ _ => rfl⟩
theorem fX5_24 : gb_fI RX5 24 5 4 := ⟨⟨RX5, TX5, 9, cf5, by decide, Or.inl (gb_wi 183 (by decide +kernel) rfl)⟩, fun _ _ _ => rfl⟩
theorem fX5_27 : gb_fI RX5 27 5 5 := ⟨⟨RX5, TX5, 9, cf5, by decide, Or.inl (gb_wi 186 (by decide +kernel) rfl)⟩, fun _ _ _ => rfl⟩
theorem fX5_30 : gb_fI RX5 30 5 6 := ⟨⟨RX5, TX5, 9, cf5, by decide, Or.inl (gb_wi 189 (by decide +kernel) rfl)⟩, fun _ _ _ => rfl⟩
theorem fX5_33 : gb_fI RX5 33 5 7 := ⟨⟨RX5, TX5, 9, cf5, by decide, Or.inl (gb_wi 191 (by decide +kernel) rfl)⟩, fun _ _ _ => rfl⟩
theorem fX5_36 : gb_fI RX5 36 5 8 := ⟨⟨RX5, TX5, 9, cf5, by decide, Or.inl (gb_wi 193 (by decide +kernel) rfl)⟩, fun _ _ _ => rfl⟩
theorem fX6_11 : gb_fR RX6 11 6 1 := ⟨⟨RX6, TX6, 10, cf6, by decide, Or.inl (gb_wi 405 (by decide +kernel) rfl)⟩, fun _ _ _ => rfl⟩
theorem fX6_19 : gb_fR RX6 19 6 2 := ⟨⟨RX6, TX6, 10, cf6, by decide, Or.inl (gb_wi 406 (by decide +kernel) rfl)⟩, fun _ _ _ => rfl⟩
theorem fX6_23 : gb_fR RX6 23 6 3 := ⟨⟨RX6, TX6, 10, cf6, by decide, Or.inl (gb_wi 407 (by decide +kernel) rfl)⟩, fun _ _ _ => rfl⟩
theorem fX6_27 : gb_fR RX6 27 6 4 := ⟨⟨RX6, TX6, 10, cf6, by decide, Or.inl (gb_wi 408 (by decide +kernel) rfl)⟩, fun _ _ _ => rfl⟩
theorem fX6_30 : gb_fR RX6 30 6 5 := ⟨⟨RX6, TX6, 10, cf6, by decide, Or.inl (gb_wi 409 (by decide +kernel) rfl)⟩, fun _ _ _ => rfl⟩
theorem fX6_33 : gb_fR RX6 33 6 6 := ⟨⟨RX6, TX6, 10, cf6, by decide, Or.inl (gb_wi 410 (by decide +kernel) rfl)⟩, fun _ _ _ => rfl⟩
theorem fX6_36 : gb_fI RX6 36 6 7 := ⟨⟨RX6, TX6, 10, cf6, by decide, Or.inl (gb_wi 412 (by decide +kernel) rfl)⟩, fun _ _ _ => rfl⟩
theorem fX6_43 : gb_fR RX6 43 6 8 := ⟨⟨RX6, TX6, 10, cf6, by decide, Or.inl (gb_wi 414 (by decide +kernel) rfl)⟩, fun _ _ _ => rfl⟩
theorem fX6_47 : gb_fR RX6 47 6 9 := ⟨⟨RX6, TX6, 10, cf6, by decide, Or.inl (gb_wi 416 (by decide +kernel) rfl)⟩, fun _ _ _ => rfl⟩
theorem fX6_50 : gb_fR RX6 50 6 0 := ⟨⟨RX6, TX6, 10, cf6, by decide, Or.inl (gb_wi 404 (by decide +kernel) rfl)⟩, fun _ _ _ => rfl⟩
theorem fX6_62 : gb_fI RX6 62 2 1 := ⟨⟨RX2, TX2, 2, cf2, by decide, Or.inr ⟨"GrainBench", gb_ni 220 (by decide +kernel) rfl⟩⟩, fun _ _ _ => rfl⟩
theorem fX6_67 : gb_fR RX6 67 2 0 := ⟨⟨RX2, TX2, 2, cf2, by decide, Or.inr ⟨"GrainBench", gb_ni 216 (by decide +kernel) rfl⟩⟩, fun _ _ _ => rfl⟩
theorem fX7_14 : gb_fR RX7 14 7 1 := ⟨⟨RX7, TX7, 7, cf7, by decide, Or.inl (gb_wi 229 (by decide +kernel) rfl)⟩, fun _ _ _ => rfl⟩
theorem fX7_20 : gb_fR RX7 20 7 0 := ⟨⟨RX7, TX7, 7, cf7, by decide, Or.inl (gb_wi 228 (by decide +kernel) rfl)⟩, fun _ _ _ => rfl⟩
theorem fX7_34 : gb_fI RX7 34 7 2 := ⟨⟨RX7, TX7, 7, cf7, by decide, Or.inl (gb_wi 231 (by decide +kernel) rfl)⟩, fun _ _ _ => rfl⟩
theorem fX7_44 : gb_fR RX7 44 2 0 := ⟨⟨RX2, TX2, 2, cf2, by decide, Or.inr ⟨"GrainBench", gb_ni 217 (by decide +kernel) rfl⟩⟩, fun _ _ _ => rfl⟩
theorem fX7_57 : gb_fI RX7 57 2 1 := ⟨⟨RX2, TX2, 2, cf2, by decide, Or.inr ⟨"GrainBench", gb_ni 221 (by decide +kernel) rfl⟩⟩, fun _ _ _ => rfl⟩
theorem fX7_60 : gb_fI RX7 60 7 5 := ⟨⟨RX7, TX7, 7, cf7, by decide, Or.inl (gb_wi 234 (by decide +kernel) rfl)⟩, fun _ _ _ => rfl⟩
theorem fX7_63 : gb_fI RX7 63 7 6 := ⟨⟨RX7, TX7, 7, cf7, by decide, Or.inl (gb_wi 235 (by decide +kernel) rfl)⟩, fun _ _ _ => rfl⟩
theorem fX7_66 : gb_fI RX7 66 7 3 := ⟨⟨RX7, TX7, 7, cf7, by decide, Or.inl (gb_wi 232 (by decide +kernel) rfl)⟩, fun _ _ _ => rfl⟩
theorem fX7_94 : gb_fI RX7 94 5 6 := ⟨⟨RX5, TX5, 9, cf5, by decide, Or.inr ⟨"GrainBench", gb_ni 190 (by decide +kernel) rfl⟩⟩, fun _ _ _ => rfl⟩
theorem fX7_103 : gb_fI RX7 103 5 7 := ⟨⟨RX5, TX5, 9, cf5, by decide, Or.inr ⟨"GrainBench", gb_ni 192 (by decide +kernel) rfl⟩⟩, fun _ _ _ => rfl⟩
theorem fX7_108 : gb_fI RX7 108 5 0 := ⟨⟨RX5, TX5, 9, cf5, by decide, Or.inr ⟨"GrainBench", gb_ni 171 (by decide +kernel) rfl⟩⟩, fun _ _ _ => rfl⟩
theorem fX7_111 : gb_fI RX7 111 5 8 := ⟨⟨RX5, TX5, 9, cf5, by decide, Or.inr ⟨"GrainBench", gb_ni 195 (by decide +kernel) rfl⟩⟩, fun _ _ _ => rfl⟩
theorem fX7_120 : gb_fI RX7 120 5 1 := ⟨⟨RX5, TX5, 9, cf5, by decide, Or.inr ⟨"GrainBench", gb_ni 175 (by decide +kernel) rfl⟩⟩, fun _ _ _ => rfl⟩
theorem fX7_139 : gb_fI RX7 139 5 4 := ⟨⟨RX5, TX5, 9, cf5, by decide, Or.inr ⟨"GrainBench", gb_ni 185 (by decide +kernel) rfl⟩⟩, fun _ _ _ => rfl⟩
theorem fX7_141 : gb_fI RX7 141 5 5 := ⟨⟨RX5, TX5, 9, cf5, by decide, Or.inr ⟨"GrainBench", gb_ni 188 (by decide +kernel) rfl⟩⟩, fun _ _ _ => rfl⟩
theorem fX7_144 : gb_fI RX7 144 5 2 := ⟨⟨RX5, TX5, 9, cf5, by decide, Or.inr ⟨"GrainBench", gb_ni 179 (by decide +kernel) rfl⟩⟩, fun _ _ _ => rfl⟩
theorem fX7_149 : gb_fI RX7 149 5 3 := ⟨⟨RX5, TX5, 9, cf5, by decide, Or.inr ⟨"GrainBench", gb_ni 182 (by decide +kernel) rfl⟩⟩, fun _ _ _ => rfl⟩
theorem fX7_156 : gb_fI RX7 156 7 4 := ⟨⟨RX7, TX7, 7, cf7, by decide, Or.inl (gb_wi 233 (by decide +kernel) rfl)⟩, fun _ _ _ => rfl⟩
theorem fX7_165 : gb_fR RX7 165 9 0 := ⟨⟨RX9, TX9, 2, cf9, by decide, Or.inr ⟨"GrainBench", gb_ni 140 (by decide +kernel) rfl⟩⟩, fun _ _ _ => rfl⟩
theorem fX7_175 : gb_fI RX7 175 9 1 := ⟨⟨RX9, TX9, 2, cf9, by decide, Or.inr ⟨"GrainBench", gb_ni 143 (by decide +kernel) rfl⟩⟩, fun _ _ _ => rfl⟩
theorem fX8_7 : gb_fL RX8 7 8 2 := ⟨⟨RX8, TX8, 3, cf8, by decide, Or.inl (gb_wi 364 (by decide +kernel) rfl)⟩, fun _ _ _ => rfl⟩
theorem fX8_23 : gb_fL RX8 23 8 0 := ⟨⟨RX8, TX8, 3, cf8, by decide, Or.inl (gb_wi 361 (by decide +kernel) rfl)⟩, fun _ _ _ => rfl⟩
theorem fX8_26 : gb_fL RX8 26 8 1 := ⟨⟨RX8, TX8, 3, cf8, by decide, Or.inl (gb_wi 363 (by decide +kernel) rfl)⟩, fun _ _ _ => rfl⟩
theorem fX9_9 : gb_fR RX9 9 9 0 := ⟨⟨RX9, TX9, 2, cf9, by decide, Or.inl (gb_wi 139 (by decide +kernel) rfl)⟩, fun _ _ _ => rfl⟩
theorem fX9_15 : gb_fI RX9 15 9 1 := ⟨⟨RX9, TX9, 2, cf9, by decide, Or.inl (gb_wi 141 (by decide +kernel) rfl)⟩, fun _ _ _ => rfl⟩
theorem fX11_7 : gb_fR RX11 7 11 2 := ⟨⟨RX11, TX11, 57, cf11, by decide, Or.inl (gb_wi 1079 (by decide +kernel) rfl)⟩, fun _ _ _ => rfl⟩
theorem fX11_13 : gb_fR RX11 13 11 3 := ⟨⟨RX11, TX11, 57, cf11, by decide, Or.inl (gb_wi 1080 (by decide +kernel) rfl)⟩, fun _ _ _ => rfl⟩
theorem fX11_16 : gb_fR RX11 16 11 4 := ⟨⟨RX11, TX11, 57, cf11, by decide, Or.inl (gb_wi 1081 (by decide +kernel) rfl)⟩, fun _ _ _ => rfl⟩
theorem fX11_19 : gb_fR RX11 19 11 5 := ⟨⟨RX11, TX11, 57, cf11, by decide, Or.inl (gb_wi 1082 (by decide +kernel) rfl)⟩, fun _ _ _ => rfl⟩
theorem fX11_22 : gb_fR RX11 22 11 7 := ⟨⟨RX11, TX11, 57, cf11, by decide, Or.inl (gb_wi 1084 (by decide +kernel) rfl)⟩, fun _ _ _ => rfl⟩
theorem fX11_25 : gb_fR RX11 25 11 8 := ⟨⟨RX11, TX11, 57, cf11, by decide, Or.inl (gb_wi 1085 (by decide +kernel) rfl)⟩, fun _ _ _ => rfl⟩
theorem fX11_29 : gb_fR RX11 29 11 11 := ⟨⟨RX11, TX11, 57, cf11, by decide, Or.inl (gb_wi 1088 (by decide +kernel) rfl)⟩, fun _ _ _ => rfl⟩
theorem fX11_33 : gb_fR RX11 33 11 12 := ⟨⟨RX11, TX11, 57, cf11, by decide, Or.inl (gb_wi 1089 (by decide +kernel) rfl)⟩, fun _ _ _ => rfl⟩
theorem fX11_36 : gb_fR RX11 36 11 13 := ⟨⟨RX11, TX11, 57, cf11, by decide, Or.inl (gb_wi 1090 (by decide +kernel) rfl)⟩, fun _ _ _ => rfl⟩
theorem fX11_39 : gb_fI RX11 39 11 18 := ⟨⟨RX11, TX11, 57, cf11, by decide, Or.inl (gb_wi 1095 (by decide +kernel) rfl)⟩, fun _ _ _ => rfl⟩
theorem fX11_43 : gb_fR RX11 43 11 20 := ⟨⟨RX11, TX11, 57, cf11, by decide, Or.inl (gb_wi 1097 (by decide +kernel) rfl)⟩, fun _ _ _ => rfl⟩
theorem fX11_47 : gb_fR RX11 47 11 21 := ⟨⟨RX11, TX11, 57, cf11, by decide, Or.inl (gb_wi 1098 (by decide +kernel) rfl)⟩, fun _ _ _ => rfl⟩
theorem fX11_50 : gb_fR RX11 50 11 22 := ⟨⟨RX11, TX11, 57, cf11, by decide, Or.inl (gb_wi 1099 (by decide +kernel) rfl)⟩, fun _ _ _ => rfl⟩
theorem fX11_53 : gb_fR RX11 53 11 26 := ⟨⟨RX11, TX11, 57, cf11, by decide, Or.inl (gb_wi 1103 (by decide +kernel) rfl)⟩, fun _ _ _ => rfl⟩
theorem fX11_56 : gb_fR RX11 56 11 27 := ⟨⟨RX11, TX11, 57, cf11, by decide, Or.inl (gb_wi 1104 (by decide +kernel) rfl)⟩, fun _ _ _ => rfl⟩
theorem fX11_59 : gb_fR RX11 59 11 28 := ⟨⟨RX11, TX11, 57, cf11, by decide, Or.inl (gb_wi 1105 (by decide +kernel) rfl)⟩, fun _ _ _ => rfl⟩
theorem fX11_62 : gb_fR RX11 62 11 29 := ⟨⟨RX11, TX11, 57, cf11, by decide, Or.inl (gb_wi 1106 (by decide +kernel) rfl)⟩, fun _ _ _ => rfl⟩
theorem fX11_65 : gb_fR RX11 65 11 31 := ⟨⟨RX11, TX11, 57, cf11, by decide, Or.inl (gb_wi 1108 (by decide +kernel) rfl)⟩, fun _ _ _ => rfl⟩
theorem fX11_68 : gb_fR RX11 68 11 32 := ⟨⟨RX11, TX11, 57, cf11, by decide, Or.inl (gb_wi 1109 (by decide +kernel) rfl)⟩, fun _ _ _ => rfl⟩
theorem fX11_71 : gb_fR RX11 71 11 33 := ⟨⟨RX11, TX11, 57, cf11, by decide, Or.inl (gb_wi 1110 (by decide +kernel) rfl)⟩, fun _ _ _ => rfl⟩
theorem fX11_74 : gb_fR RX11 74 11 38 := ⟨⟨RX11, TX11, 57, cf11, by decide, Or.inl (gb_wi 1115 (by decide +kernel) rfl)⟩, fun _ _ _ => rfl⟩
theorem fX11_77 : gb_fR RX11 77 11 39 := ⟨⟨RX11, TX11, 57, cf11, by decide, Or.inl (gb_wi 1116 (by decide +kernel) rfl)⟩, fun _ _ _ => rfl⟩
theorem fX11_80 : gb_fR RX11 80 11 40 := ⟨⟨RX11, TX11, 57, cf11, by decide, Or.inl (gb_wi 1117 (by decide +kernel) rfl)⟩, fun _ _ _ => rfl⟩
theorem fX11_83 : gb_fR RX11 83 11 41 := ⟨⟨RX11, TX11, 57, cf11, by decide, Or.inl (gb_wi 1118 (by decide +kernel) rfl)⟩, fun _ _ _ => rfl⟩
theorem fX11_86 : gb_fR RX11 86 11 42 := ⟨⟨RX11, TX11, 57, cf11, by decide, Or.inl (gb_wi 1119 (by decide +kernel) rfl)⟩, fun _ _ _ => rfl⟩
theorem fX11_89 : gb_fR RX11 89 11 43 := ⟨⟨RX11, TX11, 57, cf11, by decide, Or.inl (gb_wi 1120 (by decide +kernel) rfl)⟩, fun _ _ _ => rfl⟩
theorem fX11_92 : gb_fR RX11 92 11 44 := ⟨⟨RX11, TX11, 57, cf11, by decide, Or.inl (gb_wi 1121 (by decide +kernel) rfl)⟩, fun _ _ _ => rfl⟩
theorem fX11_95 : gb_fR RX11 95 11 45 := ⟨⟨RX11, TX11, 57, cf11, by decide, Or.inl (gb_wi 1122 (by decide +kernel) rfl)⟩, fun _ _ _ => rfl⟩
theorem fX11_98 : gb_fI RX11 98 11 46 := ⟨⟨RX11, TX11, 57, cf11, by decide, Or.inl (gb_wi 1123 (by decide +kernel) rfl)⟩, fun _ _ _ => rfl⟩
theorem fX11_101 : gb_fI RX11 101 11 0 := ⟨⟨RX11, TX11, 57, cf11, by decide, Or.inl (gb_wi 1077 (by decide +kernel) rfl)⟩, fun _ _ _ => rfl⟩
theorem fX11_112 : gb_fI RX11 112 11 1 := ⟨⟨RX11, TX11, 57, cf11, by decide, Or.inl (gb_wi 1078 (by decide +kernel) rfl)⟩, fun _ _ _ => rfl⟩
theorem fX11_115 : gb_fI RX11 115 11 14 := ⟨⟨RX11, TX11, 57, cf11, by decide, Or.inl (gb_wi 1091 (by decide +kernel) rfl)⟩, fun _ _ _ => rfl⟩
theorem fX11_118 : gb_fI RX11 118 11 15 := ⟨⟨RX11, TX11, 57, cf11, by decide, Or.inl (gb_wi 1092 (by decide +kernel) rfl)⟩, fun _ _ _ => rfl⟩
theorem fX11_121 : gb_fI RX11 121 11 17 := ⟨⟨RX11, TX11, 57, cf11, by decide, Or.inl (gb_wi 1094 (by decide +kernel) rfl)⟩, fun _ _ _ => rfl⟩
theorem fX11_124 : gb_fI RX11 124 11 16 := ⟨⟨RX11, TX11, 57, cf11, by decide, Or.inl (gb_wi 1093 (by decide +kernel) rfl)⟩, fun _ _ _ => rfl⟩
theorem fX11_130 : gb_fI RX11 130 11 19 := ⟨⟨RX11, TX11, 57, cf11, by decide, Or.inl (gb_wi 1096 (by decide +kernel) rfl)⟩, fun _ _ _ => rfl⟩
theorem fX11_133 : gb_fI RX11 133 11 9 := ⟨⟨RX11, TX11, 57, cf11, by decide, Or.inl (gb_wi 1086 (by decide +kernel) rfl)⟩, fun _ _ _ => rfl⟩
theorem fX11_136 : gb_fI RX11 136 11 10 := ⟨⟨RX11, TX11, 57, cf11, by decide, Or.inl (gb_wi 1087 (by decide +kernel) rfl)⟩, fun _ _ _ => rfl⟩
theorem fX11_212 : gb_fI RX11 212 11 6 := ⟨⟨RX11, TX11, 57, cf11, by decide, Or.inl (gb_wi 1083 (by decide +kernel) rfl)⟩, fun _ _ _ => rfl⟩
theorem fX11_225 : gb_fI RX11 225 11 23 := ⟨⟨RX11, TX11, 57, cf11, by decide, Or.inl (gb_wi 1100 (by decide +kernel) rfl)⟩, fun _ _ _ => rfl⟩
theorem fX11_238 : gb_fI RX11 238 11 25 := ⟨⟨RX11, TX11, 57, cf11, by decide, Or.inl (gb_wi 1102 (by decide +kernel) rfl)⟩, fun _ _ _ => rfl⟩
theorem fX11_253 : gb_fI RX11 253 11 24 := ⟨⟨RX11, TX11, 57, cf11, by decide, Or.inl (gb_wi 1101 (by decide +kernel) rfl)⟩, fun _ _ _ => rfl⟩
theorem fX11_293 : gb_fL RX11 293 11 30 := ⟨⟨RX11, TX11, 57, cf11, by decide, Or.inl (gb_wi 1107 (by decide +kernel) rfl)⟩, fun _ _ _ => rfl⟩
theorem fX11_330 : gb_fL RX11 330 11 34 := ⟨⟨RX11, TX11, 57, cf11, by decide, Or.inl (gb_wi 1111 (by decide +kernel) rfl)⟩, fun _ _ _ => rfl⟩
theorem fX11_333 : gb_fL RX11 333 11 35 := ⟨⟨RX11, TX11, 57, cf11, by decide, Or.inl (gb_wi 1112 (by decide +kernel) rfl)⟩, fun _ _ _ => rfl⟩
theorem fX11_338 : gb_fL RX11 338 11 36 := ⟨⟨RX11, TX11, 57, cf11, by decide, Or.inl (gb_wi 1113 (by decide +kernel) rfl)⟩, fun _ _ _ => rfl⟩
theorem fX11_346 : gb_fI RX11 346 11 37 := ⟨⟨RX11, TX11, 57, cf11, by decide, Or.inl (gb_wi 1114 (by decide +kernel) rfl)⟩, fun _ _ _ => rfl⟩
theorem fX11_372 : gb_fL RX11 372 11 56 := ⟨⟨RX11, TX11, 57, cf11, by decide, Or.inl (gb_wi 1133 (by decide +kernel) rfl)⟩, fun _ _ _ => rfl⟩
theorem fX11_375 : gb_fL RX11 375 11 55 := ⟨⟨RX11, TX11, 57, cf11, by decide, Or.inl (gb_wi 1132 (by decide +kernel) rfl)⟩, fun _ _ _ => rfl⟩
theorem fX11_384 : gb_fI RX11 384 11 47 := ⟨⟨RX11, TX11, 57, cf11, by decide, Or.inl (gb_wi 1124 (by decide +kernel) rfl)⟩, fun _ _ _ => rfl⟩
theorem fX11_387 : gb_fL RX11 387 11 54 := ⟨⟨RX11, TX11, 57, cf11, by decide, Or.inl (gb_wi 1131 (by decide +kernel) rfl)⟩, fun _ _ _ => rfl⟩
theorem fX11_390 : gb_fL RX11 390 11 48 := ⟨⟨RX11, TX11, 57, cf11, by decide, Or.inl (gb_wi 1125 (by decide +kernel) rfl)⟩, fun _ _ _ => rfl⟩
theorem fX11_393 : gb_fL RX11 393 11 50 := ⟨⟨RX11, TX11, 57, cf11, by decide, Or.inl (gb_wi 1127 (by decide +kernel) rfl)⟩, fun _ _ _ => rfl⟩
theorem fX11_396 : gb_fL RX11 396 11 49 := ⟨⟨RX11, TX11, 57, cf11, by decide, Or.inl (gb_wi 1126 (by decide +kernel) rfl)⟩, fun _ _ _ => rfl⟩
theorem fX11_417 : gb_fL RX11 417 11 51 := ⟨⟨RX11, TX11, 57, cf11, by decide, Or.inl (gb_wi 1128 (by decide +kernel) rfl)⟩, fun _ _ _ => rfl⟩
theorem fX11_420 : gb_fL RX11 420 11 52 := ⟨⟨RX11, TX11, 57, cf11, by decide, Or.inl (gb_wi 1129 (by decide +kernel) rfl)⟩, fun _ _ _ => rfl⟩
theorem fX11_423 : gb_fL RX11 423 11 53 := ⟨⟨RX11, TX11, 57, cf11, by decide, Or.inl (gb_wi 1130 (by decide +kernel) rfl)⟩, fun _ _ _ => rfl⟩
theorem nf0_6 : gb_nf 0 6 := fun C T N h => by cases h; rfl
theorem nf1_4 : gb_nf 1 4 := fun C T N h => by cases h; rfl
theorem nf1_5 : gb_nf 1 5 := fun C T N h => by cases h; rfl
theorem nf1_6 : gb_nf 1 6 := fun C T N h => by cases h; rfl
theorem nf2_1 : gb_nf 2 1 := fun C T N h => by cases h; rfl
theorem nf3_3 : gb_nf 3 3 := fun C T N h => by cases h; rfl
theorem nf3_5 : gb_nf 3 5 := fun C T N h => by cases h; rfl
theorem nf5_0 : gb_nf 5 0 := fun C T N h => by cases h; rfl
theorem nf5_1 : gb_nf 5 1 := fun C T N h => by cases h; rfl
theorem nf5_2 : gb_nf 5 2 := fun C T N h => by cases h; rfl
theorem nf5_3 : gb_nf 5 3 := fun C T N h => by cases h; rfl
theorem nf5_4 : gb_nf 5 4 := fun C T N h => by cases h; rfl
theorem nf5_5 : gb_nf 5 5 := fun C T N h => by cases h; rfl
theorem nf5_6 : gb_nf 5 6 := fun C T N h => by cases h; rfl
theorem nf5_7 : gb_nf 5 7 := fun C T N h => by cases h; rfl
theorem nf5_8 : gb_nf 5 8 := fun C T N h => by cases h; rfl
theorem nf6_7 : gb_nf 6 7 := fun C T N h => by cases h; rfl
theorem nf7_2 : gb_nf 7 2 := fun C T N h => by cases h; rfl
theorem nf7_3 : gb_nf 7 3 := fun C T N h => by cases h; rfl
theorem nf7_4 : gb_nf 7 4 := fun C T N h => by cases h; rfl
theorem nf7_5 : gb_nf 7 5 := fun C T N h => by cases h; rfl
theorem nf7_6 : gb_nf 7 6 := fun C T N h => by cases h; rfl
theorem nf8_0 : gb_nf 8 0 := fun C T N h => by cases h; rfl
theorem nf8_1 : gb_nf 8 1 := fun C T N h => by cases h; rfl
theorem nf8_2 : gb_nf 8 2 := fun C T N h => by cases h; rfl
theorem nf9_1 : gb_nf 9 1 := fun C T N h => by cases h; rfl
theorem nf10_13 : gb_nf 10 13 := fun C T N h => by cases h; rfl
theorem nf10_14 : gb_nf 10 14 := fun C T N h => by cases h; rfl
theorem nf10_15 : gb_nf 10 15 := fun C T N h => by cases h; rfl
theorem nf11_0 : gb_nf 11 0 := fun C T N h => by cases h; rfl
theorem nf11_1 : gb_nf 11 1 := fun C T N h => by cases h; rfl
theorem nf11_6 : gb_nf 11 6 := fun C T N h => by cases h; rfl
theorem nf11_9 : gb_nf 11 9 := fun C T N h => by cases h; rfl
theorem nf11_10 : gb_nf 11 10 := fun C T N h => by cases h; rfl
theorem nf11_14 : gb_nf 11 14 := fun C T N h => by cases h; rfl
theorem nf11_15 : gb_nf 11 15 := fun C T N h => by cases h; rfl
theorem nf11_16 : gb_nf 11 16 := fun C T N h => by cases h; rfl
theorem nf11_17 : gb_nf 11 17 := fun C T N h => by cases h; rfl
theorem nf11_18 : gb_nf 11 18 := fun C T N h => by cases h; rfl
theorem nf11_19 : gb_nf 11 19 := fun C T N h => by cases h; rfl
theorem nf11_23 : gb_nf 11 23 := fun C T N h => by cases h; rfl
theorem nf11_24 : gb_nf 11 24 := fun C T N h => by cases h; rfl
theorem nf11_25 : gb_nf 11 25 := fun C T N h => by cases h; rfl
theorem nf11_30 : gb_nf 11 30 := fun C T N h => by cases h; rfl
theorem nf11_34 : gb_nf 11 34 := fun C T N h => by cases h; rfl
theorem nf11_35 : gb_nf 11 35 := fun C T N h => by cases h; rfl
theorem nf11_36 : gb_nf 11 36 := fun C T N h => by cases h; rfl
theorem nf11_37 : gb_nf 11 37 := fun C T N h => by cases h; rfl
theorem nf11_46 : gb_nf 11 46 := fun C T N h => by cases h; rfl
theorem nf11_47 : gb_nf 11 47 := fun C T N h => by cases h; rfl
theorem nf11_48 : gb_nf 11 48 := fun C T N h => by cases h; rfl
theorem nf11_49 : gb_nf 11 49 := fun C T N h => by cases h; rfl
theorem nf11_50 : gb_nf 11 50 := fun C T N h => by cases h; rfl
theorem nf11_51 : gb_nf 11 51 := fun C T N h => by cases h; rfl
theorem nf11_52 : gb_nf 11 52 := fun C T N h => by cases h; rfl
theorem nf11_53 : gb_nf 11 53 := fun C T N h => by cases h; rfl
theorem nf11_54 : gb_nf 11 54 := fun C T N h => by cases h; rfl
theorem nf11_55 : gb_nf 11 55 := fun C T N h => by cases h; rfl
theorem nf11_56 : gb_nf 11 56 := fun C T N h => by cases h; rfl
theorem gb_nff {M : gb_M} {idx ci k : Nat} (h : gb_nf ci k) : gb_ff M idx ci k := fun C T N e => Or.inl (h C T N e)
abbrev mX10_init : gb_M := (yX10_init, cX10_init, 2, none)
theorem mtX10_init : gb_mt mX10_init 0 := ⟨gb_wi 129 (by decide +kernel) rfl, gb_wi 107 (by decide +kernel) rfl, by decide +kernel, ⟨by decide +kernel, by decide +kernel⟩, by decide +kernel, by decide⟩
theorem inX10_init : Cond.instanceMethod yX10_init ∈ gb_ws := gb_wi 128 (by decide +kernel) rfl
abbrev mX9_init : gb_M := (yX9_init, cX9_init, 1, none)
theorem mtX9_init : gb_mt mX9_init 0 := ⟨gb_wi 137 (by decide +kernel) rfl, gb_wi 108 (by decide +kernel) rfl, by decide +kernel, ⟨by decide +kernel, by decide +kernel⟩, by decide +kernel, by decide⟩
theorem inX9_init : Cond.instanceMethod yX9_init ∈ gb_ws := gb_wi 136 (by decide +kernel) rfl
abbrev mX7_init : gb_M := (yX7_init, cX7_init, 2, none)
theorem mtX7_init : gb_mt mX7_init 1 := ⟨gb_wi 154 (by decide +kernel) rfl, gb_wi 109 (by decide +kernel) rfl, by decide +kernel, ⟨by decide +kernel, by decide +kernel⟩, by decide +kernel, by decide⟩
theorem inX7_init : Cond.instanceMethod yX7_init ∈ gb_ws := gb_wi 153 (by decide +kernel) rfl
abbrev mX2_init : gb_M := (yX2_init, cX2_init, 3, none)
theorem mtX2_init : gb_mt mX2_init 1 := ⟨gb_wi 160 (by decide +kernel) rfl, gb_wi 110 (by decide +kernel) rfl, by decide +kernel, ⟨by decide +kernel, by decide +kernel⟩, by decide +kernel, by decide⟩
theorem inX2_init : Cond.instanceMethod yX2_init ∈ gb_ws := gb_wi 159 (by decide +kernel) rfl
abbrev mX5_init : gb_M := (yX5_init, cX5_init, 1, none)
theorem mtX5_init : gb_mt mX5_init 0 := ⟨gb_wi 167 (by decide +kernel) rfl, gb_wi 111 (by decide +kernel) rfl, by decide +kernel, ⟨by decide +kernel, by decide +kernel⟩, by decide +kernel, by decide⟩
theorem inX5_init : Cond.instanceMethod yX5_init ∈ gb_ws := gb_wi 166 (by decide +kernel) rfl
abbrev mX1_init : gb_M := (yX1_init, cX1_init, 1, none)
theorem mtX1_init : gb_mt mX1_init 0 := ⟨gb_wi 259 (by decide +kernel) rfl, gb_wi 112 (by decide +kernel) rfl, by decide +kernel, ⟨by decide +kernel, by decide +kernel⟩, by decide +kernel, by decide⟩
theorem inX1_init : Cond.instanceMethod yX1_init ∈ gb_ws := gb_wi 258 (by decide +kernel) rfl
abbrev mX3_init : gb_M := (yX3_init, cX3_init, 1, none)
theorem mtX3_init : gb_mt mX3_init 0 := ⟨gb_wi 288 (by decide +kernel) rfl, gb_wi 113 (by decide +kernel) rfl, by decide +kernel, ⟨by decide +kernel, by decide +kernel⟩, by decide +kernel, by decide⟩
theorem inX3_init : Cond.instanceMethod yX3_init ∈ gb_ws := gb_wi 287 (by decide +kernel) rfl
abbrev mX4_init : gb_M := (yX4_init, cX4_init, 1, none)
theorem mtX4_init : gb_mt mX4_init 0 := ⟨gb_wi 322 (by decide +kernel) rfl, gb_wi 114 (by decide +kernel) rfl, by decide +kernel, ⟨by decide +kernel, by decide +kernel⟩, by decide +kernel, by decide⟩
theorem inX4_init : Cond.instanceMethod yX4_init ∈ gb_ws := gb_wi 321 (by decide +kernel) rfl
abbrev mX6_init : gb_M := (yX6_init, cX6_init, 3, none)
theorem mtX6_init : gb_mt mX6_init 1 := ⟨gb_wi 349 (by decide +kernel) rfl, gb_wi 115 (by decide +kernel) rfl, by decide +kernel, ⟨by decide +kernel, by decide +kernel⟩, by decide +kernel, by decide⟩
theorem inX6_init : Cond.instanceMethod yX6_init ∈ gb_ws := gb_wi 348 (by decide +kernel) rfl
abbrev mX8_init : gb_M := (yX8_init, cX8_init, 1, none)
theorem mtX8_init : gb_mt mX8_init 0 := ⟨gb_wi 359 (by decide +kernel) rfl, gb_wi 116 (by decide +kernel) rfl, by decide +kernel, ⟨by decide +kernel, by decide +kernel⟩, by decide +kernel, by decide⟩
theorem inX8_init : Cond.instanceMethod yX8_init ∈ gb_ws := gb_wi 358 (by decide +kernel) rfl
abbrev mX0_init : gb_M := (yX0_init, cX0_init, 3, none)
theorem mtX0_init : gb_mt mX0_init 1 := ⟨gb_wi 377 (by decide +kernel) rfl, gb_wi 117 (by decide +kernel) rfl, by decide +kernel, ⟨by decide +kernel, by decide +kernel⟩, by decide +kernel, by decide⟩
theorem inX0_init : Cond.instanceMethod yX0_init ∈ gb_ws := gb_wi 376 (by decide +kernel) rfl
abbrev mX10_grain : gb_M := (yX10_grain, cX10_grain, 2, (some .int))
theorem mtX10_grain : gb_mt mX10_grain 1 := ⟨gb_wi 494 (by decide +kernel) rfl, gb_wi 107 (by decide +kernel) rfl, by decide +kernel, ⟨by decide +kernel, by decide +kernel⟩, by decide +kernel, by decide⟩
theorem inX10_grain : Cond.instanceMethod yX10_grain ∈ gb_ws := gb_wi 492 (by decide +kernel) rfl
theorem seX10_grain : Cond.selects RX10 yX10_grain yX10_grain ∈ gb_ws := gb_wi 493 (by decide +kernel) rfl
abbrev mX10_refuse : gb_M := (yX10_refuse, cX10_refuse, 2, (some .int))
theorem mtX10_refuse : gb_mt mX10_refuse 1 := ⟨gb_wi 498 (by decide +kernel) rfl, gb_wi 107 (by decide +kernel) rfl, by decide +kernel, ⟨by decide +kernel, by decide +kernel⟩, by decide +kernel, by decide⟩
theorem inX10_refuse : Cond.instanceMethod yX10_refuse ∈ gb_ws := gb_wi 497 (by decide +kernel) rfl
theorem seX10_refuse : Cond.selects RX10 yX10_refuse yX10_refuse ∈ gb_ws := gb_wi 0 (by decide +kernel) rfl
abbrev mX10_forgetChances : gb_M := (yX10_forgetChances, cX10_forgetChances, 2, none)
theorem mtX10_forgetChances : gb_mt mX10_forgetChances 0 := ⟨gb_wi 502 (by decide +kernel) rfl, gb_wi 107 (by decide +kernel) rfl, by decide +kernel, ⟨by decide +kernel, by decide +kernel⟩, by decide +kernel, by decide⟩
theorem inX10_forgetChances : Cond.instanceMethod yX10_forgetChances ∈ gb_ws := gb_wi 501 (by decide +kernel) rfl
theorem seX10_forgetChances : Cond.selects RX10 yX10_forgetChances yX10_forgetChances ∈ gb_ws := gb_wi 1 (by decide +kernel) rfl
abbrev mX10_allow : gb_M := (yX10_allow, cX10_allow, 2, (some .int))
theorem mtX10_allow : gb_mt mX10_allow 1 := ⟨gb_wi 506 (by decide +kernel) rfl, gb_wi 107 (by decide +kernel) rfl, by decide +kernel, ⟨by decide +kernel, by decide +kernel⟩, by decide +kernel, by decide⟩
theorem inX10_allow : Cond.instanceMethod yX10_allow ∈ gb_ws := gb_wi 505 (by decide +kernel) rfl
theorem seX10_allow : Cond.selects RX10 yX10_allow yX10_allow ∈ gb_ws := gb_wi 2 (by decide +kernel) rfl
abbrev mX10_clear : gb_M := (yX10_clear, cX10_clear, 3, (some .int))
theorem mtX10_clear : gb_mt mX10_clear 0 := ⟨gb_wi 510 (by decide +kernel) rfl, gb_wi 107 (by decide +kernel) rfl, by decide +kernel, ⟨by decide +kernel, by decide +kernel⟩, by decide +kernel, by decide⟩
theorem inX10_clear : Cond.instanceMethod yX10_clear ∈ gb_ws := gb_wi 508 (by decide +kernel) rfl
theorem seX10_clear : Cond.selects RX10 yX10_clear yX10_clear ∈ gb_ws := gb_wi 509 (by decide +kernel) rfl
abbrev mX10_feed : gb_M := (yX10_feed, cX10_feed, 6, (some .int))
theorem mtX10_feed : gb_mt mX10_feed 5 := ⟨gb_wi 514 (by decide +kernel) rfl, gb_wi 107 (by decide +kernel) rfl, by decide +kernel, ⟨by decide +kernel, by decide +kernel⟩, by decide +kernel, by decide⟩
theorem inX10_feed : Cond.instanceMethod yX10_feed ∈ gb_ws := gb_wi 512 (by decide +kernel) rfl
theorem seX10_feed : Cond.selects RX10 yX10_feed yX10_feed ∈ gb_ws := gb_wi 513 (by decide +kernel) rfl
abbrev mX9_hasRoom : gb_M := (yX9_hasRoom, cX9_hasRoom, 2, (some .boolean))
theorem mtX9_hasRoom : gb_mt mX9_hasRoom 1 := ⟨gb_wi 518 (by decide +kernel) rfl, gb_wi 108 (by decide +kernel) rfl, by decide +kernel, ⟨by decide +kernel, by decide +kernel⟩, by decide +kernel, by decide⟩
theorem inX9_hasRoom : Cond.instanceMethod yX9_hasRoom ∈ gb_ws := gb_wi 517 (by decide +kernel) rfl
theorem seX9_hasRoom : Cond.selects RX9 yX9_hasRoom yX9_hasRoom ∈ gb_ws := gb_wi 3 (by decide +kernel) rfl
abbrev mX9_write : gb_M := (yX9_write, cX9_write, 3, none)
theorem mtX9_write : gb_mt mX9_write 1 := ⟨gb_wi 522 (by decide +kernel) rfl, gb_wi 108 (by decide +kernel) rfl, by decide +kernel, ⟨by decide +kernel, by decide +kernel⟩, by decide +kernel, by decide⟩
theorem inX9_write : Cond.instanceMethod yX9_write ∈ gb_ws := gb_wi 521 (by decide +kernel) rfl
theorem seX9_write : Cond.selects RX9 yX9_write yX9_write ∈ gb_ws := gb_wi 4 (by decide +kernel) rfl
abbrev mX10_end : gb_M := (yX10_end, cX10_end, 2, (some .int))
theorem mtX10_end : gb_mt mX10_end 1 := ⟨gb_wi 526 (by decide +kernel) rfl, gb_wi 107 (by decide +kernel) rfl, by decide +kernel, ⟨by decide +kernel, by decide +kernel⟩, by decide +kernel, by decide⟩
theorem inX10_end : Cond.instanceMethod yX10_end ∈ gb_ws := gb_wi 524 (by decide +kernel) rfl
theorem seX10_end : Cond.selects RX10 yX10_end yX10_end ∈ gb_ws := gb_wi 525 (by decide +kernel) rfl
abbrev mX10_bench : gb_M := (yX10_bench, cX10_bench, 2, (some .int))
theorem mtX10_bench : gb_mt mX10_bench 1 := ⟨gb_wi 530 (by decide +kernel) rfl, gb_wi 107 (by decide +kernel) rfl, by decide +kernel, ⟨by decide +kernel, by decide +kernel⟩, by decide +kernel, by decide⟩
theorem inX10_bench : Cond.instanceMethod yX10_bench ∈ gb_ws := gb_wi 528 (by decide +kernel) rfl
theorem seX10_bench : Cond.selects RX10 yX10_bench yX10_bench ∈ gb_ws := gb_wi 529 (by decide +kernel) rfl
abbrev mX10_isBench : gb_M := (yX10_isBench, cX10_isBench, 1, (some .boolean))
theorem mtX10_isBench : gb_mt mX10_isBench 1 := ⟨gb_wi 533 (by decide +kernel) rfl, gb_wi 107 (by decide +kernel) rfl, by decide +kernel, ⟨by decide +kernel, by decide +kernel⟩, by decide +kernel, by decide⟩
theorem stX10_isBench : Cond.static yX10_isBench ∈ gb_ws := gb_wi 532 (by decide +kernel) rfl
abbrev mX7_readParts : gb_M := (yX7_readParts, cX7_readParts, 2, (some .int))
theorem mtX7_readParts : gb_mt mX7_readParts 0 := ⟨gb_wi 537 (by decide +kernel) rfl, gb_wi 109 (by decide +kernel) rfl, by decide +kernel, ⟨by decide +kernel, by decide +kernel⟩, by decide +kernel, by decide⟩
theorem inX7_readParts : Cond.instanceMethod yX7_readParts ∈ gb_ws := gb_wi 536 (by decide +kernel) rfl
theorem seX7_readParts : Cond.selects RX7 yX7_readParts yX7_readParts ∈ gb_ws := gb_wi 5 (by decide +kernel) rfl
abbrev mX7_restart : gb_M := (yX7_restart, cX7_restart, 1, none)
theorem mtX7_restart : gb_mt mX7_restart 0 := ⟨gb_wi 541 (by decide +kernel) rfl, gb_wi 109 (by decide +kernel) rfl, by decide +kernel, ⟨by decide +kernel, by decide +kernel⟩, by decide +kernel, by decide⟩
theorem inX7_restart : Cond.instanceMethod yX7_restart ∈ gb_ws := gb_wi 540 (by decide +kernel) rfl
theorem seX7_restart : Cond.selects RX7 yX7_restart yX7_restart ∈ gb_ws := gb_wi 6 (by decide +kernel) rfl
abbrev mX7_advance : gb_M := (yX7_advance, cX7_advance, 2, none)
theorem mtX7_advance : gb_mt mX7_advance 0 := ⟨gb_wi 545 (by decide +kernel) rfl, gb_wi 109 (by decide +kernel) rfl, by decide +kernel, ⟨by decide +kernel, by decide +kernel⟩, by decide +kernel, by decide⟩
theorem inX7_advance : Cond.instanceMethod yX7_advance ∈ gb_ws := gb_wi 544 (by decide +kernel) rfl
theorem seX7_advance : Cond.selects RX7 yX7_advance yX7_advance ∈ gb_ws := gb_wi 7 (by decide +kernel) rfl
abbrev mX7_isDigit : gb_M := (yX7_isDigit, cX7_isDigit, 1, (some .boolean))
theorem mtX7_isDigit : gb_mt mX7_isDigit 1 := ⟨gb_wi 548 (by decide +kernel) rfl, gb_wi 109 (by decide +kernel) rfl, by decide +kernel, ⟨by decide +kernel, by decide +kernel⟩, by decide +kernel, by decide⟩
theorem stX7_isDigit : Cond.static yX7_isDigit ∈ gb_ws := gb_wi 547 (by decide +kernel) rfl
abbrev mJ9_min_7cf53 : gb_M := (yJ9_min_7cf53, cJ9_min_7cf53, 2, (some .int))
theorem stJ9_min_7cf53 : Cond.static yJ9_min_7cf53 ∈ gb_ws := gb_wi 550 (by decide +kernel) rfl
abbrev mX7_isLetter : gb_M := (yX7_isLetter, cX7_isLetter, 1, (some .boolean))
theorem mtX7_isLetter : gb_mt mX7_isLetter 1 := ⟨gb_wi 554 (by decide +kernel) rfl, gb_wi 109 (by decide +kernel) rfl, by decide +kernel, ⟨by decide +kernel, by decide +kernel⟩, by decide +kernel, by decide⟩
theorem stX7_isLetter : Cond.static yX7_isLetter ∈ gb_ws := gb_wi 553 (by decide +kernel) rfl
abbrev mX7_atEnd : gb_M := (yX7_atEnd, cX7_atEnd, 1, (some .boolean))
theorem mtX7_atEnd : gb_mt mX7_atEnd 0 := ⟨gb_wi 558 (by decide +kernel) rfl, gb_wi 109 (by decide +kernel) rfl, by decide +kernel, ⟨by decide +kernel, by decide +kernel⟩, by decide +kernel, by decide⟩
theorem inX7_atEnd : Cond.instanceMethod yX7_atEnd ∈ gb_ws := gb_wi 557 (by decide +kernel) rfl
theorem seX7_atEnd : Cond.selects RX7 yX7_atEnd yX7_atEnd ∈ gb_ws := gb_wi 8 (by decide +kernel) rfl
abbrev mX7_readPart : gb_M := (yX7_readPart, cX7_readPart, 3, (some .boolean))
theorem mtX7_readPart : gb_mt mX7_readPart 0 := ⟨gb_wi 562 (by decide +kernel) rfl, gb_wi 109 (by decide +kernel) rfl, by decide +kernel, ⟨by decide +kernel, by decide +kernel⟩, by decide +kernel, by decide⟩
theorem inX7_readPart : Cond.instanceMethod yX7_readPart ∈ gb_ws := gb_wi 561 (by decide +kernel) rfl
theorem seX7_readPart : Cond.selects RX7 yX7_readPart yX7_readPart ∈ gb_ws := gb_wi 9 (by decide +kernel) rfl
abbrev mX5_reset : gb_M := (yX5_reset, cX5_reset, 1, none)
theorem mtX5_reset : gb_mt mX5_reset 0 := ⟨gb_wi 566 (by decide +kernel) rfl, gb_wi 111 (by decide +kernel) rfl, by decide +kernel, ⟨by decide +kernel, by decide +kernel⟩, by decide +kernel, by decide⟩
theorem inX5_reset : Cond.instanceMethod yX5_reset ∈ gb_ws := gb_wi 565 (by decide +kernel) rfl
theorem seX5_reset : Cond.selects RX5 yX5_reset yX5_reset ∈ gb_ws := gb_wi 10 (by decide +kernel) rfl
abbrev mX7_take : gb_M := (yX7_take, cX7_take, 3, (some .boolean))
theorem mtX7_take : gb_mt mX7_take 1 := ⟨gb_wi 571 (by decide +kernel) rfl, gb_wi 109 (by decide +kernel) rfl, by decide +kernel, ⟨by decide +kernel, by decide +kernel⟩, by decide +kernel, by decide⟩
theorem inX7_take : Cond.instanceMethod yX7_take ∈ gb_ws := gb_wi 570 (by decide +kernel) rfl
theorem seX7_take : Cond.selects RX7 yX7_take yX7_take ∈ gb_ws := gb_wi 11 (by decide +kernel) rfl
abbrev mX7_says : gb_M := (yX7_says, cX7_says, 3, (some .boolean))
theorem mtX7_says : gb_mt mX7_says 1 := ⟨gb_wi 575 (by decide +kernel) rfl, gb_wi 109 (by decide +kernel) rfl, by decide +kernel, ⟨by decide +kernel, by decide +kernel⟩, by decide +kernel, by decide⟩
theorem inX7_says : Cond.instanceMethod yX7_says ∈ gb_ws := gb_wi 574 (by decide +kernel) rfl
theorem seX7_says : Cond.selects RX7 yX7_says yX7_says ∈ gb_ws := gb_wi 12 (by decide +kernel) rfl
abbrev mJ0_length_8abf5 : gb_M := (yJ0_length_8abf5, cJ0_length_8abf5, 1, (some .int))
theorem mtJ0_length_8abf5 : gb_mt mJ0_length_8abf5 0 := ⟨gb_wi 579 (by decide +kernel) rfl, gb_wi 120 (by decide +kernel) rfl, by decide +kernel, ⟨by decide +kernel, by decide +kernel⟩, by decide +kernel, by decide⟩
theorem inJ0_length_8abf5 : Cond.instanceMethod yJ0_length_8abf5 ∈ gb_ws := gb_wi 577 (by decide +kernel) rfl
theorem seJ0_length_8abf5 : Cond.selects RJ0 yJ0_length_8abf5 yJ0_length_8abf5 ∈ gb_ws := gb_wi 578 (by decide +kernel) rfl
abbrev mJ0_coder_7d493 : gb_M := (yJ0_coder_7d493, cJ0_coder_7d493, 1, (some .byte))
theorem mtJ0_coder_7d493 : gb_mt mJ0_coder_7d493 0 := ⟨gb_wi 583 (by decide +kernel) rfl, gb_wi 120 (by decide +kernel) rfl, by decide +kernel, ⟨by decide +kernel, by decide +kernel⟩, by decide +kernel, by decide⟩
theorem inJ0_coder_7d493 : Cond.instanceMethod yJ0_coder_7d493 ∈ gb_ws := gb_wi 581 (by decide +kernel) rfl
theorem seJ0_coder_7d493 : Cond.selects RJ0 yJ0_coder_7d493 yJ0_coder_7d493 ∈ gb_ws := gb_wi 582 (by decide +kernel) rfl
abbrev mJ0_charAt_5068e : gb_M := (yJ0_charAt_5068e, cJ0_charAt_5068e, 2, (some .char))
theorem mtJ0_charAt_5068e : gb_mt mJ0_charAt_5068e 1 := ⟨gb_wi 589 (by decide +kernel) rfl, gb_wi 120 (by decide +kernel) rfl, by decide +kernel, ⟨by decide +kernel, by decide +kernel⟩, by decide +kernel, by decide⟩
theorem inJ0_charAt_5068e : Cond.instanceMethod yJ0_charAt_5068e ∈ gb_ws := gb_wi 587 (by decide +kernel) rfl
theorem seJ0_charAt_5068e : Cond.selects RJ0 yJ0_charAt_5068e yJ0_charAt_5068e ∈ gb_ws := gb_wi 588 (by decide +kernel) rfl
abbrev mJ0_isLatin1_aae02 : gb_M := (yJ0_isLatin1_aae02, cJ0_isLatin1_aae02, 1, (some .boolean))
theorem mtJ0_isLatin1_aae02 : gb_mt mJ0_isLatin1_aae02 0 := ⟨gb_wi 593 (by decide +kernel) rfl, gb_wi 120 (by decide +kernel) rfl, by decide +kernel, ⟨by decide +kernel, by decide +kernel⟩, by decide +kernel, by decide⟩
theorem inJ0_isLatin1_aae02 : Cond.instanceMethod yJ0_isLatin1_aae02 ∈ gb_ws := gb_wi 591 (by decide +kernel) rfl
theorem seJ0_isLatin1_aae02 : Cond.selects RJ0 yJ0_isLatin1_aae02 yJ0_isLatin1_aae02 ∈ gb_ws := gb_wi 592 (by decide +kernel) rfl
abbrev mJ1_charAt_3b067 : gb_M := (yJ1_charAt_3b067, cJ1_charAt_3b067, 2, (some .char))
theorem mtJ1_charAt_3b067 : gb_mt mJ1_charAt_3b067 2 := ⟨gb_wi 596 (by decide +kernel) rfl, gb_wi 121 (by decide +kernel) rfl, by decide +kernel, ⟨by decide +kernel, by decide +kernel⟩, by decide +kernel, by decide⟩
theorem stJ1_charAt_3b067 : Cond.static yJ1_charAt_3b067 ∈ gb_ws := gb_wi 595 (by decide +kernel) rfl
abbrev mJ0_checkIndex_df160 : gb_M := (yJ0_checkIndex_df160, cJ0_checkIndex_df160, 2, none)
theorem mtJ0_checkIndex_df160 : gb_mt mJ0_checkIndex_df160 2 := ⟨gb_wi 599 (by decide +kernel) rfl, gb_wi 120 (by decide +kernel) rfl, by decide +kernel, ⟨by decide +kernel, by decide +kernel⟩, by decide +kernel, by decide⟩
theorem stJ0_checkIndex_df160 : Cond.static yJ0_checkIndex_df160 ∈ gb_ws := gb_wi 598 (by decide +kernel) rfl
abbrev mJ3_checkIndex_8e157 : gb_M := (yJ3_checkIndex_8e157, cJ3_checkIndex_8e157, 3, (some .int))
theorem mtJ3_checkIndex_8e157 : gb_mt mJ3_checkIndex_8e157 3 := ⟨gb_wi 604 (by decide +kernel) rfl, gb_wi 122 (by decide +kernel) rfl, by decide +kernel, ⟨by decide +kernel, by decide +kernel⟩, by decide +kernel, by decide⟩
theorem stJ3_checkIndex_8e157 : Cond.static yJ3_checkIndex_8e157 ∈ gb_ws := gb_wi 603 (by decide +kernel) rfl
abbrev mJ2_charAt_3b067 : gb_M := (yJ2_charAt_3b067, cJ2_charAt_3b067, 2, (some .char))
theorem mtJ2_charAt_3b067 : gb_mt mJ2_charAt_3b067 2 := ⟨gb_wi 607 (by decide +kernel) rfl, gb_wi 123 (by decide +kernel) rfl, by decide +kernel, ⟨by decide +kernel, by decide +kernel⟩, by decide +kernel, by decide⟩
theorem stJ2_charAt_3b067 : Cond.static yJ2_charAt_3b067 ∈ gb_ws := gb_wi 606 (by decide +kernel) rfl
abbrev mJ2_checkIndex_2214a : gb_M := (yJ2_checkIndex_2214a, cJ2_checkIndex_2214a, 2, none)
theorem mtJ2_checkIndex_2214a : gb_mt mJ2_checkIndex_2214a 2 := ⟨gb_wi 610 (by decide +kernel) rfl, gb_wi 123 (by decide +kernel) rfl, by decide +kernel, ⟨by decide +kernel, by decide +kernel⟩, by decide +kernel, by decide⟩
theorem stJ2_checkIndex_2214a : Cond.static yJ2_checkIndex_2214a ∈ gb_ws := gb_wi 609 (by decide +kernel) rfl
abbrev mJ2_length_9d52b : gb_M := (yJ2_length_9d52b, cJ2_length_9d52b, 1, (some .int))
theorem mtJ2_length_9d52b : gb_mt mJ2_length_9d52b 1 := ⟨gb_wi 613 (by decide +kernel) rfl, gb_wi 123 (by decide +kernel) rfl, by decide +kernel, ⟨by decide +kernel, by decide +kernel⟩, by decide +kernel, by decide⟩
theorem stJ2_length_9d52b : Cond.static yJ2_length_9d52b ∈ gb_ws := gb_wi 612 (by decide +kernel) rfl
abbrev mJ2_getChar_3b067 : gb_M := (yJ2_getChar_3b067, cJ2_getChar_3b067, 2, (some .char))
theorem mtJ2_getChar_3b067 : gb_mt mJ2_getChar_3b067 2 := ⟨gb_wi 617 (by decide +kernel) rfl, gb_wi 123 (by decide +kernel) rfl, by decide +kernel, ⟨by decide +kernel, by decide +kernel⟩, by decide +kernel, by decide⟩
theorem stJ2_getChar_3b067 : Cond.static yJ2_getChar_3b067 ∈ gb_ws := gb_wi 616 (by decide +kernel) rfl
abbrev mX7_readWait : gb_M := (yX7_readWait, cX7_readWait, 2, (some .boolean))
theorem mtX7_readWait : gb_mt mX7_readWait 1 := ⟨gb_wi 627 (by decide +kernel) rfl, gb_wi 109 (by decide +kernel) rfl, by decide +kernel, ⟨by decide +kernel, by decide +kernel⟩, by decide +kernel, by decide⟩
theorem inX7_readWait : Cond.instanceMethod yX7_readWait ∈ gb_ws := gb_wi 626 (by decide +kernel) rfl
theorem seX7_readWait : Cond.selects RX7 yX7_readWait yX7_readWait ∈ gb_ws := gb_wi 13 (by decide +kernel) rfl
abbrev mX7_readPath : gb_M := (yX7_readPath, cX7_readPath, 5, (some .int))
theorem mtX7_readPath : gb_mt mX7_readPath 2 := ⟨gb_wi 631 (by decide +kernel) rfl, gb_wi 109 (by decide +kernel) rfl, by decide +kernel, ⟨by decide +kernel, by decide +kernel⟩, by decide +kernel, by decide⟩
theorem inX7_readPath : Cond.instanceMethod yX7_readPath ∈ gb_ws := gb_wi 630 (by decide +kernel) rfl
theorem seX7_readPath : Cond.selects RX7 yX7_readPath yX7_readPath ∈ gb_ws := gb_wi 14 (by decide +kernel) rfl
abbrev mX7_readNumber : gb_M := (yX7_readNumber, cX7_readNumber, 3, (some .int))
theorem mtX7_readNumber : gb_mt mX7_readNumber 1 := ⟨gb_wi 636 (by decide +kernel) rfl, gb_wi 109 (by decide +kernel) rfl, by decide +kernel, ⟨by decide +kernel, by decide +kernel⟩, by decide +kernel, by decide⟩
theorem inX7_readNumber : Cond.instanceMethod yX7_readNumber ∈ gb_ws := gb_wi 635 (by decide +kernel) rfl
theorem seX7_readNumber : Cond.selects RX7 yX7_readNumber yX7_readNumber ∈ gb_ws := gb_wi 15 (by decide +kernel) rfl
abbrev mX7_readDeed : gb_M := (yX7_readDeed, cX7_readDeed, 2, (some .boolean))
theorem mtX7_readDeed : gb_mt mX7_readDeed 1 := ⟨gb_wi 641 (by decide +kernel) rfl, gb_wi 109 (by decide +kernel) rfl, by decide +kernel, ⟨by decide +kernel, by decide +kernel⟩, by decide +kernel, by decide⟩
theorem inX7_readDeed : Cond.instanceMethod yX7_readDeed ∈ gb_ws := gb_wi 640 (by decide +kernel) rfl
theorem seX7_readDeed : Cond.selects RX7 yX7_readDeed yX7_readDeed ∈ gb_ws := gb_wi 16 (by decide +kernel) rfl
abbrev mX7_readFirst : gb_M := (yX7_readFirst, cX7_readFirst, 2, (some .boolean))
theorem mtX7_readFirst : gb_mt mX7_readFirst 1 := ⟨gb_wi 646 (by decide +kernel) rfl, gb_wi 109 (by decide +kernel) rfl, by decide +kernel, ⟨by decide +kernel, by decide +kernel⟩, by decide +kernel, by decide⟩
theorem inX7_readFirst : Cond.instanceMethod yX7_readFirst ∈ gb_ws := gb_wi 645 (by decide +kernel) rfl
theorem seX7_readFirst : Cond.selects RX7 yX7_readFirst yX7_readFirst ∈ gb_ws := gb_wi 17 (by decide +kernel) rfl
abbrev mX7_readSecond : gb_M := (yX7_readSecond, cX7_readSecond, 2, (some .boolean))
theorem mtX7_readSecond : gb_mt mX7_readSecond 1 := ⟨gb_wi 650 (by decide +kernel) rfl, gb_wi 109 (by decide +kernel) rfl, by decide +kernel, ⟨by decide +kernel, by decide +kernel⟩, by decide +kernel, by decide⟩
theorem inX7_readSecond : Cond.instanceMethod yX7_readSecond ∈ gb_ws := gb_wi 649 (by decide +kernel) rfl
theorem seX7_readSecond : Cond.selects RX7 yX7_readSecond yX7_readSecond ∈ gb_ws := gb_wi 18 (by decide +kernel) rfl
abbrev mX7_readKind : gb_M := (yX7_readKind, cX7_readKind, 2, (some .boolean))
theorem mtX7_readKind : gb_mt mX7_readKind 1 := ⟨gb_wi 654 (by decide +kernel) rfl, gb_wi 109 (by decide +kernel) rfl, by decide +kernel, ⟨by decide +kernel, by decide +kernel⟩, by decide +kernel, by decide⟩
theorem inX7_readKind : Cond.instanceMethod yX7_readKind ∈ gb_ws := gb_wi 653 (by decide +kernel) rfl
theorem seX7_readKind : Cond.selects RX7 yX7_readKind yX7_readKind ∈ gb_ws := gb_wi 19 (by decide +kernel) rfl
abbrev mX7_readShift : gb_M := (yX7_readShift, cX7_readShift, 2, (some .boolean))
theorem mtX7_readShift : gb_mt mX7_readShift 1 := ⟨gb_wi 663 (by decide +kernel) rfl, gb_wi 109 (by decide +kernel) rfl, by decide +kernel, ⟨by decide +kernel, by decide +kernel⟩, by decide +kernel, by decide⟩
theorem inX7_readShift : Cond.instanceMethod yX7_readShift ∈ gb_ws := gb_wi 662 (by decide +kernel) rfl
theorem seX7_readShift : Cond.selects RX7 yX7_readShift yX7_readShift ∈ gb_ws := gb_wi 20 (by decide +kernel) rfl
abbrev mX7_readLoss : gb_M := (yX7_readLoss, cX7_readLoss, 2, (some .boolean))
theorem mtX7_readLoss : gb_mt mX7_readLoss 1 := ⟨gb_wi 670 (by decide +kernel) rfl, gb_wi 109 (by decide +kernel) rfl, by decide +kernel, ⟨by decide +kernel, by decide +kernel⟩, by decide +kernel, by decide⟩
theorem inX7_readLoss : Cond.instanceMethod yX7_readLoss ∈ gb_ws := gb_wi 669 (by decide +kernel) rfl
theorem seX7_readLoss : Cond.selects RX7 yX7_readLoss yX7_readLoss ∈ gb_ws := gb_wi 21 (by decide +kernel) rfl
abbrev mX7_readCounter : gb_M := (yX7_readCounter, cX7_readCounter, 2, (some .boolean))
theorem mtX7_readCounter : gb_mt mX7_readCounter 1 := ⟨gb_wi 675 (by decide +kernel) rfl, gb_wi 109 (by decide +kernel) rfl, by decide +kernel, ⟨by decide +kernel, by decide +kernel⟩, by decide +kernel, by decide⟩
theorem inX7_readCounter : Cond.instanceMethod yX7_readCounter ∈ gb_ws := gb_wi 674 (by decide +kernel) rfl
theorem seX7_readCounter : Cond.selects RX7 yX7_readCounter yX7_readCounter ∈ gb_ws := gb_wi 22 (by decide +kernel) rfl
abbrev mX2_copyAll : gb_M := (yX2_copyAll, cX2_copyAll, 3, none)
theorem mtX2_copyAll : gb_mt mX2_copyAll 1 := ⟨gb_wi 680 (by decide +kernel) rfl, gb_wi 110 (by decide +kernel) rfl, by decide +kernel, ⟨by decide +kernel, by decide +kernel⟩, by decide +kernel, by decide⟩
theorem inX2_copyAll : Cond.instanceMethod yX2_copyAll ∈ gb_ws := gb_wi 679 (by decide +kernel) rfl
theorem seX2_copyAll : Cond.selects RX2 yX2_copyAll yX2_copyAll ∈ gb_ws := gb_wi 23 (by decide +kernel) rfl
abbrev mX2_append : gb_M := (yX2_append, cX2_append, 2, none)
theorem mtX2_append : gb_mt mX2_append 1 := ⟨gb_wi 684 (by decide +kernel) rfl, gb_wi 110 (by decide +kernel) rfl, by decide +kernel, ⟨by decide +kernel, by decide +kernel⟩, by decide +kernel, by decide⟩
theorem inX2_append : Cond.instanceMethod yX2_append ∈ gb_ws := gb_wi 683 (by decide +kernel) rfl
theorem seX2_append : Cond.selects RX2 yX2_append yX2_append ∈ gb_ws := gb_wi 24 (by decide +kernel) rfl
abbrev mX5_copyPart : gb_M := (yX5_copyPart, cX5_copyPart, 2, none)
theorem mtX5_copyPart : gb_mt mX5_copyPart 1 := ⟨gb_wi 688 (by decide +kernel) rfl, gb_wi 111 (by decide +kernel) rfl, by decide +kernel, ⟨by decide +kernel, by decide +kernel⟩, by decide +kernel, by decide⟩
theorem inX5_copyPart : Cond.instanceMethod yX5_copyPart ∈ gb_ws := gb_wi 687 (by decide +kernel) rfl
theorem seX5_copyPart : Cond.selects RX5 yX5_copyPart yX5_copyPart ∈ gb_ws := gb_wi 25 (by decide +kernel) rfl
abbrev mX10_shelf : gb_M := (yX10_shelf, cX10_shelf, 1, (some .int))
theorem mtX10_shelf : gb_mt mX10_shelf 0 := ⟨gb_wi 693 (by decide +kernel) rfl, gb_wi 107 (by decide +kernel) rfl, by decide +kernel, ⟨by decide +kernel, by decide +kernel⟩, by decide +kernel, by decide⟩
theorem inX10_shelf : Cond.instanceMethod yX10_shelf ∈ gb_ws := gb_wi 691 (by decide +kernel) rfl
theorem seX10_shelf : Cond.selects RX10 yX10_shelf yX10_shelf ∈ gb_ws := gb_wi 692 (by decide +kernel) rfl
abbrev mX7_readDeedAlone : gb_M := (yX7_readDeedAlone, cX7_readDeedAlone, 2, (some .int))
theorem mtX7_readDeedAlone : gb_mt mX7_readDeedAlone 0 := ⟨gb_wi 697 (by decide +kernel) rfl, gb_wi 109 (by decide +kernel) rfl, by decide +kernel, ⟨by decide +kernel, by decide +kernel⟩, by decide +kernel, by decide⟩
theorem inX7_readDeedAlone : Cond.instanceMethod yX7_readDeedAlone ∈ gb_ws := gb_wi 696 (by decide +kernel) rfl
theorem seX7_readDeedAlone : Cond.selects RX7 yX7_readDeedAlone yX7_readDeedAlone ∈ gb_ws := gb_wi 26 (by decide +kernel) rfl
abbrev mX10_fault : gb_M := (yX10_fault, cX10_fault, 1, (some .int))
theorem mtX10_fault : gb_mt mX10_fault 0 := ⟨gb_wi 702 (by decide +kernel) rfl, gb_wi 107 (by decide +kernel) rfl, by decide +kernel, ⟨by decide +kernel, by decide +kernel⟩, by decide +kernel, by decide⟩
theorem inX10_fault : Cond.instanceMethod yX10_fault ∈ gb_ws := gb_wi 700 (by decide +kernel) rfl
theorem seX10_fault : Cond.selects RX10 yX10_fault yX10_fault ∈ gb_ws := gb_wi 701 (by decide +kernel) rfl
abbrev mX10_deep : gb_M := (yX10_deep, cX10_deep, 2, (some .int))
theorem mtX10_deep : gb_mt mX10_deep 1 := ⟨gb_wi 706 (by decide +kernel) rfl, gb_wi 107 (by decide +kernel) rfl, by decide +kernel, ⟨by decide +kernel, by decide +kernel⟩, by decide +kernel, by decide⟩
theorem inX10_deep : Cond.instanceMethod yX10_deep ∈ gb_ws := gb_wi 704 (by decide +kernel) rfl
theorem seX10_deep : Cond.selects RX10 yX10_deep yX10_deep ∈ gb_ws := gb_wi 705 (by decide +kernel) rfl
abbrev mX2_depthFor : gb_M := (yX2_depthFor, cX2_depthFor, 4, (some .int))
theorem mtX2_depthFor : gb_mt mX2_depthFor 1 := ⟨gb_wi 710 (by decide +kernel) rfl, gb_wi 110 (by decide +kernel) rfl, by decide +kernel, ⟨by decide +kernel, by decide +kernel⟩, by decide +kernel, by decide⟩
theorem inX2_depthFor : Cond.instanceMethod yX2_depthFor ∈ gb_ws := gb_wi 709 (by decide +kernel) rfl
theorem seX2_depthFor : Cond.selects RX2 yX2_depthFor yX2_depthFor ∈ gb_ws := gb_wi 27 (by decide +kernel) rfl
abbrev mX5_base : gb_M := (yX5_base, cX5_base, 1, (some .int))
theorem mtX5_base : gb_mt mX5_base 0 := ⟨gb_wi 714 (by decide +kernel) rfl, gb_wi 111 (by decide +kernel) rfl, by decide +kernel, ⟨by decide +kernel, by decide +kernel⟩, by decide +kernel, by decide⟩
theorem inX5_base : Cond.instanceMethod yX5_base ∈ gb_ws := gb_wi 713 (by decide +kernel) rfl
theorem seX5_base : Cond.selects RX5 yX5_base yX5_base ∈ gb_ws := gb_wi 28 (by decide +kernel) rfl
abbrev mX2_deepen : gb_M := (yX2_deepen, cX2_deepen, 5, (some .int))
theorem mtX2_deepen : gb_mt mX2_deepen 3 := ⟨gb_wi 717 (by decide +kernel) rfl, gb_wi 110 (by decide +kernel) rfl, by decide +kernel, ⟨by decide +kernel, by decide +kernel⟩, by decide +kernel, by decide⟩
theorem stX2_deepen : Cond.static yX2_deepen ∈ gb_ws := gb_wi 716 (by decide +kernel) rfl
abbrev mX10_way : gb_M := (yX10_way, cX10_way, 7, (some .int))
theorem mtX10_way : gb_mt mX10_way 4 := ⟨gb_wi 724 (by decide +kernel) rfl, gb_wi 107 (by decide +kernel) rfl, by decide +kernel, ⟨by decide +kernel, by decide +kernel⟩, by decide +kernel, by decide⟩
theorem inX10_way : Cond.instanceMethod yX10_way ∈ gb_ws := gb_wi 722 (by decide +kernel) rfl
theorem seX10_way : Cond.selects RX10 yX10_way yX10_way ∈ gb_ws := gb_wi 723 (by decide +kernel) rfl
abbrev mX0_keyOf : gb_M := (yX0_keyOf, cX0_keyOf, 5, (some .int))
theorem mtX0_keyOf : gb_mt mX0_keyOf 3 := ⟨gb_wi 729 (by decide +kernel) rfl, gb_wi 117 (by decide +kernel) rfl, by decide +kernel, ⟨by decide +kernel, by decide +kernel⟩, by decide +kernel, by decide⟩
theorem stX0_keyOf : Cond.static yX0_keyOf ∈ gb_ws := gb_wi 728 (by decide +kernel) rfl
abbrev mJ9_max_7cf53 : gb_M := (yJ9_max_7cf53, cJ9_max_7cf53, 2, (some .int))
theorem stJ9_max_7cf53 : Cond.static yJ9_max_7cf53 ∈ gb_ws := gb_wi 732 (by decide +kernel) rfl
abbrev mX10_lightThrough : gb_M := (yX10_lightThrough, cX10_lightThrough, 8, (some (.object "GrainBench$Beam")))
theorem mtX10_lightThrough : gb_mt mX10_lightThrough 2 := ⟨gb_wi 737 (by decide +kernel) rfl, gb_wi 107 (by decide +kernel) rfl, by decide +kernel, ⟨by decide +kernel, by decide +kernel⟩, by decide +kernel, by decide⟩
theorem inX10_lightThrough : Cond.instanceMethod yX10_lightThrough ∈ gb_ws := gb_wi 736 (by decide +kernel) rfl
theorem seX10_lightThrough : Cond.selects RX10 yX10_lightThrough yX10_lightThrough ∈ gb_ws := gb_wi 29 (by decide +kernel) rfl
abbrev mX0_begin : gb_M := (yX0_begin, cX0_begin, 2, none)
theorem mtX0_begin : gb_mt mX0_begin 1 := ⟨gb_wi 741 (by decide +kernel) rfl, gb_wi 117 (by decide +kernel) rfl, by decide +kernel, ⟨by decide +kernel, by decide +kernel⟩, by decide +kernel, by decide⟩
theorem inX0_begin : Cond.instanceMethod yX0_begin ∈ gb_ws := gb_wi 740 (by decide +kernel) rfl
theorem seX0_begin : Cond.selects RX0 yX0_begin yX0_begin ∈ gb_ws := gb_wi 30 (by decide +kernel) rfl
abbrev mX0_wipe : gb_M := (yX0_wipe, cX0_wipe, 3, none)
theorem mtX0_wipe : gb_mt mX0_wipe 0 := ⟨gb_wi 745 (by decide +kernel) rfl, gb_wi 117 (by decide +kernel) rfl, by decide +kernel, ⟨by decide +kernel, by decide +kernel⟩, by decide +kernel, by decide⟩
theorem inX0_wipe : Cond.instanceMethod yX0_wipe ∈ gb_ws := gb_wi 744 (by decide +kernel) rfl
theorem seX0_wipe : Cond.selects RX0 yX0_wipe yX0_wipe ∈ gb_ws := gb_wi 31 (by decide +kernel) rfl
abbrev mX0_placeOfKey : gb_M := (yX0_placeOfKey, cX0_placeOfKey, 4, (some .int))
theorem mtX0_placeOfKey : gb_mt mX0_placeOfKey 1 := ⟨gb_wi 748 (by decide +kernel) rfl, gb_wi 117 (by decide +kernel) rfl, by decide +kernel, ⟨by decide +kernel, by decide +kernel⟩, by decide +kernel, by decide⟩
theorem stX0_placeOfKey : Cond.static yX0_placeOfKey ∈ gb_ws := gb_wi 747 (by decide +kernel) rfl
abbrev mX0_add : gb_M := (yX0_add, cX0_add, 11, none)
theorem mtX0_add : gb_mt mX0_add 6 := ⟨gb_wi 752 (by decide +kernel) rfl, gb_wi 117 (by decide +kernel) rfl, by decide +kernel, ⟨by decide +kernel, by decide +kernel⟩, by decide +kernel, by decide⟩
theorem inX0_add : Cond.instanceMethod yX0_add ∈ gb_ws := gb_wi 751 (by decide +kernel) rfl
theorem seX0_add : Cond.selects RX0 yX0_add yX0_add ∈ gb_ws := gb_wi 32 (by decide +kernel) rfl
abbrev mX4_aim : gb_M := (yX4_aim, cX4_aim, 5, none)
theorem mtX4_aim : gb_mt mX4_aim 1 := ⟨gb_wi 756 (by decide +kernel) rfl, gb_wi 114 (by decide +kernel) rfl, by decide +kernel, ⟨by decide +kernel, by decide +kernel⟩, by decide +kernel, by decide⟩
theorem inX4_aim : Cond.instanceMethod yX4_aim ∈ gb_ws := gb_wi 755 (by decide +kernel) rfl
theorem seX4_aim : Cond.selects RX4 yX4_aim yX4_aim ∈ gb_ws := gb_wi 33 (by decide +kernel) rfl
abbrev mX4_lead : gb_M := (yX4_lead, cX4_lead, 7, none)
theorem mtX4_lead : gb_mt mX4_lead 5 := ⟨gb_wi 761 (by decide +kernel) rfl, gb_wi 114 (by decide +kernel) rfl, by decide +kernel, ⟨by decide +kernel, by decide +kernel⟩, by decide +kernel, by decide⟩
theorem inX4_lead : Cond.instanceMethod yX4_lead ∈ gb_ws := gb_wi 760 (by decide +kernel) rfl
theorem seX4_lead : Cond.selects RX4 yX4_lead yX4_lead ∈ gb_ws := gb_wi 34 (by decide +kernel) rfl
abbrev mX4_seatOf : gb_M := (yX4_seatOf, cX4_seatOf, 2, (some .int))
theorem mtX4_seatOf : gb_mt mX4_seatOf 2 := ⟨gb_wi 764 (by decide +kernel) rfl, gb_wi 114 (by decide +kernel) rfl, by decide +kernel, ⟨by decide +kernel, by decide +kernel⟩, by decide +kernel, by decide⟩
theorem stX4_seatOf : Cond.static yX4_seatOf ∈ gb_ws := gb_wi 763 (by decide +kernel) rfl
abbrev mX4_fork : gb_M := (yX4_fork, cX4_fork, 5, none)
theorem mtX4_fork : gb_mt mX4_fork 4 := ⟨gb_wi 768 (by decide +kernel) rfl, gb_wi 114 (by decide +kernel) rfl, by decide +kernel, ⟨by decide +kernel, by decide +kernel⟩, by decide +kernel, by decide⟩
theorem inX4_fork : Cond.instanceMethod yX4_fork ∈ gb_ws := gb_wi 767 (by decide +kernel) rfl
theorem seX4_fork : Cond.selects RX4 yX4_fork yX4_fork ∈ gb_ws := gb_wi 35 (by decide +kernel) rfl
abbrev mX5_stays : gb_M := (yX5_stays, cX5_stays, 1, (some .int))
theorem mtX5_stays : gb_mt mX5_stays 0 := ⟨gb_wi 772 (by decide +kernel) rfl, gb_wi 111 (by decide +kernel) rfl, by decide +kernel, ⟨by decide +kernel, by decide +kernel⟩, by decide +kernel, by decide⟩
theorem inX5_stays : Cond.instanceMethod yX5_stays ∈ gb_ws := gb_wi 771 (by decide +kernel) rfl
theorem seX5_stays : Cond.selects RX5 yX5_stays yX5_stays ∈ gb_ws := gb_wi 36 (by decide +kernel) rfl
abbrev mX5_roots : gb_M := (yX5_roots, cX5_roots, 1, (some .int))
theorem mtX5_roots : gb_mt mX5_roots 0 := ⟨gb_wi 776 (by decide +kernel) rfl, gb_wi 111 (by decide +kernel) rfl, by decide +kernel, ⟨by decide +kernel, by decide +kernel⟩, by decide +kernel, by decide⟩
theorem inX5_roots : Cond.instanceMethod yX5_roots ∈ gb_ws := gb_wi 775 (by decide +kernel) rfl
theorem seX5_roots : Cond.selects RX5 yX5_roots yX5_roots ∈ gb_ws := gb_wi 37 (by decide +kernel) rfl
abbrev mX5_goes : gb_M := (yX5_goes, cX5_goes, 1, (some .int))
theorem mtX5_goes : gb_mt mX5_goes 0 := ⟨gb_wi 780 (by decide +kernel) rfl, gb_wi 111 (by decide +kernel) rfl, by decide +kernel, ⟨by decide +kernel, by decide +kernel⟩, by decide +kernel, by decide⟩
theorem inX5_goes : Cond.instanceMethod yX5_goes ∈ gb_ws := gb_wi 779 (by decide +kernel) rfl
theorem seX5_goes : Cond.selects RX5 yX5_goes yX5_goes ∈ gb_ws := gb_wi 38 (by decide +kernel) rfl
abbrev mX4_bend : gb_M := (yX4_bend, cX4_bend, 4, none)
theorem mtX4_bend : gb_mt mX4_bend 3 := ⟨gb_wi 784 (by decide +kernel) rfl, gb_wi 114 (by decide +kernel) rfl, by decide +kernel, ⟨by decide +kernel, by decide +kernel⟩, by decide +kernel, by decide⟩
theorem inX4_bend : Cond.instanceMethod yX4_bend ∈ gb_ws := gb_wi 783 (by decide +kernel) rfl
theorem seX4_bend : Cond.selects RX4 yX4_bend yX4_bend ∈ gb_ws := gb_wi 39 (by decide +kernel) rfl
abbrev mX0_send : gb_M := (yX0_send, cX0_send, 7, none)
theorem mtX0_send : gb_mt mX0_send 3 := ⟨gb_wi 788 (by decide +kernel) rfl, gb_wi 117 (by decide +kernel) rfl, by decide +kernel, ⟨by decide +kernel, by decide +kernel⟩, by decide +kernel, by decide⟩
theorem inX0_send : Cond.instanceMethod yX0_send ∈ gb_ws := gb_wi 787 (by decide +kernel) rfl
theorem seX0_send : Cond.selects RX0 yX0_send yX0_send ∈ gb_ws := gb_wi 40 (by decide +kernel) rfl
abbrev mX0_isZero : gb_M := (yX0_isZero, cX0_isZero, 2, (some .boolean))
theorem mtX0_isZero : gb_mt mX0_isZero 1 := ⟨gb_wi 792 (by decide +kernel) rfl, gb_wi 117 (by decide +kernel) rfl, by decide +kernel, ⟨by decide +kernel, by decide +kernel⟩, by decide +kernel, by decide⟩
theorem inX0_isZero : Cond.instanceMethod yX0_isZero ∈ gb_ws := gb_wi 791 (by decide +kernel) rfl
theorem seX0_isZero : Cond.selects RX0 yX0_isZero yX0_isZero ∈ gb_ws := gb_wi 41 (by decide +kernel) rfl
abbrev mX5_actsOn : gb_M := (yX5_actsOn, cX5_actsOn, 2, (some .boolean))
theorem mtX5_actsOn : gb_mt mX5_actsOn 1 := ⟨gb_wi 796 (by decide +kernel) rfl, gb_wi 111 (by decide +kernel) rfl, by decide +kernel, ⟨by decide +kernel, by decide +kernel⟩, by decide +kernel, by decide⟩
theorem inX5_actsOn : Cond.instanceMethod yX5_actsOn ∈ gb_ws := gb_wi 795 (by decide +kernel) rfl
theorem seX5_actsOn : Cond.selects RX5 yX5_actsOn yX5_actsOn ∈ gb_ws := gb_wi 42 (by decide +kernel) rfl
abbrev mX0_grainsIn : gb_M := (yX0_grainsIn, cX0_grainsIn, 3, (some .int))
theorem mtX0_grainsIn : gb_mt mX0_grainsIn 2 := ⟨gb_wi 799 (by decide +kernel) rfl, gb_wi 117 (by decide +kernel) rfl, by decide +kernel, ⟨by decide +kernel, by decide +kernel⟩, by decide +kernel, by decide⟩
theorem stX0_grainsIn : Cond.static yX0_grainsIn ∈ gb_ws := gb_wi 798 (by decide +kernel) rfl
abbrev mX0_low : gb_M := (yX0_low, cX0_low, 1, (some .int))
theorem mtX0_low : gb_mt mX0_low 1 := ⟨gb_wi 802 (by decide +kernel) rfl, gb_wi 117 (by decide +kernel) rfl, by decide +kernel, ⟨by decide +kernel, by decide +kernel⟩, by decide +kernel, by decide⟩
theorem stX0_low : Cond.static yX0_low ∈ gb_ws := gb_wi 801 (by decide +kernel) rfl
abbrev mX0_pathOf : gb_M := (yX0_pathOf, cX0_pathOf, 1, (some .int))
theorem mtX0_pathOf : gb_mt mX0_pathOf 1 := ⟨gb_wi 805 (by decide +kernel) rfl, gb_wi 117 (by decide +kernel) rfl, by decide +kernel, ⟨by decide +kernel, by decide +kernel⟩, by decide +kernel, by decide⟩
theorem stX0_pathOf : Cond.static yX0_pathOf ∈ gb_ws := gb_wi 804 (by decide +kernel) rfl
abbrev mX0_mid : gb_M := (yX0_mid, cX0_mid, 1, (some .int))
theorem mtX0_mid : gb_mt mX0_mid 1 := ⟨gb_wi 808 (by decide +kernel) rfl, gb_wi 117 (by decide +kernel) rfl, by decide +kernel, ⟨by decide +kernel, by decide +kernel⟩, by decide +kernel, by decide⟩
theorem stX0_mid : Cond.static yX0_mid ∈ gb_ws := gb_wi 807 (by decide +kernel) rfl
abbrev mX0_high : gb_M := (yX0_high, cX0_high, 1, (some .int))
theorem mtX0_high : gb_mt mX0_high 1 := ⟨gb_wi 811 (by decide +kernel) rfl, gb_wi 117 (by decide +kernel) rfl, by decide +kernel, ⟨by decide +kernel, by decide +kernel⟩, by decide +kernel, by decide⟩
theorem stX0_high : Cond.static yX0_high ∈ gb_ws := gb_wi 810 (by decide +kernel) rfl
abbrev mX0_spread : gb_M := (yX0_spread, cX0_spread, 19, none)
theorem mtX0_spread : gb_mt mX0_spread 3 := ⟨gb_wi 815 (by decide +kernel) rfl, gb_wi 117 (by decide +kernel) rfl, by decide +kernel, ⟨by decide +kernel, by decide +kernel⟩, by decide +kernel, by decide⟩
theorem inX0_spread : Cond.instanceMethod yX0_spread ∈ gb_ws := gb_wi 814 (by decide +kernel) rfl
theorem seX0_spread : Cond.selects RX0 yX0_spread yX0_spread ∈ gb_ws := gb_wi 43 (by decide +kernel) rfl
abbrev mX0_addScaled : gb_M := (yX0_addScaled, cX0_addScaled, 20, none)
theorem mtX0_addScaled : gb_mt mX0_addScaled 6 := ⟨gb_wi 820 (by decide +kernel) rfl, gb_wi 117 (by decide +kernel) rfl, by decide +kernel, ⟨by decide +kernel, by decide +kernel⟩, by decide +kernel, by decide⟩
theorem inX0_addScaled : Cond.instanceMethod yX0_addScaled ∈ gb_ws := gb_wi 819 (by decide +kernel) rfl
theorem seX0_addScaled : Cond.selects RX0 yX0_addScaled yX0_addScaled ∈ gb_ws := gb_wi 44 (by decide +kernel) rfl
abbrev mX0_idleFactor : gb_M := (yX0_idleFactor, cX0_idleFactor, 4, (some .long))
theorem mtX0_idleFactor : gb_mt mX0_idleFactor 2 := ⟨gb_wi 825 (by decide +kernel) rfl, gb_wi 117 (by decide +kernel) rfl, by decide +kernel, ⟨by decide +kernel, by decide +kernel⟩, by decide +kernel, by decide⟩
theorem stX0_idleFactor : Cond.static yX0_idleFactor ∈ gb_ws := gb_wi 824 (by decide +kernel) rfl
abbrev mX0_numberPart : gb_M := (yX0_numberPart, cX0_numberPart, 4, (some .long))
theorem mtX0_numberPart : gb_mt mX0_numberPart 2 := ⟨gb_wi 829 (by decide +kernel) rfl, gb_wi 117 (by decide +kernel) rfl, by decide +kernel, ⟨by decide +kernel, by decide +kernel⟩, by decide +kernel, by decide⟩
theorem inX0_numberPart : Cond.instanceMethod yX0_numberPart ∈ gb_ws := gb_wi 828 (by decide +kernel) rfl
theorem seX0_numberPart : Cond.selects RX0 yX0_numberPart yX0_numberPart ∈ gb_ws := gb_wi 45 (by decide +kernel) rfl
abbrev mX10_odds : gb_M := (yX10_odds, cX10_odds, 9, (some .long))
theorem mtX10_odds : gb_mt mX10_odds 7 := ⟨gb_wi 833 (by decide +kernel) rfl, gb_wi 107 (by decide +kernel) rfl, by decide +kernel, ⟨by decide +kernel, by decide +kernel⟩, by decide +kernel, by decide⟩
theorem inX10_odds : Cond.instanceMethod yX10_odds ∈ gb_ws := gb_wi 831 (by decide +kernel) rfl
theorem seX10_odds : Cond.selects RX10 yX10_odds yX10_odds ∈ gb_ws := gb_wi 832 (by decide +kernel) rfl
abbrev mX10_packCounts : gb_M := (yX10_packCounts, cX10_packCounts, 7, (some .int))
theorem mtX10_packCounts : gb_mt mX10_packCounts 5 := ⟨gb_wi 837 (by decide +kernel) rfl, gb_wi 107 (by decide +kernel) rfl, by decide +kernel, ⟨by decide +kernel, by decide +kernel⟩, by decide +kernel, by decide⟩
theorem stX10_packCounts : Cond.static yX10_packCounts ∈ gb_ws := gb_wi 836 (by decide +kernel) rfl
abbrev mX10_isTold : gb_M := (yX10_isTold, cX10_isTold, 6, (some .boolean))
theorem mtX10_isTold : gb_mt mX10_isTold 1 := ⟨gb_wi 843 (by decide +kernel) rfl, gb_wi 107 (by decide +kernel) rfl, by decide +kernel, ⟨by decide +kernel, by decide +kernel⟩, by decide +kernel, by decide⟩
theorem inX10_isTold : Cond.instanceMethod yX10_isTold ∈ gb_ws := gb_wi 842 (by decide +kernel) rfl
theorem seX10_isTold : Cond.selects RX10 yX10_isTold yX10_isTold ∈ gb_ws := gb_wi 46 (by decide +kernel) rfl
abbrev mX10_startKey : gb_M := (yX10_startKey, cX10_startKey, 1, (some .int))
theorem mtX10_startKey : gb_mt mX10_startKey 0 := ⟨gb_wi 847 (by decide +kernel) rfl, gb_wi 107 (by decide +kernel) rfl, by decide +kernel, ⟨by decide +kernel, by decide +kernel⟩, by decide +kernel, by decide⟩
theorem inX10_startKey : Cond.instanceMethod yX10_startKey ∈ gb_ws := gb_wi 846 (by decide +kernel) rfl
theorem seX10_startKey : Cond.selects RX10 yX10_startKey yX10_startKey ∈ gb_ws := gb_wi 47 (by decide +kernel) rfl
abbrev mX0_orders : gb_M := (yX0_orders, cX0_orders, 4, (some .int))
theorem mtX0_orders : gb_mt mX0_orders 1 := ⟨gb_wi 850 (by decide +kernel) rfl, gb_wi 117 (by decide +kernel) rfl, by decide +kernel, ⟨by decide +kernel, by decide +kernel⟩, by decide +kernel, by decide⟩
theorem stX0_orders : Cond.static yX0_orders ∈ gb_ws := gb_wi 849 (by decide +kernel) rfl
abbrev mX1_gather : gb_M := (yX1_gather, cX1_gather, 12, none)
theorem mtX1_gather : gb_mt mX1_gather 2 := ⟨gb_wi 854 (by decide +kernel) rfl, gb_wi 112 (by decide +kernel) rfl, by decide +kernel, ⟨by decide +kernel, by decide +kernel⟩, by decide +kernel, by decide⟩
theorem inX1_gather : Cond.instanceMethod yX1_gather ∈ gb_ws := gb_wi 853 (by decide +kernel) rfl
theorem seX1_gather : Cond.selects RX1 yX1_gather yX1_gather ∈ gb_ws := gb_wi 48 (by decide +kernel) rfl
abbrev mX0_weightWhole : gb_M := (yX0_weightWhole, cX0_weightWhole, 5, (some .long))
theorem mtX0_weightWhole : gb_mt mX0_weightWhole 1 := ⟨gb_wi 858 (by decide +kernel) rfl, gb_wi 117 (by decide +kernel) rfl, by decide +kernel, ⟨by decide +kernel, by decide +kernel⟩, by decide +kernel, by decide⟩
theorem inX0_weightWhole : Cond.instanceMethod yX0_weightWhole ∈ gb_ws := gb_wi 857 (by decide +kernel) rfl
theorem seX0_weightWhole : Cond.selects RX0 yX0_weightWhole yX0_weightWhole ∈ gb_ws := gb_wi 49 (by decide +kernel) rfl
abbrev mX0_weightRoot : gb_M := (yX0_weightRoot, cX0_weightRoot, 3, (some .long))
theorem mtX0_weightRoot : gb_mt mX0_weightRoot 1 := ⟨gb_wi 863 (by decide +kernel) rfl, gb_wi 117 (by decide +kernel) rfl, by decide +kernel, ⟨by decide +kernel, by decide +kernel⟩, by decide +kernel, by decide⟩
theorem inX0_weightRoot : Cond.instanceMethod yX0_weightRoot ∈ gb_ws := gb_wi 862 (by decide +kernel) rfl
theorem seX0_weightRoot : Cond.selects RX0 yX0_weightRoot yX0_weightRoot ∈ gb_ws := gb_wi 50 (by decide +kernel) rfl
abbrev mX0_rowOfKey : gb_M := (yX0_rowOfKey, cX0_rowOfKey, 1, (some .int))
theorem mtX0_rowOfKey : gb_mt mX0_rowOfKey 1 := ⟨gb_wi 866 (by decide +kernel) rfl, gb_wi 117 (by decide +kernel) rfl, by decide +kernel, ⟨by decide +kernel, by decide +kernel⟩, by decide +kernel, by decide⟩
theorem stX0_rowOfKey : Cond.static yX0_rowOfKey ∈ gb_ws := gb_wi 865 (by decide +kernel) rfl
abbrev mX0_pathsOf : gb_M := (yX0_pathsOf, cX0_pathsOf, 1, (some .int))
theorem mtX0_pathsOf : gb_mt mX0_pathsOf 1 := ⟨gb_wi 869 (by decide +kernel) rfl, gb_wi 117 (by decide +kernel) rfl, by decide +kernel, ⟨by decide +kernel, by decide +kernel⟩, by decide +kernel, by decide⟩
theorem stX0_pathsOf : Cond.static yX0_pathsOf ∈ gb_ws := gb_wi 868 (by decide +kernel) rfl
abbrev mX10_rowOfCounts : gb_M := (yX10_rowOfCounts, cX10_rowOfCounts, 7, (some .int))
theorem mtX10_rowOfCounts : gb_mt mX10_rowOfCounts 1 := ⟨gb_wi 872 (by decide +kernel) rfl, gb_wi 107 (by decide +kernel) rfl, by decide +kernel, ⟨by decide +kernel, by decide +kernel⟩, by decide +kernel, by decide⟩
theorem stX10_rowOfCounts : Cond.static yX10_rowOfCounts ∈ gb_ws := gb_wi 871 (by decide +kernel) rfl
abbrev mX1_shareOfRow : gb_M := (yX1_shareOfRow, cX1_shareOfRow, 3, none)
theorem mtX1_shareOfRow : gb_mt mX1_shareOfRow 2 := ⟨gb_wi 877 (by decide +kernel) rfl, gb_wi 112 (by decide +kernel) rfl, by decide +kernel, ⟨by decide +kernel, by decide +kernel⟩, by decide +kernel, by decide⟩
theorem inX1_shareOfRow : Cond.instanceMethod yX1_shareOfRow ∈ gb_ws := gb_wi 876 (by decide +kernel) rfl
theorem seX1_shareOfRow : Cond.selects RX1 yX1_shareOfRow yX1_shareOfRow ∈ gb_ws := gb_wi 51 (by decide +kernel) rfl
abbrev mX8_put : gb_M := (yX8_put, cX8_put, 9, none)
theorem mtX8_put : gb_mt mX8_put 3 := ⟨gb_wi 881 (by decide +kernel) rfl, gb_wi 116 (by decide +kernel) rfl, by decide +kernel, ⟨by decide +kernel, by decide +kernel⟩, by decide +kernel, by decide⟩
theorem inX8_put : Cond.instanceMethod yX8_put ∈ gb_ws := gb_wi 880 (by decide +kernel) rfl
theorem seX8_put : Cond.selects RX8 yX8_put yX8_put ∈ gb_ws := gb_wi 52 (by decide +kernel) rfl
abbrev mJ9_abs_067f4 : gb_M := (yJ9_abs_067f4, cJ9_abs_067f4, 2, (some .long))
theorem stJ9_abs_067f4 : Cond.static yJ9_abs_067f4 ∈ gb_ws := gb_wi 883 (by decide +kernel) rfl
abbrev mX8_divisor : gb_M := (yX8_divisor, cX8_divisor, 11, (some .long))
theorem mtX8_divisor : gb_mt mX8_divisor 2 := ⟨gb_wi 887 (by decide +kernel) rfl, gb_wi 116 (by decide +kernel) rfl, by decide +kernel, ⟨by decide +kernel, by decide +kernel⟩, by decide +kernel, by decide⟩
theorem stX8_divisor : Cond.static yX8_divisor ∈ gb_ws := gb_wi 886 (by decide +kernel) rfl
abbrev mX8_part : gb_M := (yX8_part, cX8_part, 2, (some .long))
theorem mtX8_part : gb_mt mX8_part 1 := ⟨gb_wi 891 (by decide +kernel) rfl, gb_wi 116 (by decide +kernel) rfl, by decide +kernel, ⟨by decide +kernel, by decide +kernel⟩, by decide +kernel, by decide⟩
theorem inX8_part : Cond.instanceMethod yX8_part ∈ gb_ws := gb_wi 890 (by decide +kernel) rfl
theorem seX8_part : Cond.selects RX8 yX8_part yX8_part ∈ gb_ws := gb_wi 53 (by decide +kernel) rfl
abbrev mX10_dark : gb_M := (yX10_dark, cX10_dark, 4, (some .int))
theorem mtX10_dark : gb_mt mX10_dark 2 := ⟨gb_wi 895 (by decide +kernel) rfl, gb_wi 107 (by decide +kernel) rfl, by decide +kernel, ⟨by decide +kernel, by decide +kernel⟩, by decide +kernel, by decide⟩
theorem inX10_dark : Cond.instanceMethod yX10_dark ∈ gb_ws := gb_wi 893 (by decide +kernel) rfl
theorem seX10_dark : Cond.selects RX10 yX10_dark yX10_dark ∈ gb_ws := gb_wi 894 (by decide +kernel) rfl
abbrev mX10_clicks : gb_M := (yX10_clicks, cX10_clicks, 4, (some .long))
theorem mtX10_clicks : gb_mt mX10_clicks 3 := ⟨gb_wi 899 (by decide +kernel) rfl, gb_wi 107 (by decide +kernel) rfl, by decide +kernel, ⟨by decide +kernel, by decide +kernel⟩, by decide +kernel, by decide⟩
theorem inX10_clicks : Cond.instanceMethod yX10_clicks ∈ gb_ws := gb_wi 897 (by decide +kernel) rfl
theorem seX10_clicks : Cond.selects RX10 yX10_clicks yX10_clicks ∈ gb_ws := gb_wi 898 (by decide +kernel) rfl
abbrev mX10_areBits : gb_M := (yX10_areBits, cX10_areBits, 1, (some .boolean))
theorem mtX10_areBits : gb_mt mX10_areBits 1 := ⟨gb_wi 902 (by decide +kernel) rfl, gb_wi 107 (by decide +kernel) rfl, by decide +kernel, ⟨by decide +kernel, by decide +kernel⟩, by decide +kernel, by decide⟩
theorem stX10_areBits : Cond.static yX10_areBits ∈ gb_ws := gb_wi 901 (by decide +kernel) rfl
abbrev mX1_shareOfClicks : gb_M := (yX1_shareOfClicks, cX1_shareOfClicks, 11, none)
theorem mtX1_shareOfClicks : gb_mt mX1_shareOfClicks 3 := ⟨gb_wi 906 (by decide +kernel) rfl, gb_wi 112 (by decide +kernel) rfl, by decide +kernel, ⟨by decide +kernel, by decide +kernel⟩, by decide +kernel, by decide⟩
theorem inX1_shareOfClicks : Cond.instanceMethod yX1_shareOfClicks ∈ gb_ws := gb_wi 905 (by decide +kernel) rfl
theorem seX1_shareOfClicks : Cond.selects RX1 yX1_shareOfClicks yX1_shareOfClicks ∈ gb_ws := gb_wi 54 (by decide +kernel) rfl
abbrev mX1_darkWeight : gb_M := (yX1_darkWeight, cX1_darkWeight, 5, (some .int))
theorem mtX1_darkWeight : gb_mt mX1_darkWeight 3 := ⟨gb_wi 909 (by decide +kernel) rfl, gb_wi 112 (by decide +kernel) rfl, by decide +kernel, ⟨by decide +kernel, by decide +kernel⟩, by decide +kernel, by decide⟩
theorem stX1_darkWeight : Cond.static yX1_darkWeight ∈ gb_ws := gb_wi 908 (by decide +kernel) rfl
abbrev mX10_run : gb_M := (yX10_run, cX10_run, 4, (some .int))
theorem mtX10_run : gb_mt mX10_run 3 := ⟨gb_wi 914 (by decide +kernel) rfl, gb_wi 107 (by decide +kernel) rfl, by decide +kernel, ⟨by decide +kernel, by decide +kernel⟩, by decide +kernel, by decide⟩
theorem inX10_run : Cond.instanceMethod yX10_run ∈ gb_ws := gb_wi 912 (by decide +kernel) rfl
theorem seX10_run : Cond.selects RX10 yX10_run yX10_run ∈ gb_ws := gb_wi 913 (by decide +kernel) rfl
abbrev mX10_isDay : gb_M := (yX10_isDay, cX10_isDay, 1, (some .boolean))
theorem mtX10_isDay : gb_mt mX10_isDay 1 := ⟨gb_wi 917 (by decide +kernel) rfl, gb_wi 107 (by decide +kernel) rfl, by decide +kernel, ⟨by decide +kernel, by decide +kernel⟩, by decide +kernel, by decide⟩
theorem stX10_isDay : Cond.static yX10_isDay ∈ gb_ws := gb_wi 916 (by decide +kernel) rfl
abbrev mX3_append : gb_M := (yX3_append, cX3_append, 4, none)
theorem mtX3_append : gb_mt mX3_append 3 := ⟨gb_wi 921 (by decide +kernel) rfl, gb_wi 113 (by decide +kernel) rfl, by decide +kernel, ⟨by decide +kernel, by decide +kernel⟩, by decide +kernel, by decide⟩
theorem inX3_append : Cond.instanceMethod yX3_append ∈ gb_ws := gb_wi 920 (by decide +kernel) rfl
theorem seX3_append : Cond.selects RX3 yX3_append yX3_append ∈ gb_ws := gb_wi 55 (by decide +kernel) rfl
abbrev mX10_counted : gb_M := (yX10_counted, cX10_counted, 4, (some .int))
theorem mtX10_counted : gb_mt mX10_counted 3 := ⟨gb_wi 925 (by decide +kernel) rfl, gb_wi 107 (by decide +kernel) rfl, by decide +kernel, ⟨by decide +kernel, by decide +kernel⟩, by decide +kernel, by decide⟩
theorem inX10_counted : Cond.instanceMethod yX10_counted ∈ gb_ws := gb_wi 923 (by decide +kernel) rfl
theorem seX10_counted : Cond.selects RX10 yX10_counted yX10_counted ∈ gb_ws := gb_wi 924 (by decide +kernel) rfl
abbrev mX3_tally : gb_M := (yX3_tally, cX3_tally, 4, none)
theorem mtX3_tally : gb_mt mX3_tally 2 := ⟨gb_wi 929 (by decide +kernel) rfl, gb_wi 113 (by decide +kernel) rfl, by decide +kernel, ⟨by decide +kernel, by decide +kernel⟩, by decide +kernel, by decide⟩
theorem inX3_tally : Cond.instanceMethod yX3_tally ∈ gb_ws := gb_wi 928 (by decide +kernel) rfl
theorem seX3_tally : Cond.selects RX3 yX3_tally yX3_tally ∈ gb_ws := gb_wi 56 (by decide +kernel) rfl
abbrev mX10_wrong : gb_M := (yX10_wrong, cX10_wrong, 5, (some .int))
theorem mtX10_wrong : gb_mt mX10_wrong 2 := ⟨gb_wi 933 (by decide +kernel) rfl, gb_wi 107 (by decide +kernel) rfl, by decide +kernel, ⟨by decide +kernel, by decide +kernel⟩, by decide +kernel, by decide⟩
theorem inX10_wrong : Cond.instanceMethod yX10_wrong ∈ gb_ws := gb_wi 931 (by decide +kernel) rfl
theorem seX10_wrong : Cond.selects RX10 yX10_wrong yX10_wrong ∈ gb_ws := gb_wi 932 (by decide +kernel) rfl
abbrev mX8_isZero : gb_M := (yX8_isZero, cX8_isZero, 1, (some .boolean))
theorem mtX8_isZero : gb_mt mX8_isZero 0 := ⟨gb_wi 937 (by decide +kernel) rfl, gb_wi 116 (by decide +kernel) rfl, by decide +kernel, ⟨by decide +kernel, by decide +kernel⟩, by decide +kernel, by decide⟩
theorem inX8_isZero : Cond.instanceMethod yX8_isZero ∈ gb_ws := gb_wi 936 (by decide +kernel) rfl
theorem seX8_isZero : Cond.selects RX8 yX8_isZero yX8_isZero ∈ gb_ws := gb_wi 57 (by decide +kernel) rfl
abbrev mX10_misfit : gb_M := (yX10_misfit, cX10_misfit, 3, (some .int))
theorem mtX10_misfit : gb_mt mX10_misfit 2 := ⟨gb_wi 941 (by decide +kernel) rfl, gb_wi 107 (by decide +kernel) rfl, by decide +kernel, ⟨by decide +kernel, by decide +kernel⟩, by decide +kernel, by decide⟩
theorem inX10_misfit : Cond.instanceMethod yX10_misfit ∈ gb_ws := gb_wi 939 (by decide +kernel) rfl
theorem seX10_misfit : Cond.selects RX10 yX10_misfit yX10_misfit ∈ gb_ws := gb_wi 940 (by decide +kernel) rfl
abbrev mX10_sumApart : gb_M := (yX10_sumApart, cX10_sumApart, 5, (some .int))
theorem mtX10_sumApart : gb_mt mX10_sumApart 2 := ⟨gb_wi 945 (by decide +kernel) rfl, gb_wi 107 (by decide +kernel) rfl, by decide +kernel, ⟨by decide +kernel, by decide +kernel⟩, by decide +kernel, by decide⟩
theorem inX10_sumApart : Cond.instanceMethod yX10_sumApart ∈ gb_ws := gb_wi 944 (by decide +kernel) rfl
theorem seX10_sumApart : Cond.selects RX10 yX10_sumApart yX10_sumApart ∈ gb_ws := gb_wi 58 (by decide +kernel) rfl
abbrev mX8_thousandths : gb_M := (yX8_thousandths, cX8_thousandths, 1, (some .int))
theorem mtX8_thousandths : gb_mt mX8_thousandths 0 := ⟨gb_wi 949 (by decide +kernel) rfl, gb_wi 116 (by decide +kernel) rfl, by decide +kernel, ⟨by decide +kernel, by decide +kernel⟩, by decide +kernel, by decide⟩
theorem inX8_thousandths : Cond.instanceMethod yX8_thousandths ∈ gb_ws := gb_wi 948 (by decide +kernel) rfl
theorem seX8_thousandths : Cond.selects RX8 yX8_thousandths yX8_thousandths ∈ gb_ws := gb_wi 59 (by decide +kernel) rfl
abbrev mJ9_abs_0f7a4 : gb_M := (yJ9_abs_0f7a4, cJ9_abs_0f7a4, 1, (some .int))
theorem stJ9_abs_0f7a4 : Cond.static yJ9_abs_0f7a4 ∈ gb_ws := gb_wi 953 (by decide +kernel) rfl
abbrev mX10_fits : gb_M := (yX10_fits, cX10_fits, 6, (some .int))
theorem mtX10_fits : gb_mt mX10_fits 1 := ⟨gb_wi 958 (by decide +kernel) rfl, gb_wi 107 (by decide +kernel) rfl, by decide +kernel, ⟨by decide +kernel, by decide +kernel⟩, by decide +kernel, by decide⟩
theorem inX10_fits : Cond.instanceMethod yX10_fits ∈ gb_ws := gb_wi 956 (by decide +kernel) rfl
theorem seX10_fits : Cond.selects RX10 yX10_fits yX10_fits ∈ gb_ws := gb_wi 957 (by decide +kernel) rfl
abbrev mX10_pairs : gb_M := (yX10_pairs, cX10_pairs, 4, (some .int))
theorem mtX10_pairs : gb_mt mX10_pairs 3 := ⟨gb_wi 962 (by decide +kernel) rfl, gb_wi 107 (by decide +kernel) rfl, by decide +kernel, ⟨by decide +kernel, by decide +kernel⟩, by decide +kernel, by decide⟩
theorem inX10_pairs : Cond.instanceMethod yX10_pairs ∈ gb_ws := gb_wi 960 (by decide +kernel) rfl
theorem seX10_pairs : Cond.selects RX10 yX10_pairs yX10_pairs ∈ gb_ws := gb_wi 961 (by decide +kernel) rfl
abbrev mX3_like : gb_M := (yX3_like, cX3_like, 1, (some .int))
theorem mtX3_like : gb_mt mX3_like 0 := ⟨gb_wi 966 (by decide +kernel) rfl, gb_wi 113 (by decide +kernel) rfl, by decide +kernel, ⟨by decide +kernel, by decide +kernel⟩, by decide +kernel, by decide⟩
theorem inX3_like : Cond.instanceMethod yX3_like ∈ gb_ws := gb_wi 965 (by decide +kernel) rfl
theorem seX3_like : Cond.selects RX3 yX3_like yX3_like ∈ gb_ws := gb_wi 60 (by decide +kernel) rfl
abbrev mX3_unlike : gb_M := (yX3_unlike, cX3_unlike, 1, (some .int))
theorem mtX3_unlike : gb_mt mX3_unlike 0 := ⟨gb_wi 970 (by decide +kernel) rfl, gb_wi 113 (by decide +kernel) rfl, by decide +kernel, ⟨by decide +kernel, by decide +kernel⟩, by decide +kernel, by decide⟩
theorem inX3_unlike : Cond.instanceMethod yX3_unlike ∈ gb_ws := gb_wi 969 (by decide +kernel) rfl
theorem seX3_unlike : Cond.selects RX3 yX3_unlike yX3_unlike ∈ gb_ws := gb_wi 61 (by decide +kernel) rfl
abbrev mX10_notes : gb_M := (yX10_notes, cX10_notes, 3, (some .long))
theorem mtX10_notes : gb_mt mX10_notes 2 := ⟨gb_wi 974 (by decide +kernel) rfl, gb_wi 107 (by decide +kernel) rfl, by decide +kernel, ⟨by decide +kernel, by decide +kernel⟩, by decide +kernel, by decide⟩
theorem inX10_notes : Cond.instanceMethod yX10_notes ∈ gb_ws := gb_wi 972 (by decide +kernel) rfl
theorem seX10_notes : Cond.selects RX10 yX10_notes yX10_notes ∈ gb_ws := gb_wi 973 (by decide +kernel) rfl
abbrev mX3_sumSides : gb_M := (yX3_sumSides, cX3_sumSides, 8, (some .boolean))
theorem mtX3_sumSides : gb_mt mX3_sumSides 2 := ⟨gb_wi 978 (by decide +kernel) rfl, gb_wi 113 (by decide +kernel) rfl, by decide +kernel, ⟨by decide +kernel, by decide +kernel⟩, by decide +kernel, by decide⟩
theorem inX3_sumSides : Cond.instanceMethod yX3_sumSides ∈ gb_ws := gb_wi 977 (by decide +kernel) rfl
theorem seX3_sumSides : Cond.selects RX3 yX3_sumSides yX3_sumSides ∈ gb_ws := gb_wi 62 (by decide +kernel) rfl
abbrev mJ6_bitCount_0f7a4 : gb_M := (yJ6_bitCount_0f7a4, cJ6_bitCount_0f7a4, 1, (some .int))
theorem mtJ6_bitCount_0f7a4 : gb_mt mJ6_bitCount_0f7a4 1 := ⟨gb_wi 985 (by decide +kernel) rfl, gb_wi 124 (by decide +kernel) rfl, by decide +kernel, ⟨by decide +kernel, by decide +kernel⟩, by decide +kernel, by decide⟩
theorem stJ6_bitCount_0f7a4 : Cond.static yJ6_bitCount_0f7a4 ∈ gb_ws := gb_wi 984 (by decide +kernel) rfl
abbrev mX3_signedSum : gb_M := (yX3_signedSum, cX3_signedSum, 11, (some .long))
theorem mtX3_signedSum : gb_mt mX3_signedSum 2 := ⟨gb_wi 992 (by decide +kernel) rfl, gb_wi 113 (by decide +kernel) rfl, by decide +kernel, ⟨by decide +kernel, by decide +kernel⟩, by decide +kernel, by decide⟩
theorem inX3_signedSum : Cond.instanceMethod yX3_signedSum ∈ gb_ws := gb_wi 991 (by decide +kernel) rfl
theorem seX3_signedSum : Cond.selects RX3 yX3_signedSum yX3_signedSum ∈ gb_ws := gb_wi 63 (by decide +kernel) rfl
abbrev mJ9_max_f86c9 : gb_M := (yJ9_max_f86c9, cJ9_max_f86c9, 4, (some .long))
theorem stJ9_max_f86c9 : Cond.static yJ9_max_f86c9 ∈ gb_ws := gb_wi 994 (by decide +kernel) rfl
abbrev mX10_plan : gb_M := (yX10_plan, cX10_plan, 8, (some .int))
theorem mtX10_plan : gb_mt mX10_plan 6 := ⟨gb_wi 1002 (by decide +kernel) rfl, gb_wi 107 (by decide +kernel) rfl, by decide +kernel, ⟨by decide +kernel, by decide +kernel⟩, by decide +kernel, by decide⟩
theorem inX10_plan : Cond.instanceMethod yX10_plan ∈ gb_ws := gb_wi 1000 (by decide +kernel) rfl
theorem seX10_plan : Cond.selects RX10 yX10_plan yX10_plan ∈ gb_ws := gb_wi 1001 (by decide +kernel) rfl
abbrev mX6_search : gb_M := (yX6_search, cX6_search, 8, none)
theorem mtX6_search : gb_mt mX6_search 4 := ⟨gb_wi 1006 (by decide +kernel) rfl, gb_wi 115 (by decide +kernel) rfl, by decide +kernel, ⟨by decide +kernel, by decide +kernel⟩, by decide +kernel, by decide⟩
theorem inX6_search : Cond.instanceMethod yX6_search ∈ gb_ws := gb_wi 1005 (by decide +kernel) rfl
theorem seX6_search : Cond.selects RX6 yX6_search yX6_search ∈ gb_ws := gb_wi 64 (by decide +kernel) rfl
abbrev mX6_weigh : gb_M := (yX6_weigh, cX6_weigh, 8, none)
theorem mtX6_weigh : gb_mt mX6_weigh 3 := ⟨gb_wi 1013 (by decide +kernel) rfl, gb_wi 115 (by decide +kernel) rfl, by decide +kernel, ⟨by decide +kernel, by decide +kernel⟩, by decide +kernel, by decide⟩
theorem inX6_weigh : Cond.instanceMethod yX6_weigh ∈ gb_ws := gb_wi 1012 (by decide +kernel) rfl
theorem seX6_weigh : Cond.selects RX6 yX6_weigh yX6_weigh ∈ gb_ws := gb_wi 65 (by decide +kernel) rfl
abbrev mX0_shareOfRow : gb_M := (yX0_shareOfRow, cX0_shareOfRow, 10, none)
theorem mtX0_shareOfRow : gb_mt mX0_shareOfRow 3 := ⟨gb_wi 1017 (by decide +kernel) rfl, gb_wi 117 (by decide +kernel) rfl, by decide +kernel, ⟨by decide +kernel, by decide +kernel⟩, by decide +kernel, by decide⟩
theorem inX0_shareOfRow : Cond.instanceMethod yX0_shareOfRow ∈ gb_ws := gb_wi 1016 (by decide +kernel) rfl
theorem seX0_shareOfRow : Cond.selects RX0 yX0_shareOfRow yX0_shareOfRow ∈ gb_ws := gb_wi 66 (by decide +kernel) rfl
abbrev mX8_compareShare : gb_M := (yX8_compareShare, cX8_compareShare, 8, (some .int))
theorem mtX8_compareShare : gb_mt mX8_compareShare 1 := ⟨gb_wi 1025 (by decide +kernel) rfl, gb_wi 116 (by decide +kernel) rfl, by decide +kernel, ⟨by decide +kernel, by decide +kernel⟩, by decide +kernel, by decide⟩
theorem inX8_compareShare : Cond.instanceMethod yX8_compareShare ∈ gb_ws := gb_wi 1024 (by decide +kernel) rfl
theorem seX8_compareShare : Cond.selects RX8 yX8_compareShare yX8_compareShare ∈ gb_ws := gb_wi 67 (by decide +kernel) rfl
abbrev mX8_signOf : gb_M := (yX8_signOf, cX8_signOf, 12, (some .int))
theorem mtX8_signOf : gb_mt mX8_signOf 2 := ⟨gb_wi 1028 (by decide +kernel) rfl, gb_wi 116 (by decide +kernel) rfl, by decide +kernel, ⟨by decide +kernel, by decide +kernel⟩, by decide +kernel, by decide⟩
theorem stX8_signOf : Cond.static yX8_signOf ∈ gb_ws := gb_wi 1027 (by decide +kernel) rfl
abbrev mX8_copyShare : gb_M := (yX8_copyShare, cX8_copyShare, 2, none)
theorem mtX8_copyShare : gb_mt mX8_copyShare 1 := ⟨gb_wi 1033 (by decide +kernel) rfl, gb_wi 116 (by decide +kernel) rfl, by decide +kernel, ⟨by decide +kernel, by decide +kernel⟩, by decide +kernel, by decide⟩
theorem inX8_copyShare : Cond.instanceMethod yX8_copyShare ∈ gb_ws := gb_wi 1032 (by decide +kernel) rfl
theorem seX8_copyShare : Cond.selects RX8 yX8_copyShare yX8_copyShare ∈ gb_ws := gb_wi 68 (by decide +kernel) rfl
abbrev mX6_lengthen : gb_M := (yX6_lengthen, cX6_lengthen, 7, (some .boolean))
theorem mtX6_lengthen : gb_mt mX6_lengthen 3 := ⟨gb_wi 1037 (by decide +kernel) rfl, gb_wi 115 (by decide +kernel) rfl, by decide +kernel, ⟨by decide +kernel, by decide +kernel⟩, by decide +kernel, by decide⟩
theorem inX6_lengthen : Cond.instanceMethod yX6_lengthen ∈ gb_ws := gb_wi 1036 (by decide +kernel) rfl
theorem seX6_lengthen : Cond.selects RX6 yX6_lengthen yX6_lengthen ∈ gb_ws := gb_wi 69 (by decide +kernel) rfl
abbrev mX6_isVain : gb_M := (yX6_isVain, cX6_isVain, 3, (some .boolean))
theorem mtX6_isVain : gb_mt mX6_isVain 3 := ⟨gb_wi 1043 (by decide +kernel) rfl, gb_wi 115 (by decide +kernel) rfl, by decide +kernel, ⟨by decide +kernel, by decide +kernel⟩, by decide +kernel, by decide⟩
theorem stX6_isVain : Cond.static yX6_isVain ∈ gb_ws := gb_wi 1042 (by decide +kernel) rfl
abbrev mX5_joinsPaths : gb_M := (yX5_joinsPaths, cX5_joinsPaths, 1, (some .boolean))
theorem mtX5_joinsPaths : gb_mt mX5_joinsPaths 0 := ⟨gb_wi 1047 (by decide +kernel) rfl, gb_wi 111 (by decide +kernel) rfl, by decide +kernel, ⟨by decide +kernel, by decide +kernel⟩, by decide +kernel, by decide⟩
theorem inX5_joinsPaths : Cond.instanceMethod yX5_joinsPaths ∈ gb_ws := gb_wi 1046 (by decide +kernel) rfl
theorem seX5_joinsPaths : Cond.selects RX5 yX5_joinsPaths yX5_joinsPaths ∈ gb_ws := gb_wi 70 (by decide +kernel) rfl
abbrev mX0_isMetBy : gb_M := (yX0_isMetBy, cX0_isMetBy, 4, (some .boolean))
theorem mtX0_isMetBy : gb_mt mX0_isMetBy 1 := ⟨gb_wi 1051 (by decide +kernel) rfl, gb_wi 117 (by decide +kernel) rfl, by decide +kernel, ⟨by decide +kernel, by decide +kernel⟩, by decide +kernel, by decide⟩
theorem inX0_isMetBy : Cond.instanceMethod yX0_isMetBy ∈ gb_ws := gb_wi 1050 (by decide +kernel) rfl
theorem seX0_isMetBy : Cond.selects RX0 yX0_isMetBy yX0_isMetBy ∈ gb_ws := gb_wi 71 (by decide +kernel) rfl
abbrev mX10_planned : gb_M := (yX10_planned, cX10_planned, 2, (some .long))
theorem mtX10_planned : gb_mt mX10_planned 1 := ⟨gb_wi 1058 (by decide +kernel) rfl, gb_wi 107 (by decide +kernel) rfl, by decide +kernel, ⟨by decide +kernel, by decide +kernel⟩, by decide +kernel, by decide⟩
theorem inX10_planned : Cond.instanceMethod yX10_planned ∈ gb_ws := gb_wi 1056 (by decide +kernel) rfl
theorem seX10_planned : Cond.selects RX10 yX10_planned yX10_planned ∈ gb_ws := gb_wi 1057 (by decide +kernel) rfl
abbrev mX10_build : gb_M := (yX10_build, cX10_build, 4, (some .int))
theorem mtX10_build : gb_mt mX10_build 1 := ⟨gb_wi 1062 (by decide +kernel) rfl, gb_wi 107 (by decide +kernel) rfl, by decide +kernel, ⟨by decide +kernel, by decide +kernel⟩, by decide +kernel, by decide⟩
theorem inX10_build : Cond.instanceMethod yX10_build ∈ gb_ws := gb_wi 1060 (by decide +kernel) rfl
theorem seX10_build : Cond.selects RX10 yX10_build yX10_build ∈ gb_ws := gb_wi 1061 (by decide +kernel) rfl
abbrev mX10_count : gb_M := (yX10_count, cX10_count, 2, (some .int))
theorem mtX10_count : gb_mt mX10_count 1 := ⟨gb_wi 1066 (by decide +kernel) rfl, gb_wi 107 (by decide +kernel) rfl, by decide +kernel, ⟨by decide +kernel, by decide +kernel⟩, by decide +kernel, by decide⟩
theorem inX10_count : Cond.instanceMethod yX10_count ∈ gb_ws := gb_wi 1064 (by decide +kernel) rfl
theorem seX10_count : Cond.selects RX10 yX10_count yX10_count ∈ gb_ws := gb_wi 1065 (by decide +kernel) rfl
abbrev mX10_status : gb_M := (yX10_status, cX10_status, 1, (some .int))
theorem mtX10_status : gb_mt mX10_status 0 := ⟨gb_wi 1070 (by decide +kernel) rfl, gb_wi 107 (by decide +kernel) rfl, by decide +kernel, ⟨by decide +kernel, by decide +kernel⟩, by decide +kernel, by decide⟩
theorem inX10_status : Cond.instanceMethod yX10_status ∈ gb_ws := gb_wi 1068 (by decide +kernel) rfl
theorem seX10_status : Cond.selects RX10 yX10_status yX10_status ∈ gb_ws := gb_wi 1069 (by decide +kernel) rfl
abbrev mX11_init : gb_M := (yX11_init, cX11_init, 1, none)
theorem mtX11_init : gb_mt mX11_init 0 := ⟨gb_wi 1075 (by decide +kernel) rfl, gb_wi 118 (by decide +kernel) rfl, by decide +kernel, ⟨by decide +kernel, by decide +kernel⟩, by decide +kernel, by decide⟩
theorem inX11_init : Cond.instanceMethod yX11_init ∈ gb_ws := gb_wi 1074 (by decide +kernel) rfl
abbrev mX11_grain : gb_M := (yX11_grain, cX11_grain, 2, (some .int))
theorem mtX11_grain : gb_mt mX11_grain 1 := ⟨gb_wi 1252 (by decide +kernel) rfl, gb_wi 118 (by decide +kernel) rfl, by decide +kernel, ⟨by decide +kernel, by decide +kernel⟩, by decide +kernel, by decide⟩
theorem inX11_grain : Cond.instanceMethod yX11_grain ∈ gb_ws := gb_wi 1250 (by decide +kernel) rfl
theorem seX11_grain : Cond.selects RX11 yX11_grain yX11_grain ∈ gb_ws := gb_wi 1251 (by decide +kernel) rfl
abbrev mX11_in : gb_M := (yX11_in, cX11_in, 3, (some .boolean))
theorem mtX11_in : gb_mt mX11_in 3 := ⟨gb_wi 1255 (by decide +kernel) rfl, gb_wi 118 (by decide +kernel) rfl, by decide +kernel, ⟨by decide +kernel, by decide +kernel⟩, by decide +kernel, by decide⟩
theorem stX11_in : Cond.static yX11_in ∈ gb_ws := gb_wi 1254 (by decide +kernel) rfl
abbrev mX11_ends : gb_M := (yX11_ends, cX11_ends, 2, (some .int))
theorem mtX11_ends : gb_mt mX11_ends 1 := ⟨gb_wi 1259 (by decide +kernel) rfl, gb_wi 118 (by decide +kernel) rfl, by decide +kernel, ⟨by decide +kernel, by decide +kernel⟩, by decide +kernel, by decide⟩
theorem inX11_ends : Cond.instanceMethod yX11_ends ∈ gb_ws := gb_wi 1258 (by decide +kernel) rfl
theorem seX11_ends : Cond.selects RX11 yX11_ends yX11_ends ∈ gb_ws := gb_wi 72 (by decide +kernel) rfl
abbrev mX11_clear : gb_M := (yX11_clear, cX11_clear, 2, (some .int))
theorem mtX11_clear : gb_mt mX11_clear 0 := ⟨gb_wi 1263 (by decide +kernel) rfl, gb_wi 118 (by decide +kernel) rfl, by decide +kernel, ⟨by decide +kernel, by decide +kernel⟩, by decide +kernel, by decide⟩
theorem inX11_clear : Cond.instanceMethod yX11_clear ∈ gb_ws := gb_wi 1261 (by decide +kernel) rfl
theorem seX11_clear : Cond.selects RX11 yX11_clear yX11_clear ∈ gb_ws := gb_wi 1262 (by decide +kernel) rfl
abbrev mX11_feed : gb_M := (yX11_feed, cX11_feed, 7, (some .int))
theorem mtX11_feed : gb_mt mX11_feed 5 := ⟨gb_wi 1267 (by decide +kernel) rfl, gb_wi 118 (by decide +kernel) rfl, by decide +kernel, ⟨by decide +kernel, by decide +kernel⟩, by decide +kernel, by decide⟩
theorem inX11_feed : Cond.instanceMethod yX11_feed ∈ gb_ws := gb_wi 1265 (by decide +kernel) rfl
theorem seX11_feed : Cond.selects RX11 yX11_feed yX11_feed ∈ gb_ws := gb_wi 1266 (by decide +kernel) rfl
abbrev mX11_end : gb_M := (yX11_end, cX11_end, 2, (some .int))
theorem mtX11_end : gb_mt mX11_end 1 := ⟨gb_wi 1271 (by decide +kernel) rfl, gb_wi 118 (by decide +kernel) rfl, by decide +kernel, ⟨by decide +kernel, by decide +kernel⟩, by decide +kernel, by decide⟩
theorem inX11_end : Cond.instanceMethod yX11_end ∈ gb_ws := gb_wi 1269 (by decide +kernel) rfl
theorem seX11_end : Cond.selects RX11 yX11_end yX11_end ∈ gb_ws := gb_wi 1270 (by decide +kernel) rfl
abbrev mX11_bench : gb_M := (yX11_bench, cX11_bench, 3, (some .int))
theorem mtX11_bench : gb_mt mX11_bench 1 := ⟨gb_wi 1275 (by decide +kernel) rfl, gb_wi 118 (by decide +kernel) rfl, by decide +kernel, ⟨by decide +kernel, by decide +kernel⟩, by decide +kernel, by decide⟩
theorem inX11_bench : Cond.instanceMethod yX11_bench ∈ gb_ws := gb_wi 1273 (by decide +kernel) rfl
theorem seX11_bench : Cond.selects RX11 yX11_bench yX11_bench ∈ gb_ws := gb_wi 1274 (by decide +kernel) rfl
abbrev mX11_begins : gb_M := (yX11_begins, cX11_begins, 2, none)
theorem mtX11_begins : gb_mt mX11_begins 0 := ⟨gb_wi 1279 (by decide +kernel) rfl, gb_wi 118 (by decide +kernel) rfl, by decide +kernel, ⟨by decide +kernel, by decide +kernel⟩, by decide +kernel, by decide⟩
theorem inX11_begins : Cond.instanceMethod yX11_begins ∈ gb_ws := gb_wi 1278 (by decide +kernel) rfl
theorem seX11_begins : Cond.selects RX11 yX11_begins yX11_begins ∈ gb_ws := gb_wi 73 (by decide +kernel) rfl
abbrev mX11_next : gb_M := (yX11_next, cX11_next, 1, none)
theorem mtX11_next : gb_mt mX11_next 0 := ⟨gb_wi 1283 (by decide +kernel) rfl, gb_wi 118 (by decide +kernel) rfl, by decide +kernel, ⟨by decide +kernel, by decide +kernel⟩, by decide +kernel, by decide⟩
theorem inX11_next : Cond.instanceMethod yX11_next ∈ gb_ws := gb_wi 1282 (by decide +kernel) rfl
theorem seX11_next : Cond.selects RX11 yX11_next yX11_next ∈ gb_ws := gb_wi 74 (by decide +kernel) rfl
abbrev mX11_isIn : gb_M := (yX11_isIn, cX11_isIn, 4, (some .boolean))
theorem mtX11_isIn : gb_mt mX11_isIn 3 := ⟨gb_wi 1287 (by decide +kernel) rfl, gb_wi 118 (by decide +kernel) rfl, by decide +kernel, ⟨by decide +kernel, by decide +kernel⟩, by decide +kernel, by decide⟩
theorem inX11_isIn : Cond.instanceMethod yX11_isIn ∈ gb_ws := gb_wi 1286 (by decide +kernel) rfl
theorem seX11_isIn : Cond.selects RX11 yX11_isIn yX11_isIn ∈ gb_ws := gb_wi 75 (by decide +kernel) rfl
abbrev mX11_part : gb_M := (yX11_part, cX11_part, 2, none)
theorem mtX11_part : gb_mt mX11_part 0 := ⟨gb_wi 1291 (by decide +kernel) rfl, gb_wi 118 (by decide +kernel) rfl, by decide +kernel, ⟨by decide +kernel, by decide +kernel⟩, by decide +kernel, by decide⟩
theorem inX11_part : Cond.instanceMethod yX11_part ∈ gb_ws := gb_wi 1290 (by decide +kernel) rfl
theorem seX11_part : Cond.selects RX11 yX11_part yX11_part ∈ gb_ws := gb_wi 76 (by decide +kernel) rfl
abbrev mX11_faults : gb_M := (yX11_faults, cX11_faults, 1, none)
theorem mtX11_faults : gb_mt mX11_faults 0 := ⟨gb_wi 1295 (by decide +kernel) rfl, gb_wi 118 (by decide +kernel) rfl, by decide +kernel, ⟨by decide +kernel, by decide +kernel⟩, by decide +kernel, by decide⟩
theorem inX11_faults : Cond.instanceMethod yX11_faults ∈ gb_ws := gb_wi 1294 (by decide +kernel) rfl
theorem seX11_faults : Cond.selects RX11 yX11_faults yX11_faults ∈ gb_ws := gb_wi 77 (by decide +kernel) rfl
abbrev mX11_good : gb_M := (yX11_good, cX11_good, 1, (some .boolean))
theorem mtX11_good : gb_mt mX11_good 0 := ⟨gb_wi 1299 (by decide +kernel) rfl, gb_wi 118 (by decide +kernel) rfl, by decide +kernel, ⟨by decide +kernel, by decide +kernel⟩, by decide +kernel, by decide⟩
theorem inX11_good : Cond.instanceMethod yX11_good ∈ gb_ws := gb_wi 1298 (by decide +kernel) rfl
theorem seX11_good : Cond.selects RX11 yX11_good yX11_good ∈ gb_ws := gb_wi 78 (by decide +kernel) rfl
abbrev mX11_fresh : gb_M := (yX11_fresh, cX11_fresh, 3, (some .int))
theorem mtX11_fresh : gb_mt mX11_fresh 0 := ⟨gb_wi 1303 (by decide +kernel) rfl, gb_wi 118 (by decide +kernel) rfl, by decide +kernel, ⟨by decide +kernel, by decide +kernel⟩, by decide +kernel, by decide⟩
theorem inX11_fresh : Cond.instanceMethod yX11_fresh ∈ gb_ws := gb_wi 1302 (by decide +kernel) rfl
theorem seX11_fresh : Cond.selects RX11 yX11_fresh yX11_fresh ∈ gb_ws := gb_wi 79 (by decide +kernel) rfl
abbrev mX11_isWord : gb_M := (yX11_isWord, cX11_isWord, 6, (some .boolean))
theorem mtX11_isWord : gb_mt mX11_isWord 1 := ⟨gb_wi 1308 (by decide +kernel) rfl, gb_wi 118 (by decide +kernel) rfl, by decide +kernel, ⟨by decide +kernel, by decide +kernel⟩, by decide +kernel, by decide⟩
theorem inX11_isWord : Cond.instanceMethod yX11_isWord ∈ gb_ws := gb_wi 1307 (by decide +kernel) rfl
theorem seX11_isWord : Cond.selects RX11 yX11_isWord yX11_isWord ∈ gb_ws := gb_wi 80 (by decide +kernel) rfl
abbrev mX11_takesWord : gb_M := (yX11_takesWord, cX11_takesWord, 4, (some .boolean))
theorem mtX11_takesWord : gb_mt mX11_takesWord 1 := ⟨gb_wi 1315 (by decide +kernel) rfl, gb_wi 118 (by decide +kernel) rfl, by decide +kernel, ⟨by decide +kernel, by decide +kernel⟩, by decide +kernel, by decide⟩
theorem inX11_takesWord : Cond.instanceMethod yX11_takesWord ∈ gb_ws := gb_wi 1314 (by decide +kernel) rfl
theorem seX11_takesWord : Cond.selects RX11 yX11_takesWord yX11_takesWord ∈ gb_ws := gb_wi 81 (by decide +kernel) rfl
abbrev mX11_path : gb_M := (yX11_path, cX11_path, 5, (some .int))
theorem mtX11_path : gb_mt mX11_path 2 := ⟨gb_wi 1319 (by decide +kernel) rfl, gb_wi 118 (by decide +kernel) rfl, by decide +kernel, ⟨by decide +kernel, by decide +kernel⟩, by decide +kernel, by decide⟩
theorem inX11_path : Cond.instanceMethod yX11_path ∈ gb_ws := gb_wi 1318 (by decide +kernel) rfl
theorem seX11_path : Cond.selects RX11 yX11_path yX11_path ∈ gb_ws := gb_wi 82 (by decide +kernel) rfl
abbrev mX11_number : gb_M := (yX11_number, cX11_number, 4, (some .int))
theorem mtX11_number : gb_mt mX11_number 1 := ⟨gb_wi 1323 (by decide +kernel) rfl, gb_wi 118 (by decide +kernel) rfl, by decide +kernel, ⟨by decide +kernel, by decide +kernel⟩, by decide +kernel, by decide⟩
theorem inX11_number : Cond.instanceMethod yX11_number ∈ gb_ws := gb_wi 1322 (by decide +kernel) rfl
theorem seX11_number : Cond.selects RX11 yX11_number yX11_number ∈ gb_ws := gb_wi 83 (by decide +kernel) rfl
abbrev mX11_takesSign : gb_M := (yX11_takesSign, cX11_takesSign, 3, (some .boolean))
theorem mtX11_takesSign : gb_mt mX11_takesSign 1 := ⟨gb_wi 1327 (by decide +kernel) rfl, gb_wi 118 (by decide +kernel) rfl, by decide +kernel, ⟨by decide +kernel, by decide +kernel⟩, by decide +kernel, by decide⟩
theorem inX11_takesSign : Cond.instanceMethod yX11_takesSign ∈ gb_ws := gb_wi 1326 (by decide +kernel) rfl
theorem seX11_takesSign : Cond.selects RX11 yX11_takesSign yX11_takesSign ∈ gb_ws := gb_wi 84 (by decide +kernel) rfl
abbrev mX11_deed : gb_M := (yX11_deed, cX11_deed, 2, none)
theorem mtX11_deed : gb_mt mX11_deed 1 := ⟨gb_wi 1332 (by decide +kernel) rfl, gb_wi 118 (by decide +kernel) rfl, by decide +kernel, ⟨by decide +kernel, by decide +kernel⟩, by decide +kernel, by decide⟩
theorem inX11_deed : Cond.instanceMethod yX11_deed ∈ gb_ws := gb_wi 1331 (by decide +kernel) rfl
theorem seX11_deed : Cond.selects RX11 yX11_deed yX11_deed ∈ gb_ws := gb_wi 85 (by decide +kernel) rfl
abbrev mX11_kind : gb_M := (yX11_kind, cX11_kind, 1, (some .int))
theorem mtX11_kind : gb_mt mX11_kind 0 := ⟨gb_wi 1337 (by decide +kernel) rfl, gb_wi 118 (by decide +kernel) rfl, by decide +kernel, ⟨by decide +kernel, by decide +kernel⟩, by decide +kernel, by decide⟩
theorem inX11_kind : Cond.instanceMethod yX11_kind ∈ gb_ws := gb_wi 1336 (by decide +kernel) rfl
theorem seX11_kind : Cond.selects RX11 yX11_kind yX11_kind ∈ gb_ws := gb_wi 86 (by decide +kernel) rfl
abbrev mX11_shelf : gb_M := (yX11_shelf, cX11_shelf, 2, (some .int))
theorem mtX11_shelf : gb_mt mX11_shelf 0 := ⟨gb_wi 1349 (by decide +kernel) rfl, gb_wi 118 (by decide +kernel) rfl, by decide +kernel, ⟨by decide +kernel, by decide +kernel⟩, by decide +kernel, by decide⟩
theorem inX11_shelf : Cond.instanceMethod yX11_shelf ∈ gb_ws := gb_wi 1347 (by decide +kernel) rfl
theorem seX11_shelf : Cond.selects RX11 yX11_shelf yX11_shelf ∈ gb_ws := gb_wi 1348 (by decide +kernel) rfl
abbrev mX11_fault : gb_M := (yX11_fault, cX11_fault, 1, (some .int))
theorem mtX11_fault : gb_mt mX11_fault 0 := ⟨gb_wi 1353 (by decide +kernel) rfl, gb_wi 118 (by decide +kernel) rfl, by decide +kernel, ⟨by decide +kernel, by decide +kernel⟩, by decide +kernel, by decide⟩
theorem inX11_fault : Cond.instanceMethod yX11_fault ∈ gb_ws := gb_wi 1351 (by decide +kernel) rfl
theorem seX11_fault : Cond.selects RX11 yX11_fault yX11_fault ∈ gb_ws := gb_wi 1352 (by decide +kernel) rfl
abbrev mX11_deep : gb_M := (yX11_deep, cX11_deep, 2, (some .int))
theorem mtX11_deep : gb_mt mX11_deep 1 := ⟨gb_wi 1357 (by decide +kernel) rfl, gb_wi 118 (by decide +kernel) rfl, by decide +kernel, ⟨by decide +kernel, by decide +kernel⟩, by decide +kernel, by decide⟩
theorem inX11_deep : Cond.instanceMethod yX11_deep ∈ gb_ws := gb_wi 1355 (by decide +kernel) rfl
theorem seX11_deep : Cond.selects RX11 yX11_deep yX11_deep ∈ gb_ws := gb_wi 1356 (by decide +kernel) rfl
abbrev mX11_deepOf : gb_M := (yX11_deepOf, cX11_deepOf, 8, (some .int))
theorem mtX11_deepOf : gb_mt mX11_deepOf 4 := ⟨gb_wi 1360 (by decide +kernel) rfl, gb_wi 118 (by decide +kernel) rfl, by decide +kernel, ⟨by decide +kernel, by decide +kernel⟩, by decide +kernel, by decide⟩
theorem stX11_deepOf : Cond.static yX11_deepOf ∈ gb_ws := gb_wi 1359 (by decide +kernel) rfl
abbrev mX11_measure : gb_M := (yX11_measure, cX11_measure, 1, (some .int))
theorem mtX11_measure : gb_mt mX11_measure 1 := ⟨gb_wi 1363 (by decide +kernel) rfl, gb_wi 118 (by decide +kernel) rfl, by decide +kernel, ⟨by decide +kernel, by decide +kernel⟩, by decide +kernel, by decide⟩
theorem stX11_measure : Cond.static yX11_measure ∈ gb_ws := gb_wi 1362 (by decide +kernel) rfl
abbrev mX11_power : gb_M := (yX11_power, cX11_power, 6, (some .long))
theorem mtX11_power : gb_mt mX11_power 2 := ⟨gb_wi 1366 (by decide +kernel) rfl, gb_wi 118 (by decide +kernel) rfl, by decide +kernel, ⟨by decide +kernel, by decide +kernel⟩, by decide +kernel, by decide⟩
theorem stX11_power : Cond.static yX11_power ∈ gb_ws := gb_wi 1365 (by decide +kernel) rfl
abbrev mX11_way : gb_M := (yX11_way, cX11_way, 6, (some .int))
theorem mtX11_way : gb_mt mX11_way 4 := ⟨gb_wi 1372 (by decide +kernel) rfl, gb_wi 118 (by decide +kernel) rfl, by decide +kernel, ⟨by decide +kernel, by decide +kernel⟩, by decide +kernel, by decide⟩
theorem inX11_way : Cond.instanceMethod yX11_way ∈ gb_ws := gb_wi 1370 (by decide +kernel) rfl
theorem seX11_way : Cond.selects RX11 yX11_way yX11_way ∈ gb_ws := gb_wi 1371 (by decide +kernel) rfl
abbrev mX11_runs : gb_M := (yX11_runs, cX11_runs, 8, none)
theorem mtX11_runs : gb_mt mX11_runs 5 := ⟨gb_wi 1378 (by decide +kernel) rfl, gb_wi 118 (by decide +kernel) rfl, by decide +kernel, ⟨by decide +kernel, by decide +kernel⟩, by decide +kernel, by decide⟩
theorem inX11_runs : Cond.instanceMethod yX11_runs ∈ gb_ws := gb_wi 1377 (by decide +kernel) rfl
theorem seX11_runs : Cond.selects RX11 yX11_runs yX11_runs ∈ gb_ws := gb_wi 87 (by decide +kernel) rfl
abbrev mX11_does : gb_M := (yX11_does, cX11_does, 10, none)
theorem mtX11_does : gb_mt mX11_does 2 := ⟨gb_wi 1383 (by decide +kernel) rfl, gb_wi 118 (by decide +kernel) rfl, by decide +kernel, ⟨by decide +kernel, by decide +kernel⟩, by decide +kernel, by decide⟩
theorem inX11_does : Cond.instanceMethod yX11_does ∈ gb_ws := gb_wi 1382 (by decide +kernel) rfl
theorem seX11_does : Cond.selects RX11 yX11_does yX11_does ∈ gb_ws := gb_wi 88 (by decide +kernel) rfl
abbrev mX11_inPath : gb_M := (yX11_inPath, cX11_inPath, 5, (some .int))
theorem mtX11_inPath : gb_mt mX11_inPath 2 := ⟨gb_wi 1387 (by decide +kernel) rfl, gb_wi 118 (by decide +kernel) rfl, by decide +kernel, ⟨by decide +kernel, by decide +kernel⟩, by decide +kernel, by decide⟩
theorem inX11_inPath : Cond.instanceMethod yX11_inPath ∈ gb_ws := gb_wi 1386 (by decide +kernel) rfl
theorem seX11_inPath : Cond.selects RX11 yX11_inPath yX11_inPath ∈ gb_ws := gb_wi 89 (by decide +kernel) rfl
abbrev mX11_modeAt : gb_M := (yX11_modeAt, cX11_modeAt, 5, (some .int))
theorem mtX11_modeAt : gb_mt mX11_modeAt 2 := ⟨gb_wi 1391 (by decide +kernel) rfl, gb_wi 118 (by decide +kernel) rfl, by decide +kernel, ⟨by decide +kernel, by decide +kernel⟩, by decide +kernel, by decide⟩
theorem inX11_modeAt : Cond.instanceMethod yX11_modeAt ∈ gb_ws := gb_wi 1390 (by decide +kernel) rfl
theorem seX11_modeAt : Cond.selects RX11 yX11_modeAt yX11_modeAt ∈ gb_ws := gb_wi 90 (by decide +kernel) rfl
abbrev mX11_placeAt : gb_M := (yX11_placeAt, cX11_placeAt, 2, (some .int))
theorem mtX11_placeAt : gb_mt mX11_placeAt 1 := ⟨gb_wi 1395 (by decide +kernel) rfl, gb_wi 118 (by decide +kernel) rfl, by decide +kernel, ⟨by decide +kernel, by decide +kernel⟩, by decide +kernel, by decide⟩
theorem inX11_placeAt : Cond.instanceMethod yX11_placeAt ∈ gb_ws := gb_wi 1394 (by decide +kernel) rfl
theorem seX11_placeAt : Cond.selects RX11 yX11_placeAt yX11_placeAt ∈ gb_ws := gb_wi 91 (by decide +kernel) rfl
abbrev mX11_acts : gb_M := (yX11_acts, cX11_acts, 10, none)
theorem mtX11_acts : gb_mt mX11_acts 3 := ⟨gb_wi 1399 (by decide +kernel) rfl, gb_wi 118 (by decide +kernel) rfl, by decide +kernel, ⟨by decide +kernel, by decide +kernel⟩, by decide +kernel, by decide⟩
theorem inX11_acts : Cond.instanceMethod yX11_acts ∈ gb_ws := gb_wi 1398 (by decide +kernel) rfl
theorem seX11_acts : Cond.selects RX11 yX11_acts yX11_acts ∈ gb_ws := gb_wi 92 (by decide +kernel) rfl
abbrev mX11_puts : gb_M := (yX11_puts, cX11_puts, 9, none)
theorem mtX11_puts : gb_mt mX11_puts 5 := ⟨gb_wi 1402 (by decide +kernel) rfl, gb_wi 118 (by decide +kernel) rfl, by decide +kernel, ⟨by decide +kernel, by decide +kernel⟩, by decide +kernel, by decide⟩
theorem stX11_puts : Cond.static yX11_puts ∈ gb_ws := gb_wi 1401 (by decide +kernel) rfl
abbrev mX11_some : gb_M := (yX11_some, cX11_some, 9, none)
theorem mtX11_some : gb_mt mX11_some 5 := ⟨gb_wi 1405 (by decide +kernel) rfl, gb_wi 118 (by decide +kernel) rfl, by decide +kernel, ⟨by decide +kernel, by decide +kernel⟩, by decide +kernel, by decide⟩
theorem stX11_some : Cond.static yX11_some ∈ gb_ws := gb_wi 1404 (by decide +kernel) rfl
abbrev mX11_adds : gb_M := (yX11_adds, cX11_adds, 13, none)
theorem mtX11_adds : gb_mt mX11_adds 5 := ⟨gb_wi 1411 (by decide +kernel) rfl, gb_wi 118 (by decide +kernel) rfl, by decide +kernel, ⟨by decide +kernel, by decide +kernel⟩, by decide +kernel, by decide⟩
theorem stX11_adds : Cond.static yX11_adds ∈ gb_ws := gb_wi 1410 (by decide +kernel) rfl
abbrev mX11_odds : gb_M := (yX11_odds, cX11_odds, 9, (some .long))
theorem mtX11_odds : gb_mt mX11_odds 7 := ⟨gb_wi 1416 (by decide +kernel) rfl, gb_wi 118 (by decide +kernel) rfl, by decide +kernel, ⟨by decide +kernel, by decide +kernel⟩, by decide +kernel, by decide⟩
theorem inX11_odds : Cond.instanceMethod yX11_odds ∈ gb_ws := gb_wi 1414 (by decide +kernel) rfl
theorem seX11_odds : Cond.selects RX11 yX11_odds yX11_odds ∈ gb_ws := gb_wi 1415 (by decide +kernel) rfl
abbrev mX11_areCounts : gb_M := (yX11_areCounts, cX11_areCounts, 5, (some .boolean))
theorem mtX11_areCounts : gb_mt mX11_areCounts 5 := ⟨gb_wi 1419 (by decide +kernel) rfl, gb_wi 118 (by decide +kernel) rfl, by decide +kernel, ⟨by decide +kernel, by decide +kernel⟩, by decide +kernel, by decide⟩
theorem stX11_areCounts : Cond.static yX11_areCounts ∈ gb_ws := gb_wi 1418 (by decide +kernel) rfl
abbrev mX11_laysBench : gb_M := (yX11_laysBench, cX11_laysBench, 3, (some .boolean))
theorem mtX11_laysBench : gb_mt mX11_laysBench 1 := ⟨gb_wi 1423 (by decide +kernel) rfl, gb_wi 118 (by decide +kernel) rfl, by decide +kernel, ⟨by decide +kernel, by decide +kernel⟩, by decide +kernel, by decide⟩
theorem inX11_laysBench : Cond.instanceMethod yX11_laysBench ∈ gb_ws := gb_wi 1422 (by decide +kernel) rfl
theorem seX11_laysBench : Cond.selects RX11 yX11_laysBench yX11_laysBench ∈ gb_ws := gb_wi 93 (by decide +kernel) rfl
abbrev mX11_lays : gb_M := (yX11_lays, cX11_lays, 11, none)
theorem mtX11_lays : gb_mt mX11_lays 4 := ⟨gb_wi 1427 (by decide +kernel) rfl, gb_wi 118 (by decide +kernel) rfl, by decide +kernel, ⟨by decide +kernel, by decide +kernel⟩, by decide +kernel, by decide⟩
theorem inX11_lays : Cond.instanceMethod yX11_lays ∈ gb_ws := gb_wi 1426 (by decide +kernel) rfl
theorem seX11_lays : Cond.selects RX11 yX11_lays yX11_lays ∈ gb_ws := gb_wi 94 (by decide +kernel) rfl
abbrev mX11_factorials : gb_M := (yX11_factorials, cX11_factorials, 7, (some .long))
theorem mtX11_factorials : gb_mt mX11_factorials 1 := ⟨gb_wi 1431 (by decide +kernel) rfl, gb_wi 118 (by decide +kernel) rfl, by decide +kernel, ⟨by decide +kernel, by decide +kernel⟩, by decide +kernel, by decide⟩
theorem inX11_factorials : Cond.instanceMethod yX11_factorials ∈ gb_ws := gb_wi 1430 (by decide +kernel) rfl
theorem seX11_factorials : Cond.selects RX11 yX11_factorials yX11_factorials ∈ gb_ws := gb_wi 95 (by decide +kernel) rfl
abbrev mX11_times : gb_M := (yX11_times, cX11_times, 1, (some .long))
theorem mtX11_times : gb_mt mX11_times 1 := ⟨gb_wi 1434 (by decide +kernel) rfl, gb_wi 118 (by decide +kernel) rfl, by decide +kernel, ⟨by decide +kernel, by decide +kernel⟩, by decide +kernel, by decide⟩
theorem stX11_times : Cond.static yX11_times ∈ gb_ws := gb_wi 1433 (by decide +kernel) rfl
abbrev mX11_isSorted : gb_M := (yX11_isSorted, cX11_isSorted, 3, (some .boolean))
theorem mtX11_isSorted : gb_mt mX11_isSorted 1 := ⟨gb_wi 1439 (by decide +kernel) rfl, gb_wi 118 (by decide +kernel) rfl, by decide +kernel, ⟨by decide +kernel, by decide +kernel⟩, by decide +kernel, by decide⟩
theorem inX11_isSorted : Cond.instanceMethod yX11_isSorted ∈ gb_ws := gb_wi 1438 (by decide +kernel) rfl
theorem seX11_isSorted : Cond.selects RX11 yX11_isSorted yX11_isSorted ∈ gb_ws := gb_wi 96 (by decide +kernel) rfl
abbrev mX11_gathers : gb_M := (yX11_gathers, cX11_gathers, 5, none)
theorem mtX11_gathers : gb_mt mX11_gathers 1 := ⟨gb_wi 1443 (by decide +kernel) rfl, gb_wi 118 (by decide +kernel) rfl, by decide +kernel, ⟨by decide +kernel, by decide +kernel⟩, by decide +kernel, by decide⟩
theorem inX11_gathers : Cond.instanceMethod yX11_gathers ∈ gb_ws := gb_wi 1442 (by decide +kernel) rfl
theorem seX11_gathers : Cond.selects RX11 yX11_gathers yX11_gathers ∈ gb_ws := gb_wi 97 (by decide +kernel) rfl
abbrev mX11_changed : gb_M := (yX11_changed, cX11_changed, 6, (some .int))
theorem mtX11_changed : gb_mt mX11_changed 3 := ⟨gb_wi 1447 (by decide +kernel) rfl, gb_wi 118 (by decide +kernel) rfl, by decide +kernel, ⟨by decide +kernel, by decide +kernel⟩, by decide +kernel, by decide⟩
theorem inX11_changed : Cond.instanceMethod yX11_changed ∈ gb_ws := gb_wi 1446 (by decide +kernel) rfl
theorem seX11_changed : Cond.selects RX11 yX11_changed yX11_changed ∈ gb_ws := gb_wi 98 (by decide +kernel) rfl
abbrev mX11_placeOf : gb_M := (yX11_placeOf, cX11_placeOf, 5, (some .int))
theorem mtX11_placeOf : gb_mt mX11_placeOf 5 := ⟨gb_wi 1450 (by decide +kernel) rfl, gb_wi 118 (by decide +kernel) rfl, by decide +kernel, ⟨by decide +kernel, by decide +kernel⟩, by decide +kernel, by decide⟩
theorem stX11_placeOf : Cond.static yX11_placeOf ∈ gb_ws := gb_wi 1449 (by decide +kernel) rfl
abbrev mX11_tells : gb_M := (yX11_tells, cX11_tells, 9, (some .long))
theorem mtX11_tells : gb_mt mX11_tells 4 := ⟨gb_wi 1453 (by decide +kernel) rfl, gb_wi 118 (by decide +kernel) rfl, by decide +kernel, ⟨by decide +kernel, by decide +kernel⟩, by decide +kernel, by decide⟩
theorem stX11_tells : Cond.static yX11_tells ∈ gb_ws := gb_wi 1452 (by decide +kernel) rfl
abbrev mX11_divisor : gb_M := (yX11_divisor, cX11_divisor, 10, (some .long))
theorem mtX11_divisor : gb_mt mX11_divisor 2 := ⟨gb_wi 1456 (by decide +kernel) rfl, gb_wi 118 (by decide +kernel) rfl, by decide +kernel, ⟨by decide +kernel, by decide +kernel⟩, by decide +kernel, by decide⟩
theorem stX11_divisor : Cond.static yX11_divisor ∈ gb_ws := gb_wi 1455 (by decide +kernel) rfl
abbrev mX11_dark : gb_M := (yX11_dark, cX11_dark, 4, (some .int))
theorem mtX11_dark : gb_mt mX11_dark 2 := ⟨gb_wi 1460 (by decide +kernel) rfl, gb_wi 118 (by decide +kernel) rfl, by decide +kernel, ⟨by decide +kernel, by decide +kernel⟩, by decide +kernel, by decide⟩
theorem inX11_dark : Cond.instanceMethod yX11_dark ∈ gb_ws := gb_wi 1458 (by decide +kernel) rfl
theorem seX11_dark : Cond.selects RX11 yX11_dark yX11_dark ∈ gb_ws := gb_wi 1459 (by decide +kernel) rfl
abbrev mX11_clicks : gb_M := (yX11_clicks, cX11_clicks, 4, (some .long))
theorem mtX11_clicks : gb_mt mX11_clicks 3 := ⟨gb_wi 1464 (by decide +kernel) rfl, gb_wi 118 (by decide +kernel) rfl, by decide +kernel, ⟨by decide +kernel, by decide +kernel⟩, by decide +kernel, by decide⟩
theorem inX11_clicks : Cond.instanceMethod yX11_clicks ∈ gb_ws := gb_wi 1462 (by decide +kernel) rfl
theorem seX11_clicks : Cond.selects RX11 yX11_clicks yX11_clicks ∈ gb_ws := gb_wi 1463 (by decide +kernel) rfl
abbrev mX11_clicksOf : gb_M := (yX11_clicksOf, cX11_clicksOf, 8, none)
theorem mtX11_clicksOf : gb_mt mX11_clicksOf 1 := ⟨gb_wi 1468 (by decide +kernel) rfl, gb_wi 118 (by decide +kernel) rfl, by decide +kernel, ⟨by decide +kernel, by decide +kernel⟩, by decide +kernel, by decide⟩
theorem inX11_clicksOf : Cond.instanceMethod yX11_clicksOf ∈ gb_ws := gb_wi 1467 (by decide +kernel) rfl
theorem seX11_clicksOf : Cond.selects RX11 yX11_clicksOf yX11_clicksOf ∈ gb_ws := gb_wi 99 (by decide +kernel) rfl
abbrev mX11_run : gb_M := (yX11_run, cX11_run, 4, (some .int))
theorem mtX11_run : gb_mt mX11_run 3 := ⟨gb_wi 1474 (by decide +kernel) rfl, gb_wi 118 (by decide +kernel) rfl, by decide +kernel, ⟨by decide +kernel, by decide +kernel⟩, by decide +kernel, by decide⟩
theorem inX11_run : Cond.instanceMethod yX11_run ∈ gb_ws := gb_wi 1472 (by decide +kernel) rfl
theorem seX11_run : Cond.selects RX11 yX11_run yX11_run ∈ gb_ws := gb_wi 1473 (by decide +kernel) rfl
abbrev mX11_counted : gb_M := (yX11_counted, cX11_counted, 4, (some .int))
theorem mtX11_counted : gb_mt mX11_counted 3 := ⟨gb_wi 1478 (by decide +kernel) rfl, gb_wi 118 (by decide +kernel) rfl, by decide +kernel, ⟨by decide +kernel, by decide +kernel⟩, by decide +kernel, by decide⟩
theorem inX11_counted : Cond.instanceMethod yX11_counted ∈ gb_ws := gb_wi 1476 (by decide +kernel) rfl
theorem seX11_counted : Cond.selects RX11 yX11_counted yX11_counted ∈ gb_ws := gb_wi 1477 (by decide +kernel) rfl
abbrev mX11_countedOf : gb_M := (yX11_countedOf, cX11_countedOf, 6, (some .int))
theorem mtX11_countedOf : gb_mt mX11_countedOf 3 := ⟨gb_wi 1482 (by decide +kernel) rfl, gb_wi 118 (by decide +kernel) rfl, by decide +kernel, ⟨by decide +kernel, by decide +kernel⟩, by decide +kernel, by decide⟩
theorem inX11_countedOf : Cond.instanceMethod yX11_countedOf ∈ gb_ws := gb_wi 1481 (by decide +kernel) rfl
theorem seX11_countedOf : Cond.selects RX11 yX11_countedOf yX11_countedOf ∈ gb_ws := gb_wi 100 (by decide +kernel) rfl
abbrev mX11_wrong : gb_M := (yX11_wrong, cX11_wrong, 5, (some .int))
theorem mtX11_wrong : gb_mt mX11_wrong 2 := ⟨gb_wi 1486 (by decide +kernel) rfl, gb_wi 118 (by decide +kernel) rfl, by decide +kernel, ⟨by decide +kernel, by decide +kernel⟩, by decide +kernel, by decide⟩
theorem inX11_wrong : Cond.instanceMethod yX11_wrong ∈ gb_ws := gb_wi 1484 (by decide +kernel) rfl
theorem seX11_wrong : Cond.selects RX11 yX11_wrong yX11_wrong ∈ gb_ws := gb_wi 1485 (by decide +kernel) rfl
abbrev mX11_misfit : gb_M := (yX11_misfit, cX11_misfit, 15, (some .int))
theorem mtX11_misfit : gb_mt mX11_misfit 2 := ⟨gb_wi 1490 (by decide +kernel) rfl, gb_wi 118 (by decide +kernel) rfl, by decide +kernel, ⟨by decide +kernel, by decide +kernel⟩, by decide +kernel, by decide⟩
theorem inX11_misfit : Cond.instanceMethod yX11_misfit ∈ gb_ws := gb_wi 1488 (by decide +kernel) rfl
theorem seX11_misfit : Cond.selects RX11 yX11_misfit yX11_misfit ∈ gb_ws := gb_wi 1489 (by decide +kernel) rfl
abbrev mX11_thousandths : gb_M := (yX11_thousandths, cX11_thousandths, 9, (some .int))
theorem mtX11_thousandths : gb_mt mX11_thousandths 2 := ⟨gb_wi 1495 (by decide +kernel) rfl, gb_wi 118 (by decide +kernel) rfl, by decide +kernel, ⟨by decide +kernel, by decide +kernel⟩, by decide +kernel, by decide⟩
theorem stX11_thousandths : Cond.static yX11_thousandths ∈ gb_ws := gb_wi 1494 (by decide +kernel) rfl
abbrev mX11_fits : gb_M := (yX11_fits, cX11_fits, 4, (some .int))
theorem mtX11_fits : gb_mt mX11_fits 1 := ⟨gb_wi 1499 (by decide +kernel) rfl, gb_wi 118 (by decide +kernel) rfl, by decide +kernel, ⟨by decide +kernel, by decide +kernel⟩, by decide +kernel, by decide⟩
theorem inX11_fits : Cond.instanceMethod yX11_fits ∈ gb_ws := gb_wi 1497 (by decide +kernel) rfl
theorem seX11_fits : Cond.selects RX11 yX11_fits yX11_fits ∈ gb_ws := gb_wi 1498 (by decide +kernel) rfl
abbrev mX11_pairs : gb_M := (yX11_pairs, cX11_pairs, 4, (some .int))
theorem mtX11_pairs : gb_mt mX11_pairs 3 := ⟨gb_wi 1504 (by decide +kernel) rfl, gb_wi 118 (by decide +kernel) rfl, by decide +kernel, ⟨by decide +kernel, by decide +kernel⟩, by decide +kernel, by decide⟩
theorem inX11_pairs : Cond.instanceMethod yX11_pairs ∈ gb_ws := gb_wi 1502 (by decide +kernel) rfl
theorem seX11_pairs : Cond.selects RX11 yX11_pairs yX11_pairs ∈ gb_ws := gb_wi 1503 (by decide +kernel) rfl
abbrev mX11_pairsOf : gb_M := (yX11_pairsOf, cX11_pairsOf, 6, (some .int))
theorem mtX11_pairsOf : gb_mt mX11_pairsOf 3 := ⟨gb_wi 1508 (by decide +kernel) rfl, gb_wi 118 (by decide +kernel) rfl, by decide +kernel, ⟨by decide +kernel, by decide +kernel⟩, by decide +kernel, by decide⟩
theorem inX11_pairsOf : Cond.instanceMethod yX11_pairsOf ∈ gb_ws := gb_wi 1507 (by decide +kernel) rfl
theorem seX11_pairsOf : Cond.selects RX11 yX11_pairsOf yX11_pairsOf ∈ gb_ws := gb_wi 101 (by decide +kernel) rfl
abbrev mX11_pair : gb_M := (yX11_pair, cX11_pair, 3, (some .int))
theorem mtX11_pair : gb_mt mX11_pair 1 := ⟨gb_wi 1511 (by decide +kernel) rfl, gb_wi 118 (by decide +kernel) rfl, by decide +kernel, ⟨by decide +kernel, by decide +kernel⟩, by decide +kernel, by decide⟩
theorem stX11_pair : Cond.static yX11_pair ∈ gb_ws := gb_wi 1510 (by decide +kernel) rfl
abbrev mX11_notes : gb_M := (yX11_notes, cX11_notes, 16, (some .long))
theorem mtX11_notes : gb_mt mX11_notes 2 := ⟨gb_wi 1515 (by decide +kernel) rfl, gb_wi 118 (by decide +kernel) rfl, by decide +kernel, ⟨by decide +kernel, by decide +kernel⟩, by decide +kernel, by decide⟩
theorem inX11_notes : Cond.instanceMethod yX11_notes ∈ gb_ws := gb_wi 1513 (by decide +kernel) rfl
theorem seX11_notes : Cond.selects RX11 yX11_notes yX11_notes ∈ gb_ws := gb_wi 1514 (by decide +kernel) rfl
abbrev mX11_plan : gb_M := (yX11_plan, cX11_plan, 9, (some .int))
theorem mtX11_plan : gb_mt mX11_plan 6 := ⟨gb_wi 1520 (by decide +kernel) rfl, gb_wi 118 (by decide +kernel) rfl, by decide +kernel, ⟨by decide +kernel, by decide +kernel⟩, by decide +kernel, by decide⟩
theorem inX11_plan : Cond.instanceMethod yX11_plan ∈ gb_ws := gb_wi 1518 (by decide +kernel) rfl
theorem seX11_plan : Cond.selects RX11 yX11_plan yX11_plan ∈ gb_ws := gb_wi 1519 (by decide +kernel) rfl
abbrev mX11_tries : gb_M := (yX11_tries, cX11_tries, 6, none)
theorem mtX11_tries : gb_mt mX11_tries 3 := ⟨gb_wi 1527 (by decide +kernel) rfl, gb_wi 118 (by decide +kernel) rfl, by decide +kernel, ⟨by decide +kernel, by decide +kernel⟩, by decide +kernel, by decide⟩
theorem inX11_tries : Cond.instanceMethod yX11_tries ∈ gb_ws := gb_wi 1526 (by decide +kernel) rfl
theorem seX11_tries : Cond.selects RX11 yX11_tries yX11_tries ∈ gb_ws := gb_wi 102 (by decide +kernel) rfl
abbrev mX11_looks : gb_M := (yX11_looks, cX11_looks, 11, none)
theorem mtX11_looks : gb_mt mX11_looks 2 := ⟨gb_wi 1531 (by decide +kernel) rfl, gb_wi 118 (by decide +kernel) rfl, by decide +kernel, ⟨by decide +kernel, by decide +kernel⟩, by decide +kernel, by decide⟩
theorem inX11_looks : Cond.instanceMethod yX11_looks ∈ gb_ws := gb_wi 1530 (by decide +kernel) rfl
theorem seX11_looks : Cond.selects RX11 yX11_looks yX11_looks ∈ gb_ws := gb_wi 103 (by decide +kernel) rfl
abbrev mX11_isAbove : gb_M := (yX11_isAbove, cX11_isAbove, 14, (some .boolean))
theorem mtX11_isAbove : gb_mt mX11_isAbove 2 := ⟨gb_wi 1535 (by decide +kernel) rfl, gb_wi 118 (by decide +kernel) rfl, by decide +kernel, ⟨by decide +kernel, by decide +kernel⟩, by decide +kernel, by decide⟩
theorem inX11_isAbove : Cond.instanceMethod yX11_isAbove ∈ gb_ws := gb_wi 1534 (by decide +kernel) rfl
theorem seX11_isAbove : Cond.selects RX11 yX11_isAbove yX11_isAbove ∈ gb_ws := gb_wi 104 (by decide +kernel) rfl
abbrev mX11_squares : gb_M := (yX11_squares, cX11_squares, 9, none)
theorem mtX11_squares : gb_mt mX11_squares 1 := ⟨gb_wi 1539 (by decide +kernel) rfl, gb_wi 118 (by decide +kernel) rfl, by decide +kernel, ⟨by decide +kernel, by decide +kernel⟩, by decide +kernel, by decide⟩
theorem inX11_squares : Cond.instanceMethod yX11_squares ∈ gb_ws := gb_wi 1538 (by decide +kernel) rfl
theorem seX11_squares : Cond.selects RX11 yX11_squares yX11_squares ∈ gb_ws := gb_wi 105 (by decide +kernel) rfl
abbrev mX11_planned : gb_M := (yX11_planned, cX11_planned, 2, (some .long))
theorem mtX11_planned : gb_mt mX11_planned 1 := ⟨gb_wi 1545 (by decide +kernel) rfl, gb_wi 118 (by decide +kernel) rfl, by decide +kernel, ⟨by decide +kernel, by decide +kernel⟩, by decide +kernel, by decide⟩
theorem inX11_planned : Cond.instanceMethod yX11_planned ∈ gb_ws := gb_wi 1543 (by decide +kernel) rfl
theorem seX11_planned : Cond.selects RX11 yX11_planned yX11_planned ∈ gb_ws := gb_wi 1544 (by decide +kernel) rfl
abbrev mX11_build : gb_M := (yX11_build, cX11_build, 3, (some .int))
theorem mtX11_build : gb_mt mX11_build 1 := ⟨gb_wi 1549 (by decide +kernel) rfl, gb_wi 118 (by decide +kernel) rfl, by decide +kernel, ⟨by decide +kernel, by decide +kernel⟩, by decide +kernel, by decide⟩
theorem inX11_build : Cond.instanceMethod yX11_build ∈ gb_ws := gb_wi 1547 (by decide +kernel) rfl
theorem seX11_build : Cond.selects RX11 yX11_build yX11_build ∈ gb_ws := gb_wi 1548 (by decide +kernel) rfl
abbrev mX11_count : gb_M := (yX11_count, cX11_count, 2, (some .int))
theorem mtX11_count : gb_mt mX11_count 1 := ⟨gb_wi 1553 (by decide +kernel) rfl, gb_wi 118 (by decide +kernel) rfl, by decide +kernel, ⟨by decide +kernel, by decide +kernel⟩, by decide +kernel, by decide⟩
theorem inX11_count : Cond.instanceMethod yX11_count ∈ gb_ws := gb_wi 1551 (by decide +kernel) rfl
theorem seX11_count : Cond.selects RX11 yX11_count yX11_count ∈ gb_ws := gb_wi 1552 (by decide +kernel) rfl
abbrev mX11_status : gb_M := (yX11_status, cX11_status, 1, (some .int))
theorem mtX11_status : gb_mt mX11_status 0 := ⟨gb_wi 1557 (by decide +kernel) rfl, gb_wi 118 (by decide +kernel) rfl, by decide +kernel, ⟨by decide +kernel, by decide +kernel⟩, by decide +kernel, by decide⟩
theorem inX11_status : Cond.instanceMethod yX11_status ∈ gb_ws := gb_wi 1555 (by decide +kernel) rfl
theorem seX11_status : Cond.selects RX11 yX11_status yX11_status ∈ gb_ws := gb_wi 1556 (by decide +kernel) rfl
theorem gb_oin : Cond.instanceMethod objectInit ∈ gb_ws := gb_wi 131 (by decide +kernel) rfl
theorem gb_ocd : Cond.code objectInit ⟨#[0xb1]⟩ 1 none ∈ gb_ws := gb_wi 132 (by decide +kernel) rfl
theorem lX10_3 : Cond.methodLink RX10 3 objectInit ∈ gb_ws := gb_wi 130 (by decide +kernel) rfl
theorem lX10_11 : Cond.methodLink RX10 11 yX9_init ∈ gb_ws ∨ ∃ host, Cond.methodLinkNest RX10 11 yX9_init host ∈ gb_nest := Or.inr ⟨"GrainBench", gb_ni 135 (by decide +kernel) rfl⟩
theorem lX10_18 : Cond.methodLink RX10 18 yX7_init ∈ gb_ws ∨ ∃ host, Cond.methodLinkNest RX10 18 yX7_init host ∈ gb_nest := Or.inr ⟨"GrainBench", gb_ni 152 (by decide +kernel) rfl⟩
theorem lX10_37 : Cond.methodLink RX10 37 yX2_init ∈ gb_ws ∨ ∃ host, Cond.methodLinkNest RX10 37 yX2_init host ∈ gb_nest := Or.inr ⟨"GrainBench", gb_ni 255 (by decide +kernel) rfl⟩
theorem lX10_40 : Cond.methodLink RX10 40 yX1_init ∈ gb_ws ∨ ∃ host, Cond.methodLinkNest RX10 40 yX1_init host ∈ gb_nest := Or.inr ⟨"GrainBench", gb_ni 257 (by decide +kernel) rfl⟩
theorem lX10_47 : Cond.methodLink RX10 47 yX3_init ∈ gb_ws ∨ ∃ host, Cond.methodLinkNest RX10 47 yX3_init host ∈ gb_nest := Or.inr ⟨"GrainBench", gb_ni 286 (by decide +kernel) rfl⟩
theorem lX10_54 : Cond.methodLink RX10 54 yX4_init ∈ gb_ws ∨ ∃ host, Cond.methodLinkNest RX10 54 yX4_init host ∈ gb_nest := Or.inr ⟨"GrainBench", gb_ni 320 (by decide +kernel) rfl⟩
theorem lX10_61 : Cond.methodLink RX10 61 yX6_init ∈ gb_ws ∨ ∃ host, Cond.methodLinkNest RX10 61 yX6_init host ∈ gb_nest := Or.inr ⟨"GrainBench", gb_ni 347 (by decide +kernel) rfl⟩
theorem lX10_70 : Cond.methodLink RX10 70 yX0_init ∈ gb_ws ∨ ∃ host, Cond.methodLinkNest RX10 70 yX0_init host ∈ gb_nest := Or.inr ⟨"GrainBench", gb_ni 439 (by decide +kernel) rfl⟩
theorem lX10_80 : Cond.methodLink RX10 80 yX8_init ∈ gb_ws ∨ ∃ host, Cond.methodLinkNest RX10 80 yX8_init host ∈ gb_nest := Or.inr ⟨"GrainBench", gb_ni 441 (by decide +kernel) rfl⟩
theorem lX10_96 : Cond.methodLink RX10 96 yX10_refuse ∈ gb_ws ∨ ∃ host, Cond.methodLinkNest RX10 96 yX10_refuse host ∈ gb_nest := Or.inl (gb_wi 495 (by decide +kernel) rfl)
theorem lX10_103 : Cond.methodLink RX10 103 yX10_forgetChances ∈ gb_ws ∨ ∃ host, Cond.methodLinkNest RX10 103 yX10_forgetChances host ∈ gb_nest := Or.inl (gb_wi 499 (by decide +kernel) rfl)
theorem lX10_106 : Cond.methodLink RX10 106 yX10_allow ∈ gb_ws ∨ ∃ host, Cond.methodLinkNest RX10 106 yX10_allow host ∈ gb_nest := Or.inl (gb_wi 503 (by decide +kernel) rfl)
theorem lX10_109 : Cond.methodLink RX10 109 yX9_hasRoom ∈ gb_ws ∨ ∃ host, Cond.methodLinkNest RX10 109 yX9_hasRoom host ∈ gb_nest := Or.inr ⟨"GrainBench", gb_ni 515 (by decide +kernel) rfl⟩
theorem lX10_113 : Cond.methodLink RX10 113 yX9_write ∈ gb_ws ∨ ∃ host, Cond.methodLinkNest RX10 113 yX9_write host ∈ gb_nest := Or.inr ⟨"GrainBench", gb_ni 519 (by decide +kernel) rfl⟩
theorem lX10_119 : Cond.methodLink RX10 119 yX10_isBench ∈ gb_ws ∨ ∃ host, Cond.methodLinkNest RX10 119 yX10_isBench host ∈ gb_nest := Or.inl (gb_wi 531 (by decide +kernel) rfl)
theorem lX10_122 : Cond.methodLink RX10 122 yX7_readParts ∈ gb_ws ∨ ∃ host, Cond.methodLinkNest RX10 122 yX7_readParts host ∈ gb_nest := Or.inr ⟨"GrainBench", gb_ni 534 (by decide +kernel) rfl⟩
theorem lX10_129 : Cond.methodLink RX10 129 yX2_copyAll ∈ gb_ws ∨ ∃ host, Cond.methodLinkNest RX10 129 yX2_copyAll host ∈ gb_nest := Or.inr ⟨"GrainBench", gb_ni 677 (by decide +kernel) rfl⟩
theorem lX10_139 : Cond.methodLink RX10 139 yX7_readDeedAlone ∈ gb_ws ∨ ∃ host, Cond.methodLinkNest RX10 139 yX7_readDeedAlone host ∈ gb_nest := Or.inr ⟨"GrainBench", gb_ni 694 (by decide +kernel) rfl⟩
theorem lX10_146 : Cond.methodLink RX10 146 yX2_append ∈ gb_ws ∨ ∃ host, Cond.methodLinkNest RX10 146 yX2_append host ∈ gb_nest := Or.inr ⟨"GrainBench", gb_ni 698 (by decide +kernel) rfl⟩
theorem lX10_150 : Cond.methodLink RX10 150 yX2_depthFor ∈ gb_ws ∨ ∃ host, Cond.methodLinkNest RX10 150 yX2_depthFor host ∈ gb_nest := Or.inr ⟨"GrainBench", gb_ni 707 (by decide +kernel) rfl⟩
theorem lX10_155 : Cond.methodLink RX10 155 yX0_keyOf ∈ gb_ws ∨ ∃ host, Cond.methodLinkNest RX10 155 yX0_keyOf host ∈ gb_nest := Or.inr ⟨"GrainBench", gb_ni 727 (by decide +kernel) rfl⟩
theorem lX10_159 : Cond.methodLink RX10 159 yX10_lightThrough ∈ gb_ws ∨ ∃ host, Cond.methodLinkNest RX10 159 yX10_lightThrough host ∈ gb_nest := Or.inl (gb_wi 734 (by decide +kernel) rfl)
theorem lX10_163 : Cond.methodLink RX10 163 yX0_numberPart ∈ gb_ws ∨ ∃ host, Cond.methodLinkNest RX10 163 yX0_numberPart host ∈ gb_nest := Or.inr ⟨"GrainBench", gb_ni 826 (by decide +kernel) rfl⟩
theorem lX10_169 : Cond.methodLink RX10 169 yX10_packCounts ∈ gb_ws ∨ ∃ host, Cond.methodLinkNest RX10 169 yX10_packCounts host ∈ gb_nest := Or.inl (gb_wi 835 (by decide +kernel) rfl)
theorem lX10_173 : Cond.methodLink RX10 173 yX10_isTold ∈ gb_ws ∨ ∃ host, Cond.methodLinkNest RX10 173 yX10_isTold host ∈ gb_nest := Or.inl (gb_wi 840 (by decide +kernel) rfl)
theorem lX10_176 : Cond.methodLink RX10 176 yX10_rowOfCounts ∈ gb_ws ∨ ∃ host, Cond.methodLinkNest RX10 176 yX10_rowOfCounts host ∈ gb_nest := Or.inl (gb_wi 870 (by decide +kernel) rfl)
theorem lX10_179 : Cond.methodLink RX10 179 yX1_shareOfRow ∈ gb_ws ∨ ∃ host, Cond.methodLinkNest RX10 179 yX1_shareOfRow host ∈ gb_nest := Or.inr ⟨"GrainBench", gb_ni 874 (by decide +kernel) rfl⟩
theorem lX10_183 : Cond.methodLink RX10 183 yX8_part ∈ gb_ws ∨ ∃ host, Cond.methodLinkNest RX10 183 yX8_part host ∈ gb_nest := Or.inr ⟨"GrainBench", gb_ni 888 (by decide +kernel) rfl⟩
theorem lX10_187 : Cond.methodLink RX10 187 yX10_areBits ∈ gb_ws ∨ ∃ host, Cond.methodLinkNest RX10 187 yX10_areBits host ∈ gb_nest := Or.inl (gb_wi 900 (by decide +kernel) rfl)
theorem lX10_190 : Cond.methodLink RX10 190 yX1_shareOfClicks ∈ gb_ws ∨ ∃ host, Cond.methodLinkNest RX10 190 yX1_shareOfClicks host ∈ gb_nest := Or.inr ⟨"GrainBench", gb_ni 903 (by decide +kernel) rfl⟩
theorem lX10_194 : Cond.methodLink RX10 194 yX10_isDay ∈ gb_ws ∨ ∃ host, Cond.methodLinkNest RX10 194 yX10_isDay host ∈ gb_nest := Or.inl (gb_wi 915 (by decide +kernel) rfl)
theorem lX10_198 : Cond.methodLink RX10 198 yX3_append ∈ gb_ws ∨ ∃ host, Cond.methodLinkNest RX10 198 yX3_append host ∈ gb_nest := Or.inr ⟨"GrainBench", gb_ni 918 (by decide +kernel) rfl⟩
theorem lX10_201 : Cond.methodLink RX10 201 yX3_tally ∈ gb_ws ∨ ∃ host, Cond.methodLinkNest RX10 201 yX3_tally host ∈ gb_nest := Or.inr ⟨"GrainBench", gb_ni 926 (by decide +kernel) rfl⟩
theorem lX10_211 : Cond.methodLink RX10 211 yX8_isZero ∈ gb_ws ∨ ∃ host, Cond.methodLinkNest RX10 211 yX8_isZero host ∈ gb_nest := Or.inr ⟨"GrainBench", gb_ni 934 (by decide +kernel) rfl⟩
theorem lX10_215 : Cond.methodLink RX10 215 yX10_sumApart ∈ gb_ws ∨ ∃ host, Cond.methodLinkNest RX10 215 yX10_sumApart host ∈ gb_nest := Or.inl (gb_wi 942 (by decide +kernel) rfl)
theorem lX10_219 : Cond.methodLink RX10 219 yX3_like ∈ gb_ws ∨ ∃ host, Cond.methodLinkNest RX10 219 yX3_like host ∈ gb_nest := Or.inr ⟨"GrainBench", gb_ni 963 (by decide +kernel) rfl⟩
theorem lX10_222 : Cond.methodLink RX10 222 yX3_unlike ∈ gb_ws ∨ ∃ host, Cond.methodLinkNest RX10 222 yX3_unlike host ∈ gb_nest := Or.inr ⟨"GrainBench", gb_ni 967 (by decide +kernel) rfl⟩
theorem lX10_225 : Cond.methodLink RX10 225 yX3_sumSides ∈ gb_ws ∨ ∃ host, Cond.methodLinkNest RX10 225 yX3_sumSides host ∈ gb_nest := Or.inr ⟨"GrainBench", gb_ni 975 (by decide +kernel) rfl⟩
theorem lX10_240 : Cond.methodLink RX10 240 yX10_startKey ∈ gb_ws ∨ ∃ host, Cond.methodLinkNest RX10 240 yX10_startKey host ∈ gb_nest := Or.inl (gb_wi 844 (by decide +kernel) rfl)
theorem lX10_243 : Cond.methodLink RX10 243 yX6_search ∈ gb_ws ∨ ∃ host, Cond.methodLinkNest RX10 243 yX6_search host ∈ gb_nest := Or.inr ⟨"GrainBench", gb_ni 1003 (by decide +kernel) rfl⟩
theorem lX10_259 : Cond.methodLink RX10 259 yJ9_max_7cf53 ∈ gb_ws ∨ ∃ host, Cond.methodLinkNest RX10 259 yJ9_max_7cf53 host ∈ gb_nest := Or.inl (gb_wi 838 (by decide +kernel) rfl)
theorem lX10_264 : Cond.methodLink RX10 264 yJ9_min_7cf53 ∈ gb_ws ∨ ∃ host, Cond.methodLinkNest RX10 264 yJ9_min_7cf53 host ∈ gb_nest := Or.inl (gb_wi 839 (by decide +kernel) rfl)
theorem lX10_267 : Cond.methodLink RX10 267 yX0_placeOfKey ∈ gb_ws ∨ ∃ host, Cond.methodLinkNest RX10 267 yX0_placeOfKey host ∈ gb_nest := Or.inr ⟨"GrainBench", gb_ni 873 (by decide +kernel) rfl⟩
theorem lX10_273 : Cond.methodLink RX10 273 yX0_orders ∈ gb_ws ∨ ∃ host, Cond.methodLinkNest RX10 273 yX0_orders host ∈ gb_nest := Or.inr ⟨"GrainBench", gb_ni 848 (by decide +kernel) rfl⟩
theorem lX10_276 : Cond.methodLink RX10 276 yX1_gather ∈ gb_ws ∨ ∃ host, Cond.methodLinkNest RX10 276 yX1_gather host ∈ gb_nest := Or.inr ⟨"GrainBench", gb_ni 851 (by decide +kernel) rfl⟩
theorem lX10_280 : Cond.methodLink RX10 280 yX8_thousandths ∈ gb_ws ∨ ∃ host, Cond.methodLinkNest RX10 280 yX8_thousandths host ∈ gb_nest := Or.inr ⟨"GrainBench", gb_ni 946 (by decide +kernel) rfl⟩
theorem lX10_283 : Cond.methodLink RX10 283 yJ9_abs_0f7a4 ∈ gb_ws ∨ ∃ host, Cond.methodLinkNest RX10 283 yJ9_abs_0f7a4 host ∈ gb_nest := Or.inl (gb_wi 952 (by decide +kernel) rfl)
theorem lX10_286 : Cond.methodLink RX10 286 yX0_begin ∈ gb_ws ∨ ∃ host, Cond.methodLinkNest RX10 286 yX0_begin host ∈ gb_nest := Or.inr ⟨"GrainBench", gb_ni 738 (by decide +kernel) rfl⟩
theorem lX10_294 : Cond.methodLink RX10 294 yX4_aim ∈ gb_ws ∨ ∃ host, Cond.methodLinkNest RX10 294 yX4_aim host ∈ gb_nest := Or.inr ⟨"GrainBench", gb_ni 753 (by decide +kernel) rfl⟩
theorem lX10_297 : Cond.methodLink RX10 297 yX0_send ∈ gb_ws ∨ ∃ host, Cond.methodLinkNest RX10 297 yX0_send host ∈ gb_nest := Or.inr ⟨"GrainBench", gb_ni 785 (by decide +kernel) rfl⟩
theorem lX0_3 : Cond.methodLink RX0 3 objectInit ∈ gb_ws := gb_wi 378 (by decide +kernel) rfl
theorem lX0_32 : Cond.methodLink RX0 32 yJ9_min_7cf53 ∈ gb_ws ∨ ∃ host, Cond.methodLinkNest RX0 32 yJ9_min_7cf53 host ∈ gb_nest := Or.inl (gb_wi 730 (by decide +kernel) rfl)
theorem lX0_38 : Cond.methodLink RX0 38 yJ9_max_7cf53 ∈ gb_ws ∨ ∃ host, Cond.methodLinkNest RX0 38 yJ9_max_7cf53 host ∈ gb_nest := Or.inl (gb_wi 731 (by decide +kernel) rfl)
theorem lX0_41 : Cond.methodLink RX0 41 yX0_low ∈ gb_ws ∨ ∃ host, Cond.methodLinkNest RX0 41 yX0_low host ∈ gb_nest := Or.inl (gb_wi 800 (by decide +kernel) rfl)
theorem lX0_45 : Cond.methodLink RX0 45 yX0_mid ∈ gb_ws ∨ ∃ host, Cond.methodLinkNest RX0 45 yX0_mid host ∈ gb_nest := Or.inl (gb_wi 806 (by decide +kernel) rfl)
theorem lX0_48 : Cond.methodLink RX0 48 yX0_high ∈ gb_ws ∨ ∃ host, Cond.methodLinkNest RX0 48 yX0_high host ∈ gb_nest := Or.inl (gb_wi 809 (by decide +kernel) rfl)
theorem lX0_51 : Cond.methodLink RX0 51 yX0_pathOf ∈ gb_ws ∨ ∃ host, Cond.methodLinkNest RX0 51 yX0_pathOf host ∈ gb_nest := Or.inl (gb_wi 803 (by decide +kernel) rfl)
theorem lX0_54 : Cond.methodLink RX0 54 yX0_keyOf ∈ gb_ws ∨ ∃ host, Cond.methodLinkNest RX0 54 yX0_keyOf host ∈ gb_nest := Or.inl (gb_wi 816 (by decide +kernel) rfl)
theorem lX0_58 : Cond.methodLink RX0 58 yX0_placeOfKey ∈ gb_ws ∨ ∃ host, Cond.methodLinkNest RX0 58 yX0_placeOfKey host ∈ gb_nest := Or.inl (gb_wi 746 (by decide +kernel) rfl)
theorem lX0_61 : Cond.methodLink RX0 61 yX0_wipe ∈ gb_ws ∨ ∃ host, Cond.methodLinkNest RX0 61 yX0_wipe host ∈ gb_nest := Or.inl (gb_wi 742 (by decide +kernel) rfl)
theorem lX0_64 : Cond.methodLink RX0 64 yX0_add ∈ gb_ws ∨ ∃ host, Cond.methodLinkNest RX0 64 yX0_add host ∈ gb_nest := Or.inl (gb_wi 749 (by decide +kernel) rfl)
theorem lX0_72 : Cond.methodLink RX0 72 yX0_isZero ∈ gb_ws ∨ ∃ host, Cond.methodLinkNest RX0 72 yX0_isZero host ∈ gb_nest := Or.inl (gb_wi 789 (by decide +kernel) rfl)
theorem lX0_76 : Cond.methodLink RX0 76 yX5_actsOn ∈ gb_ws ∨ ∃ host, Cond.methodLinkNest RX0 76 yX5_actsOn host ∈ gb_nest := Or.inr ⟨"GrainBench", gb_ni 793 (by decide +kernel) rfl⟩
theorem lX0_81 : Cond.methodLink RX0 81 yX0_spread ∈ gb_ws ∨ ∃ host, Cond.methodLinkNest RX0 81 yX0_spread host ∈ gb_nest := Or.inl (gb_wi 812 (by decide +kernel) rfl)
theorem lX0_85 : Cond.methodLink RX0 85 yX5_base ∈ gb_ws ∨ ∃ host, Cond.methodLinkNest RX0 85 yX5_base host ∈ gb_nest := Or.inr ⟨"GrainBench", gb_ni 822 (by decide +kernel) rfl⟩
theorem lX0_89 : Cond.methodLink RX0 89 yX0_idleFactor ∈ gb_ws ∨ ∃ host, Cond.methodLinkNest RX0 89 yX0_idleFactor host ∈ gb_nest := Or.inl (gb_wi 823 (by decide +kernel) rfl)
theorem lX0_93 : Cond.methodLink RX0 93 yX0_addScaled ∈ gb_ws ∨ ∃ host, Cond.methodLinkNest RX0 93 yX0_addScaled host ∈ gb_nest := Or.inl (gb_wi 817 (by decide +kernel) rfl)
theorem lX0_100 : Cond.methodLink RX0 100 yX0_grainsIn ∈ gb_ws ∨ ∃ host, Cond.methodLinkNest RX0 100 yX0_grainsIn host ∈ gb_nest := Or.inl (gb_wi 1052 (by decide +kernel) rfl)
theorem lX0_103 : Cond.methodLink RX0 103 yX5_joinsPaths ∈ gb_ws ∨ ∃ host, Cond.methodLinkNest RX0 103 yX5_joinsPaths host ∈ gb_nest := Or.inr ⟨"GrainBench", gb_ni 1053 (by decide +kernel) rfl⟩
theorem lX0_129 : Cond.methodLink RX0 129 yX0_orders ∈ gb_ws ∨ ∃ host, Cond.methodLinkNest RX0 129 yX0_orders host ∈ gb_nest := Or.inl (gb_wi 859 (by decide +kernel) rfl)
theorem lX0_132 : Cond.methodLink RX0 132 yX0_rowOfKey ∈ gb_ws ∨ ∃ host, Cond.methodLinkNest RX0 132 yX0_rowOfKey host ∈ gb_nest := Or.inl (gb_wi 1018 (by decide +kernel) rfl)
theorem lX0_135 : Cond.methodLink RX0 135 yX0_weightWhole ∈ gb_ws ∨ ∃ host, Cond.methodLinkNest RX0 135 yX0_weightWhole host ∈ gb_nest := Or.inl (gb_wi 1019 (by decide +kernel) rfl)
theorem lX0_139 : Cond.methodLink RX0 139 yX0_weightRoot ∈ gb_ws ∨ ∃ host, Cond.methodLinkNest RX0 139 yX0_weightRoot host ∈ gb_nest := Or.inl (gb_wi 1020 (by decide +kernel) rfl)
theorem lX0_142 : Cond.methodLink RX0 142 yX8_put ∈ gb_ws ∨ ∃ host, Cond.methodLinkNest RX0 142 yX8_put host ∈ gb_nest := Or.inr ⟨"GrainBench", gb_ni 1021 (by decide +kernel) rfl⟩
theorem lX1_3 : Cond.methodLink RX1 3 objectInit ∈ gb_ws := gb_wi 260 (by decide +kernel) rfl
theorem lX1_38 : Cond.methodLink RX1 38 yX0_weightWhole ∈ gb_ws ∨ ∃ host, Cond.methodLinkNest RX1 38 yX0_weightWhole host ∈ gb_nest := Or.inr ⟨"GrainBench", gb_ni 855 (by decide +kernel) rfl⟩
theorem lX1_42 : Cond.methodLink RX1 42 yX0_weightRoot ∈ gb_ws ∨ ∃ host, Cond.methodLinkNest RX1 42 yX0_weightRoot host ∈ gb_nest := Or.inr ⟨"GrainBench", gb_ni 860 (by decide +kernel) rfl⟩
theorem lX1_45 : Cond.methodLink RX1 45 yX0_rowOfKey ∈ gb_ws ∨ ∃ host, Cond.methodLinkNest RX1 45 yX0_rowOfKey host ∈ gb_nest := Or.inr ⟨"GrainBench", gb_ni 864 (by decide +kernel) rfl⟩
theorem lX1_49 : Cond.methodLink RX1 49 yX0_pathsOf ∈ gb_ws ∨ ∃ host, Cond.methodLinkNest RX1 49 yX0_pathsOf host ∈ gb_nest := Or.inr ⟨"GrainBench", gb_ni 867 (by decide +kernel) rfl⟩
theorem lX1_52 : Cond.methodLink RX1 52 yX8_put ∈ gb_ws ∨ ∃ host, Cond.methodLinkNest RX1 52 yX8_put host ∈ gb_nest := Or.inr ⟨"GrainBench", gb_ni 878 (by decide +kernel) rfl⟩
theorem lX1_58 : Cond.methodLink RX1 58 yX1_darkWeight ∈ gb_ws ∨ ∃ host, Cond.methodLinkNest RX1 58 yX1_darkWeight host ∈ gb_nest := Or.inl (gb_wi 907 (by decide +kernel) rfl)
theorem lX2_3 : Cond.methodLink RX2 3 objectInit ∈ gb_ws := gb_wi 161 (by decide +kernel) rfl
theorem lX2_17 : Cond.methodLink RX2 17 yX5_init ∈ gb_ws ∨ ∃ host, Cond.methodLinkNest RX2 17 yX5_init host ∈ gb_nest := Or.inr ⟨"GrainBench", gb_ni 165 (by decide +kernel) rfl⟩
theorem lX2_22 : Cond.methodLink RX2 22 yX5_copyPart ∈ gb_ws ∨ ∃ host, Cond.methodLinkNest RX2 22 yX5_copyPart host ∈ gb_nest := Or.inr ⟨"GrainBench", gb_ni 685 (by decide +kernel) rfl⟩
theorem lX2_26 : Cond.methodLink RX2 26 yX2_append ∈ gb_ws ∨ ∃ host, Cond.methodLinkNest RX2 26 yX2_append host ∈ gb_nest := Or.inl (gb_wi 681 (by decide +kernel) rfl)
theorem lX2_29 : Cond.methodLink RX2 29 yX5_base ∈ gb_ws ∨ ∃ host, Cond.methodLinkNest RX2 29 yX5_base host ∈ gb_nest := Or.inr ⟨"GrainBench", gb_ni 711 (by decide +kernel) rfl⟩
theorem lX2_33 : Cond.methodLink RX2 33 yX2_deepen ∈ gb_ws ∨ ∃ host, Cond.methodLinkNest RX2 33 yX2_deepen host ∈ gb_nest := Or.inl (gb_wi 715 (by decide +kernel) rfl)
theorem lX2_39 : Cond.methodLink RX2 39 yJ9_min_7cf53 ∈ gb_ws ∨ ∃ host, Cond.methodLinkNest RX2 39 yJ9_min_7cf53 host ∈ gb_nest := Or.inl (gb_wi 720 (by decide +kernel) rfl)
theorem lX3_3 : Cond.methodLink RX3 3 objectInit ∈ gb_ws := gb_wi 289 (by decide +kernel) rfl
theorem lX3_37 : Cond.methodLink RX3 37 yX3_tally ∈ gb_ws ∨ ∃ host, Cond.methodLinkNest RX3 37 yX3_tally host ∈ gb_nest := Or.inl (gb_wi 979 (by decide +kernel) rfl)
theorem lX3_41 : Cond.methodLink RX3 41 yX3_like ∈ gb_ws ∨ ∃ host, Cond.methodLinkNest RX3 41 yX3_like host ∈ gb_nest := Or.inl (gb_wi 980 (by decide +kernel) rfl)
theorem lX3_45 : Cond.methodLink RX3 45 yX3_unlike ∈ gb_ws ∨ ∃ host, Cond.methodLinkNest RX3 45 yX3_unlike host ∈ gb_nest := Or.inl (gb_wi 981 (by decide +kernel) rfl)
theorem lX3_50 : Cond.methodLink RX3 50 yJ6_bitCount_0f7a4 ∈ gb_ws ∨ ∃ host, Cond.methodLinkNest RX3 50 yJ6_bitCount_0f7a4 host ∈ gb_nest := Or.inl (gb_wi 983 (by decide +kernel) rfl)
theorem lX3_56 : Cond.methodLink RX3 56 yX3_signedSum ∈ gb_ws ∨ ∃ host, Cond.methodLinkNest RX3 56 yX3_signedSum host ∈ gb_nest := Or.inl (gb_wi 989 (by decide +kernel) rfl)
theorem lX3_60 : Cond.methodLink RX3 60 yJ9_max_f86c9 ∈ gb_ws ∨ ∃ host, Cond.methodLinkNest RX3 60 yJ9_max_f86c9 host ∈ gb_nest := Or.inl (gb_wi 993 (by decide +kernel) rfl)
theorem lX3_66 : Cond.methodLink RX3 66 yX8_put ∈ gb_ws ∨ ∃ host, Cond.methodLinkNest RX3 66 yX8_put host ∈ gb_nest := Or.inr ⟨"GrainBench", gb_ni 996 (by decide +kernel) rfl⟩
theorem lX4_3 : Cond.methodLink RX4 3 objectInit ∈ gb_ws := gb_wi 323 (by decide +kernel) rfl
theorem lX4_27 : Cond.methodLink RX4 27 yX5_base ∈ gb_ws ∨ ∃ host, Cond.methodLinkNest RX4 27 yX5_base host ∈ gb_nest := Or.inr ⟨"GrainBench", gb_ni 757 (by decide +kernel) rfl⟩
theorem lX4_33 : Cond.methodLink RX4 33 yX4_lead ∈ gb_ws ∨ ∃ host, Cond.methodLinkNest RX4 33 yX4_lead host ∈ gb_nest := Or.inl (gb_wi 758 (by decide +kernel) rfl)
theorem lX4_41 : Cond.methodLink RX4 41 yX4_seatOf ∈ gb_ws ∨ ∃ host, Cond.methodLinkNest RX4 41 yX4_seatOf host ∈ gb_nest := Or.inl (gb_wi 762 (by decide +kernel) rfl)
theorem lX4_51 : Cond.methodLink RX4 51 yX4_fork ∈ gb_ws ∨ ∃ host, Cond.methodLinkNest RX4 51 yX4_fork host ∈ gb_nest := Or.inl (gb_wi 765 (by decide +kernel) rfl)
theorem lX4_61 : Cond.methodLink RX4 61 yX4_bend ∈ gb_ws ∨ ∃ host, Cond.methodLinkNest RX4 61 yX4_bend host ∈ gb_nest := Or.inl (gb_wi 781 (by decide +kernel) rfl)
theorem lX4_68 : Cond.methodLink RX4 68 yX5_stays ∈ gb_ws ∨ ∃ host, Cond.methodLinkNest RX4 68 yX5_stays host ∈ gb_nest := Or.inr ⟨"GrainBench", gb_ni 769 (by decide +kernel) rfl⟩
theorem lX4_71 : Cond.methodLink RX4 71 yX5_roots ∈ gb_ws ∨ ∃ host, Cond.methodLinkNest RX4 71 yX5_roots host ∈ gb_nest := Or.inr ⟨"GrainBench", gb_ni 773 (by decide +kernel) rfl⟩
theorem lX4_73 : Cond.methodLink RX4 73 yX5_goes ∈ gb_ws ∨ ∃ host, Cond.methodLinkNest RX4 73 yX5_goes host ∈ gb_nest := Or.inr ⟨"GrainBench", gb_ni 777 (by decide +kernel) rfl⟩
theorem lX5_3 : Cond.methodLink RX5 3 objectInit ∈ gb_ws := gb_wi 168 (by decide +kernel) rfl
theorem lX5_39 : Cond.methodLink RX5 39 yX0_grainsIn ∈ gb_ws ∨ ∃ host, Cond.methodLinkNest RX5 39 yX0_grainsIn host ∈ gb_nest := Or.inr ⟨"GrainBench", gb_ni 797 (by decide +kernel) rfl⟩
theorem lX6_3 : Cond.methodLink RX6 3 objectInit ∈ gb_ws := gb_wi 350 (by decide +kernel) rfl
theorem lX6_42 : Cond.methodLink RX6 42 yX8_init ∈ gb_ws ∨ ∃ host, Cond.methodLinkNest RX6 42 yX8_init host ∈ gb_nest := Or.inr ⟨"GrainBench", gb_ni 357 (by decide +kernel) rfl⟩
theorem lX6_54 : Cond.methodLink RX6 54 yX4_init ∈ gb_ws ∨ ∃ host, Cond.methodLinkNest RX6 54 yX4_init host ∈ gb_nest := Or.inr ⟨"GrainBench", gb_ni 373 (by decide +kernel) rfl⟩
theorem lX6_55 : Cond.methodLink RX6 55 yX0_init ∈ gb_ws ∨ ∃ host, Cond.methodLinkNest RX6 55 yX0_init host ∈ gb_nest := Or.inr ⟨"GrainBench", gb_ni 375 (by decide +kernel) rfl⟩
theorem lX6_58 : Cond.methodLink RX6 58 yX0_orders ∈ gb_ws ∨ ∃ host, Cond.methodLinkNest RX6 58 yX0_orders host ∈ gb_nest := Or.inr ⟨"GrainBench", gb_ni 1007 (by decide +kernel) rfl⟩
theorem lX6_71 : Cond.methodLink RX6 71 yX4_aim ∈ gb_ws ∨ ∃ host, Cond.methodLinkNest RX6 71 yX4_aim host ∈ gb_nest := Or.inr ⟨"GrainBench", gb_ni 1008 (by decide +kernel) rfl⟩
theorem lX6_75 : Cond.methodLink RX6 75 yX0_begin ∈ gb_ws ∨ ∃ host, Cond.methodLinkNest RX6 75 yX0_begin host ∈ gb_nest := Or.inr ⟨"GrainBench", gb_ni 1009 (by decide +kernel) rfl⟩
theorem lX6_78 : Cond.methodLink RX6 78 yX6_weigh ∈ gb_ws ∨ ∃ host, Cond.methodLinkNest RX6 78 yX6_weigh host ∈ gb_nest := Or.inl (gb_wi 1010 (by decide +kernel) rfl)
theorem lX6_82 : Cond.methodLink RX6 82 yX6_lengthen ∈ gb_ws ∨ ∃ host, Cond.methodLinkNest RX6 82 yX6_lengthen host ∈ gb_nest := Or.inl (gb_wi 1034 (by decide +kernel) rfl)
theorem lX6_86 : Cond.methodLink RX6 86 yX5_base ∈ gb_ws ∨ ∃ host, Cond.methodLinkNest RX6 86 yX5_base host ∈ gb_nest := Or.inr ⟨"GrainBench", gb_ni 1038 (by decide +kernel) rfl⟩
theorem lX6_92 : Cond.methodLink RX6 92 yX2_deepen ∈ gb_ws ∨ ∃ host, Cond.methodLinkNest RX6 92 yX2_deepen host ∈ gb_nest := Or.inr ⟨"GrainBench", gb_ni 1039 (by decide +kernel) rfl⟩
theorem lX6_97 : Cond.methodLink RX6 97 yX6_isVain ∈ gb_ws ∨ ∃ host, Cond.methodLinkNest RX6 97 yX6_isVain host ∈ gb_nest := Or.inl (gb_wi 1041 (by decide +kernel) rfl)
theorem lX6_101 : Cond.methodLink RX6 101 yX0_send ∈ gb_ws ∨ ∃ host, Cond.methodLinkNest RX6 101 yX0_send host ∈ gb_nest := Or.inr ⟨"GrainBench", gb_ni 1054 (by decide +kernel) rfl⟩
theorem lX6_105 : Cond.methodLink RX6 105 yX5_joinsPaths ∈ gb_ws ∨ ∃ host, Cond.methodLinkNest RX6 105 yX5_joinsPaths host ∈ gb_nest := Or.inr ⟨"GrainBench", gb_ni 1044 (by decide +kernel) rfl⟩
theorem lX6_109 : Cond.methodLink RX6 109 yX0_isMetBy ∈ gb_ws ∨ ∃ host, Cond.methodLinkNest RX6 109 yX0_isMetBy host ∈ gb_nest := Or.inr ⟨"GrainBench", gb_ni 1048 (by decide +kernel) rfl⟩
theorem lX6_113 : Cond.methodLink RX6 113 yX0_shareOfRow ∈ gb_ws ∨ ∃ host, Cond.methodLinkNest RX6 113 yX0_shareOfRow host ∈ gb_nest := Or.inr ⟨"GrainBench", gb_ni 1014 (by decide +kernel) rfl⟩
theorem lX6_117 : Cond.methodLink RX6 117 yX8_compareShare ∈ gb_ws ∨ ∃ host, Cond.methodLinkNest RX6 117 yX8_compareShare host ∈ gb_nest := Or.inr ⟨"GrainBench", gb_ni 1022 (by decide +kernel) rfl⟩
theorem lX6_121 : Cond.methodLink RX6 121 yX8_copyShare ∈ gb_ws ∨ ∃ host, Cond.methodLinkNest RX6 121 yX8_copyShare host ∈ gb_nest := Or.inr ⟨"GrainBench", gb_ni 1030 (by decide +kernel) rfl⟩
theorem lX7_3 : Cond.methodLink RX7 3 objectInit ∈ gb_ws := gb_wi 155 (by decide +kernel) rfl
theorem lX7_11 : Cond.methodLink RX7 11 yX2_init ∈ gb_ws ∨ ∃ host, Cond.methodLinkNest RX7 11 yX2_init host ∈ gb_nest := Or.inr ⟨"GrainBench", gb_ni 158 (by decide +kernel) rfl⟩
theorem lX7_24 : Cond.methodLink RX7 24 yX7_restart ∈ gb_ws ∨ ∃ host, Cond.methodLinkNest RX7 24 yX7_restart host ∈ gb_nest := Or.inl (gb_wi 538 (by decide +kernel) rfl)
theorem lX7_27 : Cond.methodLink RX7 27 yX7_atEnd ∈ gb_ws ∨ ∃ host, Cond.methodLinkNest RX7 27 yX7_atEnd host ∈ gb_nest := Or.inl (gb_wi 555 (by decide +kernel) rfl)
theorem lX7_31 : Cond.methodLink RX7 31 yX7_readPart ∈ gb_ws ∨ ∃ host, Cond.methodLinkNest RX7 31 yX7_readPart host ∈ gb_nest := Or.inl (gb_wi 559 (by decide +kernel) rfl)
theorem lX7_40 : Cond.methodLink RX7 40 yX7_take ∈ gb_ws ∨ ∃ host, Cond.methodLinkNest RX7 40 yX7_take host ∈ gb_nest := Or.inl (gb_wi 568 (by decide +kernel) rfl)
theorem lX7_48 : Cond.methodLink RX7 48 yX5_reset ∈ gb_ws ∨ ∃ host, Cond.methodLinkNest RX7 48 yX5_reset host ∈ gb_nest := Or.inr ⟨"GrainBench", gb_ni 563 (by decide +kernel) rfl⟩
theorem lX7_53 : Cond.methodLink RX7 53 yX7_readDeed ∈ gb_ws ∨ ∃ host, Cond.methodLinkNest RX7 53 yX7_readDeed host ∈ gb_nest := Or.inl (gb_wi 638 (by decide +kernel) rfl)
theorem lX7_69 : Cond.methodLink RX7 69 yX7_advance ∈ gb_ws ∨ ∃ host, Cond.methodLinkNest RX7 69 yX7_advance host ∈ gb_nest := Or.inl (gb_wi 542 (by decide +kernel) rfl)
theorem lX7_74 : Cond.methodLink RX7 74 yX7_readWait ∈ gb_ws ∨ ∃ host, Cond.methodLinkNest RX7 74 yX7_readWait host ∈ gb_nest := Or.inl (gb_wi 624 (by decide +kernel) rfl)
theorem lX7_79 : Cond.methodLink RX7 79 yX7_says ∈ gb_ws ∨ ∃ host, Cond.methodLinkNest RX7 79 yX7_says host ∈ gb_nest := Or.inl (gb_wi 572 (by decide +kernel) rfl)
theorem lX7_82 : Cond.methodLink RX7 82 yX7_readLoss ∈ gb_ws ∨ ∃ host, Cond.methodLinkNest RX7 82 yX7_readLoss host ∈ gb_nest := Or.inl (gb_wi 667 (by decide +kernel) rfl)
theorem lX7_87 : Cond.methodLink RX7 87 yX7_readCounter ∈ gb_ws ∨ ∃ host, Cond.methodLinkNest RX7 87 yX7_readCounter host ∈ gb_nest := Or.inl (gb_wi 672 (by decide +kernel) rfl)
theorem lX7_90 : Cond.methodLink RX7 90 yX7_readPath ∈ gb_ws ∨ ∃ host, Cond.methodLinkNest RX7 90 yX7_readPath host ∈ gb_nest := Or.inl (gb_wi 628 (by decide +kernel) rfl)
theorem lX7_99 : Cond.methodLink RX7 99 yX7_readNumber ∈ gb_ws ∨ ∃ host, Cond.methodLinkNest RX7 99 yX7_readNumber host ∈ gb_nest := Or.inl (gb_wi 633 (by decide +kernel) rfl)
theorem lX7_114 : Cond.methodLink RX7 114 yX7_readFirst ∈ gb_ws ∨ ∃ host, Cond.methodLinkNest RX7 114 yX7_readFirst host ∈ gb_nest := Or.inl (gb_wi 643 (by decide +kernel) rfl)
theorem lX7_117 : Cond.methodLink RX7 117 yX7_readKind ∈ gb_ws ∨ ∃ host, Cond.methodLinkNest RX7 117 yX7_readKind host ∈ gb_nest := Or.inl (gb_wi 651 (by decide +kernel) rfl)
theorem lX7_125 : Cond.methodLink RX7 125 yX7_readSecond ∈ gb_ws ∨ ∃ host, Cond.methodLinkNest RX7 125 yX7_readSecond host ∈ gb_nest := Or.inl (gb_wi 647 (by decide +kernel) rfl)
theorem lX7_132 : Cond.methodLink RX7 132 yX7_readShift ∈ gb_ws ∨ ∃ host, Cond.methodLinkNest RX7 132 yX7_readShift host ∈ gb_nest := Or.inl (gb_wi 660 (by decide +kernel) rfl)
theorem lX7_159 : Cond.methodLink RX7 159 yJ0_length_8abf5 ∈ gb_ws ∨ ∃ host, Cond.methodLinkNest RX7 159 yJ0_length_8abf5 host ∈ gb_nest := Or.inl (gb_wi 576 (by decide +kernel) rfl)
theorem lX7_171 : Cond.methodLink RX7 171 yJ0_charAt_5068e ∈ gb_ws ∨ ∃ host, Cond.methodLinkNest RX7 171 yJ0_charAt_5068e host ∈ gb_nest := Or.inl (gb_wi 586 (by decide +kernel) rfl)
theorem lX7_177 : Cond.methodLink RX7 177 yX7_isDigit ∈ gb_ws ∨ ∃ host, Cond.methodLinkNest RX7 177 yX7_isDigit host ∈ gb_nest := Or.inl (gb_wi 546 (by decide +kernel) rfl)
theorem lX7_181 : Cond.methodLink RX7 181 yJ9_min_7cf53 ∈ gb_ws ∨ ∃ host, Cond.methodLinkNest RX7 181 yJ9_min_7cf53 host ∈ gb_nest := Or.inl (gb_wi 549 (by decide +kernel) rfl)
theorem lX7_187 : Cond.methodLink RX7 187 yX7_isLetter ∈ gb_ws ∨ ∃ host, Cond.methodLinkNest RX7 187 yX7_isLetter host ∈ gb_nest := Or.inl (gb_wi 552 (by decide +kernel) rfl)
theorem lX8_1 : Cond.methodLink RX8 1 objectInit ∈ gb_ws := gb_wi 360 (by decide +kernel) rfl
theorem lX8_13 : Cond.methodLink RX8 13 yJ9_abs_067f4 ∈ gb_ws ∨ ∃ host, Cond.methodLinkNest RX8 13 yJ9_abs_067f4 host ∈ gb_nest := Or.inl (gb_wi 882 (by decide +kernel) rfl)
theorem lX8_19 : Cond.methodLink RX8 19 yX8_divisor ∈ gb_ws ∨ ∃ host, Cond.methodLinkNest RX8 19 yX8_divisor host ∈ gb_nest := Or.inl (gb_wi 885 (by decide +kernel) rfl)
theorem lX8_33 : Cond.methodLink RX8 33 yX8_signOf ∈ gb_ws ∨ ∃ host, Cond.methodLinkNest RX8 33 yX8_signOf host ∈ gb_nest := Or.inl (gb_wi 1026 (by decide +kernel) rfl)
theorem lX9_3 : Cond.methodLink RX9 3 objectInit ∈ gb_ws := gb_wi 138 (by decide +kernel) rfl
theorem lL_9 : Cond.methodLink RL 9 yX10_init ∈ gb_ws ∨ ∃ host, Cond.methodLinkNest RL 9 yX10_init host ∈ gb_nest := Or.inl (gb_wi 127 (by decide +kernel) rfl)
theorem lL_12 : Cond.methodLink RL 12 yX11_init ∈ gb_ws ∨ ∃ host, Cond.methodLinkNest RL 12 yX11_init host ∈ gb_nest := Or.inl (gb_wi 1073 (by decide +kernel) rfl)
theorem lL_13 : Cond.methodLink RL 13 yX10_grain ∈ gb_ws ∨ ∃ host, Cond.methodLinkNest RL 13 yX10_grain host ∈ gb_nest := Or.inl (gb_wi 491 (by decide +kernel) rfl)
theorem lL_17 : Cond.methodLink RL 17 yX11_grain ∈ gb_ws ∨ ∃ host, Cond.methodLinkNest RL 17 yX11_grain host ∈ gb_nest := Or.inl (gb_wi 1249 (by decide +kernel) rfl)
theorem lL_18 : Cond.methodLink RL 18 yX10_clear ∈ gb_ws ∨ ∃ host, Cond.methodLinkNest RL 18 yX10_clear host ∈ gb_nest := Or.inl (gb_wi 507 (by decide +kernel) rfl)
theorem lL_22 : Cond.methodLink RL 22 yX11_clear ∈ gb_ws ∨ ∃ host, Cond.methodLinkNest RL 22 yX11_clear host ∈ gb_nest := Or.inl (gb_wi 1260 (by decide +kernel) rfl)
theorem lL_23 : Cond.methodLink RL 23 yX10_feed ∈ gb_ws ∨ ∃ host, Cond.methodLinkNest RL 23 yX10_feed host ∈ gb_nest := Or.inl (gb_wi 511 (by decide +kernel) rfl)
theorem lL_27 : Cond.methodLink RL 27 yX11_feed ∈ gb_ws ∨ ∃ host, Cond.methodLinkNest RL 27 yX11_feed host ∈ gb_nest := Or.inl (gb_wi 1264 (by decide +kernel) rfl)
theorem lL_28 : Cond.methodLink RL 28 yX10_end ∈ gb_ws ∨ ∃ host, Cond.methodLinkNest RL 28 yX10_end host ∈ gb_nest := Or.inl (gb_wi 523 (by decide +kernel) rfl)
theorem lL_31 : Cond.methodLink RL 31 yX11_end ∈ gb_ws ∨ ∃ host, Cond.methodLinkNest RL 31 yX11_end host ∈ gb_nest := Or.inl (gb_wi 1268 (by decide +kernel) rfl)
theorem lL_32 : Cond.methodLink RL 32 yX10_bench ∈ gb_ws ∨ ∃ host, Cond.methodLinkNest RL 32 yX10_bench host ∈ gb_nest := Or.inl (gb_wi 527 (by decide +kernel) rfl)
theorem lL_35 : Cond.methodLink RL 35 yX11_bench ∈ gb_ws ∨ ∃ host, Cond.methodLinkNest RL 35 yX11_bench host ∈ gb_nest := Or.inl (gb_wi 1272 (by decide +kernel) rfl)
theorem lL_36 : Cond.methodLink RL 36 yX10_shelf ∈ gb_ws ∨ ∃ host, Cond.methodLinkNest RL 36 yX10_shelf host ∈ gb_nest := Or.inl (gb_wi 690 (by decide +kernel) rfl)
theorem lL_39 : Cond.methodLink RL 39 yX11_shelf ∈ gb_ws ∨ ∃ host, Cond.methodLinkNest RL 39 yX11_shelf host ∈ gb_nest := Or.inl (gb_wi 1346 (by decide +kernel) rfl)
theorem lL_40 : Cond.methodLink RL 40 yX10_fault ∈ gb_ws ∨ ∃ host, Cond.methodLinkNest RL 40 yX10_fault host ∈ gb_nest := Or.inl (gb_wi 699 (by decide +kernel) rfl)
theorem lL_43 : Cond.methodLink RL 43 yX11_fault ∈ gb_ws ∨ ∃ host, Cond.methodLinkNest RL 43 yX11_fault host ∈ gb_nest := Or.inl (gb_wi 1350 (by decide +kernel) rfl)
theorem lL_44 : Cond.methodLink RL 44 yX10_deep ∈ gb_ws ∨ ∃ host, Cond.methodLinkNest RL 44 yX10_deep host ∈ gb_nest := Or.inl (gb_wi 703 (by decide +kernel) rfl)
theorem lL_47 : Cond.methodLink RL 47 yX11_deep ∈ gb_ws ∨ ∃ host, Cond.methodLinkNest RL 47 yX11_deep host ∈ gb_nest := Or.inl (gb_wi 1354 (by decide +kernel) rfl)
theorem lL_48 : Cond.methodLink RL 48 yX10_way ∈ gb_ws ∨ ∃ host, Cond.methodLinkNest RL 48 yX10_way host ∈ gb_nest := Or.inl (gb_wi 721 (by decide +kernel) rfl)
theorem lL_52 : Cond.methodLink RL 52 yX11_way ∈ gb_ws ∨ ∃ host, Cond.methodLinkNest RL 52 yX11_way host ∈ gb_nest := Or.inl (gb_wi 1369 (by decide +kernel) rfl)
theorem lL_53 : Cond.methodLink RL 53 yX10_odds ∈ gb_ws ∨ ∃ host, Cond.methodLinkNest RL 53 yX10_odds host ∈ gb_nest := Or.inl (gb_wi 830 (by decide +kernel) rfl)
theorem lL_57 : Cond.methodLink RL 57 yX11_odds ∈ gb_ws ∨ ∃ host, Cond.methodLinkNest RL 57 yX11_odds host ∈ gb_nest := Or.inl (gb_wi 1413 (by decide +kernel) rfl)
theorem lL_58 : Cond.methodLink RL 58 yX10_dark ∈ gb_ws ∨ ∃ host, Cond.methodLinkNest RL 58 yX10_dark host ∈ gb_nest := Or.inl (gb_wi 892 (by decide +kernel) rfl)
theorem lL_62 : Cond.methodLink RL 62 yX11_dark ∈ gb_ws ∨ ∃ host, Cond.methodLinkNest RL 62 yX11_dark host ∈ gb_nest := Or.inl (gb_wi 1457 (by decide +kernel) rfl)
theorem lL_63 : Cond.methodLink RL 63 yX10_clicks ∈ gb_ws ∨ ∃ host, Cond.methodLinkNest RL 63 yX10_clicks host ∈ gb_nest := Or.inl (gb_wi 896 (by decide +kernel) rfl)
theorem lL_67 : Cond.methodLink RL 67 yX11_clicks ∈ gb_ws ∨ ∃ host, Cond.methodLinkNest RL 67 yX11_clicks host ∈ gb_nest := Or.inl (gb_wi 1461 (by decide +kernel) rfl)
theorem lL_68 : Cond.methodLink RL 68 yX10_run ∈ gb_ws ∨ ∃ host, Cond.methodLinkNest RL 68 yX10_run host ∈ gb_nest := Or.inl (gb_wi 911 (by decide +kernel) rfl)
theorem lL_72 : Cond.methodLink RL 72 yX11_run ∈ gb_ws ∨ ∃ host, Cond.methodLinkNest RL 72 yX11_run host ∈ gb_nest := Or.inl (gb_wi 1471 (by decide +kernel) rfl)
theorem lL_73 : Cond.methodLink RL 73 yX10_counted ∈ gb_ws ∨ ∃ host, Cond.methodLinkNest RL 73 yX10_counted host ∈ gb_nest := Or.inl (gb_wi 922 (by decide +kernel) rfl)
theorem lL_76 : Cond.methodLink RL 76 yX11_counted ∈ gb_ws ∨ ∃ host, Cond.methodLinkNest RL 76 yX11_counted host ∈ gb_nest := Or.inl (gb_wi 1475 (by decide +kernel) rfl)
theorem lL_77 : Cond.methodLink RL 77 yX10_wrong ∈ gb_ws ∨ ∃ host, Cond.methodLinkNest RL 77 yX10_wrong host ∈ gb_nest := Or.inl (gb_wi 930 (by decide +kernel) rfl)
theorem lL_80 : Cond.methodLink RL 80 yX11_wrong ∈ gb_ws ∨ ∃ host, Cond.methodLinkNest RL 80 yX11_wrong host ∈ gb_nest := Or.inl (gb_wi 1483 (by decide +kernel) rfl)
theorem lL_81 : Cond.methodLink RL 81 yX10_misfit ∈ gb_ws ∨ ∃ host, Cond.methodLinkNest RL 81 yX10_misfit host ∈ gb_nest := Or.inl (gb_wi 938 (by decide +kernel) rfl)
theorem lL_84 : Cond.methodLink RL 84 yX11_misfit ∈ gb_ws ∨ ∃ host, Cond.methodLinkNest RL 84 yX11_misfit host ∈ gb_nest := Or.inl (gb_wi 1487 (by decide +kernel) rfl)
theorem lL_85 : Cond.methodLink RL 85 yX10_fits ∈ gb_ws ∨ ∃ host, Cond.methodLinkNest RL 85 yX10_fits host ∈ gb_nest := Or.inl (gb_wi 955 (by decide +kernel) rfl)
theorem lL_88 : Cond.methodLink RL 88 yX11_fits ∈ gb_ws ∨ ∃ host, Cond.methodLinkNest RL 88 yX11_fits host ∈ gb_nest := Or.inl (gb_wi 1496 (by decide +kernel) rfl)
theorem lL_89 : Cond.methodLink RL 89 yX10_pairs ∈ gb_ws ∨ ∃ host, Cond.methodLinkNest RL 89 yX10_pairs host ∈ gb_nest := Or.inl (gb_wi 959 (by decide +kernel) rfl)
theorem lL_92 : Cond.methodLink RL 92 yX11_pairs ∈ gb_ws ∨ ∃ host, Cond.methodLinkNest RL 92 yX11_pairs host ∈ gb_nest := Or.inl (gb_wi 1501 (by decide +kernel) rfl)
theorem lL_93 : Cond.methodLink RL 93 yX10_notes ∈ gb_ws ∨ ∃ host, Cond.methodLinkNest RL 93 yX10_notes host ∈ gb_nest := Or.inl (gb_wi 971 (by decide +kernel) rfl)
theorem lL_97 : Cond.methodLink RL 97 yX11_notes ∈ gb_ws ∨ ∃ host, Cond.methodLinkNest RL 97 yX11_notes host ∈ gb_nest := Or.inl (gb_wi 1512 (by decide +kernel) rfl)
theorem lL_98 : Cond.methodLink RL 98 yX10_plan ∈ gb_ws ∨ ∃ host, Cond.methodLinkNest RL 98 yX10_plan host ∈ gb_nest := Or.inl (gb_wi 999 (by decide +kernel) rfl)
theorem lL_102 : Cond.methodLink RL 102 yX11_plan ∈ gb_ws ∨ ∃ host, Cond.methodLinkNest RL 102 yX11_plan host ∈ gb_nest := Or.inl (gb_wi 1517 (by decide +kernel) rfl)
theorem lL_103 : Cond.methodLink RL 103 yX10_planned ∈ gb_ws ∨ ∃ host, Cond.methodLinkNest RL 103 yX10_planned host ∈ gb_nest := Or.inl (gb_wi 1055 (by decide +kernel) rfl)
theorem lL_107 : Cond.methodLink RL 107 yX11_planned ∈ gb_ws ∨ ∃ host, Cond.methodLinkNest RL 107 yX11_planned host ∈ gb_nest := Or.inl (gb_wi 1542 (by decide +kernel) rfl)
theorem lL_108 : Cond.methodLink RL 108 yX10_build ∈ gb_ws ∨ ∃ host, Cond.methodLinkNest RL 108 yX10_build host ∈ gb_nest := Or.inl (gb_wi 1059 (by decide +kernel) rfl)
theorem lL_111 : Cond.methodLink RL 111 yX11_build ∈ gb_ws ∨ ∃ host, Cond.methodLinkNest RL 111 yX11_build host ∈ gb_nest := Or.inl (gb_wi 1546 (by decide +kernel) rfl)
theorem lL_112 : Cond.methodLink RL 112 yX10_count ∈ gb_ws ∨ ∃ host, Cond.methodLinkNest RL 112 yX10_count host ∈ gb_nest := Or.inl (gb_wi 1063 (by decide +kernel) rfl)
theorem lL_115 : Cond.methodLink RL 115 yX11_count ∈ gb_ws ∨ ∃ host, Cond.methodLinkNest RL 115 yX11_count host ∈ gb_nest := Or.inl (gb_wi 1550 (by decide +kernel) rfl)
theorem lL_116 : Cond.methodLink RL 116 yX10_status ∈ gb_ws ∨ ∃ host, Cond.methodLinkNest RL 116 yX10_status host ∈ gb_nest := Or.inl (gb_wi 1067 (by decide +kernel) rfl)
theorem lL_119 : Cond.methodLink RL 119 yX11_status ∈ gb_ws ∨ ∃ host, Cond.methodLinkNest RL 119 yX11_status host ∈ gb_nest := Or.inl (gb_wi 1554 (by decide +kernel) rfl)
theorem lX11_1 : Cond.methodLink RX11 1 objectInit ∈ gb_ws := gb_wi 1076 (by decide +kernel) rfl
theorem lX11_104 : Cond.methodLink RX11 104 yX11_in ∈ gb_ws ∨ ∃ host, Cond.methodLinkNest RX11 104 yX11_in host ∈ gb_nest := Or.inl (gb_wi 1253 (by decide +kernel) rfl)
theorem lX11_108 : Cond.methodLink RX11 108 yX11_ends ∈ gb_ws ∨ ∃ host, Cond.methodLinkNest RX11 108 yX11_ends host ∈ gb_nest := Or.inl (gb_wi 1256 (by decide +kernel) rfl)
theorem lX11_127 : Cond.methodLink RX11 127 yX11_isIn ∈ gb_ws ∨ ∃ host, Cond.methodLinkNest RX11 127 yX11_isIn host ∈ gb_nest := Or.inl (gb_wi 1284 (by decide +kernel) rfl)
theorem lX11_139 : Cond.methodLink RX11 139 yX11_next ∈ gb_ws ∨ ∃ host, Cond.methodLinkNest RX11 139 yX11_next host ∈ gb_nest := Or.inl (gb_wi 1280 (by decide +kernel) rfl)
theorem lX11_146 : Cond.methodLink RX11 146 yX11_good ∈ gb_ws ∨ ∃ host, Cond.methodLinkNest RX11 146 yX11_good host ∈ gb_nest := Or.inl (gb_wi 1296 (by decide +kernel) rfl)
theorem lX11_150 : Cond.methodLink RX11 150 yX11_isWord ∈ gb_ws ∨ ∃ host, Cond.methodLinkNest RX11 150 yX11_isWord host ∈ gb_nest := Or.inl (gb_wi 1305 (by decide +kernel) rfl)
theorem lX11_154 : Cond.methodLink RX11 154 yX11_faults ∈ gb_ws ∨ ∃ host, Cond.methodLinkNest RX11 154 yX11_faults host ∈ gb_nest := Or.inl (gb_wi 1292 (by decide +kernel) rfl)
theorem lX11_157 : Cond.methodLink RX11 157 yX11_number ∈ gb_ws ∨ ∃ host, Cond.methodLinkNest RX11 157 yX11_number host ∈ gb_nest := Or.inl (gb_wi 1320 (by decide +kernel) rfl)
theorem lX11_162 : Cond.methodLink RX11 162 yX11_takesWord ∈ gb_ws ∨ ∃ host, Cond.methodLinkNest RX11 162 yX11_takesWord host ∈ gb_nest := Or.inl (gb_wi 1312 (by decide +kernel) rfl)
theorem lX11_171 : Cond.methodLink RX11 171 yX11_path ∈ gb_ws ∨ ∃ host, Cond.methodLinkNest RX11 171 yX11_path host ∈ gb_nest := Or.inl (gb_wi 1316 (by decide +kernel) rfl)
theorem lX11_175 : Cond.methodLink RX11 175 yX11_kind ∈ gb_ws ∨ ∃ host, Cond.methodLinkNest RX11 175 yX11_kind host ∈ gb_nest := Or.inl (gb_wi 1334 (by decide +kernel) rfl)
theorem lX11_187 : Cond.methodLink RX11 187 yX11_fresh ∈ gb_ws ∨ ∃ host, Cond.methodLinkNest RX11 187 yX11_fresh host ∈ gb_nest := Or.inl (gb_wi 1300 (by decide +kernel) rfl)
theorem lX11_194 : Cond.methodLink RX11 194 yX11_takesSign ∈ gb_ws ∨ ∃ host, Cond.methodLinkNest RX11 194 yX11_takesSign host ∈ gb_nest := Or.inl (gb_wi 1324 (by decide +kernel) rfl)
theorem lX11_200 : Cond.methodLink RX11 200 yX11_deed ∈ gb_ws ∨ ∃ host, Cond.methodLinkNest RX11 200 yX11_deed host ∈ gb_nest := Or.inl (gb_wi 1329 (by decide +kernel) rfl)
theorem lX11_206 : Cond.methodLink RX11 206 yX11_begins ∈ gb_ws ∨ ∃ host, Cond.methodLinkNest RX11 206 yX11_begins host ∈ gb_nest := Or.inl (gb_wi 1276 (by decide +kernel) rfl)
theorem lX11_209 : Cond.methodLink RX11 209 yX11_part ∈ gb_ws ∨ ∃ host, Cond.methodLinkNest RX11 209 yX11_part host ∈ gb_nest := Or.inl (gb_wi 1288 (by decide +kernel) rfl)
theorem lX11_215 : Cond.methodLink RX11 215 yX11_measure ∈ gb_ws ∨ ∃ host, Cond.methodLinkNest RX11 215 yX11_measure host ∈ gb_nest := Or.inl (gb_wi 1361 (by decide +kernel) rfl)
theorem lX11_218 : Cond.methodLink RX11 218 yX11_power ∈ gb_ws ∨ ∃ host, Cond.methodLinkNest RX11 218 yX11_power host ∈ gb_nest := Or.inl (gb_wi 1364 (by decide +kernel) rfl)
theorem lX11_234 : Cond.methodLink RX11 234 yX11_puts ∈ gb_ws ∨ ∃ host, Cond.methodLinkNest RX11 234 yX11_puts host ∈ gb_nest := Or.inl (gb_wi 1400 (by decide +kernel) rfl)
theorem lX11_241 : Cond.methodLink RX11 241 yX11_some ∈ gb_ws ∨ ∃ host, Cond.methodLinkNest RX11 241 yX11_some host ∈ gb_nest := Or.inl (gb_wi 1403 (by decide +kernel) rfl)
theorem lX11_249 : Cond.methodLink RX11 249 yX11_modeAt ∈ gb_ws ∨ ∃ host, Cond.methodLinkNest RX11 249 yX11_modeAt host ∈ gb_nest := Or.inl (gb_wi 1388 (by decide +kernel) rfl)
theorem lX11_256 : Cond.methodLink RX11 256 yX11_inPath ∈ gb_ws ∨ ∃ host, Cond.methodLinkNest RX11 256 yX11_inPath host ∈ gb_nest := Or.inl (gb_wi 1384 (by decide +kernel) rfl)
theorem lX11_259 : Cond.methodLink RX11 259 yX11_placeAt ∈ gb_ws ∨ ∃ host, Cond.methodLinkNest RX11 259 yX11_placeAt host ∈ gb_nest := Or.inl (gb_wi 1392 (by decide +kernel) rfl)
theorem lX11_262 : Cond.methodLink RX11 262 yX11_acts ∈ gb_ws ∨ ∃ host, Cond.methodLinkNest RX11 262 yX11_acts host ∈ gb_nest := Or.inl (gb_wi 1396 (by decide +kernel) rfl)
theorem lX11_266 : Cond.methodLink RX11 266 yX11_adds ∈ gb_ws ∨ ∃ host, Cond.methodLinkNest RX11 266 yX11_adds host ∈ gb_nest := Or.inl (gb_wi 1409 (by decide +kernel) rfl)
theorem lX11_270 : Cond.methodLink RX11 270 yX11_does ∈ gb_ws ∨ ∃ host, Cond.methodLinkNest RX11 270 yX11_does host ∈ gb_nest := Or.inl (gb_wi 1380 (by decide +kernel) rfl)
theorem lX11_274 : Cond.methodLink RX11 274 yX11_deepOf ∈ gb_ws ∨ ∃ host, Cond.methodLinkNest RX11 274 yX11_deepOf host ∈ gb_nest := Or.inl (gb_wi 1358 (by decide +kernel) rfl)
theorem lX11_280 : Cond.methodLink RX11 280 yX11_runs ∈ gb_ws ∨ ∃ host, Cond.methodLinkNest RX11 280 yX11_runs host ∈ gb_nest := Or.inl (gb_wi 1375 (by decide +kernel) rfl)
theorem lX11_286 : Cond.methodLink RX11 286 yX11_times ∈ gb_ws ∨ ∃ host, Cond.methodLinkNest RX11 286 yX11_times host ∈ gb_nest := Or.inl (gb_wi 1432 (by decide +kernel) rfl)
theorem lX11_290 : Cond.methodLink RX11 290 yX11_factorials ∈ gb_ws ∨ ∃ host, Cond.methodLinkNest RX11 290 yX11_factorials host ∈ gb_nest := Or.inl (gb_wi 1428 (by decide +kernel) rfl)
theorem lX11_297 : Cond.methodLink RX11 297 yX11_isSorted ∈ gb_ws ∨ ∃ host, Cond.methodLinkNest RX11 297 yX11_isSorted host ∈ gb_nest := Or.inl (gb_wi 1436 (by decide +kernel) rfl)
theorem lX11_300 : Cond.methodLink RX11 300 yX11_gathers ∈ gb_ws ∨ ∃ host, Cond.methodLinkNest RX11 300 yX11_gathers host ∈ gb_nest := Or.inl (gb_wi 1440 (by decide +kernel) rfl)
theorem lX11_303 : Cond.methodLink RX11 303 yX11_changed ∈ gb_ws ∨ ∃ host, Cond.methodLinkNest RX11 303 yX11_changed host ∈ gb_nest := Or.inl (gb_wi 1444 (by decide +kernel) rfl)
theorem lX11_307 : Cond.methodLink RX11 307 yX11_divisor ∈ gb_ws ∨ ∃ host, Cond.methodLinkNest RX11 307 yX11_divisor host ∈ gb_nest := Or.inl (gb_wi 1454 (by decide +kernel) rfl)
theorem lX11_311 : Cond.methodLink RX11 311 yX11_lays ∈ gb_ws ∨ ∃ host, Cond.methodLinkNest RX11 311 yX11_lays host ∈ gb_nest := Or.inl (gb_wi 1424 (by decide +kernel) rfl)
theorem lX11_315 : Cond.methodLink RX11 315 yX11_areCounts ∈ gb_ws ∨ ∃ host, Cond.methodLinkNest RX11 315 yX11_areCounts host ∈ gb_nest := Or.inl (gb_wi 1417 (by decide +kernel) rfl)
theorem lX11_319 : Cond.methodLink RX11 319 yX11_laysBench ∈ gb_ws ∨ ∃ host, Cond.methodLinkNest RX11 319 yX11_laysBench host ∈ gb_nest := Or.inl (gb_wi 1420 (by decide +kernel) rfl)
theorem lX11_322 : Cond.methodLink RX11 322 yX11_placeOf ∈ gb_ws ∨ ∃ host, Cond.methodLinkNest RX11 322 yX11_placeOf host ∈ gb_nest := Or.inl (gb_wi 1448 (by decide +kernel) rfl)
theorem lX11_326 : Cond.methodLink RX11 326 yX11_tells ∈ gb_ws ∨ ∃ host, Cond.methodLinkNest RX11 326 yX11_tells host ∈ gb_nest := Or.inl (gb_wi 1451 (by decide +kernel) rfl)
theorem lX11_343 : Cond.methodLink RX11 343 yX11_clicksOf ∈ gb_ws ∨ ∃ host, Cond.methodLinkNest RX11 343 yX11_clicksOf host ∈ gb_nest := Or.inl (gb_wi 1465 (by decide +kernel) rfl)
theorem lX11_348 : Cond.methodLink RX11 348 yX11_countedOf ∈ gb_ws ∨ ∃ host, Cond.methodLinkNest RX11 348 yX11_countedOf host ∈ gb_nest := Or.inl (gb_wi 1479 (by decide +kernel) rfl)
theorem lX11_355 : Cond.methodLink RX11 355 yX11_thousandths ∈ gb_ws ∨ ∃ host, Cond.methodLinkNest RX11 355 yX11_thousandths host ∈ gb_nest := Or.inl (gb_wi 1493 (by decide +kernel) rfl)
theorem lX11_359 : Cond.methodLink RX11 359 yX11_misfit ∈ gb_ws ∨ ∃ host, Cond.methodLinkNest RX11 359 yX11_misfit host ∈ gb_nest := Or.inl (gb_wi 1500 (by decide +kernel) rfl)
theorem lX11_362 : Cond.methodLink RX11 362 yX11_pair ∈ gb_ws ∨ ∃ host, Cond.methodLinkNest RX11 362 yX11_pair host ∈ gb_nest := Or.inl (gb_wi 1509 (by decide +kernel) rfl)
theorem lX11_365 : Cond.methodLink RX11 365 yX11_pairsOf ∈ gb_ws ∨ ∃ host, Cond.methodLinkNest RX11 365 yX11_pairsOf host ∈ gb_nest := Or.inl (gb_wi 1505 (by decide +kernel) rfl)
theorem lX11_380 : Cond.methodLink RX11 380 yX11_squares ∈ gb_ws ∨ ∃ host, Cond.methodLinkNest RX11 380 yX11_squares host ∈ gb_nest := Or.inl (gb_wi 1536 (by decide +kernel) rfl)
theorem lX11_399 : Cond.methodLink RX11 399 yX11_isAbove ∈ gb_ws ∨ ∃ host, Cond.methodLinkNest RX11 399 yX11_isAbove host ∈ gb_nest := Or.inl (gb_wi 1532 (by decide +kernel) rfl)
theorem lX11_403 : Cond.methodLink RX11 403 yX11_looks ∈ gb_ws ∨ ∃ host, Cond.methodLinkNest RX11 403 yX11_looks host ∈ gb_nest := Or.inl (gb_wi 1528 (by decide +kernel) rfl)
theorem lX11_407 : Cond.methodLink RX11 407 yX11_tries ∈ gb_ws ∨ ∃ host, Cond.methodLinkNest RX11 407 yX11_tries host ∈ gb_nest := Or.inl (gb_wi 1524 (by decide +kernel) rfl)
theorem lJ0_335 : Cond.methodLink RJ0 335 yJ0_coder_7d493 ∈ gb_ws ∨ ∃ host, Cond.methodLinkNest RJ0 335 yJ0_coder_7d493 host ∈ gb_nest := Or.inl (gb_wi 580 (by decide +kernel) rfl)
theorem lJ0_492 : Cond.methodLink RJ0 492 yJ0_isLatin1_aae02 ∈ gb_ws ∨ ∃ host, Cond.methodLinkNest RJ0 492 yJ0_isLatin1_aae02 host ∈ gb_nest := Or.inl (gb_wi 590 (by decide +kernel) rfl)
theorem lJ0_495 : Cond.methodLink RJ0 495 yJ1_charAt_3b067 ∈ gb_ws ∨ ∃ host, Cond.methodLinkNest RJ0 495 yJ1_charAt_3b067 host ∈ gb_nest := Or.inl (gb_wi 594 (by decide +kernel) rfl)
theorem lJ0_498 : Cond.methodLink RJ0 498 yJ2_charAt_3b067 ∈ gb_ws ∨ ∃ host, Cond.methodLinkNest RJ0 498 yJ2_charAt_3b067 host ∈ gb_nest := Or.inl (gb_wi 605 (by decide +kernel) rfl)
theorem lJ0_1059 : Cond.methodLink RJ0 1059 yJ3_checkIndex_8e157 ∈ gb_ws ∨ ∃ host, Cond.methodLinkNest RJ0 1059 yJ3_checkIndex_8e157 host ∈ gb_nest := Or.inl (gb_wi 602 (by decide +kernel) rfl)
theorem lJ1_9 : Cond.methodLink RJ1 9 yJ0_checkIndex_df160 ∈ gb_ws ∨ ∃ host, Cond.methodLinkNest RJ1 9 yJ0_checkIndex_df160 host ∈ gb_nest := Or.inl (gb_wi 597 (by decide +kernel) rfl)
theorem lJ2_48 : Cond.methodLink RJ2 48 yJ2_length_9d52b ∈ gb_ws ∨ ∃ host, Cond.methodLinkNest RJ2 48 yJ2_length_9d52b host ∈ gb_nest := Or.inl (gb_wi 611 (by decide +kernel) rfl)
theorem lJ2_67 : Cond.methodLink RJ2 67 yJ2_checkIndex_2214a ∈ gb_ws ∨ ∃ host, Cond.methodLinkNest RJ2 67 yJ2_checkIndex_2214a host ∈ gb_nest := Or.inl (gb_wi 608 (by decide +kernel) rfl)
theorem lJ2_71 : Cond.methodLink RJ2 71 yJ2_getChar_3b067 ∈ gb_ws ∨ ∃ host, Cond.methodLinkNest RJ2 71 yJ2_getChar_3b067 host ∈ gb_nest := Or.inl (gb_wi 615 (by decide +kernel) rfl)
theorem lJ2_414 : Cond.methodLink RJ2 414 yJ0_checkIndex_df160 ∈ gb_ws ∨ ∃ host, Cond.methodLinkNest RJ2 414 yJ0_checkIndex_df160 host ∈ gb_nest := Or.inl (gb_wi 614 (by decide +kernel) rfl)
theorem kX10_153 : Cond.constant RX10 153 (-2000000000) ∈ gb_ws := gb_wi 725 (by decide +kernel) rfl
theorem kX10_154 : Cond.constant RX10 154 (300000) ∈ gb_ws := gb_wi 726 (by decide +kernel) rfl
theorem kX2_37 : Cond.constant RX2 37 (300000) ∈ gb_ws := gb_wi 718 (by decide +kernel) rfl
theorem kX2_38 : Cond.constant RX2 38 (300001) ∈ gb_ws := gb_wi 719 (by decide +kernel) rfl
theorem kX6_96 : Cond.constant RX6 96 (300000) ∈ gb_ws := gb_wi 1040 (by decide +kernel) rfl
theorem kX11_224 : Cond.constant RX11 224 (300001) ∈ gb_ws := gb_wi 1368 (by decide +kernel) rfl
theorem kX11_278 : Cond.constant RX11 278 (-2000000000) ∈ gb_ws := gb_wi 1373 (by decide +kernel) rfl
theorem kX11_279 : Cond.constant RX11 279 (300000) ∈ gb_ws := gb_wi 1374 (by decide +kernel) rfl
theorem kJ6_265 : Cond.constant RJ6 265 (1431655765) ∈ gb_ws := gb_wi 986 (by decide +kernel) rfl
theorem kJ6_266 : Cond.constant RJ6 266 (858993459) ∈ gb_ws := gb_wi 987 (by decide +kernel) rfl
theorem kJ6_267 : Cond.constant RJ6 267 (252645135) ∈ gb_ws := gb_wi 988 (by decide +kernel) rfl
theorem kX10_167 : Cond.constantLong RX10 167 (-1) ∈ gb_ws := gb_wi 834 (by decide +kernel) rfl
theorem kX10_229 : Cond.constantLong RX10 229 (-2000000000) ∈ gb_ws := gb_wi 997 (by decide +kernel) rfl
theorem kX10_238 : Cond.constantLong RX10 238 (2) ∈ gb_ws := gb_wi 998 (by decide +kernel) rfl
theorem kX0_127 : Cond.constantLong RX0 127 (2) ∈ gb_ws := gb_wi 821 (by decide +kernel) rfl
theorem kX1_62 : Cond.constantLong RX1 62 (100000) ∈ gb_ws := gb_wi 910 (by decide +kernel) rfl
theorem kX3_48 : Cond.constantLong RX3 48 (-4) ∈ gb_ws := gb_wi 982 (by decide +kernel) rfl
theorem kX8_29 : Cond.constantLong RX8 29 (1414) ∈ gb_ws := gb_wi 950 (by decide +kernel) rfl
theorem kX8_31 : Cond.constantLong RX8 31 (1000) ∈ gb_ws := gb_wi 951 (by decide +kernel) rfl
theorem kX8_37 : Cond.constantLong RX8 37 (2) ∈ gb_ws := gb_wi 1029 (by decide +kernel) rfl
theorem kX11_142 : Cond.constantLong RX11 142 (96) ∈ gb_ws := gb_wi 1309 (by decide +kernel) rfl
theorem kX11_144 : Cond.constantLong RX11 144 (31) ∈ gb_ws := gb_wi 1310 (by decide +kernel) rfl
theorem kX11_160 : Cond.constantLong RX11 160 (5425428) ∈ gb_ws := gb_wi 1338 (by decide +kernel) rfl
theorem kX11_165 : Cond.constantLong RX11 165 (611814) ∈ gb_ws := gb_wi 1339 (by decide +kernel) rfl
theorem kX11_167 : Cond.constantLong RX11 167 (208936) ∈ gb_ws := gb_wi 1340 (by decide +kernel) rfl
theorem kX11_169 : Cond.constantLong RX11 169 (21279251) ∈ gb_ws := gb_wi 1333 (by decide +kernel) rfl
theorem kX11_179 : Cond.constantLong RX11 179 (477876) ∈ gb_ws := gb_wi 1341 (by decide +kernel) rfl
theorem kX11_181 : Cond.constantLong RX11 181 (21177619) ∈ gb_ws := gb_wi 1342 (by decide +kernel) rfl
theorem kX11_183 : Cond.constantLong RX11 183 (378925) ∈ gb_ws := gb_wi 1343 (by decide +kernel) rfl
theorem kX11_185 : Cond.constantLong RX11 185 (526067) ∈ gb_ws := gb_wi 1344 (by decide +kernel) rfl
theorem kX11_190 : Cond.constantLong RX11 190 (183788) ∈ gb_ws := gb_wi 1304 (by decide +kernel) rfl
theorem kX11_192 : Cond.constantLong RX11 192 (201) ∈ gb_ws := gb_wi 1311 (by decide +kernel) rfl
theorem kX11_198 : Cond.constantLong RX11 198 (484) ∈ gb_ws := gb_wi 1328 (by decide +kernel) rfl
theorem kX11_204 : Cond.constantLong RX11 204 (21452259) ∈ gb_ws := gb_wi 1345 (by decide +kernel) rfl
theorem kX11_222 : Cond.constantLong RX11 222 (300000) ∈ gb_ws := gb_wi 1367 (by decide +kernel) rfl
theorem kX11_228 : Cond.constantLong RX11 228 (16) ∈ gb_ws := gb_wi 1379 (by decide +kernel) rfl
theorem kX11_230 : Cond.constantLong RX11 230 (3) ∈ gb_ws := gb_wi 1406 (by decide +kernel) rfl
theorem kX11_232 : Cond.constantLong RX11 232 (4) ∈ gb_ws := gb_wi 1407 (by decide +kernel) rfl
theorem kX11_245 : Cond.constantLong RX11 245 (-1) ∈ gb_ws := gb_wi 1408 (by decide +kernel) rfl
theorem kX11_247 : Cond.constantLong RX11 247 (2) ∈ gb_ws := gb_wi 1412 (by decide +kernel) rfl
theorem kX11_284 : Cond.constantLong RX11 284 (6) ∈ gb_ws := gb_wi 1435 (by decide +kernel) rfl
theorem kX11_336 : Cond.constantLong RX11 336 (100000) ∈ gb_ws := gb_wi 1469 (by decide +kernel) rfl
theorem kX11_341 : Cond.constantLong RX11 341 (10) ∈ gb_ws := gb_wi 1470 (by decide +kernel) rfl
theorem kX11_351 : Cond.constantLong RX11 351 (1000) ∈ gb_ws := gb_wi 1491 (by decide +kernel) rfl
theorem kX11_353 : Cond.constantLong RX11 353 (1414) ∈ gb_ws := gb_wi 1492 (by decide +kernel) rfl
theorem kX11_368 : Cond.constantLong RX11 368 (-2000000000) ∈ gb_ws := gb_wi 1516 (by decide +kernel) rfl
theorem kX11_370 : Cond.constantLong RX11 370 (33554431) ∈ gb_ws := gb_wi 1540 (by decide +kernel) rfl
theorem kX11_378 : Cond.constantLong RX11 378 (1125899906842623) ∈ gb_ws := gb_wi 1541 (by decide +kernel) rfl
theorem kX11_411 : Cond.constantLong RX11 411 (1000000) ∈ gb_ws := gb_wi 1521 (by decide +kernel) rfl
theorem kX11_413 : Cond.constantLong RX11 413 (2000000000000) ∈ gb_ws := gb_wi 1522 (by decide +kernel) rfl
theorem kX11_415 : Cond.constantLong RX11 415 (384000000000000) ∈ gb_ws := gb_wi 1523 (by decide +kernel) rfl
theorem cX10_9 : Cond.classLink RX10 9 RX9 ∈ gb_ws := gb_wi 133 (by decide +kernel) rfl
theorem cX10_16 : Cond.classLink RX10 16 RX7 ∈ gb_ws := gb_wi 150 (by decide +kernel) rfl
theorem cX10_25 : Cond.classLink RX10 25 RX2 ∈ gb_ws := gb_wi 251 (by decide +kernel) rfl
theorem cX10_31 : Cond.classLink RX10 31 RX1 ∈ gb_ws := gb_wi 253 (by decide +kernel) rfl
theorem cX10_45 : Cond.classLink RX10 45 RX3 ∈ gb_ws := gb_wi 284 (by decide +kernel) rfl
theorem cX10_52 : Cond.classLink RX10 52 RX4 ∈ gb_ws := gb_wi 318 (by decide +kernel) rfl
theorem cX10_59 : Cond.classLink RX10 59 RX6 ∈ gb_ws := gb_wi 345 (by decide +kernel) rfl
theorem cX10_68 : Cond.classLink RX10 68 RX0 ∈ gb_ws := gb_wi 438 (by decide +kernel) rfl
theorem cX10_78 : Cond.classLink RX10 78 RX8 ∈ gb_ws := gb_wi 440 (by decide +kernel) rfl
theorem cX2_9 : Cond.classLink RX2 9 RX5 ∈ gb_ws := gb_wi 162 (by decide +kernel) rfl
theorem cX6_9 : Cond.classLink RX6 9 RX4 ∈ gb_ws := gb_wi 351 (by decide +kernel) rfl
theorem cX6_17 : Cond.classLink RX6 17 RX0 ∈ gb_ws := gb_wi 353 (by decide +kernel) rfl
theorem cX6_40 : Cond.classLink RX6 40 RX8 ∈ gb_ws := gb_wi 355 (by decide +kernel) rfl
theorem cX7_9 : Cond.classLink RX7 9 RX2 ∈ gb_ws := gb_wi 156 (by decide +kernel) rfl
theorem cL_7 : Cond.classLink RL 7 RX10 ∈ gb_ws := gb_wi 125 (by decide +kernel) rfl
theorem cL_10 : Cond.classLink RL 10 RX11 ∈ gb_ws := gb_wi 1071 (by decide +kernel) rfl
theorem ac20 : Cond.arrayClass (gb_aty 20) ∈ gb_ws := gb_wi 149 (by decide +kernel) rfl
theorem ac21 : Cond.arrayClass (gb_aty 21) ∈ gb_ws := gb_wi 403 (by decide +kernel) rfl
theorem ac22 : Cond.arrayClass (gb_aty 22) ∈ gb_ws := gb_wi 689 (by decide +kernel) rfl
theorem ac23 : Cond.arrayClass (gb_aty 23) ∈ gb_ws := gb_wi 283 (by decide +kernel) rfl
theorem ffX10_12 : gb_ff mX10_init 12 10 0 := fun C T N h => by cases h; exact Or.inr ⟨rfl, rfl, gb_wi 442 (by decide +kernel) rfl⟩
theorem ffX10_21 : gb_ff mX10_init 21 10 1 := fun C T N h => by cases h; exact Or.inr ⟨rfl, rfl, gb_wi 443 (by decide +kernel) rfl⟩
theorem ffX10_27 : gb_ff mX10_init 27 10 2 := fun C T N h => by cases h; exact Or.inr ⟨rfl, rfl, gb_wi 444 (by decide +kernel) rfl⟩
theorem ffX10_33 : gb_ff mX10_init 33 10 4 := fun C T N h => by cases h; exact Or.inr ⟨rfl, rfl, gb_wi 446 (by decide +kernel) rfl⟩
theorem ffX10_41 : gb_ff mX10_init 41 10 3 := fun C T N h => by cases h; exact Or.inr ⟨rfl, rfl, gb_wi 445 (by decide +kernel) rfl⟩
theorem ffX10_48 : gb_ff mX10_init 48 10 5 := fun C T N h => by cases h; exact Or.inr ⟨rfl, rfl, gb_wi 447 (by decide +kernel) rfl⟩
theorem ffX10_55 : gb_ff mX10_init 55 10 7 := fun C T N h => by cases h; exact Or.inr ⟨rfl, rfl, gb_wi 449 (by decide +kernel) rfl⟩
theorem ffX10_64 : gb_ff mX10_init 64 10 6 := fun C T N h => by cases h; exact Or.inr ⟨rfl, rfl, gb_wi 448 (by decide +kernel) rfl⟩
theorem ffX10_71 : gb_ff mX10_init 71 10 8 := fun C T N h => by cases h; exact Or.inr ⟨rfl, rfl, gb_wi 450 (by decide +kernel) rfl⟩
theorem ffX10_75 : gb_ff mX10_init 75 10 9 := fun C T N h => by cases h; exact Or.inr ⟨rfl, rfl, gb_wi 451 (by decide +kernel) rfl⟩
theorem ffX10_81 : gb_ff mX10_init 81 10 10 := fun C T N h => by cases h; exact Or.inr ⟨rfl, rfl, gb_wi 452 (by decide +kernel) rfl⟩
theorem ffX10_85 : gb_ff mX10_init 85 10 11 := fun C T N h => by cases h; exact Or.inr ⟨rfl, rfl, gb_wi 453 (by decide +kernel) rfl⟩
theorem ffX10_89 : gb_ff mX10_init 89 10 12 := fun C T N h => by cases h; exact Or.inr ⟨rfl, rfl, gb_wi 454 (by decide +kernel) rfl⟩
theorem ffX0_9 : gb_ff mX0_init 9 0 0 := fun C T N h => by cases h; exact Or.inr ⟨rfl, rfl, gb_wi 379 (by decide +kernel) rfl⟩
theorem ffX0_15 : gb_ff mX0_init 15 0 1 := fun C T N h => by cases h; exact Or.inr ⟨rfl, rfl, gb_wi 381 (by decide +kernel) rfl⟩
theorem ffX0_19 : gb_ff mX0_init 19 0 2 := fun C T N h => by cases h; exact Or.inr ⟨rfl, rfl, gb_wi 382 (by decide +kernel) rfl⟩
theorem ffX0_23 : gb_ff mX0_init 23 0 3 := fun C T N h => by cases h; exact Or.inr ⟨rfl, rfl, gb_wi 383 (by decide +kernel) rfl⟩
theorem ffX0_26 : gb_ff mX0_init 26 0 4 := fun C T N h => by cases h; exact Or.inr ⟨rfl, rfl, gb_wi 384 (by decide +kernel) rfl⟩
theorem ffX0_29 : gb_ff mX0_init 29 0 5 := fun C T N h => by cases h; exact Or.inr ⟨rfl, rfl, gb_wi 385 (by decide +kernel) rfl⟩
theorem ffX1_9 : gb_ff mX1_init 9 1 0 := fun C T N h => by cases h; exact Or.inr ⟨rfl, rfl, gb_wi 261 (by decide +kernel) rfl⟩
theorem ffX1_15 : gb_ff mX1_init 15 1 1 := fun C T N h => by cases h; exact Or.inr ⟨rfl, rfl, gb_wi 262 (by decide +kernel) rfl⟩
theorem ffX1_18 : gb_ff mX1_init 18 1 2 := fun C T N h => by cases h; exact Or.inr ⟨rfl, rfl, gb_wi 263 (by decide +kernel) rfl⟩
theorem ffX1_21 : gb_ff mX1_init 21 1 3 := fun C T N h => by cases h; exact Or.inr ⟨rfl, rfl, gb_wi 264 (by decide +kernel) rfl⟩
theorem ffX2_11 : gb_ff mX2_init 11 2 0 := fun C T N h => by cases h; exact Or.inr ⟨rfl, rfl, gb_wi 215 (by decide +kernel) rfl⟩
theorem ffX3_9 : gb_ff mX3_init 9 3 0 := fun C T N h => by cases h; exact Or.inr ⟨rfl, rfl, gb_wi 290 (by decide +kernel) rfl⟩
theorem ffX3_15 : gb_ff mX3_init 15 3 1 := fun C T N h => by cases h; exact Or.inr ⟨rfl, rfl, gb_wi 291 (by decide +kernel) rfl⟩
theorem ffX3_18 : gb_ff mX3_init 18 3 2 := fun C T N h => by cases h; exact Or.inr ⟨rfl, rfl, gb_wi 292 (by decide +kernel) rfl⟩
theorem ffX3_21 : gb_ff mX3_init 21 3 4 := fun C T N h => by cases h; exact Or.inr ⟨rfl, rfl, gb_wi 295 (by decide +kernel) rfl⟩
theorem ffX3_24 : gb_ff mX3_init 24 3 6 := fun C T N h => by cases h; exact Or.inr ⟨rfl, rfl, gb_wi 299 (by decide +kernel) rfl⟩
theorem ffX3_27 : gb_ff mX3_init 27 3 7 := fun C T N h => by cases h; exact Or.inr ⟨rfl, rfl, gb_wi 300 (by decide +kernel) rfl⟩
theorem ffX4_9 : gb_ff mX4_init 9 4 0 := fun C T N h => by cases h; exact Or.inr ⟨rfl, rfl, gb_wi 324 (by decide +kernel) rfl⟩
theorem ffX4_15 : gb_ff mX4_init 15 4 1 := fun C T N h => by cases h; exact Or.inr ⟨rfl, rfl, gb_wi 326 (by decide +kernel) rfl⟩
theorem ffX4_18 : gb_ff mX4_init 18 4 2 := fun C T N h => by cases h; exact Or.inr ⟨rfl, rfl, gb_wi 328 (by decide +kernel) rfl⟩
theorem ffX4_21 : gb_ff mX4_init 21 4 3 := fun C T N h => by cases h; exact Or.inr ⟨rfl, rfl, gb_wi 330 (by decide +kernel) rfl⟩
theorem ffX4_24 : gb_ff mX4_init 24 4 4 := fun C T N h => by cases h; exact Or.inr ⟨rfl, rfl, gb_wi 332 (by decide +kernel) rfl⟩
theorem ffX6_11 : gb_ff mX6_init 11 6 1 := fun C T N h => by cases h; exact Or.inr ⟨rfl, rfl, gb_wi 405 (by decide +kernel) rfl⟩
theorem ffX6_19 : gb_ff mX6_init 19 6 2 := fun C T N h => by cases h; exact Or.inr ⟨rfl, rfl, gb_wi 406 (by decide +kernel) rfl⟩
theorem ffX6_23 : gb_ff mX6_init 23 6 3 := fun C T N h => by cases h; exact Or.inr ⟨rfl, rfl, gb_wi 407 (by decide +kernel) rfl⟩
theorem ffX6_27 : gb_ff mX6_init 27 6 4 := fun C T N h => by cases h; exact Or.inr ⟨rfl, rfl, gb_wi 408 (by decide +kernel) rfl⟩
theorem ffX6_30 : gb_ff mX6_init 30 6 5 := fun C T N h => by cases h; exact Or.inr ⟨rfl, rfl, gb_wi 409 (by decide +kernel) rfl⟩
theorem ffX6_33 : gb_ff mX6_init 33 6 6 := fun C T N h => by cases h; exact Or.inr ⟨rfl, rfl, gb_wi 410 (by decide +kernel) rfl⟩
theorem ffX6_43 : gb_ff mX6_init 43 6 8 := fun C T N h => by cases h; exact Or.inr ⟨rfl, rfl, gb_wi 414 (by decide +kernel) rfl⟩
theorem ffX6_47 : gb_ff mX6_init 47 6 9 := fun C T N h => by cases h; exact Or.inr ⟨rfl, rfl, gb_wi 416 (by decide +kernel) rfl⟩
theorem ffX6_50 : gb_ff mX6_init 50 6 0 := fun C T N h => by cases h; exact Or.inr ⟨rfl, rfl, gb_wi 404 (by decide +kernel) rfl⟩
theorem ffX7_14 : gb_ff mX7_init 14 7 1 := fun C T N h => by cases h; exact Or.inr ⟨rfl, rfl, gb_wi 229 (by decide +kernel) rfl⟩
theorem ffX7_20 : gb_ff mX7_init 20 7 0 := fun C T N h => by cases h; exact Or.inr ⟨rfl, rfl, gb_wi 228 (by decide +kernel) rfl⟩
theorem ffX9_9 : gb_ff mX9_init 9 9 0 := fun C T N h => by cases h; exact Or.inr ⟨rfl, rfl, gb_wi 139 (by decide +kernel) rfl⟩
theorem ffX11_7 : gb_ff mX11_init 7 11 2 := fun C T N h => by cases h; exact Or.inr ⟨rfl, rfl, gb_wi 1079 (by decide +kernel) rfl⟩
theorem ffX11_13 : gb_ff mX11_init 13 11 3 := fun C T N h => by cases h; exact Or.inr ⟨rfl, rfl, gb_wi 1080 (by decide +kernel) rfl⟩
theorem ffX11_16 : gb_ff mX11_init 16 11 4 := fun C T N h => by cases h; exact Or.inr ⟨rfl, rfl, gb_wi 1081 (by decide +kernel) rfl⟩
theorem ffX11_19 : gb_ff mX11_init 19 11 5 := fun C T N h => by cases h; exact Or.inr ⟨rfl, rfl, gb_wi 1082 (by decide +kernel) rfl⟩
theorem ffX11_22 : gb_ff mX11_init 22 11 7 := fun C T N h => by cases h; exact Or.inr ⟨rfl, rfl, gb_wi 1084 (by decide +kernel) rfl⟩
theorem ffX11_25 : gb_ff mX11_init 25 11 8 := fun C T N h => by cases h; exact Or.inr ⟨rfl, rfl, gb_wi 1085 (by decide +kernel) rfl⟩
theorem ffX11_29 : gb_ff mX11_init 29 11 11 := fun C T N h => by cases h; exact Or.inr ⟨rfl, rfl, gb_wi 1088 (by decide +kernel) rfl⟩
theorem ffX11_33 : gb_ff mX11_init 33 11 12 := fun C T N h => by cases h; exact Or.inr ⟨rfl, rfl, gb_wi 1089 (by decide +kernel) rfl⟩
theorem ffX11_36 : gb_ff mX11_init 36 11 13 := fun C T N h => by cases h; exact Or.inr ⟨rfl, rfl, gb_wi 1090 (by decide +kernel) rfl⟩
theorem ffX11_43 : gb_ff mX11_init 43 11 20 := fun C T N h => by cases h; exact Or.inr ⟨rfl, rfl, gb_wi 1097 (by decide +kernel) rfl⟩
theorem ffX11_47 : gb_ff mX11_init 47 11 21 := fun C T N h => by cases h; exact Or.inr ⟨rfl, rfl, gb_wi 1098 (by decide +kernel) rfl⟩
theorem ffX11_50 : gb_ff mX11_init 50 11 22 := fun C T N h => by cases h; exact Or.inr ⟨rfl, rfl, gb_wi 1099 (by decide +kernel) rfl⟩
theorem ffX11_53 : gb_ff mX11_init 53 11 26 := fun C T N h => by cases h; exact Or.inr ⟨rfl, rfl, gb_wi 1103 (by decide +kernel) rfl⟩
theorem ffX11_56 : gb_ff mX11_init 56 11 27 := fun C T N h => by cases h; exact Or.inr ⟨rfl, rfl, gb_wi 1104 (by decide +kernel) rfl⟩
theorem ffX11_59 : gb_ff mX11_init 59 11 28 := fun C T N h => by cases h; exact Or.inr ⟨rfl, rfl, gb_wi 1105 (by decide +kernel) rfl⟩
theorem ffX11_62 : gb_ff mX11_init 62 11 29 := fun C T N h => by cases h; exact Or.inr ⟨rfl, rfl, gb_wi 1106 (by decide +kernel) rfl⟩
theorem ffX11_65 : gb_ff mX11_init 65 11 31 := fun C T N h => by cases h; exact Or.inr ⟨rfl, rfl, gb_wi 1108 (by decide +kernel) rfl⟩
theorem ffX11_68 : gb_ff mX11_init 68 11 32 := fun C T N h => by cases h; exact Or.inr ⟨rfl, rfl, gb_wi 1109 (by decide +kernel) rfl⟩
theorem ffX11_71 : gb_ff mX11_init 71 11 33 := fun C T N h => by cases h; exact Or.inr ⟨rfl, rfl, gb_wi 1110 (by decide +kernel) rfl⟩
theorem ffX11_74 : gb_ff mX11_init 74 11 38 := fun C T N h => by cases h; exact Or.inr ⟨rfl, rfl, gb_wi 1115 (by decide +kernel) rfl⟩
theorem ffX11_77 : gb_ff mX11_init 77 11 39 := fun C T N h => by cases h; exact Or.inr ⟨rfl, rfl, gb_wi 1116 (by decide +kernel) rfl⟩
theorem ffX11_80 : gb_ff mX11_init 80 11 40 := fun C T N h => by cases h; exact Or.inr ⟨rfl, rfl, gb_wi 1117 (by decide +kernel) rfl⟩
theorem ffX11_83 : gb_ff mX11_init 83 11 41 := fun C T N h => by cases h; exact Or.inr ⟨rfl, rfl, gb_wi 1118 (by decide +kernel) rfl⟩
theorem ffX11_86 : gb_ff mX11_init 86 11 42 := fun C T N h => by cases h; exact Or.inr ⟨rfl, rfl, gb_wi 1119 (by decide +kernel) rfl⟩
theorem ffX11_89 : gb_ff mX11_init 89 11 43 := fun C T N h => by cases h; exact Or.inr ⟨rfl, rfl, gb_wi 1120 (by decide +kernel) rfl⟩
theorem ffX11_92 : gb_ff mX11_init 92 11 44 := fun C T N h => by cases h; exact Or.inr ⟨rfl, rfl, gb_wi 1121 (by decide +kernel) rfl⟩
theorem ffX11_95 : gb_ff mX11_init 95 11 45 := fun C T N h => by cases h; exact Or.inr ⟨rfl, rfl, gb_wi 1122 (by decide +kernel) rfl⟩
