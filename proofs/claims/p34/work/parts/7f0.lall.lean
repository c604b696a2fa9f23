/-! THE ROOM: all classes (written by wip/p34/gen_run.py) -/
theorem cq_263 : ClsOK 263 := cls_P (n := 29128) (q := 2) (by omega) (by omega) (by omega) fun i hi => by
  have e : i = 0 ∨ i = 1 := by omega
  rcases e with rfl | rfl
  · exact rq_263_0
  · exact rq_263_1
theorem cq_280 : ClsOK 280 := cls_P (n := 8323) (q := 7) (by omega) (by omega) (by omega) fun i hi => by
  have e : i = 0 ∨ i = 1 ∨ i = 2 ∨ i = 3 ∨ i = 4 ∨ i = 5 ∨ i = 6 := by omega
  rcases e with rfl | rfl | rfl | rfl | rfl | rfl | rfl
  · exact rq_280_0
  · exact rq_280_1
  · exact rq_280_2
  · exact rq_280_3
  · exact rq_280_4
  · exact rq_280_5
  · exact rq_280_6
theorem cq_336 : ClsOK 336 := cls_P (n := 5826) (q := 10) (by omega) (by omega) (by omega) fun i hi => by
  have e : i = 0 ∨ i = 1 ∨ i = 2 ∨ i = 3 ∨ i = 4 ∨ i = 5 ∨ i = 6 ∨ i = 7 ∨ i = 8 ∨ i = 9 := by omega
  rcases e with rfl | rfl | rfl | rfl | rfl | rfl | rfl | rfl | rfl | rfl
  · exact rq_336_0
  · exact rq_336_1
  · exact rq_336_2
  · exact rq_336_3
  · exact rq_336_4
  · exact rq_336_5
  · exact rq_336_6
  · exact rq_336_7
  · exact rq_336_8
  · exact rq_336_9
theorem cq_342 : ClsOK 342 := cls_P (n := 4855) (q := 12) (by omega) (by omega) (by omega) fun i hi => by
  have e : i = 0 ∨ i = 1 ∨ i = 2 ∨ i = 3 ∨ i = 4 ∨ i = 5 ∨ i = 6 ∨ i = 7 ∨ i = 8 ∨ i = 9 ∨ i = 10 ∨ i = 11 := by omega
  rcases e with rfl | rfl | rfl | rfl | rfl | rfl | rfl | rfl | rfl | rfl | rfl | rfl
  · exact rq_342_0
  · exact rq_342_1
  · exact rq_342_2
  · exact rq_342_3
  · exact rq_342_4
  · exact rq_342_5
  · exact rq_342_6
  · exact rq_342_7
  · exact rq_342_8
  · exact rq_342_9
  · exact rq_342_10
  · exact rq_342_11
theorem cq_383 : ClsOK 383 := cls_P (n := 11651) (q := 5) (by omega) (by omega) (by omega) fun i hi => by
  have e : i = 0 ∨ i = 1 ∨ i = 2 ∨ i = 3 ∨ i = 4 := by omega
  rcases e with rfl | rfl | rfl | rfl | rfl
  · exact rq_383_0
  · exact rq_383_1
  · exact rq_383_2
  · exact rq_383_3
  · exact rq_383_4
theorem cq_407 : ClsOK 407 := cls_P (n := 29128) (q := 2) (by omega) (by omega) (by omega) fun i hi => by
  have e : i = 0 ∨ i = 1 := by omega
  rcases e with rfl | rfl
  · exact rq_407_0
  · exact rq_407_1
theorem cq_420 : ClsOK 420 := cls_P (n := 11651) (q := 5) (by omega) (by omega) (by omega) fun i hi => by
  have e : i = 0 ∨ i = 1 ∨ i = 2 ∨ i = 3 ∨ i = 4 := by omega
  rcases e with rfl | rfl | rfl | rfl | rfl
  · exact rq_420_0
  · exact rq_420_1
  · exact rq_420_2
  · exact rq_420_3
  · exact rq_420_4
theorem cq_456 : ClsOK 456 := cls_P (n := 29128) (q := 2) (by omega) (by omega) (by omega) fun i hi => by
  have e : i = 0 ∨ i = 1 := by omega
  rcases e with rfl | rfl
  · exact rq_456_0
  · exact rq_456_1
theorem cq_458 : ClsOK 458 := cls_P (n := 1295) (q := 45) (by omega) (by omega) (by omega) fun i hi => by
  have e : i = 0 ∨ i = 1 ∨ i = 2 ∨ i = 3 ∨ i = 4 ∨ i = 5 ∨ i = 6 ∨ i = 7 ∨ i = 8 ∨ i = 9 ∨ i = 10 ∨ i = 11 ∨ i = 12 ∨ i = 13 ∨ i = 14 ∨ i = 15 ∨ i = 16 ∨ i = 17 ∨ i = 18 ∨ i = 19 ∨ i = 20 ∨ i = 21 ∨ i = 22 ∨ i = 23 ∨ i = 24 ∨ i = 25 ∨ i = 26 ∨ i = 27 ∨ i = 28 ∨ i = 29 ∨ i = 30 ∨ i = 31 ∨ i = 32 ∨ i = 33 ∨ i = 34 ∨ i = 35 ∨ i = 36 ∨ i = 37 ∨ i = 38 ∨ i = 39 ∨ i = 40 ∨ i = 41 ∨ i = 42 ∨ i = 43 ∨ i = 44 := by omega
  rcases e with rfl | rfl | rfl | rfl | rfl | rfl | rfl | rfl | rfl | rfl | rfl | rfl | rfl | rfl | rfl | rfl | rfl | rfl | rfl | rfl | rfl | rfl | rfl | rfl | rfl | rfl | rfl | rfl | rfl | rfl | rfl | rfl | rfl | rfl | rfl | rfl | rfl | rfl | rfl | rfl | rfl | rfl | rfl | rfl | rfl
  · exact rq_458_0
  · exact rq_458_1
  · exact rq_458_2
  · exact rq_458_3
  · exact rq_458_4
  · exact rq_458_5
  · exact rq_458_6
  · exact rq_458_7
  · exact rq_458_8
  · exact rq_458_9
  · exact rq_458_10
  · exact rq_458_11
  · exact rq_458_12
  · exact rq_458_13
  · exact rq_458_14
  · exact rq_458_15
  · exact rq_458_16
  · exact rq_458_17
  · exact rq_458_18
  · exact rq_458_19
  · exact rq_458_20
  · exact rq_458_21
  · exact rq_458_22
  · exact rq_458_23
  · exact rq_458_24
  · exact rq_458_25
  · exact rq_458_26
  · exact rq_458_27
  · exact rq_458_28
  · exact rq_458_29
  · exact rq_458_30
  · exact rq_458_31
  · exact rq_458_32
  · exact rq_458_33
  · exact rq_458_34
  · exact rq_458_35
  · exact rq_458_36
  · exact rq_458_37
  · exact rq_458_38
  · exact rq_458_39
  · exact rq_458_40
  · exact rq_458_41
  · exact rq_458_42
  · exact rq_458_43
  · exact rq_458_44
theorem cq_462 : ClsOK 462 := cls_P (n := 19419) (q := 3) (by omega) (by omega) (by omega) fun i hi => by
  have e : i = 0 ∨ i = 1 ∨ i = 2 := by omega
  rcases e with rfl | rfl | rfl
  · exact rq_462_0
  · exact rq_462_1
  · exact rq_462_2
theorem cq_469 : ClsOK 469 := cls_P (n := 19419) (q := 3) (by omega) (by omega) (by omega) fun i hi => by
  have e : i = 0 ∨ i = 1 ∨ i = 2 := by omega
  rcases e with rfl | rfl | rfl
  · exact rq_469_0
  · exact rq_469_1
  · exact rq_469_2
theorem cq_746 : ClsOK 746 := cls_P (n := 19419) (q := 3) (by omega) (by omega) (by omega) fun i hi => by
  have e : i = 0 ∨ i = 1 ∨ i = 2 := by omega
  rcases e with rfl | rfl | rfl
  · exact rq_746_0
  · exact rq_746_1
  · exact rq_746_2
theorem cq_770 : ClsOK 770 := cls_P (n := 19419) (q := 3) (by omega) (by omega) (by omega) fun i hi => by
  have e : i = 0 ∨ i = 1 ∨ i = 2 := by omega
  rcases e with rfl | rfl | rfl
  · exact rq_770_0
  · exact rq_770_1
  · exact rq_770_2
theorem cq_787 : ClsOK 787 := cls_P (n := 3884) (q := 15) (by omega) (by omega) (by omega) fun i hi => by
  have e : i = 0 ∨ i = 1 ∨ i = 2 ∨ i = 3 ∨ i = 4 ∨ i = 5 ∨ i = 6 ∨ i = 7 ∨ i = 8 ∨ i = 9 ∨ i = 10 ∨ i = 11 ∨ i = 12 ∨ i = 13 ∨ i = 14 := by omega
  rcases e with rfl | rfl | rfl | rfl | rfl | rfl | rfl | rfl | rfl | rfl | rfl | rfl | rfl | rfl | rfl
  · exact rq_787_0
  · exact rq_787_1
  · exact rq_787_2
  · exact rq_787_3
  · exact rq_787_4
  · exact rq_787_5
  · exact rq_787_6
  · exact rq_787_7
  · exact rq_787_8
  · exact rq_787_9
  · exact rq_787_10
  · exact rq_787_11
  · exact rq_787_12
  · exact rq_787_13
  · exact rq_787_14
theorem cq_793 : ClsOK 793 := cls_P (n := 7282) (q := 8) (by omega) (by omega) (by omega) fun i hi => by
  have e : i = 0 ∨ i = 1 ∨ i = 2 ∨ i = 3 ∨ i = 4 ∨ i = 5 ∨ i = 6 ∨ i = 7 := by omega
  rcases e with rfl | rfl | rfl | rfl | rfl | rfl | rfl | rfl
  · exact rq_793_0
  · exact rq_793_1
  · exact rq_793_2
  · exact rq_793_3
  · exact rq_793_4
  · exact rq_793_5
  · exact rq_793_6
  · exact rq_793_7
theorem cq_946 : ClsOK 946 := cls_P (n := 14564) (q := 4) (by omega) (by omega) (by omega) fun i hi => by
  have e : i = 0 ∨ i = 1 ∨ i = 2 ∨ i = 3 := by omega
  rcases e with rfl | rfl | rfl | rfl
  · exact rq_946_0
  · exact rq_946_1
  · exact rq_946_2
  · exact rq_946_3
theorem cv_0 : ∀ c, 0 ≤ c → c < 11 → ClsOK c := fun c h1 h2 => cls_B rb_0 c h1 h2 (by omega)
theorem cv_1 : ∀ c, 11 ≤ c → c < 32 → ClsOK c := fun c h1 h2 => cls_B rb_1 c h1 h2 (by omega)
theorem cv_2 : ∀ c, 32 ≤ c → c < 43 → ClsOK c := fun c h1 h2 => cls_B rb_2 c h1 h2 (by omega)
theorem cv_3 : ∀ c, 43 ≤ c → c < 60 → ClsOK c := fun c h1 h2 => cls_B rb_3 c h1 h2 (by omega)
theorem cv_4 : ∀ c, 60 ≤ c → c < 80 → ClsOK c := fun c h1 h2 => cls_B rb_4 c h1 h2 (by omega)
theorem cv_5 : ∀ c, 80 ≤ c → c < 88 → ClsOK c := fun c h1 h2 => cls_B rb_5 c h1 h2 (by omega)
theorem cv_6 : ∀ c, 88 ≤ c → c < 101 → ClsOK c := fun c h1 h2 => cls_B rb_6 c h1 h2 (by omega)
theorem cv_7 : ∀ c, 101 ≤ c → c < 107 → ClsOK c := fun c h1 h2 => cls_B rb_7 c h1 h2 (by omega)
theorem cv_8 : ∀ c, 107 ≤ c → c < 119 → ClsOK c := fun c h1 h2 => cls_B rb_8 c h1 h2 (by omega)
theorem cv_9 : ∀ c, 119 ≤ c → c < 133 → ClsOK c := fun c h1 h2 => cls_B rb_9 c h1 h2 (by omega)
theorem cv_10 : ∀ c, 133 ≤ c → c < 147 → ClsOK c := fun c h1 h2 => cls_B rb_10 c h1 h2 (by omega)
theorem cv_11 : ∀ c, 147 ≤ c → c < 170 → ClsOK c := fun c h1 h2 => cls_B rb_11 c h1 h2 (by omega)
theorem cv_12 : ∀ c, 170 ≤ c → c < 180 → ClsOK c := fun c h1 h2 => cls_B rb_12 c h1 h2 (by omega)
theorem cv_13 : ∀ c, 180 ≤ c → c < 200 → ClsOK c := fun c h1 h2 => cls_B rb_13 c h1 h2 (by omega)
theorem cv_14 : ∀ c, 200 ≤ c → c < 214 → ClsOK c := fun c h1 h2 => cls_B rb_14 c h1 h2 (by omega)
theorem cv_15 : ∀ c, 214 ≤ c → c < 234 → ClsOK c := fun c h1 h2 => cls_B rb_15 c h1 h2 (by omega)
theorem cv_16 : ∀ c, 234 ≤ c → c < 252 → ClsOK c := fun c h1 h2 => cls_B rb_16 c h1 h2 (by omega)
theorem cv_17 : ∀ c, 252 ≤ c → c < 257 → ClsOK c := fun c h1 h2 => cls_B rb_17 c h1 h2 (by omega)
theorem cv_18 : ∀ c, 257 ≤ c → c < 259 → ClsOK c := fun c h1 h2 => cls_B rb_18 c h1 h2 (by omega)
theorem cv_19 : ∀ c, 259 ≤ c → c < 261 → ClsOK c := fun c h1 h2 => cls_B rb_19 c h1 h2 (by omega)
theorem cv_20 : ∀ c, 261 ≤ c → c < 263 → ClsOK c := fun c h1 h2 => cls_B rb_20 c h1 h2 (by omega)
theorem cv_21 : ∀ c, 263 ≤ c → c < 264 → ClsOK c := fun c h1 h2 => by
  have e : c = 263 := by omega
  rw [e]
  exact cq_263
theorem cv_22 : ∀ c, 264 ≤ c → c < 267 → ClsOK c := fun c h1 h2 => cls_B rb_22 c h1 h2 (by omega)
theorem cv_23 : ∀ c, 267 ≤ c → c < 268 → ClsOK c := fun c h1 h2 => cls_B rb_23 c h1 h2 (by omega)
theorem cv_24 : ∀ c, 268 ≤ c → c < 271 → ClsOK c := fun c h1 h2 => cls_B rb_24 c h1 h2 (by omega)
theorem cv_25 : ∀ c, 271 ≤ c → c < 275 → ClsOK c := fun c h1 h2 => cls_B rb_25 c h1 h2 (by omega)
theorem cv_26 : ∀ c, 275 ≤ c → c < 277 → ClsOK c := fun c h1 h2 => cls_B rb_26 c h1 h2 (by omega)
theorem cv_27 : ∀ c, 277 ≤ c → c < 280 → ClsOK c := fun c h1 h2 => cls_B rb_27 c h1 h2 (by omega)
theorem cv_28 : ∀ c, 280 ≤ c → c < 281 → ClsOK c := fun c h1 h2 => by
  have e : c = 280 := by omega
  rw [e]
  exact cq_280
theorem cv_29 : ∀ c, 281 ≤ c → c < 286 → ClsOK c := fun c h1 h2 => cls_B rb_29 c h1 h2 (by omega)
theorem cv_30 : ∀ c, 286 ≤ c → c < 290 → ClsOK c := fun c h1 h2 => cls_B rb_30 c h1 h2 (by omega)
theorem cv_31 : ∀ c, 290 ≤ c → c < 291 → ClsOK c := fun c h1 h2 => cls_B rb_31 c h1 h2 (by omega)
theorem cv_32 : ∀ c, 291 ≤ c → c < 292 → ClsOK c := fun c h1 h2 => cls_B rb_32 c h1 h2 (by omega)
theorem cv_33 : ∀ c, 292 ≤ c → c < 297 → ClsOK c := fun c h1 h2 => cls_B rb_33 c h1 h2 (by omega)
theorem cv_34 : ∀ c, 297 ≤ c → c < 300 → ClsOK c := fun c h1 h2 => cls_B rb_34 c h1 h2 (by omega)
theorem cv_35 : ∀ c, 300 ≤ c → c < 303 → ClsOK c := fun c h1 h2 => cls_B rb_35 c h1 h2 (by omega)
theorem cv_36 : ∀ c, 303 ≤ c → c < 304 → ClsOK c := fun c h1 h2 => cls_B rb_36 c h1 h2 (by omega)
theorem cv_37 : ∀ c, 304 ≤ c → c < 305 → ClsOK c := fun c h1 h2 => cls_B rb_37 c h1 h2 (by omega)
theorem cv_38 : ∀ c, 305 ≤ c → c < 308 → ClsOK c := fun c h1 h2 => cls_B rb_38 c h1 h2 (by omega)
theorem cv_39 : ∀ c, 308 ≤ c → c < 312 → ClsOK c := fun c h1 h2 => cls_B rb_39 c h1 h2 (by omega)
theorem cv_40 : ∀ c, 312 ≤ c → c < 313 → ClsOK c := fun c h1 h2 => cls_B rb_40 c h1 h2 (by omega)
theorem cv_41 : ∀ c, 313 ≤ c → c < 316 → ClsOK c := fun c h1 h2 => cls_B rb_41 c h1 h2 (by omega)
theorem cv_42 : ∀ c, 316 ≤ c → c < 317 → ClsOK c := fun c h1 h2 => cls_B rb_42 c h1 h2 (by omega)
theorem cv_43 : ∀ c, 317 ≤ c → c < 318 → ClsOK c := fun c h1 h2 => cls_B rb_43 c h1 h2 (by omega)
theorem cv_44 : ∀ c, 318 ≤ c → c < 323 → ClsOK c := fun c h1 h2 => cls_B rb_44 c h1 h2 (by omega)
theorem cv_45 : ∀ c, 323 ≤ c → c < 325 → ClsOK c := fun c h1 h2 => cls_B rb_45 c h1 h2 (by omega)
theorem cv_46 : ∀ c, 325 ≤ c → c < 328 → ClsOK c := fun c h1 h2 => cls_B rb_46 c h1 h2 (by omega)
theorem cv_47 : ∀ c, 328 ≤ c → c < 331 → ClsOK c := fun c h1 h2 => cls_B rb_47 c h1 h2 (by omega)
theorem cv_48 : ∀ c, 331 ≤ c → c < 335 → ClsOK c := fun c h1 h2 => cls_B rb_48 c h1 h2 (by omega)
theorem cv_49 : ∀ c, 335 ≤ c → c < 336 → ClsOK c := fun c h1 h2 => cls_B rb_49 c h1 h2 (by omega)
theorem cv_50 : ∀ c, 336 ≤ c → c < 337 → ClsOK c := fun c h1 h2 => by
  have e : c = 336 := by omega
  rw [e]
  exact cq_336
theorem cv_51 : ∀ c, 337 ≤ c → c < 338 → ClsOK c := fun c h1 h2 => cls_B rb_51 c h1 h2 (by omega)
theorem cv_52 : ∀ c, 338 ≤ c → c < 340 → ClsOK c := fun c h1 h2 => cls_B rb_52 c h1 h2 (by omega)
theorem cv_53 : ∀ c, 340 ≤ c → c < 341 → ClsOK c := fun c h1 h2 => cls_B rb_53 c h1 h2 (by omega)
theorem cv_54 : ∀ c, 341 ≤ c → c < 342 → ClsOK c := fun c h1 h2 => cls_B rb_54 c h1 h2 (by omega)
theorem cv_55 : ∀ c, 342 ≤ c → c < 343 → ClsOK c := fun c h1 h2 => by
  have e : c = 342 := by omega
  rw [e]
  exact cq_342
theorem cv_56 : ∀ c, 343 ≤ c → c < 346 → ClsOK c := fun c h1 h2 => cls_B rb_56 c h1 h2 (by omega)
theorem cv_57 : ∀ c, 346 ≤ c → c < 349 → ClsOK c := fun c h1 h2 => cls_B rb_57 c h1 h2 (by omega)
theorem cv_58 : ∀ c, 349 ≤ c → c < 352 → ClsOK c := fun c h1 h2 => cls_B rb_58 c h1 h2 (by omega)
theorem cv_59 : ∀ c, 352 ≤ c → c < 353 → ClsOK c := fun c h1 h2 => cls_B rb_59 c h1 h2 (by omega)
theorem cv_60 : ∀ c, 353 ≤ c → c < 359 → ClsOK c := fun c h1 h2 => cls_B rb_60 c h1 h2 (by omega)
theorem cv_61 : ∀ c, 359 ≤ c → c < 362 → ClsOK c := fun c h1 h2 => cls_B rb_61 c h1 h2 (by omega)
theorem cv_62 : ∀ c, 362 ≤ c → c < 363 → ClsOK c := fun c h1 h2 => cls_B rb_62 c h1 h2 (by omega)
theorem cv_63 : ∀ c, 363 ≤ c → c < 367 → ClsOK c := fun c h1 h2 => cls_B rb_63 c h1 h2 (by omega)
theorem cv_64 : ∀ c, 367 ≤ c → c < 369 → ClsOK c := fun c h1 h2 => cls_B rb_64 c h1 h2 (by omega)
theorem cv_65 : ∀ c, 369 ≤ c → c < 373 → ClsOK c := fun c h1 h2 => cls_B rb_65 c h1 h2 (by omega)
theorem cv_66 : ∀ c, 373 ≤ c → c < 374 → ClsOK c := fun c h1 h2 => cls_B rb_66 c h1 h2 (by omega)
theorem cv_67 : ∀ c, 374 ≤ c → c < 376 → ClsOK c := fun c h1 h2 => cls_B rb_67 c h1 h2 (by omega)
theorem cv_68 : ∀ c, 376 ≤ c → c < 380 → ClsOK c := fun c h1 h2 => cls_B rb_68 c h1 h2 (by omega)
theorem cv_69 : ∀ c, 380 ≤ c → c < 383 → ClsOK c := fun c h1 h2 => cls_B rb_69 c h1 h2 (by omega)
theorem cv_70 : ∀ c, 383 ≤ c → c < 384 → ClsOK c := fun c h1 h2 => by
  have e : c = 383 := by omega
  rw [e]
  exact cq_383
theorem cv_71 : ∀ c, 384 ≤ c → c < 386 → ClsOK c := fun c h1 h2 => cls_B rb_71 c h1 h2 (by omega)
theorem cv_72 : ∀ c, 386 ≤ c → c < 389 → ClsOK c := fun c h1 h2 => cls_B rb_72 c h1 h2 (by omega)
theorem cv_73 : ∀ c, 389 ≤ c → c < 390 → ClsOK c := fun c h1 h2 => cls_B rb_73 c h1 h2 (by omega)
theorem cv_74 : ∀ c, 390 ≤ c → c < 392 → ClsOK c := fun c h1 h2 => cls_B rb_74 c h1 h2 (by omega)
theorem cv_75 : ∀ c, 392 ≤ c → c < 394 → ClsOK c := fun c h1 h2 => cls_B rb_75 c h1 h2 (by omega)
theorem cv_76 : ∀ c, 394 ≤ c → c < 400 → ClsOK c := fun c h1 h2 => cls_B rb_76 c h1 h2 (by omega)
theorem cv_77 : ∀ c, 400 ≤ c → c < 401 → ClsOK c := fun c h1 h2 => cls_B rb_77 c h1 h2 (by omega)
theorem cv_78 : ∀ c, 401 ≤ c → c < 403 → ClsOK c := fun c h1 h2 => cls_B rb_78 c h1 h2 (by omega)
theorem cv_79 : ∀ c, 403 ≤ c → c < 405 → ClsOK c := fun c h1 h2 => cls_B rb_79 c h1 h2 (by omega)
theorem cv_80 : ∀ c, 405 ≤ c → c < 406 → ClsOK c := fun c h1 h2 => cls_B rb_80 c h1 h2 (by omega)
theorem cv_81 : ∀ c, 406 ≤ c → c < 407 → ClsOK c := fun c h1 h2 => cls_B rb_81 c h1 h2 (by omega)
theorem cv_82 : ∀ c, 407 ≤ c → c < 408 → ClsOK c := fun c h1 h2 => by
  have e : c = 407 := by omega
  rw [e]
  exact cq_407
theorem cv_83 : ∀ c, 408 ≤ c → c < 413 → ClsOK c := fun c h1 h2 => cls_B rb_83 c h1 h2 (by omega)
theorem cv_84 : ∀ c, 413 ≤ c → c < 417 → ClsOK c := fun c h1 h2 => cls_B rb_84 c h1 h2 (by omega)
theorem cv_85 : ∀ c, 417 ≤ c → c < 419 → ClsOK c := fun c h1 h2 => cls_B rb_85 c h1 h2 (by omega)
theorem cv_86 : ∀ c, 419 ≤ c → c < 420 → ClsOK c := fun c h1 h2 => cls_B rb_86 c h1 h2 (by omega)
theorem cv_87 : ∀ c, 420 ≤ c → c < 421 → ClsOK c := fun c h1 h2 => by
  have e : c = 420 := by omega
  rw [e]
  exact cq_420
theorem cv_88 : ∀ c, 421 ≤ c → c < 423 → ClsOK c := fun c h1 h2 => cls_B rb_88 c h1 h2 (by omega)
theorem cv_89 : ∀ c, 423 ≤ c → c < 426 → ClsOK c := fun c h1 h2 => cls_B rb_89 c h1 h2 (by omega)
theorem cv_90 : ∀ c, 426 ≤ c → c < 428 → ClsOK c := fun c h1 h2 => cls_B rb_90 c h1 h2 (by omega)
theorem cv_91 : ∀ c, 428 ≤ c → c < 432 → ClsOK c := fun c h1 h2 => cls_B rb_91 c h1 h2 (by omega)
theorem cv_92 : ∀ c, 432 ≤ c → c < 435 → ClsOK c := fun c h1 h2 => cls_B rb_92 c h1 h2 (by omega)
theorem cv_93 : ∀ c, 435 ≤ c → c < 436 → ClsOK c := fun c h1 h2 => cls_B rb_93 c h1 h2 (by omega)
theorem cv_94 : ∀ c, 436 ≤ c → c < 437 → ClsOK c := fun c h1 h2 => cls_B rb_94 c h1 h2 (by omega)
theorem cv_95 : ∀ c, 437 ≤ c → c < 442 → ClsOK c := fun c h1 h2 => cls_B rb_95 c h1 h2 (by omega)
theorem cv_96 : ∀ c, 442 ≤ c → c < 445 → ClsOK c := fun c h1 h2 => cls_B rb_96 c h1 h2 (by omega)
theorem cv_97 : ∀ c, 445 ≤ c → c < 447 → ClsOK c := fun c h1 h2 => cls_B rb_97 c h1 h2 (by omega)
theorem cv_98 : ∀ c, 447 ≤ c → c < 449 → ClsOK c := fun c h1 h2 => cls_B rb_98 c h1 h2 (by omega)
theorem cv_99 : ∀ c, 449 ≤ c → c < 450 → ClsOK c := fun c h1 h2 => cls_B rb_99 c h1 h2 (by omega)
theorem cv_100 : ∀ c, 450 ≤ c → c < 451 → ClsOK c := fun c h1 h2 => cls_B rb_100 c h1 h2 (by omega)
theorem cv_101 : ∀ c, 451 ≤ c → c < 452 → ClsOK c := fun c h1 h2 => cls_B rb_101 c h1 h2 (by omega)
theorem cv_102 : ∀ c, 452 ≤ c → c < 455 → ClsOK c := fun c h1 h2 => cls_B rb_102 c h1 h2 (by omega)
theorem cv_103 : ∀ c, 455 ≤ c → c < 456 → ClsOK c := fun c h1 h2 => cls_B rb_103 c h1 h2 (by omega)
theorem cv_104 : ∀ c, 456 ≤ c → c < 457 → ClsOK c := fun c h1 h2 => by
  have e : c = 456 := by omega
  rw [e]
  exact cq_456
theorem cv_105 : ∀ c, 457 ≤ c → c < 458 → ClsOK c := fun c h1 h2 => cls_B rb_105 c h1 h2 (by omega)
theorem cv_106 : ∀ c, 458 ≤ c → c < 459 → ClsOK c := fun c h1 h2 => by
  have e : c = 458 := by omega
  rw [e]
  exact cq_458
theorem cv_107 : ∀ c, 459 ≤ c → c < 462 → ClsOK c := fun c h1 h2 => cls_B rb_107 c h1 h2 (by omega)
theorem cv_108 : ∀ c, 462 ≤ c → c < 463 → ClsOK c := fun c h1 h2 => by
  have e : c = 462 := by omega
  rw [e]
  exact cq_462
theorem cv_109 : ∀ c, 463 ≤ c → c < 469 → ClsOK c := fun c h1 h2 => cls_B rb_109 c h1 h2 (by omega)
theorem cv_110 : ∀ c, 469 ≤ c → c < 470 → ClsOK c := fun c h1 h2 => by
  have e : c = 469 := by omega
  rw [e]
  exact cq_469
theorem cv_111 : ∀ c, 470 ≤ c → c < 477 → ClsOK c := fun c h1 h2 => cls_B rb_111 c h1 h2 (by omega)
theorem cv_112 : ∀ c, 477 ≤ c → c < 480 → ClsOK c := fun c h1 h2 => cls_B rb_112 c h1 h2 (by omega)
theorem cv_113 : ∀ c, 480 ≤ c → c < 482 → ClsOK c := fun c h1 h2 => cls_B rb_113 c h1 h2 (by omega)
theorem cv_114 : ∀ c, 482 ≤ c → c < 483 → ClsOK c := fun c h1 h2 => cls_B rb_114 c h1 h2 (by omega)
theorem cv_115 : ∀ c, 483 ≤ c → c < 487 → ClsOK c := fun c h1 h2 => cls_B rb_115 c h1 h2 (by omega)
theorem cv_116 : ∀ c, 487 ≤ c → c < 489 → ClsOK c := fun c h1 h2 => cls_B rb_116 c h1 h2 (by omega)
theorem cv_117 : ∀ c, 489 ≤ c → c < 492 → ClsOK c := fun c h1 h2 => cls_B rb_117 c h1 h2 (by omega)
theorem cv_118 : ∀ c, 492 ≤ c → c < 494 → ClsOK c := fun c h1 h2 => cls_B rb_118 c h1 h2 (by omega)
theorem cv_119 : ∀ c, 494 ≤ c → c < 496 → ClsOK c := fun c h1 h2 => cls_B rb_119 c h1 h2 (by omega)
theorem cv_120 : ∀ c, 496 ≤ c → c < 498 → ClsOK c := fun c h1 h2 => cls_B rb_120 c h1 h2 (by omega)
theorem cv_121 : ∀ c, 498 ≤ c → c < 501 → ClsOK c := fun c h1 h2 => cls_B rb_121 c h1 h2 (by omega)
theorem cv_122 : ∀ c, 501 ≤ c → c < 506 → ClsOK c := fun c h1 h2 => cls_B rb_122 c h1 h2 (by omega)
theorem cv_123 : ∀ c, 506 ≤ c → c < 507 → ClsOK c := fun c h1 h2 => cls_B rb_123 c h1 h2 (by omega)
theorem cv_124 : ∀ c, 507 ≤ c → c < 508 → ClsOK c := fun c h1 h2 => cls_B rb_124 c h1 h2 (by omega)
theorem cv_125 : ∀ c, 508 ≤ c → c < 510 → ClsOK c := fun c h1 h2 => cls_B rb_125 c h1 h2 (by omega)
theorem cv_126 : ∀ c, 510 ≤ c → c < 516 → ClsOK c := fun c h1 h2 => cls_B rb_126 c h1 h2 (by omega)
theorem cv_127 : ∀ c, 516 ≤ c → c < 527 → ClsOK c := fun c h1 h2 => cls_B rb_127 c h1 h2 (by omega)
theorem cv_128 : ∀ c, 527 ≤ c → c < 539 → ClsOK c := fun c h1 h2 => cls_B rb_128 c h1 h2 (by omega)
theorem cv_129 : ∀ c, 539 ≤ c → c < 553 → ClsOK c := fun c h1 h2 => cls_B rb_129 c h1 h2 (by omega)
theorem cv_130 : ∀ c, 553 ≤ c → c < 571 → ClsOK c := fun c h1 h2 => cls_B rb_130 c h1 h2 (by omega)
theorem cv_131 : ∀ c, 571 ≤ c → c < 584 → ClsOK c := fun c h1 h2 => cls_B rb_131 c h1 h2 (by omega)
theorem cv_132 : ∀ c, 584 ≤ c → c < 603 → ClsOK c := fun c h1 h2 => cls_B rb_132 c h1 h2 (by omega)
theorem cv_133 : ∀ c, 603 ≤ c → c < 621 → ClsOK c := fun c h1 h2 => cls_B rb_133 c h1 h2 (by omega)
theorem cv_134 : ∀ c, 621 ≤ c → c < 631 → ClsOK c := fun c h1 h2 => cls_B rb_134 c h1 h2 (by omega)
theorem cv_135 : ∀ c, 631 ≤ c → c < 644 → ClsOK c := fun c h1 h2 => cls_B rb_135 c h1 h2 (by omega)
theorem cv_136 : ∀ c, 644 ≤ c → c < 659 → ClsOK c := fun c h1 h2 => cls_B rb_136 c h1 h2 (by omega)
theorem cv_137 : ∀ c, 659 ≤ c → c < 669 → ClsOK c := fun c h1 h2 => cls_B rb_137 c h1 h2 (by omega)
theorem cv_138 : ∀ c, 669 ≤ c → c < 686 → ClsOK c := fun c h1 h2 => cls_B rb_138 c h1 h2 (by omega)
theorem cv_139 : ∀ c, 686 ≤ c → c < 699 → ClsOK c := fun c h1 h2 => cls_B rb_139 c h1 h2 (by omega)
theorem cv_140 : ∀ c, 699 ≤ c → c < 711 → ClsOK c := fun c h1 h2 => cls_B rb_140 c h1 h2 (by omega)
theorem cv_141 : ∀ c, 711 ≤ c → c < 728 → ClsOK c := fun c h1 h2 => cls_B rb_141 c h1 h2 (by omega)
theorem cv_142 : ∀ c, 728 ≤ c → c < 741 → ClsOK c := fun c h1 h2 => cls_B rb_142 c h1 h2 (by omega)
theorem cv_143 : ∀ c, 741 ≤ c → c < 746 → ClsOK c := fun c h1 h2 => cls_B rb_143 c h1 h2 (by omega)
theorem cv_144 : ∀ c, 746 ≤ c → c < 747 → ClsOK c := fun c h1 h2 => by
  have e : c = 746 := by omega
  rw [e]
  exact cq_746
theorem cv_145 : ∀ c, 747 ≤ c → c < 768 → ClsOK c := fun c h1 h2 => cls_B rb_145 c h1 h2 (by omega)
theorem cv_146 : ∀ c, 768 ≤ c → c < 770 → ClsOK c := fun c h1 h2 => cls_B rb_146 c h1 h2 (by omega)
theorem cv_147 : ∀ c, 770 ≤ c → c < 771 → ClsOK c := fun c h1 h2 => by
  have e : c = 770 := by omega
  rw [e]
  exact cq_770
theorem cv_148 : ∀ c, 771 ≤ c → c < 774 → ClsOK c := fun c h1 h2 => cls_B rb_148 c h1 h2 (by omega)
theorem cv_149 : ∀ c, 774 ≤ c → c < 775 → ClsOK c := fun c h1 h2 => cls_B rb_149 c h1 h2 (by omega)
theorem cv_150 : ∀ c, 775 ≤ c → c < 776 → ClsOK c := fun c h1 h2 => cls_B rb_150 c h1 h2 (by omega)
theorem cv_151 : ∀ c, 776 ≤ c → c < 779 → ClsOK c := fun c h1 h2 => cls_B rb_151 c h1 h2 (by omega)
theorem cv_152 : ∀ c, 779 ≤ c → c < 780 → ClsOK c := fun c h1 h2 => cls_B rb_152 c h1 h2 (by omega)
theorem cv_153 : ∀ c, 780 ≤ c → c < 783 → ClsOK c := fun c h1 h2 => cls_B rb_153 c h1 h2 (by omega)
theorem cv_154 : ∀ c, 783 ≤ c → c < 787 → ClsOK c := fun c h1 h2 => cls_B rb_154 c h1 h2 (by omega)
theorem cv_155 : ∀ c, 787 ≤ c → c < 788 → ClsOK c := fun c h1 h2 => by
  have e : c = 787 := by omega
  rw [e]
  exact cq_787
theorem cv_156 : ∀ c, 788 ≤ c → c < 790 → ClsOK c := fun c h1 h2 => cls_B rb_156 c h1 h2 (by omega)
theorem cv_157 : ∀ c, 790 ≤ c → c < 791 → ClsOK c := fun c h1 h2 => cls_B rb_157 c h1 h2 (by omega)
theorem cv_158 : ∀ c, 791 ≤ c → c < 793 → ClsOK c := fun c h1 h2 => cls_B rb_158 c h1 h2 (by omega)
theorem cv_159 : ∀ c, 793 ≤ c → c < 794 → ClsOK c := fun c h1 h2 => by
  have e : c = 793 := by omega
  rw [e]
  exact cq_793
theorem cv_160 : ∀ c, 794 ≤ c → c < 797 → ClsOK c := fun c h1 h2 => cls_B rb_160 c h1 h2 (by omega)
theorem cv_161 : ∀ c, 797 ≤ c → c < 798 → ClsOK c := fun c h1 h2 => cls_B rb_161 c h1 h2 (by omega)
theorem cv_162 : ∀ c, 798 ≤ c → c < 799 → ClsOK c := fun c h1 h2 => cls_B rb_162 c h1 h2 (by omega)
theorem cv_163 : ∀ c, 799 ≤ c → c < 801 → ClsOK c := fun c h1 h2 => cls_B rb_163 c h1 h2 (by omega)
theorem cv_164 : ∀ c, 801 ≤ c → c < 802 → ClsOK c := fun c h1 h2 => cls_B rb_164 c h1 h2 (by omega)
theorem cv_165 : ∀ c, 802 ≤ c → c < 804 → ClsOK c := fun c h1 h2 => cls_B rb_165 c h1 h2 (by omega)
theorem cv_166 : ∀ c, 804 ≤ c → c < 806 → ClsOK c := fun c h1 h2 => cls_B rb_166 c h1 h2 (by omega)
theorem cv_167 : ∀ c, 806 ≤ c → c < 807 → ClsOK c := fun c h1 h2 => cls_B rb_167 c h1 h2 (by omega)
theorem cv_168 : ∀ c, 807 ≤ c → c < 811 → ClsOK c := fun c h1 h2 => cls_B rb_168 c h1 h2 (by omega)
theorem cv_169 : ∀ c, 811 ≤ c → c < 815 → ClsOK c := fun c h1 h2 => cls_B rb_169 c h1 h2 (by omega)
theorem cv_170 : ∀ c, 815 ≤ c → c < 820 → ClsOK c := fun c h1 h2 => cls_B rb_170 c h1 h2 (by omega)
theorem cv_171 : ∀ c, 820 ≤ c → c < 821 → ClsOK c := fun c h1 h2 => cls_B rb_171 c h1 h2 (by omega)
theorem cv_172 : ∀ c, 821 ≤ c → c < 824 → ClsOK c := fun c h1 h2 => cls_B rb_172 c h1 h2 (by omega)
theorem cv_173 : ∀ c, 824 ≤ c → c < 826 → ClsOK c := fun c h1 h2 => cls_B rb_173 c h1 h2 (by omega)
theorem cv_174 : ∀ c, 826 ≤ c → c < 827 → ClsOK c := fun c h1 h2 => cls_B rb_174 c h1 h2 (by omega)
theorem cv_175 : ∀ c, 827 ≤ c → c < 830 → ClsOK c := fun c h1 h2 => cls_B rb_175 c h1 h2 (by omega)
theorem cv_176 : ∀ c, 830 ≤ c → c < 833 → ClsOK c := fun c h1 h2 => cls_B rb_176 c h1 h2 (by omega)
theorem cv_177 : ∀ c, 833 ≤ c → c < 837 → ClsOK c := fun c h1 h2 => cls_B rb_177 c h1 h2 (by omega)
theorem cv_178 : ∀ c, 837 ≤ c → c < 842 → ClsOK c := fun c h1 h2 => cls_B rb_178 c h1 h2 (by omega)
theorem cv_179 : ∀ c, 842 ≤ c → c < 849 → ClsOK c := fun c h1 h2 => cls_B rb_179 c h1 h2 (by omega)
theorem cv_180 : ∀ c, 849 ≤ c → c < 852 → ClsOK c := fun c h1 h2 => cls_B rb_180 c h1 h2 (by omega)
theorem cv_181 : ∀ c, 852 ≤ c → c < 853 → ClsOK c := fun c h1 h2 => cls_B rb_181 c h1 h2 (by omega)
theorem cv_182 : ∀ c, 853 ≤ c → c < 855 → ClsOK c := fun c h1 h2 => cls_B rb_182 c h1 h2 (by omega)
theorem cv_183 : ∀ c, 855 ≤ c → c < 857 → ClsOK c := fun c h1 h2 => cls_B rb_183 c h1 h2 (by omega)
theorem cv_184 : ∀ c, 857 ≤ c → c < 858 → ClsOK c := fun c h1 h2 => cls_B rb_184 c h1 h2 (by omega)
theorem cv_185 : ∀ c, 858 ≤ c → c < 861 → ClsOK c := fun c h1 h2 => cls_B rb_185 c h1 h2 (by omega)
theorem cv_186 : ∀ c, 861 ≤ c → c < 862 → ClsOK c := fun c h1 h2 => cls_B rb_186 c h1 h2 (by omega)
theorem cv_187 : ∀ c, 862 ≤ c → c < 863 → ClsOK c := fun c h1 h2 => cls_B rb_187 c h1 h2 (by omega)
theorem cv_188 : ∀ c, 863 ≤ c → c < 864 → ClsOK c := fun c h1 h2 => cls_B rb_188 c h1 h2 (by omega)
theorem cv_189 : ∀ c, 864 ≤ c → c < 868 → ClsOK c := fun c h1 h2 => cls_B rb_189 c h1 h2 (by omega)
theorem cv_190 : ∀ c, 868 ≤ c → c < 870 → ClsOK c := fun c h1 h2 => cls_B rb_190 c h1 h2 (by omega)
theorem cv_191 : ∀ c, 870 ≤ c → c < 873 → ClsOK c := fun c h1 h2 => cls_B rb_191 c h1 h2 (by omega)
theorem cv_192 : ∀ c, 873 ≤ c → c < 874 → ClsOK c := fun c h1 h2 => cls_B rb_192 c h1 h2 (by omega)
theorem cv_193 : ∀ c, 874 ≤ c → c < 878 → ClsOK c := fun c h1 h2 => cls_B rb_193 c h1 h2 (by omega)
theorem cv_194 : ∀ c, 878 ≤ c → c < 880 → ClsOK c := fun c h1 h2 => cls_B rb_194 c h1 h2 (by omega)
theorem cv_195 : ∀ c, 880 ≤ c → c < 883 → ClsOK c := fun c h1 h2 => cls_B rb_195 c h1 h2 (by omega)
theorem cv_196 : ∀ c, 883 ≤ c → c < 885 → ClsOK c := fun c h1 h2 => cls_B rb_196 c h1 h2 (by omega)
theorem cv_197 : ∀ c, 885 ≤ c → c < 887 → ClsOK c := fun c h1 h2 => cls_B rb_197 c h1 h2 (by omega)
theorem cv_198 : ∀ c, 887 ≤ c → c < 890 → ClsOK c := fun c h1 h2 => cls_B rb_198 c h1 h2 (by omega)
theorem cv_199 : ∀ c, 890 ≤ c → c < 893 → ClsOK c := fun c h1 h2 => cls_B rb_199 c h1 h2 (by omega)
theorem cv_200 : ∀ c, 893 ≤ c → c < 898 → ClsOK c := fun c h1 h2 => cls_B rb_200 c h1 h2 (by omega)
theorem cv_201 : ∀ c, 898 ≤ c → c < 899 → ClsOK c := fun c h1 h2 => cls_B rb_201 c h1 h2 (by omega)
theorem cv_202 : ∀ c, 899 ≤ c → c < 904 → ClsOK c := fun c h1 h2 => cls_B rb_202 c h1 h2 (by omega)
theorem cv_203 : ∀ c, 904 ≤ c → c < 907 → ClsOK c := fun c h1 h2 => cls_B rb_203 c h1 h2 (by omega)
theorem cv_204 : ∀ c, 907 ≤ c → c < 908 → ClsOK c := fun c h1 h2 => cls_B rb_204 c h1 h2 (by omega)
theorem cv_205 : ∀ c, 908 ≤ c → c < 910 → ClsOK c := fun c h1 h2 => cls_B rb_205 c h1 h2 (by omega)
theorem cv_206 : ∀ c, 910 ≤ c → c < 913 → ClsOK c := fun c h1 h2 => cls_B rb_206 c h1 h2 (by omega)
theorem cv_207 : ∀ c, 913 ≤ c → c < 914 → ClsOK c := fun c h1 h2 => cls_B rb_207 c h1 h2 (by omega)
theorem cv_208 : ∀ c, 914 ≤ c → c < 917 → ClsOK c := fun c h1 h2 => cls_B rb_208 c h1 h2 (by omega)
theorem cv_209 : ∀ c, 917 ≤ c → c < 919 → ClsOK c := fun c h1 h2 => cls_B rb_209 c h1 h2 (by omega)
theorem cv_210 : ∀ c, 919 ≤ c → c < 921 → ClsOK c := fun c h1 h2 => cls_B rb_210 c h1 h2 (by omega)
theorem cv_211 : ∀ c, 921 ≤ c → c < 927 → ClsOK c := fun c h1 h2 => cls_B rb_211 c h1 h2 (by omega)
theorem cv_212 : ∀ c, 927 ≤ c → c < 930 → ClsOK c := fun c h1 h2 => cls_B rb_212 c h1 h2 (by omega)
theorem cv_213 : ∀ c, 930 ≤ c → c < 931 → ClsOK c := fun c h1 h2 => cls_B rb_213 c h1 h2 (by omega)
theorem cv_214 : ∀ c, 931 ≤ c → c < 934 → ClsOK c := fun c h1 h2 => cls_B rb_214 c h1 h2 (by omega)
theorem cv_215 : ∀ c, 934 ≤ c → c < 936 → ClsOK c := fun c h1 h2 => cls_B rb_215 c h1 h2 (by omega)
theorem cv_216 : ∀ c, 936 ≤ c → c < 939 → ClsOK c := fun c h1 h2 => cls_B rb_216 c h1 h2 (by omega)
theorem cv_217 : ∀ c, 939 ≤ c → c < 940 → ClsOK c := fun c h1 h2 => cls_B rb_217 c h1 h2 (by omega)
theorem cv_218 : ∀ c, 940 ≤ c → c < 941 → ClsOK c := fun c h1 h2 => cls_B rb_218 c h1 h2 (by omega)
theorem cv_219 : ∀ c, 941 ≤ c → c < 942 → ClsOK c := fun c h1 h2 => cls_B rb_219 c h1 h2 (by omega)
theorem cv_220 : ∀ c, 942 ≤ c → c < 945 → ClsOK c := fun c h1 h2 => cls_B rb_220 c h1 h2 (by omega)
theorem cv_221 : ∀ c, 945 ≤ c → c < 946 → ClsOK c := fun c h1 h2 => cls_B rb_221 c h1 h2 (by omega)
theorem cv_222 : ∀ c, 946 ≤ c → c < 947 → ClsOK c := fun c h1 h2 => by
  have e : c = 946 := by omega
  rw [e]
  exact cq_946
theorem cv_223 : ∀ c, 947 ≤ c → c < 950 → ClsOK c := fun c h1 h2 => cls_B rb_223 c h1 h2 (by omega)
theorem cv_224 : ∀ c, 950 ≤ c → c < 952 → ClsOK c := fun c h1 h2 => cls_B rb_224 c h1 h2 (by omega)
theorem cv_225 : ∀ c, 952 ≤ c → c < 956 → ClsOK c := fun c h1 h2 => cls_B rb_225 c h1 h2 (by omega)
theorem cv_226 : ∀ c, 956 ≤ c → c < 959 → ClsOK c := fun c h1 h2 => cls_B rb_226 c h1 h2 (by omega)
theorem cv_227 : ∀ c, 959 ≤ c → c < 964 → ClsOK c := fun c h1 h2 => cls_B rb_227 c h1 h2 (by omega)
theorem cv_228 : ∀ c, 964 ≤ c → c < 967 → ClsOK c := fun c h1 h2 => cls_B rb_228 c h1 h2 (by omega)
theorem cv_229 : ∀ c, 967 ≤ c → c < 968 → ClsOK c := fun c h1 h2 => cls_B rb_229 c h1 h2 (by omega)
theorem cv_230 : ∀ c, 968 ≤ c → c < 972 → ClsOK c := fun c h1 h2 => cls_B rb_230 c h1 h2 (by omega)
theorem cv_231 : ∀ c, 972 ≤ c → c < 973 → ClsOK c := fun c h1 h2 => cls_B rb_231 c h1 h2 (by omega)
theorem cv_232 : ∀ c, 973 ≤ c → c < 975 → ClsOK c := fun c h1 h2 => cls_B rb_232 c h1 h2 (by omega)
theorem cv_233 : ∀ c, 975 ≤ c → c < 976 → ClsOK c := fun c h1 h2 => cls_B rb_233 c h1 h2 (by omega)
theorem cv_234 : ∀ c, 976 ≤ c → c < 978 → ClsOK c := fun c h1 h2 => cls_B rb_234 c h1 h2 (by omega)
theorem cv_235 : ∀ c, 978 ≤ c → c < 980 → ClsOK c := fun c h1 h2 => cls_B rb_235 c h1 h2 (by omega)
theorem cv_236 : ∀ c, 980 ≤ c → c < 983 → ClsOK c := fun c h1 h2 => cls_B rb_236 c h1 h2 (by omega)
theorem cv_237 : ∀ c, 983 ≤ c → c < 986 → ClsOK c := fun c h1 h2 => cls_B rb_237 c h1 h2 (by omega)
theorem cv_238 : ∀ c, 986 ≤ c → c < 989 → ClsOK c := fun c h1 h2 => cls_B rb_238 c h1 h2 (by omega)
theorem cv_239 : ∀ c, 989 ≤ c → c < 990 → ClsOK c := fun c h1 h2 => cls_B rb_239 c h1 h2 (by omega)
theorem cv_240 : ∀ c, 990 ≤ c → c < 991 → ClsOK c := fun c h1 h2 => cls_B rb_240 c h1 h2 (by omega)
theorem cv_241 : ∀ c, 991 ≤ c → c < 992 → ClsOK c := fun c h1 h2 => cls_B rb_241 c h1 h2 (by omega)
theorem cv_242 : ∀ c, 992 ≤ c → c < 996 → ClsOK c := fun c h1 h2 => cls_B rb_242 c h1 h2 (by omega)
theorem cv_243 : ∀ c, 996 ≤ c → c < 1000 → ClsOK c := fun c h1 h2 => cls_B rb_243 c h1 h2 (by omega)
theorem cv_244 : ∀ c, 1000 ≤ c → c < 1002 → ClsOK c := fun c h1 h2 => cls_B rb_244 c h1 h2 (by omega)
theorem cv_245 : ∀ c, 1002 ≤ c → c < 1004 → ClsOK c := fun c h1 h2 => cls_B rb_245 c h1 h2 (by omega)
theorem cv_246 : ∀ c, 1004 ≤ c → c < 1006 → ClsOK c := fun c h1 h2 => cls_B rb_246 c h1 h2 (by omega)
theorem cv_247 : ∀ c, 1006 ≤ c → c < 1010 → ClsOK c := fun c h1 h2 => cls_B rb_247 c h1 h2 (by omega)
theorem cv_248 : ∀ c, 1010 ≤ c → c < 1016 → ClsOK c := fun c h1 h2 => cls_B rb_248 c h1 h2 (by omega)
theorem cv_249 : ∀ c, 1016 ≤ c → c < 1017 → ClsOK c := fun c h1 h2 => cls_B rb_249 c h1 h2 (by omega)
theorem cv_250 : ∀ c, 1017 ≤ c → c < 1019 → ClsOK c := fun c h1 h2 => cls_B rb_250 c h1 h2 (by omega)
theorem cv_251 : ∀ c, 1019 ≤ c → c < 1022 → ClsOK c := fun c h1 h2 => cls_B rb_251 c h1 h2 (by omega)
theorem cv_252 : ∀ c, 1022 ≤ c → c < 1023 → ClsOK c := fun c h1 h2 => cls_B rb_252 c h1 h2 (by omega)
theorem cv_253 : ∀ c, 1023 ≤ c → c < 1024 → ClsOK c := fun c h1 h2 => cls_B rb_253 c h1 h2 (by omega)
theorem cx_0 : ∀ c, 0 ≤ c → c < 32 → ClsOK c := fun c h1 h2 => by
  rcases Nat.lt_or_ge c 11 with h | h
  · exact cv_0 c h1 h
  · exact cv_1 c h h2
theorem cx_1 : ∀ c, 32 ≤ c → c < 60 → ClsOK c := fun c h1 h2 => by
  rcases Nat.lt_or_ge c 43 with h | h
  · exact cv_2 c h1 h
  · exact cv_3 c h h2
theorem cx_2 : ∀ c, 60 ≤ c → c < 88 → ClsOK c := fun c h1 h2 => by
  rcases Nat.lt_or_ge c 80 with h | h
  · exact cv_4 c h1 h
  · exact cv_5 c h h2
theorem cx_3 : ∀ c, 88 ≤ c → c < 107 → ClsOK c := fun c h1 h2 => by
  rcases Nat.lt_or_ge c 101 with h | h
  · exact cv_6 c h1 h
  · exact cv_7 c h h2
theorem cx_4 : ∀ c, 107 ≤ c → c < 133 → ClsOK c := fun c h1 h2 => by
  rcases Nat.lt_or_ge c 119 with h | h
  · exact cv_8 c h1 h
  · exact cv_9 c h h2
theorem cx_5 : ∀ c, 133 ≤ c → c < 170 → ClsOK c := fun c h1 h2 => by
  rcases Nat.lt_or_ge c 147 with h | h
  · exact cv_10 c h1 h
  · exact cv_11 c h h2
theorem cx_6 : ∀ c, 170 ≤ c → c < 200 → ClsOK c := fun c h1 h2 => by
  rcases Nat.lt_or_ge c 180 with h | h
  · exact cv_12 c h1 h
  · exact cv_13 c h h2
theorem cx_7 : ∀ c, 200 ≤ c → c < 234 → ClsOK c := fun c h1 h2 => by
  rcases Nat.lt_or_ge c 214 with h | h
  · exact cv_14 c h1 h
  · exact cv_15 c h h2
theorem cx_8 : ∀ c, 234 ≤ c → c < 257 → ClsOK c := fun c h1 h2 => by
  rcases Nat.lt_or_ge c 252 with h | h
  · exact cv_16 c h1 h
  · exact cv_17 c h h2
theorem cx_9 : ∀ c, 257 ≤ c → c < 261 → ClsOK c := fun c h1 h2 => by
  rcases Nat.lt_or_ge c 259 with h | h
  · exact cv_18 c h1 h
  · exact cv_19 c h h2
theorem cx_10 : ∀ c, 261 ≤ c → c < 264 → ClsOK c := fun c h1 h2 => by
  rcases Nat.lt_or_ge c 263 with h | h
  · exact cv_20 c h1 h
  · exact cv_21 c h h2
theorem cx_11 : ∀ c, 264 ≤ c → c < 268 → ClsOK c := fun c h1 h2 => by
  rcases Nat.lt_or_ge c 267 with h | h
  · exact cv_22 c h1 h
  · exact cv_23 c h h2
theorem cx_12 : ∀ c, 268 ≤ c → c < 275 → ClsOK c := fun c h1 h2 => by
  rcases Nat.lt_or_ge c 271 with h | h
  · exact cv_24 c h1 h
  · exact cv_25 c h h2
theorem cx_13 : ∀ c, 275 ≤ c → c < 280 → ClsOK c := fun c h1 h2 => by
  rcases Nat.lt_or_ge c 277 with h | h
  · exact cv_26 c h1 h
  · exact cv_27 c h h2
theorem cx_14 : ∀ c, 280 ≤ c → c < 286 → ClsOK c := fun c h1 h2 => by
  rcases Nat.lt_or_ge c 281 with h | h
  · exact cv_28 c h1 h
  · exact cv_29 c h h2
theorem cx_15 : ∀ c, 286 ≤ c → c < 291 → ClsOK c := fun c h1 h2 => by
  rcases Nat.lt_or_ge c 290 with h | h
  · exact cv_30 c h1 h
  · exact cv_31 c h h2
theorem cx_16 : ∀ c, 291 ≤ c → c < 297 → ClsOK c := fun c h1 h2 => by
  rcases Nat.lt_or_ge c 292 with h | h
  · exact cv_32 c h1 h
  · exact cv_33 c h h2
theorem cx_17 : ∀ c, 297 ≤ c → c < 303 → ClsOK c := fun c h1 h2 => by
  rcases Nat.lt_or_ge c 300 with h | h
  · exact cv_34 c h1 h
  · exact cv_35 c h h2
theorem cx_18 : ∀ c, 303 ≤ c → c < 305 → ClsOK c := fun c h1 h2 => by
  rcases Nat.lt_or_ge c 304 with h | h
  · exact cv_36 c h1 h
  · exact cv_37 c h h2
theorem cx_19 : ∀ c, 305 ≤ c → c < 312 → ClsOK c := fun c h1 h2 => by
  rcases Nat.lt_or_ge c 308 with h | h
  · exact cv_38 c h1 h
  · exact cv_39 c h h2
theorem cx_20 : ∀ c, 312 ≤ c → c < 316 → ClsOK c := fun c h1 h2 => by
  rcases Nat.lt_or_ge c 313 with h | h
  · exact cv_40 c h1 h
  · exact cv_41 c h h2
theorem cx_21 : ∀ c, 316 ≤ c → c < 318 → ClsOK c := fun c h1 h2 => by
  rcases Nat.lt_or_ge c 317 with h | h
  · exact cv_42 c h1 h
  · exact cv_43 c h h2
theorem cx_22 : ∀ c, 318 ≤ c → c < 325 → ClsOK c := fun c h1 h2 => by
  rcases Nat.lt_or_ge c 323 with h | h
  · exact cv_44 c h1 h
  · exact cv_45 c h h2
theorem cx_23 : ∀ c, 325 ≤ c → c < 331 → ClsOK c := fun c h1 h2 => by
  rcases Nat.lt_or_ge c 328 with h | h
  · exact cv_46 c h1 h
  · exact cv_47 c h h2
theorem cx_24 : ∀ c, 331 ≤ c → c < 336 → ClsOK c := fun c h1 h2 => by
  rcases Nat.lt_or_ge c 335 with h | h
  · exact cv_48 c h1 h
  · exact cv_49 c h h2
theorem cx_25 : ∀ c, 336 ≤ c → c < 338 → ClsOK c := fun c h1 h2 => by
  rcases Nat.lt_or_ge c 337 with h | h
  · exact cv_50 c h1 h
  · exact cv_51 c h h2
theorem cx_26 : ∀ c, 338 ≤ c → c < 341 → ClsOK c := fun c h1 h2 => by
  rcases Nat.lt_or_ge c 340 with h | h
  · exact cv_52 c h1 h
  · exact cv_53 c h h2
theorem cx_27 : ∀ c, 341 ≤ c → c < 343 → ClsOK c := fun c h1 h2 => by
  rcases Nat.lt_or_ge c 342 with h | h
  · exact cv_54 c h1 h
  · exact cv_55 c h h2
theorem cx_28 : ∀ c, 343 ≤ c → c < 349 → ClsOK c := fun c h1 h2 => by
  rcases Nat.lt_or_ge c 346 with h | h
  · exact cv_56 c h1 h
  · exact cv_57 c h h2
theorem cx_29 : ∀ c, 349 ≤ c → c < 353 → ClsOK c := fun c h1 h2 => by
  rcases Nat.lt_or_ge c 352 with h | h
  · exact cv_58 c h1 h
  · exact cv_59 c h h2
theorem cx_30 : ∀ c, 353 ≤ c → c < 362 → ClsOK c := fun c h1 h2 => by
  rcases Nat.lt_or_ge c 359 with h | h
  · exact cv_60 c h1 h
  · exact cv_61 c h h2
theorem cx_31 : ∀ c, 362 ≤ c → c < 367 → ClsOK c := fun c h1 h2 => by
  rcases Nat.lt_or_ge c 363 with h | h
  · exact cv_62 c h1 h
  · exact cv_63 c h h2
theorem cx_32 : ∀ c, 367 ≤ c → c < 373 → ClsOK c := fun c h1 h2 => by
  rcases Nat.lt_or_ge c 369 with h | h
  · exact cv_64 c h1 h
  · exact cv_65 c h h2
theorem cx_33 : ∀ c, 373 ≤ c → c < 376 → ClsOK c := fun c h1 h2 => by
  rcases Nat.lt_or_ge c 374 with h | h
  · exact cv_66 c h1 h
  · exact cv_67 c h h2
theorem cx_34 : ∀ c, 376 ≤ c → c < 383 → ClsOK c := fun c h1 h2 => by
  rcases Nat.lt_or_ge c 380 with h | h
  · exact cv_68 c h1 h
  · exact cv_69 c h h2
theorem cx_35 : ∀ c, 383 ≤ c → c < 386 → ClsOK c := fun c h1 h2 => by
  rcases Nat.lt_or_ge c 384 with h | h
  · exact cv_70 c h1 h
  · exact cv_71 c h h2
theorem cx_36 : ∀ c, 386 ≤ c → c < 390 → ClsOK c := fun c h1 h2 => by
  rcases Nat.lt_or_ge c 389 with h | h
  · exact cv_72 c h1 h
  · exact cv_73 c h h2
theorem cx_37 : ∀ c, 390 ≤ c → c < 394 → ClsOK c := fun c h1 h2 => by
  rcases Nat.lt_or_ge c 392 with h | h
  · exact cv_74 c h1 h
  · exact cv_75 c h h2
theorem cx_38 : ∀ c, 394 ≤ c → c < 401 → ClsOK c := fun c h1 h2 => by
  rcases Nat.lt_or_ge c 400 with h | h
  · exact cv_76 c h1 h
  · exact cv_77 c h h2
theorem cx_39 : ∀ c, 401 ≤ c → c < 405 → ClsOK c := fun c h1 h2 => by
  rcases Nat.lt_or_ge c 403 with h | h
  · exact cv_78 c h1 h
  · exact cv_79 c h h2
theorem cx_40 : ∀ c, 405 ≤ c → c < 407 → ClsOK c := fun c h1 h2 => by
  rcases Nat.lt_or_ge c 406 with h | h
  · exact cv_80 c h1 h
  · exact cv_81 c h h2
theorem cx_41 : ∀ c, 407 ≤ c → c < 413 → ClsOK c := fun c h1 h2 => by
  rcases Nat.lt_or_ge c 408 with h | h
  · exact cv_82 c h1 h
  · exact cv_83 c h h2
theorem cx_42 : ∀ c, 413 ≤ c → c < 419 → ClsOK c := fun c h1 h2 => by
  rcases Nat.lt_or_ge c 417 with h | h
  · exact cv_84 c h1 h
  · exact cv_85 c h h2
theorem cx_43 : ∀ c, 419 ≤ c → c < 421 → ClsOK c := fun c h1 h2 => by
  rcases Nat.lt_or_ge c 420 with h | h
  · exact cv_86 c h1 h
  · exact cv_87 c h h2
theorem cx_44 : ∀ c, 421 ≤ c → c < 426 → ClsOK c := fun c h1 h2 => by
  rcases Nat.lt_or_ge c 423 with h | h
  · exact cv_88 c h1 h
  · exact cv_89 c h h2
theorem cx_45 : ∀ c, 426 ≤ c → c < 432 → ClsOK c := fun c h1 h2 => by
  rcases Nat.lt_or_ge c 428 with h | h
  · exact cv_90 c h1 h
  · exact cv_91 c h h2
theorem cx_46 : ∀ c, 432 ≤ c → c < 436 → ClsOK c := fun c h1 h2 => by
  rcases Nat.lt_or_ge c 435 with h | h
  · exact cv_92 c h1 h
  · exact cv_93 c h h2
theorem cx_47 : ∀ c, 436 ≤ c → c < 442 → ClsOK c := fun c h1 h2 => by
  rcases Nat.lt_or_ge c 437 with h | h
  · exact cv_94 c h1 h
  · exact cv_95 c h h2
theorem cx_48 : ∀ c, 442 ≤ c → c < 447 → ClsOK c := fun c h1 h2 => by
  rcases Nat.lt_or_ge c 445 with h | h
  · exact cv_96 c h1 h
  · exact cv_97 c h h2
theorem cx_49 : ∀ c, 447 ≤ c → c < 450 → ClsOK c := fun c h1 h2 => by
  rcases Nat.lt_or_ge c 449 with h | h
  · exact cv_98 c h1 h
  · exact cv_99 c h h2
theorem cx_50 : ∀ c, 450 ≤ c → c < 452 → ClsOK c := fun c h1 h2 => by
  rcases Nat.lt_or_ge c 451 with h | h
  · exact cv_100 c h1 h
  · exact cv_101 c h h2
theorem cx_51 : ∀ c, 452 ≤ c → c < 456 → ClsOK c := fun c h1 h2 => by
  rcases Nat.lt_or_ge c 455 with h | h
  · exact cv_102 c h1 h
  · exact cv_103 c h h2
theorem cx_52 : ∀ c, 456 ≤ c → c < 458 → ClsOK c := fun c h1 h2 => by
  rcases Nat.lt_or_ge c 457 with h | h
  · exact cv_104 c h1 h
  · exact cv_105 c h h2
theorem cx_53 : ∀ c, 458 ≤ c → c < 462 → ClsOK c := fun c h1 h2 => by
  rcases Nat.lt_or_ge c 459 with h | h
  · exact cv_106 c h1 h
  · exact cv_107 c h h2
theorem cx_54 : ∀ c, 462 ≤ c → c < 469 → ClsOK c := fun c h1 h2 => by
  rcases Nat.lt_or_ge c 463 with h | h
  · exact cv_108 c h1 h
  · exact cv_109 c h h2
theorem cx_55 : ∀ c, 469 ≤ c → c < 477 → ClsOK c := fun c h1 h2 => by
  rcases Nat.lt_or_ge c 470 with h | h
  · exact cv_110 c h1 h
  · exact cv_111 c h h2
theorem cx_56 : ∀ c, 477 ≤ c → c < 482 → ClsOK c := fun c h1 h2 => by
  rcases Nat.lt_or_ge c 480 with h | h
  · exact cv_112 c h1 h
  · exact cv_113 c h h2
theorem cx_57 : ∀ c, 482 ≤ c → c < 487 → ClsOK c := fun c h1 h2 => by
  rcases Nat.lt_or_ge c 483 with h | h
  · exact cv_114 c h1 h
  · exact cv_115 c h h2
theorem cx_58 : ∀ c, 487 ≤ c → c < 492 → ClsOK c := fun c h1 h2 => by
  rcases Nat.lt_or_ge c 489 with h | h
  · exact cv_116 c h1 h
  · exact cv_117 c h h2
theorem cx_59 : ∀ c, 492 ≤ c → c < 496 → ClsOK c := fun c h1 h2 => by
  rcases Nat.lt_or_ge c 494 with h | h
  · exact cv_118 c h1 h
  · exact cv_119 c h h2
theorem cx_60 : ∀ c, 496 ≤ c → c < 501 → ClsOK c := fun c h1 h2 => by
  rcases Nat.lt_or_ge c 498 with h | h
  · exact cv_120 c h1 h
  · exact cv_121 c h h2
theorem cx_61 : ∀ c, 501 ≤ c → c < 507 → ClsOK c := fun c h1 h2 => by
  rcases Nat.lt_or_ge c 506 with h | h
  · exact cv_122 c h1 h
  · exact cv_123 c h h2
theorem cx_62 : ∀ c, 507 ≤ c → c < 510 → ClsOK c := fun c h1 h2 => by
  rcases Nat.lt_or_ge c 508 with h | h
  · exact cv_124 c h1 h
  · exact cv_125 c h h2
theorem cx_63 : ∀ c, 510 ≤ c → c < 527 → ClsOK c := fun c h1 h2 => by
  rcases Nat.lt_or_ge c 516 with h | h
  · exact cv_126 c h1 h
  · exact cv_127 c h h2
theorem cx_64 : ∀ c, 527 ≤ c → c < 553 → ClsOK c := fun c h1 h2 => by
  rcases Nat.lt_or_ge c 539 with h | h
  · exact cv_128 c h1 h
  · exact cv_129 c h h2
theorem cx_65 : ∀ c, 553 ≤ c → c < 584 → ClsOK c := fun c h1 h2 => by
  rcases Nat.lt_or_ge c 571 with h | h
  · exact cv_130 c h1 h
  · exact cv_131 c h h2
theorem cx_66 : ∀ c, 584 ≤ c → c < 621 → ClsOK c := fun c h1 h2 => by
  rcases Nat.lt_or_ge c 603 with h | h
  · exact cv_132 c h1 h
  · exact cv_133 c h h2
theorem cx_67 : ∀ c, 621 ≤ c → c < 644 → ClsOK c := fun c h1 h2 => by
  rcases Nat.lt_or_ge c 631 with h | h
  · exact cv_134 c h1 h
  · exact cv_135 c h h2
theorem cx_68 : ∀ c, 644 ≤ c → c < 669 → ClsOK c := fun c h1 h2 => by
  rcases Nat.lt_or_ge c 659 with h | h
  · exact cv_136 c h1 h
  · exact cv_137 c h h2
theorem cx_69 : ∀ c, 669 ≤ c → c < 699 → ClsOK c := fun c h1 h2 => by
  rcases Nat.lt_or_ge c 686 with h | h
  · exact cv_138 c h1 h
  · exact cv_139 c h h2
theorem cx_70 : ∀ c, 699 ≤ c → c < 728 → ClsOK c := fun c h1 h2 => by
  rcases Nat.lt_or_ge c 711 with h | h
  · exact cv_140 c h1 h
  · exact cv_141 c h h2
theorem cx_71 : ∀ c, 728 ≤ c → c < 746 → ClsOK c := fun c h1 h2 => by
  rcases Nat.lt_or_ge c 741 with h | h
  · exact cv_142 c h1 h
  · exact cv_143 c h h2
theorem cx_72 : ∀ c, 746 ≤ c → c < 768 → ClsOK c := fun c h1 h2 => by
  rcases Nat.lt_or_ge c 747 with h | h
  · exact cv_144 c h1 h
  · exact cv_145 c h h2
theorem cx_73 : ∀ c, 768 ≤ c → c < 771 → ClsOK c := fun c h1 h2 => by
  rcases Nat.lt_or_ge c 770 with h | h
  · exact cv_146 c h1 h
  · exact cv_147 c h h2
theorem cx_74 : ∀ c, 771 ≤ c → c < 775 → ClsOK c := fun c h1 h2 => by
  rcases Nat.lt_or_ge c 774 with h | h
  · exact cv_148 c h1 h
  · exact cv_149 c h h2
theorem cx_75 : ∀ c, 775 ≤ c → c < 779 → ClsOK c := fun c h1 h2 => by
  rcases Nat.lt_or_ge c 776 with h | h
  · exact cv_150 c h1 h
  · exact cv_151 c h h2
theorem cx_76 : ∀ c, 779 ≤ c → c < 783 → ClsOK c := fun c h1 h2 => by
  rcases Nat.lt_or_ge c 780 with h | h
  · exact cv_152 c h1 h
  · exact cv_153 c h h2
theorem cx_77 : ∀ c, 783 ≤ c → c < 788 → ClsOK c := fun c h1 h2 => by
  rcases Nat.lt_or_ge c 787 with h | h
  · exact cv_154 c h1 h
  · exact cv_155 c h h2
theorem cx_78 : ∀ c, 788 ≤ c → c < 791 → ClsOK c := fun c h1 h2 => by
  rcases Nat.lt_or_ge c 790 with h | h
  · exact cv_156 c h1 h
  · exact cv_157 c h h2
theorem cx_79 : ∀ c, 791 ≤ c → c < 794 → ClsOK c := fun c h1 h2 => by
  rcases Nat.lt_or_ge c 793 with h | h
  · exact cv_158 c h1 h
  · exact cv_159 c h h2
theorem cx_80 : ∀ c, 794 ≤ c → c < 798 → ClsOK c := fun c h1 h2 => by
  rcases Nat.lt_or_ge c 797 with h | h
  · exact cv_160 c h1 h
  · exact cv_161 c h h2
theorem cx_81 : ∀ c, 798 ≤ c → c < 801 → ClsOK c := fun c h1 h2 => by
  rcases Nat.lt_or_ge c 799 with h | h
  · exact cv_162 c h1 h
  · exact cv_163 c h h2
theorem cx_82 : ∀ c, 801 ≤ c → c < 804 → ClsOK c := fun c h1 h2 => by
  rcases Nat.lt_or_ge c 802 with h | h
  · exact cv_164 c h1 h
  · exact cv_165 c h h2
theorem cx_83 : ∀ c, 804 ≤ c → c < 807 → ClsOK c := fun c h1 h2 => by
  rcases Nat.lt_or_ge c 806 with h | h
  · exact cv_166 c h1 h
  · exact cv_167 c h h2
theorem cx_84 : ∀ c, 807 ≤ c → c < 815 → ClsOK c := fun c h1 h2 => by
  rcases Nat.lt_or_ge c 811 with h | h
  · exact cv_168 c h1 h
  · exact cv_169 c h h2
theorem cx_85 : ∀ c, 815 ≤ c → c < 821 → ClsOK c := fun c h1 h2 => by
  rcases Nat.lt_or_ge c 820 with h | h
  · exact cv_170 c h1 h
  · exact cv_171 c h h2
theorem cx_86 : ∀ c, 821 ≤ c → c < 826 → ClsOK c := fun c h1 h2 => by
  rcases Nat.lt_or_ge c 824 with h | h
  · exact cv_172 c h1 h
  · exact cv_173 c h h2
theorem cx_87 : ∀ c, 826 ≤ c → c < 830 → ClsOK c := fun c h1 h2 => by
  rcases Nat.lt_or_ge c 827 with h | h
  · exact cv_174 c h1 h
  · exact cv_175 c h h2
theorem cx_88 : ∀ c, 830 ≤ c → c < 837 → ClsOK c := fun c h1 h2 => by
  rcases Nat.lt_or_ge c 833 with h | h
  · exact cv_176 c h1 h
  · exact cv_177 c h h2
theorem cx_89 : ∀ c, 837 ≤ c → c < 849 → ClsOK c := fun c h1 h2 => by
  rcases Nat.lt_or_ge c 842 with h | h
  · exact cv_178 c h1 h
  · exact cv_179 c h h2
theorem cx_90 : ∀ c, 849 ≤ c → c < 853 → ClsOK c := fun c h1 h2 => by
  rcases Nat.lt_or_ge c 852 with h | h
  · exact cv_180 c h1 h
  · exact cv_181 c h h2
theorem cx_91 : ∀ c, 853 ≤ c → c < 857 → ClsOK c := fun c h1 h2 => by
  rcases Nat.lt_or_ge c 855 with h | h
  · exact cv_182 c h1 h
  · exact cv_183 c h h2
theorem cx_92 : ∀ c, 857 ≤ c → c < 861 → ClsOK c := fun c h1 h2 => by
  rcases Nat.lt_or_ge c 858 with h | h
  · exact cv_184 c h1 h
  · exact cv_185 c h h2
theorem cx_93 : ∀ c, 861 ≤ c → c < 863 → ClsOK c := fun c h1 h2 => by
  rcases Nat.lt_or_ge c 862 with h | h
  · exact cv_186 c h1 h
  · exact cv_187 c h h2
theorem cx_94 : ∀ c, 863 ≤ c → c < 868 → ClsOK c := fun c h1 h2 => by
  rcases Nat.lt_or_ge c 864 with h | h
  · exact cv_188 c h1 h
  · exact cv_189 c h h2
theorem cx_95 : ∀ c, 868 ≤ c → c < 873 → ClsOK c := fun c h1 h2 => by
  rcases Nat.lt_or_ge c 870 with h | h
  · exact cv_190 c h1 h
  · exact cv_191 c h h2
theorem cx_96 : ∀ c, 873 ≤ c → c < 878 → ClsOK c := fun c h1 h2 => by
  rcases Nat.lt_or_ge c 874 with h | h
  · exact cv_192 c h1 h
  · exact cv_193 c h h2
theorem cx_97 : ∀ c, 878 ≤ c → c < 883 → ClsOK c := fun c h1 h2 => by
  rcases Nat.lt_or_ge c 880 with h | h
  · exact cv_194 c h1 h
  · exact cv_195 c h h2
theorem cx_98 : ∀ c, 883 ≤ c → c < 887 → ClsOK c := fun c h1 h2 => by
  rcases Nat.lt_or_ge c 885 with h | h
  · exact cv_196 c h1 h
  · exact cv_197 c h h2
theorem cx_99 : ∀ c, 887 ≤ c → c < 893 → ClsOK c := fun c h1 h2 => by
  rcases Nat.lt_or_ge c 890 with h | h
  · exact cv_198 c h1 h
  · exact cv_199 c h h2
theorem cx_100 : ∀ c, 893 ≤ c → c < 899 → ClsOK c := fun c h1 h2 => by
  rcases Nat.lt_or_ge c 898 with h | h
  · exact cv_200 c h1 h
  · exact cv_201 c h h2
theorem cx_101 : ∀ c, 899 ≤ c → c < 907 → ClsOK c := fun c h1 h2 => by
  rcases Nat.lt_or_ge c 904 with h | h
  · exact cv_202 c h1 h
  · exact cv_203 c h h2
theorem cx_102 : ∀ c, 907 ≤ c → c < 910 → ClsOK c := fun c h1 h2 => by
  rcases Nat.lt_or_ge c 908 with h | h
  · exact cv_204 c h1 h
  · exact cv_205 c h h2
theorem cx_103 : ∀ c, 910 ≤ c → c < 914 → ClsOK c := fun c h1 h2 => by
  rcases Nat.lt_or_ge c 913 with h | h
  · exact cv_206 c h1 h
  · exact cv_207 c h h2
theorem cx_104 : ∀ c, 914 ≤ c → c < 919 → ClsOK c := fun c h1 h2 => by
  rcases Nat.lt_or_ge c 917 with h | h
  · exact cv_208 c h1 h
  · exact cv_209 c h h2
theorem cx_105 : ∀ c, 919 ≤ c → c < 927 → ClsOK c := fun c h1 h2 => by
  rcases Nat.lt_or_ge c 921 with h | h
  · exact cv_210 c h1 h
  · exact cv_211 c h h2
theorem cx_106 : ∀ c, 927 ≤ c → c < 931 → ClsOK c := fun c h1 h2 => by
  rcases Nat.lt_or_ge c 930 with h | h
  · exact cv_212 c h1 h
  · exact cv_213 c h h2
theorem cx_107 : ∀ c, 931 ≤ c → c < 936 → ClsOK c := fun c h1 h2 => by
  rcases Nat.lt_or_ge c 934 with h | h
  · exact cv_214 c h1 h
  · exact cv_215 c h h2
theorem cx_108 : ∀ c, 936 ≤ c → c < 940 → ClsOK c := fun c h1 h2 => by
  rcases Nat.lt_or_ge c 939 with h | h
  · exact cv_216 c h1 h
  · exact cv_217 c h h2
theorem cx_109 : ∀ c, 940 ≤ c → c < 942 → ClsOK c := fun c h1 h2 => by
  rcases Nat.lt_or_ge c 941 with h | h
  · exact cv_218 c h1 h
  · exact cv_219 c h h2
theorem cx_110 : ∀ c, 942 ≤ c → c < 946 → ClsOK c := fun c h1 h2 => by
  rcases Nat.lt_or_ge c 945 with h | h
  · exact cv_220 c h1 h
  · exact cv_221 c h h2
theorem cx_111 : ∀ c, 946 ≤ c → c < 950 → ClsOK c := fun c h1 h2 => by
  rcases Nat.lt_or_ge c 947 with h | h
  · exact cv_222 c h1 h
  · exact cv_223 c h h2
theorem cx_112 : ∀ c, 950 ≤ c → c < 956 → ClsOK c := fun c h1 h2 => by
  rcases Nat.lt_or_ge c 952 with h | h
  · exact cv_224 c h1 h
  · exact cv_225 c h h2
theorem cx_113 : ∀ c, 956 ≤ c → c < 964 → ClsOK c := fun c h1 h2 => by
  rcases Nat.lt_or_ge c 959 with h | h
  · exact cv_226 c h1 h
  · exact cv_227 c h h2
theorem cx_114 : ∀ c, 964 ≤ c → c < 968 → ClsOK c := fun c h1 h2 => by
  rcases Nat.lt_or_ge c 967 with h | h
  · exact cv_228 c h1 h
  · exact cv_229 c h h2
theorem cx_115 : ∀ c, 968 ≤ c → c < 973 → ClsOK c := fun c h1 h2 => by
  rcases Nat.lt_or_ge c 972 with h | h
  · exact cv_230 c h1 h
  · exact cv_231 c h h2
theorem cx_116 : ∀ c, 973 ≤ c → c < 976 → ClsOK c := fun c h1 h2 => by
  rcases Nat.lt_or_ge c 975 with h | h
  · exact cv_232 c h1 h
  · exact cv_233 c h h2
theorem cx_117 : ∀ c, 976 ≤ c → c < 980 → ClsOK c := fun c h1 h2 => by
  rcases Nat.lt_or_ge c 978 with h | h
  · exact cv_234 c h1 h
  · exact cv_235 c h h2
theorem cx_118 : ∀ c, 980 ≤ c → c < 986 → ClsOK c := fun c h1 h2 => by
  rcases Nat.lt_or_ge c 983 with h | h
  · exact cv_236 c h1 h
  · exact cv_237 c h h2
theorem cx_119 : ∀ c, 986 ≤ c → c < 990 → ClsOK c := fun c h1 h2 => by
  rcases Nat.lt_or_ge c 989 with h | h
  · exact cv_238 c h1 h
  · exact cv_239 c h h2
theorem cx_120 : ∀ c, 990 ≤ c → c < 992 → ClsOK c := fun c h1 h2 => by
  rcases Nat.lt_or_ge c 991 with h | h
  · exact cv_240 c h1 h
  · exact cv_241 c h h2
theorem cx_121 : ∀ c, 992 ≤ c → c < 1000 → ClsOK c := fun c h1 h2 => by
  rcases Nat.lt_or_ge c 996 with h | h
  · exact cv_242 c h1 h
  · exact cv_243 c h h2
theorem cx_122 : ∀ c, 1000 ≤ c → c < 1004 → ClsOK c := fun c h1 h2 => by
  rcases Nat.lt_or_ge c 1002 with h | h
  · exact cv_244 c h1 h
  · exact cv_245 c h h2
theorem cx_123 : ∀ c, 1004 ≤ c → c < 1010 → ClsOK c := fun c h1 h2 => by
  rcases Nat.lt_or_ge c 1006 with h | h
  · exact cv_246 c h1 h
  · exact cv_247 c h h2
theorem cx_124 : ∀ c, 1010 ≤ c → c < 1017 → ClsOK c := fun c h1 h2 => by
  rcases Nat.lt_or_ge c 1016 with h | h
  · exact cv_248 c h1 h
  · exact cv_249 c h h2
theorem cx_125 : ∀ c, 1017 ≤ c → c < 1022 → ClsOK c := fun c h1 h2 => by
  rcases Nat.lt_or_ge c 1019 with h | h
  · exact cv_250 c h1 h
  · exact cv_251 c h h2
theorem cx_126 : ∀ c, 1022 ≤ c → c < 1024 → ClsOK c := fun c h1 h2 => by
  rcases Nat.lt_or_ge c 1023 with h | h
  · exact cv_252 c h1 h
  · exact cv_253 c h h2
theorem cx_127 : ∀ c, 0 ≤ c → c < 60 → ClsOK c := fun c h1 h2 => by
  rcases Nat.lt_or_ge c 32 with h | h
  · exact cx_0 c h1 h
  · exact cx_1 c h h2
theorem cx_128 : ∀ c, 60 ≤ c → c < 107 → ClsOK c := fun c h1 h2 => by
  rcases Nat.lt_or_ge c 88 with h | h
  · exact cx_2 c h1 h
  · exact cx_3 c h h2
theorem cx_129 : ∀ c, 107 ≤ c → c < 170 → ClsOK c := fun c h1 h2 => by
  rcases Nat.lt_or_ge c 133 with h | h
  · exact cx_4 c h1 h
  · exact cx_5 c h h2
theorem cx_130 : ∀ c, 170 ≤ c → c < 234 → ClsOK c := fun c h1 h2 => by
  rcases Nat.lt_or_ge c 200 with h | h
  · exact cx_6 c h1 h
  · exact cx_7 c h h2
theorem cx_131 : ∀ c, 234 ≤ c → c < 261 → ClsOK c := fun c h1 h2 => by
  rcases Nat.lt_or_ge c 257 with h | h
  · exact cx_8 c h1 h
  · exact cx_9 c h h2
theorem cx_132 : ∀ c, 261 ≤ c → c < 268 → ClsOK c := fun c h1 h2 => by
  rcases Nat.lt_or_ge c 264 with h | h
  · exact cx_10 c h1 h
  · exact cx_11 c h h2
theorem cx_133 : ∀ c, 268 ≤ c → c < 280 → ClsOK c := fun c h1 h2 => by
  rcases Nat.lt_or_ge c 275 with h | h
  · exact cx_12 c h1 h
  · exact cx_13 c h h2
theorem cx_134 : ∀ c, 280 ≤ c → c < 291 → ClsOK c := fun c h1 h2 => by
  rcases Nat.lt_or_ge c 286 with h | h
  · exact cx_14 c h1 h
  · exact cx_15 c h h2
theorem cx_135 : ∀ c, 291 ≤ c → c < 303 → ClsOK c := fun c h1 h2 => by
  rcases Nat.lt_or_ge c 297 with h | h
  · exact cx_16 c h1 h
  · exact cx_17 c h h2
theorem cx_136 : ∀ c, 303 ≤ c → c < 312 → ClsOK c := fun c h1 h2 => by
  rcases Nat.lt_or_ge c 305 with h | h
  · exact cx_18 c h1 h
  · exact cx_19 c h h2
theorem cx_137 : ∀ c, 312 ≤ c → c < 318 → ClsOK c := fun c h1 h2 => by
  rcases Nat.lt_or_ge c 316 with h | h
  · exact cx_20 c h1 h
  · exact cx_21 c h h2
theorem cx_138 : ∀ c, 318 ≤ c → c < 331 → ClsOK c := fun c h1 h2 => by
  rcases Nat.lt_or_ge c 325 with h | h
  · exact cx_22 c h1 h
  · exact cx_23 c h h2
theorem cx_139 : ∀ c, 331 ≤ c → c < 338 → ClsOK c := fun c h1 h2 => by
  rcases Nat.lt_or_ge c 336 with h | h
  · exact cx_24 c h1 h
  · exact cx_25 c h h2
theorem cx_140 : ∀ c, 338 ≤ c → c < 343 → ClsOK c := fun c h1 h2 => by
  rcases Nat.lt_or_ge c 341 with h | h
  · exact cx_26 c h1 h
  · exact cx_27 c h h2
theorem cx_141 : ∀ c, 343 ≤ c → c < 353 → ClsOK c := fun c h1 h2 => by
  rcases Nat.lt_or_ge c 349 with h | h
  · exact cx_28 c h1 h
  · exact cx_29 c h h2
theorem cx_142 : ∀ c, 353 ≤ c → c < 367 → ClsOK c := fun c h1 h2 => by
  rcases Nat.lt_or_ge c 362 with h | h
  · exact cx_30 c h1 h
  · exact cx_31 c h h2
theorem cx_143 : ∀ c, 367 ≤ c → c < 376 → ClsOK c := fun c h1 h2 => by
  rcases Nat.lt_or_ge c 373 with h | h
  · exact cx_32 c h1 h
  · exact cx_33 c h h2
theorem cx_144 : ∀ c, 376 ≤ c → c < 386 → ClsOK c := fun c h1 h2 => by
  rcases Nat.lt_or_ge c 383 with h | h
  · exact cx_34 c h1 h
  · exact cx_35 c h h2
theorem cx_145 : ∀ c, 386 ≤ c → c < 394 → ClsOK c := fun c h1 h2 => by
  rcases Nat.lt_or_ge c 390 with h | h
  · exact cx_36 c h1 h
  · exact cx_37 c h h2
theorem cx_146 : ∀ c, 394 ≤ c → c < 405 → ClsOK c := fun c h1 h2 => by
  rcases Nat.lt_or_ge c 401 with h | h
  · exact cx_38 c h1 h
  · exact cx_39 c h h2
theorem cx_147 : ∀ c, 405 ≤ c → c < 413 → ClsOK c := fun c h1 h2 => by
  rcases Nat.lt_or_ge c 407 with h | h
  · exact cx_40 c h1 h
  · exact cx_41 c h h2
theorem cx_148 : ∀ c, 413 ≤ c → c < 421 → ClsOK c := fun c h1 h2 => by
  rcases Nat.lt_or_ge c 419 with h | h
  · exact cx_42 c h1 h
  · exact cx_43 c h h2
theorem cx_149 : ∀ c, 421 ≤ c → c < 432 → ClsOK c := fun c h1 h2 => by
  rcases Nat.lt_or_ge c 426 with h | h
  · exact cx_44 c h1 h
  · exact cx_45 c h h2
theorem cx_150 : ∀ c, 432 ≤ c → c < 442 → ClsOK c := fun c h1 h2 => by
  rcases Nat.lt_or_ge c 436 with h | h
  · exact cx_46 c h1 h
  · exact cx_47 c h h2
theorem cx_151 : ∀ c, 442 ≤ c → c < 450 → ClsOK c := fun c h1 h2 => by
  rcases Nat.lt_or_ge c 447 with h | h
  · exact cx_48 c h1 h
  · exact cx_49 c h h2
theorem cx_152 : ∀ c, 450 ≤ c → c < 456 → ClsOK c := fun c h1 h2 => by
  rcases Nat.lt_or_ge c 452 with h | h
  · exact cx_50 c h1 h
  · exact cx_51 c h h2
theorem cx_153 : ∀ c, 456 ≤ c → c < 462 → ClsOK c := fun c h1 h2 => by
  rcases Nat.lt_or_ge c 458 with h | h
  · exact cx_52 c h1 h
  · exact cx_53 c h h2
theorem cx_154 : ∀ c, 462 ≤ c → c < 477 → ClsOK c := fun c h1 h2 => by
  rcases Nat.lt_or_ge c 469 with h | h
  · exact cx_54 c h1 h
  · exact cx_55 c h h2
theorem cx_155 : ∀ c, 477 ≤ c → c < 487 → ClsOK c := fun c h1 h2 => by
  rcases Nat.lt_or_ge c 482 with h | h
  · exact cx_56 c h1 h
  · exact cx_57 c h h2
theorem cx_156 : ∀ c, 487 ≤ c → c < 496 → ClsOK c := fun c h1 h2 => by
  rcases Nat.lt_or_ge c 492 with h | h
  · exact cx_58 c h1 h
  · exact cx_59 c h h2
theorem cx_157 : ∀ c, 496 ≤ c → c < 507 → ClsOK c := fun c h1 h2 => by
  rcases Nat.lt_or_ge c 501 with h | h
  · exact cx_60 c h1 h
  · exact cx_61 c h h2
theorem cx_158 : ∀ c, 507 ≤ c → c < 527 → ClsOK c := fun c h1 h2 => by
  rcases Nat.lt_or_ge c 510 with h | h
  · exact cx_62 c h1 h
  · exact cx_63 c h h2
theorem cx_159 : ∀ c, 527 ≤ c → c < 584 → ClsOK c := fun c h1 h2 => by
  rcases Nat.lt_or_ge c 553 with h | h
  · exact cx_64 c h1 h
  · exact cx_65 c h h2
theorem cx_160 : ∀ c, 584 ≤ c → c < 644 → ClsOK c := fun c h1 h2 => by
  rcases Nat.lt_or_ge c 621 with h | h
  · exact cx_66 c h1 h
  · exact cx_67 c h h2
theorem cx_161 : ∀ c, 644 ≤ c → c < 699 → ClsOK c := fun c h1 h2 => by
  rcases Nat.lt_or_ge c 669 with h | h
  · exact cx_68 c h1 h
  · exact cx_69 c h h2
theorem cx_162 : ∀ c, 699 ≤ c → c < 746 → ClsOK c := fun c h1 h2 => by
  rcases Nat.lt_or_ge c 728 with h | h
  · exact cx_70 c h1 h
  · exact cx_71 c h h2
theorem cx_163 : ∀ c, 746 ≤ c → c < 771 → ClsOK c := fun c h1 h2 => by
  rcases Nat.lt_or_ge c 768 with h | h
  · exact cx_72 c h1 h
  · exact cx_73 c h h2
theorem cx_164 : ∀ c, 771 ≤ c → c < 779 → ClsOK c := fun c h1 h2 => by
  rcases Nat.lt_or_ge c 775 with h | h
  · exact cx_74 c h1 h
  · exact cx_75 c h h2
theorem cx_165 : ∀ c, 779 ≤ c → c < 788 → ClsOK c := fun c h1 h2 => by
  rcases Nat.lt_or_ge c 783 with h | h
  · exact cx_76 c h1 h
  · exact cx_77 c h h2
theorem cx_166 : ∀ c, 788 ≤ c → c < 794 → ClsOK c := fun c h1 h2 => by
  rcases Nat.lt_or_ge c 791 with h | h
  · exact cx_78 c h1 h
  · exact cx_79 c h h2
theorem cx_167 : ∀ c, 794 ≤ c → c < 801 → ClsOK c := fun c h1 h2 => by
  rcases Nat.lt_or_ge c 798 with h | h
  · exact cx_80 c h1 h
  · exact cx_81 c h h2
theorem cx_168 : ∀ c, 801 ≤ c → c < 807 → ClsOK c := fun c h1 h2 => by
  rcases Nat.lt_or_ge c 804 with h | h
  · exact cx_82 c h1 h
  · exact cx_83 c h h2
theorem cx_169 : ∀ c, 807 ≤ c → c < 821 → ClsOK c := fun c h1 h2 => by
  rcases Nat.lt_or_ge c 815 with h | h
  · exact cx_84 c h1 h
  · exact cx_85 c h h2
theorem cx_170 : ∀ c, 821 ≤ c → c < 830 → ClsOK c := fun c h1 h2 => by
  rcases Nat.lt_or_ge c 826 with h | h
  · exact cx_86 c h1 h
  · exact cx_87 c h h2
theorem cx_171 : ∀ c, 830 ≤ c → c < 849 → ClsOK c := fun c h1 h2 => by
  rcases Nat.lt_or_ge c 837 with h | h
  · exact cx_88 c h1 h
  · exact cx_89 c h h2
theorem cx_172 : ∀ c, 849 ≤ c → c < 857 → ClsOK c := fun c h1 h2 => by
  rcases Nat.lt_or_ge c 853 with h | h
  · exact cx_90 c h1 h
  · exact cx_91 c h h2
theorem cx_173 : ∀ c, 857 ≤ c → c < 863 → ClsOK c := fun c h1 h2 => by
  rcases Nat.lt_or_ge c 861 with h | h
  · exact cx_92 c h1 h
  · exact cx_93 c h h2
theorem cx_174 : ∀ c, 863 ≤ c → c < 873 → ClsOK c := fun c h1 h2 => by
  rcases Nat.lt_or_ge c 868 with h | h
  · exact cx_94 c h1 h
  · exact cx_95 c h h2
theorem cx_175 : ∀ c, 873 ≤ c → c < 883 → ClsOK c := fun c h1 h2 => by
  rcases Nat.lt_or_ge c 878 with h | h
  · exact cx_96 c h1 h
  · exact cx_97 c h h2
theorem cx_176 : ∀ c, 883 ≤ c → c < 893 → ClsOK c := fun c h1 h2 => by
  rcases Nat.lt_or_ge c 887 with h | h
  · exact cx_98 c h1 h
  · exact cx_99 c h h2
theorem cx_177 : ∀ c, 893 ≤ c → c < 907 → ClsOK c := fun c h1 h2 => by
  rcases Nat.lt_or_ge c 899 with h | h
  · exact cx_100 c h1 h
  · exact cx_101 c h h2
theorem cx_178 : ∀ c, 907 ≤ c → c < 914 → ClsOK c := fun c h1 h2 => by
  rcases Nat.lt_or_ge c 910 with h | h
  · exact cx_102 c h1 h
  · exact cx_103 c h h2
theorem cx_179 : ∀ c, 914 ≤ c → c < 927 → ClsOK c := fun c h1 h2 => by
  rcases Nat.lt_or_ge c 919 with h | h
  · exact cx_104 c h1 h
  · exact cx_105 c h h2
theorem cx_180 : ∀ c, 927 ≤ c → c < 936 → ClsOK c := fun c h1 h2 => by
  rcases Nat.lt_or_ge c 931 with h | h
  · exact cx_106 c h1 h
  · exact cx_107 c h h2
theorem cx_181 : ∀ c, 936 ≤ c → c < 942 → ClsOK c := fun c h1 h2 => by
  rcases Nat.lt_or_ge c 940 with h | h
  · exact cx_108 c h1 h
  · exact cx_109 c h h2
theorem cx_182 : ∀ c, 942 ≤ c → c < 950 → ClsOK c := fun c h1 h2 => by
  rcases Nat.lt_or_ge c 946 with h | h
  · exact cx_110 c h1 h
  · exact cx_111 c h h2
theorem cx_183 : ∀ c, 950 ≤ c → c < 964 → ClsOK c := fun c h1 h2 => by
  rcases Nat.lt_or_ge c 956 with h | h
  · exact cx_112 c h1 h
  · exact cx_113 c h h2
theorem cx_184 : ∀ c, 964 ≤ c → c < 973 → ClsOK c := fun c h1 h2 => by
  rcases Nat.lt_or_ge c 968 with h | h
  · exact cx_114 c h1 h
  · exact cx_115 c h h2
theorem cx_185 : ∀ c, 973 ≤ c → c < 980 → ClsOK c := fun c h1 h2 => by
  rcases Nat.lt_or_ge c 976 with h | h
  · exact cx_116 c h1 h
  · exact cx_117 c h h2
theorem cx_186 : ∀ c, 980 ≤ c → c < 990 → ClsOK c := fun c h1 h2 => by
  rcases Nat.lt_or_ge c 986 with h | h
  · exact cx_118 c h1 h
  · exact cx_119 c h h2
theorem cx_187 : ∀ c, 990 ≤ c → c < 1000 → ClsOK c := fun c h1 h2 => by
  rcases Nat.lt_or_ge c 992 with h | h
  · exact cx_120 c h1 h
  · exact cx_121 c h h2
theorem cx_188 : ∀ c, 1000 ≤ c → c < 1010 → ClsOK c := fun c h1 h2 => by
  rcases Nat.lt_or_ge c 1004 with h | h
  · exact cx_122 c h1 h
  · exact cx_123 c h h2
theorem cx_189 : ∀ c, 1010 ≤ c → c < 1022 → ClsOK c := fun c h1 h2 => by
  rcases Nat.lt_or_ge c 1017 with h | h
  · exact cx_124 c h1 h
  · exact cx_125 c h h2
theorem cx_190 : ∀ c, 0 ≤ c → c < 107 → ClsOK c := fun c h1 h2 => by
  rcases Nat.lt_or_ge c 60 with h | h
  · exact cx_127 c h1 h
  · exact cx_128 c h h2
theorem cx_191 : ∀ c, 107 ≤ c → c < 234 → ClsOK c := fun c h1 h2 => by
  rcases Nat.lt_or_ge c 170 with h | h
  · exact cx_129 c h1 h
  · exact cx_130 c h h2
theorem cx_192 : ∀ c, 234 ≤ c → c < 268 → ClsOK c := fun c h1 h2 => by
  rcases Nat.lt_or_ge c 261 with h | h
  · exact cx_131 c h1 h
  · exact cx_132 c h h2
theorem cx_193 : ∀ c, 268 ≤ c → c < 291 → ClsOK c := fun c h1 h2 => by
  rcases Nat.lt_or_ge c 280 with h | h
  · exact cx_133 c h1 h
  · exact cx_134 c h h2
theorem cx_194 : ∀ c, 291 ≤ c → c < 312 → ClsOK c := fun c h1 h2 => by
  rcases Nat.lt_or_ge c 303 with h | h
  · exact cx_135 c h1 h
  · exact cx_136 c h h2
theorem cx_195 : ∀ c, 312 ≤ c → c < 331 → ClsOK c := fun c h1 h2 => by
  rcases Nat.lt_or_ge c 318 with h | h
  · exact cx_137 c h1 h
  · exact cx_138 c h h2
theorem cx_196 : ∀ c, 331 ≤ c → c < 343 → ClsOK c := fun c h1 h2 => by
  rcases Nat.lt_or_ge c 338 with h | h
  · exact cx_139 c h1 h
  · exact cx_140 c h h2
theorem cx_197 : ∀ c, 343 ≤ c → c < 367 → ClsOK c := fun c h1 h2 => by
  rcases Nat.lt_or_ge c 353 with h | h
  · exact cx_141 c h1 h
  · exact cx_142 c h h2
theorem cx_198 : ∀ c, 367 ≤ c → c < 386 → ClsOK c := fun c h1 h2 => by
  rcases Nat.lt_or_ge c 376 with h | h
  · exact cx_143 c h1 h
  · exact cx_144 c h h2
theorem cx_199 : ∀ c, 386 ≤ c → c < 405 → ClsOK c := fun c h1 h2 => by
  rcases Nat.lt_or_ge c 394 with h | h
  · exact cx_145 c h1 h
  · exact cx_146 c h h2
theorem cx_200 : ∀ c, 405 ≤ c → c < 421 → ClsOK c := fun c h1 h2 => by
  rcases Nat.lt_or_ge c 413 with h | h
  · exact cx_147 c h1 h
  · exact cx_148 c h h2
theorem cx_201 : ∀ c, 421 ≤ c → c < 442 → ClsOK c := fun c h1 h2 => by
  rcases Nat.lt_or_ge c 432 with h | h
  · exact cx_149 c h1 h
  · exact cx_150 c h h2
theorem cx_202 : ∀ c, 442 ≤ c → c < 456 → ClsOK c := fun c h1 h2 => by
  rcases Nat.lt_or_ge c 450 with h | h
  · exact cx_151 c h1 h
  · exact cx_152 c h h2
theorem cx_203 : ∀ c, 456 ≤ c → c < 477 → ClsOK c := fun c h1 h2 => by
  rcases Nat.lt_or_ge c 462 with h | h
  · exact cx_153 c h1 h
  · exact cx_154 c h h2
theorem cx_204 : ∀ c, 477 ≤ c → c < 496 → ClsOK c := fun c h1 h2 => by
  rcases Nat.lt_or_ge c 487 with h | h
  · exact cx_155 c h1 h
  · exact cx_156 c h h2
theorem cx_205 : ∀ c, 496 ≤ c → c < 527 → ClsOK c := fun c h1 h2 => by
  rcases Nat.lt_or_ge c 507 with h | h
  · exact cx_157 c h1 h
  · exact cx_158 c h h2
theorem cx_206 : ∀ c, 527 ≤ c → c < 644 → ClsOK c := fun c h1 h2 => by
  rcases Nat.lt_or_ge c 584 with h | h
  · exact cx_159 c h1 h
  · exact cx_160 c h h2
theorem cx_207 : ∀ c, 644 ≤ c → c < 746 → ClsOK c := fun c h1 h2 => by
  rcases Nat.lt_or_ge c 699 with h | h
  · exact cx_161 c h1 h
  · exact cx_162 c h h2
theorem cx_208 : ∀ c, 746 ≤ c → c < 779 → ClsOK c := fun c h1 h2 => by
  rcases Nat.lt_or_ge c 771 with h | h
  · exact cx_163 c h1 h
  · exact cx_164 c h h2
theorem cx_209 : ∀ c, 779 ≤ c → c < 794 → ClsOK c := fun c h1 h2 => by
  rcases Nat.lt_or_ge c 788 with h | h
  · exact cx_165 c h1 h
  · exact cx_166 c h h2
theorem cx_210 : ∀ c, 794 ≤ c → c < 807 → ClsOK c := fun c h1 h2 => by
  rcases Nat.lt_or_ge c 801 with h | h
  · exact cx_167 c h1 h
  · exact cx_168 c h h2
theorem cx_211 : ∀ c, 807 ≤ c → c < 830 → ClsOK c := fun c h1 h2 => by
  rcases Nat.lt_or_ge c 821 with h | h
  · exact cx_169 c h1 h
  · exact cx_170 c h h2
theorem cx_212 : ∀ c, 830 ≤ c → c < 857 → ClsOK c := fun c h1 h2 => by
  rcases Nat.lt_or_ge c 849 with h | h
  · exact cx_171 c h1 h
  · exact cx_172 c h h2
theorem cx_213 : ∀ c, 857 ≤ c → c < 873 → ClsOK c := fun c h1 h2 => by
  rcases Nat.lt_or_ge c 863 with h | h
  · exact cx_173 c h1 h
  · exact cx_174 c h h2
theorem cx_214 : ∀ c, 873 ≤ c → c < 893 → ClsOK c := fun c h1 h2 => by
  rcases Nat.lt_or_ge c 883 with h | h
  · exact cx_175 c h1 h
  · exact cx_176 c h h2
theorem cx_215 : ∀ c, 893 ≤ c → c < 914 → ClsOK c := fun c h1 h2 => by
  rcases Nat.lt_or_ge c 907 with h | h
  · exact cx_177 c h1 h
  · exact cx_178 c h h2
theorem cx_216 : ∀ c, 914 ≤ c → c < 936 → ClsOK c := fun c h1 h2 => by
  rcases Nat.lt_or_ge c 927 with h | h
  · exact cx_179 c h1 h
  · exact cx_180 c h h2
theorem cx_217 : ∀ c, 936 ≤ c → c < 950 → ClsOK c := fun c h1 h2 => by
  rcases Nat.lt_or_ge c 942 with h | h
  · exact cx_181 c h1 h
  · exact cx_182 c h h2
theorem cx_218 : ∀ c, 950 ≤ c → c < 973 → ClsOK c := fun c h1 h2 => by
  rcases Nat.lt_or_ge c 964 with h | h
  · exact cx_183 c h1 h
  · exact cx_184 c h h2
theorem cx_219 : ∀ c, 973 ≤ c → c < 990 → ClsOK c := fun c h1 h2 => by
  rcases Nat.lt_or_ge c 980 with h | h
  · exact cx_185 c h1 h
  · exact cx_186 c h h2
theorem cx_220 : ∀ c, 990 ≤ c → c < 1010 → ClsOK c := fun c h1 h2 => by
  rcases Nat.lt_or_ge c 1000 with h | h
  · exact cx_187 c h1 h
  · exact cx_188 c h h2
theorem cx_221 : ∀ c, 1010 ≤ c → c < 1024 → ClsOK c := fun c h1 h2 => by
  rcases Nat.lt_or_ge c 1022 with h | h
  · exact cx_189 c h1 h
  · exact cx_126 c h h2
theorem cx_222 : ∀ c, 0 ≤ c → c < 234 → ClsOK c := fun c h1 h2 => by
  rcases Nat.lt_or_ge c 107 with h | h
  · exact cx_190 c h1 h
  · exact cx_191 c h h2
theorem cx_223 : ∀ c, 234 ≤ c → c < 291 → ClsOK c := fun c h1 h2 => by
  rcases Nat.lt_or_ge c 268 with h | h
  · exact cx_192 c h1 h
  · exact cx_193 c h h2
theorem cx_224 : ∀ c, 291 ≤ c → c < 331 → ClsOK c := fun c h1 h2 => by
  rcases Nat.lt_or_ge c 312 with h | h
  · exact cx_194 c h1 h
  · exact cx_195 c h h2
theorem cx_225 : ∀ c, 331 ≤ c → c < 367 → ClsOK c := fun c h1 h2 => by
  rcases Nat.lt_or_ge c 343 with h | h
  · exact cx_196 c h1 h
  · exact cx_197 c h h2
theorem cx_226 : ∀ c, 367 ≤ c → c < 405 → ClsOK c := fun c h1 h2 => by
  rcases Nat.lt_or_ge c 386 with h | h
  · exact cx_198 c h1 h
  · exact cx_199 c h h2
theorem cx_227 : ∀ c, 405 ≤ c → c < 442 → ClsOK c := fun c h1 h2 => by
  rcases Nat.lt_or_ge c 421 with h | h
  · exact cx_200 c h1 h
  · exact cx_201 c h h2
theorem cx_228 : ∀ c, 442 ≤ c → c < 477 → ClsOK c := fun c h1 h2 => by
  rcases Nat.lt_or_ge c 456 with h | h
  · exact cx_202 c h1 h
  · exact cx_203 c h h2
theorem cx_229 : ∀ c, 477 ≤ c → c < 527 → ClsOK c := fun c h1 h2 => by
  rcases Nat.lt_or_ge c 496 with h | h
  · exact cx_204 c h1 h
  · exact cx_205 c h h2
theorem cx_230 : ∀ c, 527 ≤ c → c < 746 → ClsOK c := fun c h1 h2 => by
  rcases Nat.lt_or_ge c 644 with h | h
  · exact cx_206 c h1 h
  · exact cx_207 c h h2
theorem cx_231 : ∀ c, 746 ≤ c → c < 794 → ClsOK c := fun c h1 h2 => by
  rcases Nat.lt_or_ge c 779 with h | h
  · exact cx_208 c h1 h
  · exact cx_209 c h h2
theorem cx_232 : ∀ c, 794 ≤ c → c < 830 → ClsOK c := fun c h1 h2 => by
  rcases Nat.lt_or_ge c 807 with h | h
  · exact cx_210 c h1 h
  · exact cx_211 c h h2
theorem cx_233 : ∀ c, 830 ≤ c → c < 873 → ClsOK c := fun c h1 h2 => by
  rcases Nat.lt_or_ge c 857 with h | h
  · exact cx_212 c h1 h
  · exact cx_213 c h h2
theorem cx_234 : ∀ c, 873 ≤ c → c < 914 → ClsOK c := fun c h1 h2 => by
  rcases Nat.lt_or_ge c 893 with h | h
  · exact cx_214 c h1 h
  · exact cx_215 c h h2
theorem cx_235 : ∀ c, 914 ≤ c → c < 950 → ClsOK c := fun c h1 h2 => by
  rcases Nat.lt_or_ge c 936 with h | h
  · exact cx_216 c h1 h
  · exact cx_217 c h h2
theorem cx_236 : ∀ c, 950 ≤ c → c < 990 → ClsOK c := fun c h1 h2 => by
  rcases Nat.lt_or_ge c 973 with h | h
  · exact cx_218 c h1 h
  · exact cx_219 c h h2
theorem cx_237 : ∀ c, 990 ≤ c → c < 1024 → ClsOK c := fun c h1 h2 => by
  rcases Nat.lt_or_ge c 1010 with h | h
  · exact cx_220 c h1 h
  · exact cx_221 c h h2
theorem cx_238 : ∀ c, 0 ≤ c → c < 291 → ClsOK c := fun c h1 h2 => by
  rcases Nat.lt_or_ge c 234 with h | h
  · exact cx_222 c h1 h
  · exact cx_223 c h h2
theorem cx_239 : ∀ c, 291 ≤ c → c < 367 → ClsOK c := fun c h1 h2 => by
  rcases Nat.lt_or_ge c 331 with h | h
  · exact cx_224 c h1 h
  · exact cx_225 c h h2
theorem cx_240 : ∀ c, 367 ≤ c → c < 442 → ClsOK c := fun c h1 h2 => by
  rcases Nat.lt_or_ge c 405 with h | h
  · exact cx_226 c h1 h
  · exact cx_227 c h h2
theorem cx_241 : ∀ c, 442 ≤ c → c < 527 → ClsOK c := fun c h1 h2 => by
  rcases Nat.lt_or_ge c 477 with h | h
  · exact cx_228 c h1 h
  · exact cx_229 c h h2
theorem cx_242 : ∀ c, 527 ≤ c → c < 794 → ClsOK c := fun c h1 h2 => by
  rcases Nat.lt_or_ge c 746 with h | h
  · exact cx_230 c h1 h
  · exact cx_231 c h h2
theorem cx_243 : ∀ c, 794 ≤ c → c < 873 → ClsOK c := fun c h1 h2 => by
  rcases Nat.lt_or_ge c 830 with h | h
  · exact cx_232 c h1 h
  · exact cx_233 c h h2
theorem cx_244 : ∀ c, 873 ≤ c → c < 950 → ClsOK c := fun c h1 h2 => by
  rcases Nat.lt_or_ge c 914 with h | h
  · exact cx_234 c h1 h
  · exact cx_235 c h h2
theorem cx_245 : ∀ c, 950 ≤ c → c < 1024 → ClsOK c := fun c h1 h2 => by
  rcases Nat.lt_or_ge c 990 with h | h
  · exact cx_236 c h1 h
  · exact cx_237 c h h2
theorem cx_246 : ∀ c, 0 ≤ c → c < 367 → ClsOK c := fun c h1 h2 => by
  rcases Nat.lt_or_ge c 291 with h | h
  · exact cx_238 c h1 h
  · exact cx_239 c h h2
theorem cx_247 : ∀ c, 367 ≤ c → c < 527 → ClsOK c := fun c h1 h2 => by
  rcases Nat.lt_or_ge c 442 with h | h
  · exact cx_240 c h1 h
  · exact cx_241 c h h2
theorem cx_248 : ∀ c, 527 ≤ c → c < 873 → ClsOK c := fun c h1 h2 => by
  rcases Nat.lt_or_ge c 794 with h | h
  · exact cx_242 c h1 h
  · exact cx_243 c h h2
theorem cx_249 : ∀ c, 873 ≤ c → c < 1024 → ClsOK c := fun c h1 h2 => by
  rcases Nat.lt_or_ge c 950 with h | h
  · exact cx_244 c h1 h
  · exact cx_245 c h h2
theorem cx_250 : ∀ c, 0 ≤ c → c < 527 → ClsOK c := fun c h1 h2 => by
  rcases Nat.lt_or_ge c 367 with h | h
  · exact cx_246 c h1 h
  · exact cx_247 c h h2
theorem cx_251 : ∀ c, 527 ≤ c → c < 1024 → ClsOK c := fun c h1 h2 => by
  rcases Nat.lt_or_ge c 873 with h | h
  · exact cx_248 c h1 h
  · exact cx_249 c h h2
theorem cx_252 : ∀ c, 0 ≤ c → c < 1024 → ClsOK c := fun c h1 h2 => by
  rcases Nat.lt_or_ge c 527 with h | h
  · exact cx_250 c h1 h
  · exact cx_251 c h h2
theorem room_B : RoomBig := cls_all fun c hc => cx_252 c (Nat.zero_le _) hc
