def m_Law_body (h1 k2 a3 : Nat) (y0 y1 y2 y3 y4 y5 : Int) (N : nS) : Option (Int × nS) :=
  if (y0 % 16) = 0 then
  nbd (m_Law_pipe h1 y1 y2 y3 a3 N) (fun r2 N3 =>
  nbd (m_Mo_pipe k2 y1 y2 y3 N3) (fun r5 N6 =>
  nbd (m_Mo_thrown k2 N6) (fun r8 N9 =>
  if rg r8 then
  if rg r2 then
  if r8 = r2 then
  if r2 = 0 then
  if rg r5 then
  if rl (N9 a3 (Int.toNat 0)) then
  if (if r5 < (N9 a3 (Int.toNat 0)) then 1 else if (N9 a3 (Int.toNat 0)) = r5 then 0 else -1) = 0 then
  some (1, N9)
  else
  some (0, N9)
  else none
  else none
  else
  some (1, N9)
  else
  some (0, N9)
  else none
  else none)))
  else
  if (y0 % 16) = 1 then
  nbd (m_Law_tap h1 y1 a3 N) (fun r19 N20 =>
  nbd (m_Mo_tap k2 y1 N20) (fun r22 N23 =>
  nbd (m_Mo_thrown k2 N23) (fun r25 N26 =>
  if rg r25 then
  if rg r19 then
  if r25 = r19 then
  if r19 = 0 then
  if rg r22 then
  if r22 = 0 then
  if rl (N26 a3 (Int.toNat 0)) then
  if (if 0 < (N26 a3 (Int.toNat 0)) then 1 else if (N26 a3 (Int.toNat 0)) = 0 then 0 else -1) = 0 then
  some (1, N26)
  else
  some (0, N26)
  else none
  else
  if rl (N26 a3 (Int.toNat 0)) then
  if (if 1 < (N26 a3 (Int.toNat 0)) then 1 else if (N26 a3 (Int.toNat 0)) = 1 then 0 else -1) = 0 then
  some (1, N26)
  else
  some (0, N26)
  else none
  else none
  else
  some (1, N26)
  else
  some (0, N26)
  else none
  else none)))
  else
  if (y0 % 16) = 2 then
  nbd (m_Law_set h1 y1 y2 a3 N) (fun r39 N40 =>
  nbd (m_Mo_set k2 y1 y2 N40) (fun r42 N43 =>
  nbd (m_Mo_thrown k2 N43) (fun r45 N46 =>
  if rg r45 then
  if rg r39 then
  if r45 = r39 then
  if r39 = 0 then
  if rg r42 then
  if rl (N46 a3 (Int.toNat 0)) then
  if (if r42 < (N46 a3 (Int.toNat 0)) then 1 else if (N46 a3 (Int.toNat 0)) = r42 then 0 else -1) = 0 then
  some (1, N46)
  else
  some (0, N46)
  else none
  else none
  else
  some (1, N46)
  else
  some (0, N46)
  else none
  else none)))
  else
  if (y0 % 16) = 3 then
  nbd (m_Law_loop h1 y1 y2 a3 N) (fun r56 N57 =>
  nbd (m_Mo_loop k2 y1 y2 N57) (fun r59 N60 =>
  nbd (m_Mo_thrown k2 N60) (fun r62 N63 =>
  if rg r62 then
  if rg r56 then
  if r62 = r56 then
  if r56 = 0 then
  if rg r59 then
  if rl (N63 a3 (Int.toNat 0)) then
  if (if r59 < (N63 a3 (Int.toNat 0)) then 1 else if (N63 a3 (Int.toNat 0)) = r59 then 0 else -1) = 0 then
  some (1, N63)
  else
  some (0, N63)
  else none
  else none
  else
  some (1, N63)
  else
  some (0, N63)
  else none
  else none)))
  else
  if (y0 % 16) = 4 then
  nbd (m_Law_draw h1 y1 y2 y3 a3 N) (fun r73 N74 =>
  nbd (m_Mo_draw k2 y1 y2 y3 N74) (fun r76 N77 =>
  nbd (m_Mo_thrown k2 N77) (fun r79 N80 =>
  if rg r79 then
  if rg r73 then
  if r79 = r73 then
  if r73 = 0 then
  if rg r76 then
  if rl (N80 a3 (Int.toNat 0)) then
  if (if r76 < (N80 a3 (Int.toNat 0)) then 1 else if (N80 a3 (Int.toNat 0)) = r76 then 0 else -1) = 0 then
  some (1, N80)
  else
  some (0, N80)
  else none
  else none
  else
  some (1, N80)
  else
  some (0, N80)
  else none
  else none)))
  else
  if (y0 % 16) = 5 then
  nbd (m_Law_run h1 y1 a3 N) (fun r90 N91 =>
  nbd (m_Mo_run k2 y1 N91) (fun r93 N94 =>
  nbd (m_Mo_thrown k2 N94) (fun r96 N97 =>
  if rg r96 then
  if rg r90 then
  if r96 = r90 then
  if r90 = 0 then
  if rg r93 then
  if rl (N97 a3 (Int.toNat 0)) then
  if (if r93 < (N97 a3 (Int.toNat 0)) then 1 else if (N97 a3 (Int.toNat 0)) = r93 then 0 else -1) = 0 then
  some (1, N97)
  else
  some (0, N97)
  else none
  else none
  else
  some (1, N97)
  else
  some (0, N97)
  else none
  else none)))
  else
  if (y0 % 16) = 6 then
  nbd (m_Law_plug h1 y1 y2 y3 a3 N) (fun r107 N108 =>
  nbd (m_Mo_plug k2 y1 y2 y3 N108) (fun r110 N111 =>
  nbd (m_Mo_thrown k2 N111) (fun r113 N114 =>
  if rg r113 then
  if rg r107 then
  if r113 = r107 then
  if r107 = 0 then
  if rg r110 then
  if rl (N114 a3 (Int.toNat 0)) then
  if (if r110 < (N114 a3 (Int.toNat 0)) then 1 else if (N114 a3 (Int.toNat 0)) = r110 then 0 else -1) = 0 then
  some (1, N114)
  else
  some (0, N114)
  else none
  else none
  else
  some (1, N114)
  else
  some (0, N114)
  else none
  else none)))
  else
  if (y0 % 16) = 7 then
  nbd (m_Law_told h1 y1 y2 a3 N) (fun r124 N125 =>
  nbd (m_Mo_told k2 y1 y2 N125) (fun r127 N128 =>
  nbd (m_Mo_thrown k2 N128) (fun r130 N131 =>
  if rg r130 then
  if rg r124 then
  if r130 = r124 then
  if r124 = 0 then
  if rg r127 then
  if rl (N131 a3 (Int.toNat 0)) then
  if (if r127 < (N131 a3 (Int.toNat 0)) then 1 else if (N131 a3 (Int.toNat 0)) = r127 then 0 else -1) = 0 then
  some (1, N131)
  else
  some (0, N131)
  else none
  else none
  else
  some (1, N131)
  else
  some (0, N131)
  else none
  else none)))
  else
  if (y0 % 16) = 8 then
  nbd (m_Law_dead h1 y1 y2 a3 N) (fun r141 N142 =>
  nbd (m_Mo_dead k2 y1 y2 N142) (fun r144 N145 =>
  nbd (m_Mo_thrown k2 N145) (fun r147 N148 =>
  if rg r147 then
  if rg r141 then
  if r147 = r141 then
  if r141 = 0 then
  if rg r144 then
  if rl (N148 a3 (Int.toNat 0)) then
  if (if r144 < (N148 a3 (Int.toNat 0)) then 1 else if (N148 a3 (Int.toNat 0)) = r144 then 0 else -1) = 0 then
  some (1, N148)
  else
  some (0, N148)
  else none
  else none
  else
  some (1, N148)
  else
  some (0, N148)
  else none
  else none)))
  else
  if (y0 % 16) = 9 then
  nbd (m_Law_warm h1 y1 y2 a3 N) (fun r158 N159 =>
  nbd (m_Mo_warm k2 y1 y2 N159) (fun r161 N162 =>
  nbd (m_Mo_thrown k2 N162) (fun r164 N165 =>
  if rg r164 then
  if rg r158 then
  if r164 = r158 then
  if r158 = 0 then
  if rg r161 then
  if rl (N165 a3 (Int.toNat 0)) then
  if (if r161 < (N165 a3 (Int.toNat 0)) then 1 else if (N165 a3 (Int.toNat 0)) = r161 then 0 else -1) = 0 then
  some (1, N165)
  else
  some (0, N165)
  else none
  else none
  else
  some (1, N165)
  else
  some (0, N165)
  else none
  else none)))
  else
  if (y0 % 16) = 10 then
  nbd (m_Law_drawn h1 y1 y2 a3 N) (fun r175 N176 =>
  nbd (m_Mo_drawn k2 y1 y2 N176) (fun r178 N179 =>
  nbd (m_Mo_thrown k2 N179) (fun r181 N182 =>
  if rg r181 then
  if rg r175 then
  if r181 = r175 then
  if r175 = 0 then
  if rg r178 then
  if rl (N182 a3 (Int.toNat 0)) then
  if (if r178 < (N182 a3 (Int.toNat 0)) then 1 else if (N182 a3 (Int.toNat 0)) = r178 then 0 else -1) = 0 then
  some (1, N182)
  else
  some (0, N182)
  else none
  else none
  else
  some (1, N182)
  else
  some (0, N182)
  else none
  else none)))
  else
  if (y0 % 16) = 11 then
  nbd (m_Law_heat h1 y1 a3 N) (fun r192 N193 =>
  nbd (m_Mo_heat k2 y1 N193) (fun r195 N196 =>
  nbd (m_Mo_thrown k2 N196) (fun r198 N199 =>
  if rg r198 then
  if rg r192 then
  if r198 = r192 then
  if r192 = 0 then
  if rl (N199 a3 (Int.toNat 0)) then
  if rl r195 then
  if (if r195 < (N199 a3 (Int.toNat 0)) then 1 else if (N199 a3 (Int.toNat 0)) = r195 then 0 else -1) = 0 then
  some (1, N199)
  else
  some (0, N199)
  else none
  else none
  else
  some (1, N199)
  else
  some (0, N199)
  else none
  else none)))
  else
  if (y0 % 16) = 12 then
  nbd (m_Law_shock h1 y1 y2 y3 y4 y5 a3 N) (fun r209 N210 =>
  nbd (m_Mo_shock k2 y1 y2 y3 y4 y5 N210) (fun r212 N213 =>
  nbd (m_Mo_thrown k2 N213) (fun r215 N216 =>
  if rg r215 then
  if rg r209 then
  if r215 = r209 then
  if r209 = 0 then
  if rg r212 then
  if rl (N216 a3 (Int.toNat 0)) then
  if (if r212 < (N216 a3 (Int.toNat 0)) then 1 else if (N216 a3 (Int.toNat 0)) = r212 then 0 else -1) = 0 then
  some (1, N216)
  else
  some (0, N216)
  else none
  else none
  else
  some (1, N216)
  else
  some (0, N216)
  else none
  else none)))
  else
  some (1, N)
set_option maxRecDepth 20000 in
theorem k_371 : Cond.methodLink R_Law 62 y_Law_pipe ∈ TT := tt_i 211 (by decide +kernel) (by decide +kernel)
set_option maxRecDepth 20000 in
theorem k_372 : Cond.static y_Law_pipe ∈ TT := tt_i 212 (by decide +kernel) (by decide +kernel)
set_option maxRecDepth 20000 in
theorem k_373 : Cond.initialized R_Law ∈ TT := tt_i 22 (by decide +kernel) (by decide +kernel)
set_option maxRecDepth 20000 in
theorem k_374 : Cond.codeWith y_Law_pipe b_Law_pipe 6 (some .int) [(0, 12, 15, 13), (0, 12, 19, 15)] ∈ TT := tt_i 213 (by decide +kernel) (by decide +kernel)
set_option maxRecDepth 20000 in
theorem k_375 : Cond.methodLink R_Law 67 y_Mo_pipe ∈ TT := tt_i 674 (by decide +kernel) (by decide +kernel)
set_option maxRecDepth 20000 in
theorem k_376 : Cond.code y_Mo_pipe b_Mo_pipe 4 (some .int) ∈ TT := tt_i 677 (by decide +kernel) (by decide +kernel)
set_option maxRecDepth 20000 in
theorem k_377 : Cond.instanceMethod y_Mo_pipe ∈ TT := tt_i 675 (by decide +kernel) (by decide +kernel)
set_option maxRecDepth 20000 in
theorem k_378 : Cond.selects R_Mo y_Mo_pipe y_Mo_pipe ∈ TT := tt_i 676 (by decide +kernel) (by decide +kernel)
set_option maxRecDepth 20000 in
theorem k_379 : Cond.methodLink R_Law 68 y_Mo_thrown ∈ TT := tt_i 670 (by decide +kernel) (by decide +kernel)
set_option maxRecDepth 20000 in
theorem k_380 : Cond.code y_Mo_thrown b_Mo_thrown 1 (some .int) ∈ TT := tt_i 673 (by decide +kernel) (by decide +kernel)
set_option maxRecDepth 20000 in
theorem k_381 : Cond.instanceMethod y_Mo_thrown ∈ TT := tt_i 671 (by decide +kernel) (by decide +kernel)
set_option maxRecDepth 20000 in
theorem k_382 : Cond.selects R_Mo y_Mo_thrown y_Mo_thrown ∈ TT := tt_i 672 (by decide +kernel) (by decide +kernel)
set_option maxRecDepth 20000 in
theorem k_383 : Cond.methodLink R_Law 72 y_Law_tap ∈ TT := tt_i 328 (by decide +kernel) (by decide +kernel)
set_option maxRecDepth 20000 in
theorem k_384 : Cond.static y_Law_tap ∈ TT := tt_i 329 (by decide +kernel) (by decide +kernel)
set_option maxRecDepth 20000 in
theorem k_385 : Cond.codeWith y_Law_tap b_Law_tap 4 (some .int) [(0, 16, 19, 13)] ∈ TT := tt_i 330 (by decide +kernel) (by decide +kernel)
set_option maxRecDepth 20000 in
theorem k_386 : Cond.methodLink R_Law 75 y_Mo_tap ∈ TT := tt_i 685 (by decide +kernel) (by decide +kernel)
set_option maxRecDepth 20000 in
theorem k_387 : Cond.code y_Mo_tap b_Mo_tap 3 (some .boolean) ∈ TT := tt_i 688 (by decide +kernel) (by decide +kernel)
set_option maxRecDepth 20000 in
theorem k_388 : Cond.instanceMethod y_Mo_tap ∈ TT := tt_i 686 (by decide +kernel) (by decide +kernel)
set_option maxRecDepth 20000 in
theorem k_389 : Cond.selects R_Mo y_Mo_tap y_Mo_tap ∈ TT := tt_i 687 (by decide +kernel) (by decide +kernel)
set_option maxRecDepth 20000 in
theorem k_390 : Cond.methodLink R_Law 76 y_Law_set ∈ TT := tt_i 335 (by decide +kernel) (by decide +kernel)
set_option maxRecDepth 20000 in
theorem k_391 : Cond.static y_Law_set ∈ TT := tt_i 336 (by decide +kernel) (by decide +kernel)
set_option maxRecDepth 20000 in
theorem k_392 : Cond.codeWith y_Law_set b_Law_set 5 (some .int) [(0, 10, 13, 13)] ∈ TT := tt_i 337 (by decide +kernel) (by decide +kernel)
set_option maxRecDepth 20000 in
theorem k_393 : Cond.methodLink R_Law 79 y_Mo_set ∈ TT := tt_i 693 (by decide +kernel) (by decide +kernel)
set_option maxRecDepth 20000 in
theorem k_394 : Cond.code y_Mo_set b_Mo_set 5 (some .int) ∈ TT := tt_i 696 (by decide +kernel) (by decide +kernel)
set_option maxRecDepth 20000 in
theorem k_395 : Cond.instanceMethod y_Mo_set ∈ TT := tt_i 694 (by decide +kernel) (by decide +kernel)
set_option maxRecDepth 20000 in
theorem k_396 : Cond.selects R_Mo y_Mo_set y_Mo_set ∈ TT := tt_i 695 (by decide +kernel) (by decide +kernel)
set_option maxRecDepth 20000 in
theorem k_397 : Cond.methodLink R_Law 80 y_Law_loop ∈ TT := tt_i 351 (by decide +kernel) (by decide +kernel)
set_option maxRecDepth 20000 in
theorem k_398 : Cond.static y_Law_loop ∈ TT := tt_i 352 (by decide +kernel) (by decide +kernel)
set_option maxRecDepth 20000 in
theorem k_399 : Cond.codeWith y_Law_loop b_Law_loop 5 (some .int) [(0, 10, 13, 13)] ∈ TT := tt_i 353 (by decide +kernel) (by decide +kernel)
set_option maxRecDepth 20000 in
theorem k_400 : Cond.methodLink R_Law 82 y_Mo_loop ∈ TT := tt_i 697 (by decide +kernel) (by decide +kernel)
set_option maxRecDepth 20000 in
theorem k_401 : Cond.code y_Mo_loop b_Mo_loop 4 (some .int) ∈ TT := tt_i 700 (by decide +kernel) (by decide +kernel)
set_option maxRecDepth 20000 in
theorem k_402 : Cond.instanceMethod y_Mo_loop ∈ TT := tt_i 698 (by decide +kernel) (by decide +kernel)
set_option maxRecDepth 20000 in
theorem k_403 : Cond.selects R_Mo y_Mo_loop y_Mo_loop ∈ TT := tt_i 699 (by decide +kernel) (by decide +kernel)
set_option maxRecDepth 20000 in
theorem k_404 : Cond.methodLink R_Law 83 y_Law_draw ∈ TT := tt_i 358 (by decide +kernel) (by decide +kernel)
set_option maxRecDepth 20000 in
theorem k_405 : Cond.static y_Law_draw ∈ TT := tt_i 359 (by decide +kernel) (by decide +kernel)
set_option maxRecDepth 20000 in
theorem k_406 : Cond.codeWith y_Law_draw b_Law_draw 6 (some .int) [(0, 12, 15, 13), (0, 12, 19, 15)] ∈ TT := tt_i 360 (by decide +kernel) (by decide +kernel)
set_option maxRecDepth 20000 in
theorem k_407 : Cond.methodLink R_Law 85 y_Mo_draw ∈ TT := tt_i 701 (by decide +kernel) (by decide +kernel)
set_option maxRecDepth 20000 in
theorem k_408 : Cond.code y_Mo_draw b_Mo_draw 4 (some .int) ∈ TT := tt_i 704 (by decide +kernel) (by decide +kernel)
set_option maxRecDepth 20000 in
theorem k_409 : Cond.instanceMethod y_Mo_draw ∈ TT := tt_i 702 (by decide +kernel) (by decide +kernel)
set_option maxRecDepth 20000 in
theorem k_410 : Cond.selects R_Mo y_Mo_draw y_Mo_draw ∈ TT := tt_i 703 (by decide +kernel) (by decide +kernel)
set_option maxRecDepth 20000 in
theorem k_411 : Cond.methodLink R_Law 86 y_Law_run ∈ TT := tt_i 372 (by decide +kernel) (by decide +kernel)
set_option maxRecDepth 20000 in
theorem k_412 : Cond.static y_Law_run ∈ TT := tt_i 373 (by decide +kernel) (by decide +kernel)
set_option maxRecDepth 20000 in
theorem k_413 : Cond.codeWith y_Law_run b_Law_run 4 (some .int) [(0, 9, 12, 13), (0, 9, 15, 15)] ∈ TT := tt_i 374 (by decide +kernel) (by decide +kernel)
set_option maxRecDepth 20000 in
theorem k_414 : Cond.methodLink R_Law 88 y_Mo_run ∈ TT := tt_i 705 (by decide +kernel) (by decide +kernel)
set_option maxRecDepth 20000 in
theorem k_415 : Cond.code y_Mo_run b_Mo_run 4 (some .int) ∈ TT := tt_i 708 (by decide +kernel) (by decide +kernel)
set_option maxRecDepth 20000 in
theorem k_416 : Cond.instanceMethod y_Mo_run ∈ TT := tt_i 706 (by decide +kernel) (by decide +kernel)
set_option maxRecDepth 20000 in
theorem k_417 : Cond.selects R_Mo y_Mo_run y_Mo_run ∈ TT := tt_i 707 (by decide +kernel) (by decide +kernel)
set_option maxRecDepth 20000 in
theorem k_418 : Cond.methodLink R_Law 89 y_Law_plug ∈ TT := tt_i 452 (by decide +kernel) (by decide +kernel)
set_option maxRecDepth 20000 in
theorem k_419 : Cond.static y_Law_plug ∈ TT := tt_i 453 (by decide +kernel) (by decide +kernel)
set_option maxRecDepth 20000 in
theorem k_420 : Cond.codeWith y_Law_plug b_Law_plug 6 (some .int) [(0, 12, 15, 13)] ∈ TT := tt_i 454 (by decide +kernel) (by decide +kernel)
set_option maxRecDepth 20000 in
theorem k_421 : Cond.methodLink R_Law 91 y_Mo_plug ∈ TT := tt_i 741 (by decide +kernel) (by decide +kernel)
set_option maxRecDepth 20000 in
theorem k_422 : Cond.code y_Mo_plug b_Mo_plug 4 (some .int) ∈ TT := tt_i 744 (by decide +kernel) (by decide +kernel)
set_option maxRecDepth 20000 in
theorem k_423 : Cond.instanceMethod y_Mo_plug ∈ TT := tt_i 742 (by decide +kernel) (by decide +kernel)
set_option maxRecDepth 20000 in
theorem k_424 : Cond.selects R_Mo y_Mo_plug y_Mo_plug ∈ TT := tt_i 743 (by decide +kernel) (by decide +kernel)
set_option maxRecDepth 20000 in
theorem k_425 : Cond.methodLink R_Law 92 y_Law_told ∈ TT := tt_i 463 (by decide +kernel) (by decide +kernel)
set_option maxRecDepth 20000 in
theorem k_426 : Cond.static y_Law_told ∈ TT := tt_i 464 (by decide +kernel) (by decide +kernel)
set_option maxRecDepth 20000 in
theorem k_427 : Cond.codeWith y_Law_told b_Law_told 5 (some .int) [(0, 10, 13, 13)] ∈ TT := tt_i 465 (by decide +kernel) (by decide +kernel)
set_option maxRecDepth 20000 in
theorem k_428 : Cond.methodLink R_Law 94 y_Mo_told ∈ TT := tt_i 745 (by decide +kernel) (by decide +kernel)
set_option maxRecDepth 20000 in
theorem k_429 : Cond.code y_Mo_told b_Mo_told 3 (some .int) ∈ TT := tt_i 748 (by decide +kernel) (by decide +kernel)
set_option maxRecDepth 20000 in
theorem k_430 : Cond.instanceMethod y_Mo_told ∈ TT := tt_i 746 (by decide +kernel) (by decide +kernel)
set_option maxRecDepth 20000 in
theorem k_431 : Cond.selects R_Mo y_Mo_told y_Mo_told ∈ TT := tt_i 747 (by decide +kernel) (by decide +kernel)
set_option maxRecDepth 20000 in
theorem k_432 : Cond.methodLink R_Law 95 y_Law_dead ∈ TT := tt_i 476 (by decide +kernel) (by decide +kernel)
set_option maxRecDepth 20000 in
theorem k_433 : Cond.static y_Law_dead ∈ TT := tt_i 477 (by decide +kernel) (by decide +kernel)
set_option maxRecDepth 20000 in
theorem k_434 : Cond.codeWith y_Law_dead b_Law_dead 5 (some .int) [(0, 10, 13, 13)] ∈ TT := tt_i 478 (by decide +kernel) (by decide +kernel)
set_option maxRecDepth 20000 in
theorem k_435 : Cond.methodLink R_Law 97 y_Mo_dead ∈ TT := tt_i 753 (by decide +kernel) (by decide +kernel)
set_option maxRecDepth 20000 in
theorem k_436 : Cond.code y_Mo_dead b_Mo_dead 6 (some .int) ∈ TT := tt_i 756 (by decide +kernel) (by decide +kernel)
set_option maxRecDepth 20000 in
theorem k_437 : Cond.instanceMethod y_Mo_dead ∈ TT := tt_i 754 (by decide +kernel) (by decide +kernel)
set_option maxRecDepth 20000 in
theorem k_438 : Cond.selects R_Mo y_Mo_dead y_Mo_dead ∈ TT := tt_i 755 (by decide +kernel) (by decide +kernel)
set_option maxRecDepth 20000 in
theorem k_439 : Cond.methodLink R_Law 98 y_Law_warm ∈ TT := tt_i 492 (by decide +kernel) (by decide +kernel)
set_option maxRecDepth 20000 in
theorem k_440 : Cond.static y_Law_warm ∈ TT := tt_i 493 (by decide +kernel) (by decide +kernel)
set_option maxRecDepth 20000 in
theorem k_441 : Cond.codeWith y_Law_warm b_Law_warm 5 (some .int) [(0, 10, 13, 13)] ∈ TT := tt_i 494 (by decide +kernel) (by decide +kernel)
set_option maxRecDepth 20000 in
theorem k_442 : Cond.methodLink R_Law 100 y_Mo_warm ∈ TT := tt_i 757 (by decide +kernel) (by decide +kernel)
set_option maxRecDepth 20000 in
theorem k_443 : Cond.code y_Mo_warm b_Mo_warm 6 (some .int) ∈ TT := tt_i 760 (by decide +kernel) (by decide +kernel)
set_option maxRecDepth 20000 in
theorem k_444 : Cond.instanceMethod y_Mo_warm ∈ TT := tt_i 758 (by decide +kernel) (by decide +kernel)
set_option maxRecDepth 20000 in
theorem k_445 : Cond.selects R_Mo y_Mo_warm y_Mo_warm ∈ TT := tt_i 759 (by decide +kernel) (by decide +kernel)
set_option maxRecDepth 20000 in
theorem k_446 : Cond.methodLink R_Law 101 y_Law_drawn ∈ TT := tt_i 503 (by decide +kernel) (by decide +kernel)
set_option maxRecDepth 20000 in
theorem k_447 : Cond.static y_Law_drawn ∈ TT := tt_i 504 (by decide +kernel) (by decide +kernel)
set_option maxRecDepth 20000 in
theorem k_448 : Cond.codeWith y_Law_drawn b_Law_drawn 5 (some .int) [(0, 10, 13, 13)] ∈ TT := tt_i 505 (by decide +kernel) (by decide +kernel)
set_option maxRecDepth 20000 in
theorem k_449 : Cond.methodLink R_Law 103 y_Mo_drawn ∈ TT := tt_i 761 (by decide +kernel) (by decide +kernel)
set_option maxRecDepth 20000 in
theorem k_450 : Cond.code y_Mo_drawn b_Mo_drawn 3 (some .int) ∈ TT := tt_i 764 (by decide +kernel) (by decide +kernel)
set_option maxRecDepth 20000 in
theorem k_451 : Cond.instanceMethod y_Mo_drawn ∈ TT := tt_i 762 (by decide +kernel) (by decide +kernel)
set_option maxRecDepth 20000 in
theorem k_452 : Cond.selects R_Mo y_Mo_drawn y_Mo_drawn ∈ TT := tt_i 763 (by decide +kernel) (by decide +kernel)
set_option maxRecDepth 20000 in
theorem k_453 : Cond.methodLink R_Law 104 y_Law_heat ∈ TT := tt_i 510 (by decide +kernel) (by decide +kernel)
set_option maxRecDepth 20000 in
theorem k_454 : Cond.static y_Law_heat ∈ TT := tt_i 511 (by decide +kernel) (by decide +kernel)
set_option maxRecDepth 20000 in
theorem k_455 : Cond.codeWith y_Law_heat b_Law_heat 4 (some .int) [(0, 8, 11, 13)] ∈ TT := tt_i 512 (by decide +kernel) (by decide +kernel)
set_option maxRecDepth 20000 in
theorem k_456 : Cond.methodLink R_Law 106 y_Mo_heat ∈ TT := tt_i 765 (by decide +kernel) (by decide +kernel)
set_option maxRecDepth 20000 in
theorem k_457 : Cond.code y_Mo_heat b_Mo_heat 6 (some .long) ∈ TT := tt_i 768 (by decide +kernel) (by decide +kernel)
set_option maxRecDepth 20000 in
theorem k_458 : Cond.instanceMethod y_Mo_heat ∈ TT := tt_i 766 (by decide +kernel) (by decide +kernel)
set_option maxRecDepth 20000 in
theorem k_459 : Cond.selects R_Mo y_Mo_heat y_Mo_heat ∈ TT := tt_i 767 (by decide +kernel) (by decide +kernel)
set_option maxRecDepth 20000 in
theorem k_460 : Cond.methodLink R_Law 107 y_Law_shock ∈ TT := tt_i 521 (by decide +kernel) (by decide +kernel)
set_option maxRecDepth 20000 in
theorem k_461 : Cond.static y_Law_shock ∈ TT := tt_i 522 (by decide +kernel) (by decide +kernel)
set_option maxRecDepth 20000 in
theorem k_462 : Cond.codeWith y_Law_shock b_Law_shock 8 (some .int) [(0, 16, 19, 13)] ∈ TT := tt_i 523 (by decide +kernel) (by decide +kernel)
set_option maxRecDepth 20000 in
theorem k_463 : Cond.methodLink R_Law 110 y_Mo_shock ∈ TT := tt_i 769 (by decide +kernel) (by decide +kernel)
set_option maxRecDepth 20000 in
theorem k_464 : Cond.code y_Mo_shock b_Mo_shock 16 (some .int) ∈ TT := tt_i 772 (by decide +kernel) (by decide +kernel)
set_option maxRecDepth 20000 in
theorem k_465 : Cond.instanceMethod y_Mo_shock ∈ TT := tt_i 770 (by decide +kernel) (by decide +kernel)
set_option maxRecDepth 20000 in
theorem k_466 : Cond.selects R_Mo y_Mo_shock y_Mo_shock ∈ TT := tt_i 771 (by decide +kernel) (by decide +kernel)
set_option maxRecDepth 100000 in
set_option maxHeartbeats 8000000 in
theorem w_Law_body {p : Program} {l : Launch} {e : Env} {s : State} {m : MethodId} {args : Array Value} {below : List Frame} {meth : Method} {c : Code} {Q : State → Prop} {D : va_G} {ct : Nat → ClassId} {A : Nat → Prop} {ad : Nat → Nat} {S : nH} {cells slots : Nat} (hl0 : l.stackTraces = false) (hC : nC p s m args c D vwCl ct A ad S 8 b_Law_law R_Law TT) (hX9 : nX A s s.heap) {b L : Nat} {X : Nat → Int} (hXs : va_X b L (fun j => iI (X j)) s s.heap) (hbl : b < s.heap.size) (hbA : ¬ A b) (hL : L ≤ 3072) (h1 : Nat) (hp1 : isH S h1) (k2 : Nat) (hp2 : isM S k2) (a3 : Nat) (hp3 : isO S a3) (x4 : Int) (hx4 : rg x4) (hi : 0 ≤ x4 ∧ x4 + 6 ≤ (L : Int)) (y0 y1 y2 y3 y4 y5 : Int) (e0 : X (Int.toNat x4) = y0) (e1 : X (Int.toNat (x4 + 1)) = y1) (e2 : X (Int.toNat (x4 + 2)) = y2) (e3 : X (Int.toNat (x4 + 3)) = y3) (e4 : X (Int.toNat (x4 + 4)) = y4) (e5 : X (Int.toNat (x4 + 5)) = y5) (hy0 : rg y0) (hy1 : rg y1) (hy2 : rg y2) (hy3 : rg y3) (hy4 : rg y4) (hy5 : rg y5) (hce : cells + 5 ≤ room_1.cells) (hsl : slots + 30 ≤ room_1.slots) (N No : nS) (hm : m_Law_body h1 k2 a3 y0 y1 y2 y3 y4 y5 N = some (1, No)) (kk : nV p l e room_1 s m args below meth c (cells + 5) (slots + 30) Q D vwCl ct A ad S 8 No 1034 [(0, .ref b), (1, .ref (ad h1)), (2, .ref (ad k2)), (3, .ref (ad a3)), (4, .int (iI x4))] []) : nV p l e room_1 s m args below meth c cells slots Q D vwCl ct A ad S 8 N 33 [(0, .ref b), (1, .ref (ad h1)), (2, .ref (ad k2)), (3, .ref (ad a3)), (4, .int (iI x4))] [] := by
  obtain ⟨hi0, hi6⟩ := hi
  rw [m_Law_body] at hm
  refine nv_aload_n hC d_Law_law_33 rfl 0 rfl ?_
  refine nv_iload hC d_Law_law_34 4 rfl ?_
  refine nv_sld hC hXs hbl hbA (by omega) ⟨by omega, by omega⟩ e0 d_Law_law_36 ?_
  refine nv_bipush hC (z := 15) d_Law_law_37 rfl ?_
  refine nv_iand15 hC d_Law_law_39 ?_
  by_cases c1 : (y0 % 16) = 0
  · have hm := if_t c1 hm
    refine nv_tableIn hC 0 rg_m16 c1 d_Law_law_40 (tgt := 108) (by decide) (by decide) rfl (by decide) ?_
    refine nv_aload_n hC d_Law_law_108 rfl 1 rfl ?_
    refine nv_aload_n hC d_Law_law_109 rfl 0 rfl ?_
    refine nv_iload hC d_Law_law_110 4 rfl ?_
    refine nv_iconst hC d_Law_law_112 ?_
    refine nv_iadd hC d_Law_law_113 ?_
    refine nv_sld hC hXs hbl hbA (by omega) ⟨by omega, by omega⟩ e1 d_Law_law_114 ?_
    refine nv_aload_n hC d_Law_law_115 rfl 0 rfl ?_
    refine nv_iload hC d_Law_law_116 4 rfl ?_
    refine nv_iconst hC d_Law_law_118 ?_
    refine nv_iadd hC d_Law_law_119 ?_
    refine nv_sld hC hXs hbl hbA (by omega) ⟨by omega, by omega⟩ e2 d_Law_law_120 ?_
    refine nv_aload_n hC d_Law_law_121 rfl 0 rfl ?_
    refine nv_iload hC d_Law_law_122 4 rfl ?_
    refine nv_iconst hC d_Law_law_124 ?_
    refine nv_iadd hC d_Law_law_125 ?_
    refine nv_sld hC hXs hbl hbA (by omega) ⟨by omega, by omega⟩ e3 d_Law_law_126 ?_
    refine nv_aload_n hC d_Law_law_127 rfl 3 rfl ?_
    obtain ⟨r2, N3, hq4, hm⟩ := nbd_s hm
    refine nvw_cally (x := r2) (N' := N3) (nrw_S hC hX9 (As := [.ref (ad h1), .int (iI y1), .int (iI y2), .int (iI y3), .ref (ad a3)]) (st := []) (c_Law_pipe l hl0 hC.2.2.1 h1 hp1 y1 hy1 y2 hy2 y3 hy3 a3 hp3 N r2 N3 hq4) (vx_cwSW 5 hC.1.2.2.2.2 (tt_SW k_371 k_372 k_373 k_374) rfl rfl rfl (by decide +kernel) ⟨Nat.le_of_ble_eq_true rfl, Nat.le_of_ble_eq_true rfl⟩) rfl rfl (Nat.le_of_ble_eq_true rfl) ⟨(by omega), (by omega)⟩ d_Law_law_128) ?_
    refine nv_istore (lv' := [(5, .int (iI r2)), (0, .ref b), (1, .ref (ad h1)), (2, .ref (ad k2)), (3, .ref (ad a3)), (4, .int (iI x4))]) hC d_Law_law_131 (by decide) rfl ?_
    refine nv_aload_n hC d_Law_law_133 rfl 3 rfl ?_
    refine nv_aload_n hC d_Law_law_134 rfl 1 rfl ?_
    refine nv_iload hC d_Law_law_135 5 rfl ?_
    refine nv_iconst hC d_Law_law_137 ?_
    refine nv_iadd hC d_Law_law_138 ?_
    refine nv_sld hC hXs hbl hbA (by omega) ⟨by omega, by omega⟩ e1 d_Law_law_139 ?_
    refine nv_aload_n hC d_Law_law_140 rfl 1 rfl ?_
    refine nv_iload hC d_Law_law_141 5 rfl ?_
    refine nv_iconst hC d_Law_law_143 ?_
    refine nv_iadd hC d_Law_law_144 ?_
    refine nv_sld hC hXs hbl hbA (by omega) ⟨by omega, by omega⟩ e2 d_Law_law_145 ?_
    refine nv_aload_n hC d_Law_law_146 rfl 1 rfl ?_
    refine nv_iload hC d_Law_law_147 5 rfl ?_
    refine nv_iconst hC d_Law_law_149 ?_
    refine nv_iadd hC d_Law_law_150 ?_
    refine nv_sld hC hXs hbl hbA (by omega) ⟨by omega, by omega⟩ e3 d_Law_law_151 ?_
    obtain ⟨r5, N6, hq7, hm⟩ := nbd_s hm
    refine nv_calli (x := r5) (N' := N6) (nr_V hC (As := [.int (iI y1), .int (iI y2), .int (iI y3)]) (st := []) hp2.1 rfl (c_Mo_pipe l hC.2.2.1 k2 hp2 y1 hy1 y2 hy2 y3 hy3 N3 r5 N6 hq7) (cwV 3 hC.1.2.2.2.2 (tt_V k_375 k_377 k_378 k_229 k_376) rfl rfl rfl (by decide +kernel) ⟨Nat.le_of_ble_eq_true rfl, Nat.le_of_ble_eq_true rfl⟩) rfl rfl (Nat.le_of_ble_eq_true rfl) ⟨(by omega), (by omega)⟩ d_Law_law_152) ?_
    refine nv_istore (lv' := [(6, .int (iI r5)), (5, .int (iI r2)), (0, .ref b), (1, .ref (ad h1)), (2, .ref (ad k2)), (3, .ref (ad a3)), (4, .int (iI x4))]) hC d_Law_law_155 (by decide) rfl ?_
    refine nv_aload_n hC d_Law_law_157 rfl 4 rfl ?_
    obtain ⟨r8, N9, hq10, hm⟩ := nbd_s hm
    refine nv_calli (x := r8) (N' := N9) (nr_V hC (As := []) (st := []) hp2.1 rfl (c_Mo_thrown l hC.2.2.1 k2 hp2 N6 r8 N9 hq10) (cwV 0 hC.1.2.2.2.2 (tt_V k_379 k_381 k_382 k_229 k_380) rfl rfl rfl (by decide +kernel) ⟨Nat.le_of_ble_eq_true rfl, Nat.le_of_ble_eq_true rfl⟩) rfl rfl (Nat.le_of_ble_eq_true rfl) ⟨(by omega), (by omega)⟩ d_Law_law_158) ?_
    refine nv_iload hC d_Law_law_161 1 rfl ?_
    obtain ⟨hr11, hm⟩ := ck_s hm
    obtain ⟨hr12, hm⟩ := ck_s hm
    refine nv_icmp_eq hC hr11 hr12 d_Law_law_163 (tgt := 168) (by decide) (fun c13 => ?_) (fun c13 => ?_)
    · have hm := if_t c13 hm
      refine nv_iload hC d_Law_law_168 1 rfl ?_
      refine nv_if_ne hC hr12 d_Law_law_170 (tgt := 185) (by decide) (fun c14 => ?_) (fun c14 => ?_)
      · have hm := if_f c14 hm
        refine nv_goto hC d_Law_law_185 (tgt := 1034) (by decide) ?_
        obtain ⟨-, rfl⟩ := ret_s hm
        refine nv_sub (lv' := [(0, .ref b), (1, .ref (ad h1)), (2, .ref (ad k2)), (3, .ref (ad a3)), (4, .int (iI x4))]) [2, 3, 4, 5, 6] rfl ?_
        refine nv_widen (k := cells + 5) (n := slots + 30) (by omega) (by omega) ?_
        exact kk
      · have hm := if_t c14 hm
        refine nv_aload_n hC d_Law_law_173 rfl 5 rfl ?_
        refine nv_iconst hC d_Law_law_174 ?_
        refine nv_lald hC hp3 (by decide) ⟨by decide, by decide⟩ d_Law_law_175 ?_
        refine nv_iload hC d_Law_law_176 0 rfl ?_
        obtain ⟨hr15, hm⟩ := ck_s hm
        refine nv_i2l hC d_Law_law_178 hr15 ?_
        obtain ⟨hc16, hm⟩ := ck_s hm
        refine nv_lcmp hC hc16 (rl_rg hr15) d_Law_law_179 ?_
        refine nv_if_eq hC rg_cmp d_Law_law_180 (tgt := 185) (by decide) (fun c17 => ?_) (fun c17 => ?_)
        · have hm := if_t c17 hm
          refine nv_goto hC d_Law_law_185 (tgt := 1034) (by decide) ?_
          obtain ⟨-, rfl⟩ := ret_s hm
          refine nv_sub (lv' := [(0, .ref b), (1, .ref (ad h1)), (2, .ref (ad k2)), (3, .ref (ad a3)), (4, .int (iI x4))]) [2, 3, 4, 5, 6] rfl ?_
          refine nv_widen (k := cells + 5) (n := slots + 30) (by omega) (by omega) ?_
          exact kk
        · have hm := if_f c17 hm
          refine nv_iconst hC d_Law_law_183 ?_
          exact absurd (ret_s hm).1 (by decide)
    · have hm := if_f c13 hm
      refine nv_iconst hC d_Law_law_166 ?_
      exact absurd (ret_s hm).1 (by decide)
  · have hm := if_f c1 hm
    by_cases c18 : (y0 % 16) = 1
    · have hm := if_t c18 hm
      refine nv_tableIn hC 1 rg_m16 c18 d_Law_law_40 (tgt := 188) (by decide) (by decide) rfl (by decide) ?_
      refine nv_aload_n hC d_Law_law_188 rfl 1 rfl ?_
      refine nv_aload_n hC d_Law_law_189 rfl 0 rfl ?_
      refine nv_iload hC d_Law_law_190 4 rfl ?_
      refine nv_iconst hC d_Law_law_192 ?_
      refine nv_iadd hC d_Law_law_193 ?_
      refine nv_sld hC hXs hbl hbA (by omega) ⟨by omega, by omega⟩ e1 d_Law_law_194 ?_
      refine nv_aload_n hC d_Law_law_195 rfl 3 rfl ?_
      obtain ⟨r19, N20, hq21, hm⟩ := nbd_s hm
      refine nvw_cally (x := r19) (N' := N20) (nrw_S hC hX9 (As := [.ref (ad h1), .int (iI y1), .ref (ad a3)]) (st := []) (c_Law_tap l hl0 hC.2.2.1 h1 hp1 y1 hy1 a3 hp3 N r19 N20 hq21) (vx_cwSW 3 hC.1.2.2.2.2 (tt_SW k_383 k_384 k_373 k_385) rfl rfl rfl (by decide +kernel) ⟨Nat.le_of_ble_eq_true rfl, Nat.le_of_ble_eq_true rfl⟩) rfl rfl (Nat.le_of_ble_eq_true rfl) ⟨(by omega), (by omega)⟩ d_Law_law_196) ?_
      refine nv_istore (lv' := [(5, .int (iI r19)), (0, .ref b), (1, .ref (ad h1)), (2, .ref (ad k2)), (3, .ref (ad a3)), (4, .int (iI x4))]) hC d_Law_law_199 (by decide) rfl ?_
      refine nv_aload_n hC d_Law_law_201 rfl 3 rfl ?_
      refine nv_aload_n hC d_Law_law_202 rfl 1 rfl ?_
      refine nv_iload hC d_Law_law_203 5 rfl ?_
      refine nv_iconst hC d_Law_law_205 ?_
      refine nv_iadd hC d_Law_law_206 ?_
      refine nv_sld hC hXs hbl hbA (by omega) ⟨by omega, by omega⟩ e1 d_Law_law_207 ?_
      obtain ⟨r22, N23, hq24, hm⟩ := nbd_s hm
      refine nv_calli (x := r22) (N' := N23) (nr_V hC (As := [.int (iI y1)]) (st := []) hp2.1 rfl (c_Mo_tap l hC.2.2.1 k2 hp2 y1 hy1 N20 r22 N23 hq24) (cwV 1 hC.1.2.2.2.2 (tt_V k_386 k_388 k_389 k_229 k_387) rfl rfl rfl (by decide +kernel) ⟨Nat.le_of_ble_eq_true rfl, Nat.le_of_ble_eq_true rfl⟩) rfl rfl (Nat.le_of_ble_eq_true rfl) ⟨(by omega), (by omega)⟩ d_Law_law_208) ?_
      refine nv_istore (lv' := [(6, .int (iI r22)), (5, .int (iI r19)), (0, .ref b), (1, .ref (ad h1)), (2, .ref (ad k2)), (3, .ref (ad a3)), (4, .int (iI x4))]) hC d_Law_law_211 (by decide) rfl ?_
      refine nv_aload_n hC d_Law_law_213 rfl 4 rfl ?_
      obtain ⟨r25, N26, hq27, hm⟩ := nbd_s hm
      refine nv_calli (x := r25) (N' := N26) (nr_V hC (As := []) (st := []) hp2.1 rfl (c_Mo_thrown l hC.2.2.1 k2 hp2 N23 r25 N26 hq27) (cwV 0 hC.1.2.2.2.2 (tt_V k_379 k_381 k_382 k_229 k_380) rfl rfl rfl (by decide +kernel) ⟨Nat.le_of_ble_eq_true rfl, Nat.le_of_ble_eq_true rfl⟩) rfl rfl (Nat.le_of_ble_eq_true rfl) ⟨(by omega), (by omega)⟩ d_Law_law_214) ?_
      refine nv_iload hC d_Law_law_217 1 rfl ?_
      obtain ⟨hr28, hm⟩ := ck_s hm
      obtain ⟨hr29, hm⟩ := ck_s hm
      refine nv_icmp_eq hC hr28 hr29 d_Law_law_219 (tgt := 224) (by decide) (fun c30 => ?_) (fun c30 => ?_)
      · have hm := if_t c30 hm
        refine nv_iload hC d_Law_law_224 1 rfl ?_
        refine nv_if_ne hC hr29 d_Law_law_226 (tgt := 248) (by decide) (fun c31 => ?_) (fun c31 => ?_)
        · have hm := if_f c31 hm
          refine nv_goto hC d_Law_law_248 (tgt := 1034) (by decide) ?_
          obtain ⟨-, rfl⟩ := ret_s hm
          refine nv_sub (lv' := [(0, .ref b), (1, .ref (ad h1)), (2, .ref (ad k2)), (3, .ref (ad a3)), (4, .int (iI x4))]) [2, 3, 4, 5, 6] rfl ?_
          refine nv_widen (k := cells + 5) (n := slots + 30) (by omega) (by omega) ?_
          exact kk
        · have hm := if_t c31 hm
          refine nv_aload_n hC d_Law_law_229 rfl 5 rfl ?_
          refine nv_iconst hC d_Law_law_230 ?_
          refine nv_lald hC hp3 (by decide) ⟨by decide, by decide⟩ d_Law_law_231 ?_
          refine nv_iload hC d_Law_law_232 0 rfl ?_
          obtain ⟨hr32, hm⟩ := ck_s hm
          refine nv_if_eq hC hr32 d_Law_law_234 (tgt := 241) (by decide) (fun c33 => ?_) (fun c33 => ?_)
          · have hm := if_t c33 hm
            refine nv_lconst hC (z := 0) d_Law_law_241 rfl ?_
            obtain ⟨hc34, hm⟩ := ck_s hm
            refine nv_lcmp hC hc34 ⟨by decide, by decide⟩ d_Law_law_242 ?_
            refine nv_if_eq hC rg_cmp d_Law_law_243 (tgt := 248) (by decide) (fun c35 => ?_) (fun c35 => ?_)
            · have hm := if_t c35 hm
              refine nv_goto hC d_Law_law_248 (tgt := 1034) (by decide) ?_
              obtain ⟨-, rfl⟩ := ret_s hm
              refine nv_sub (lv' := [(0, .ref b), (1, .ref (ad h1)), (2, .ref (ad k2)), (3, .ref (ad a3)), (4, .int (iI x4))]) [2, 3, 4, 5, 6] rfl ?_
              refine nv_widen (k := cells + 5) (n := slots + 30) (by omega) (by omega) ?_
              exact kk
            · have hm := if_f c35 hm
              refine nv_iconst hC d_Law_law_246 ?_
              exact absurd (ret_s hm).1 (by decide)
          · have hm := if_f c33 hm
            refine nv_lconst hC (z := 1) d_Law_law_237 rfl ?_
            refine nv_goto hC d_Law_law_238 (tgt := 242) (by decide) ?_
            obtain ⟨hc36, hm⟩ := ck_s hm
            refine nv_lcmp hC hc36 ⟨by decide, by decide⟩ d_Law_law_242 ?_
            refine nv_if_eq hC rg_cmp d_Law_law_243 (tgt := 248) (by decide) (fun c37 => ?_) (fun c37 => ?_)
            · have hm := if_t c37 hm
              refine nv_goto hC d_Law_law_248 (tgt := 1034) (by decide) ?_
              obtain ⟨-, rfl⟩ := ret_s hm
              refine nv_sub (lv' := [(0, .ref b), (1, .ref (ad h1)), (2, .ref (ad k2)), (3, .ref (ad a3)), (4, .int (iI x4))]) [2, 3, 4, 5, 6] rfl ?_
              refine nv_widen (k := cells + 5) (n := slots + 30) (by omega) (by omega) ?_
              exact kk
            · have hm := if_f c37 hm
              refine nv_iconst hC d_Law_law_246 ?_
              exact absurd (ret_s hm).1 (by decide)
      · have hm := if_f c30 hm
        refine nv_iconst hC d_Law_law_222 ?_
        exact absurd (ret_s hm).1 (by decide)
    · have hm := if_f c18 hm
      by_cases c38 : (y0 % 16) = 2
      · have hm := if_t c38 hm
        refine nv_tableIn hC 2 rg_m16 c38 d_Law_law_40 (tgt := 251) (by decide) (by decide) rfl (by decide) ?_
        refine nv_aload_n hC d_Law_law_251 rfl 1 rfl ?_
        refine nv_aload_n hC d_Law_law_252 rfl 0 rfl ?_
        refine nv_iload hC d_Law_law_253 4 rfl ?_
        refine nv_iconst hC d_Law_law_255 ?_
        refine nv_iadd hC d_Law_law_256 ?_
        refine nv_sld hC hXs hbl hbA (by omega) ⟨by omega, by omega⟩ e1 d_Law_law_257 ?_
        refine nv_aload_n hC d_Law_law_258 rfl 0 rfl ?_
        refine nv_iload hC d_Law_law_259 4 rfl ?_
        refine nv_iconst hC d_Law_law_261 ?_
        refine nv_iadd hC d_Law_law_262 ?_
        refine nv_sld hC hXs hbl hbA (by omega) ⟨by omega, by omega⟩ e2 d_Law_law_263 ?_
        refine nv_aload_n hC d_Law_law_264 rfl 3 rfl ?_
        obtain ⟨r39, N40, hq41, hm⟩ := nbd_s hm
        refine nvw_cally (x := r39) (N' := N40) (nrw_S hC hX9 (As := [.ref (ad h1), .int (iI y1), .int (iI y2), .ref (ad a3)]) (st := []) (c_Law_set l hl0 hC.2.2.1 h1 hp1 y1 hy1 y2 hy2 a3 hp3 N r39 N40 hq41) (vx_cwSW 4 hC.1.2.2.2.2 (tt_SW k_390 k_391 k_373 k_392) rfl rfl rfl (by decide +kernel) ⟨Nat.le_of_ble_eq_true rfl, Nat.le_of_ble_eq_true rfl⟩) rfl rfl (Nat.le_of_ble_eq_true rfl) ⟨(by omega), (by omega)⟩ d_Law_law_265) ?_
        refine nv_istore (lv' := [(5, .int (iI r39)), (0, .ref b), (1, .ref (ad h1)), (2, .ref (ad k2)), (3, .ref (ad a3)), (4, .int (iI x4))]) hC d_Law_law_268 (by decide) rfl ?_
        refine nv_aload_n hC d_Law_law_270 rfl 3 rfl ?_
        refine nv_aload_n hC d_Law_law_271 rfl 1 rfl ?_
        refine nv_iload hC d_Law_law_272 5 rfl ?_
        refine nv_iconst hC d_Law_law_274 ?_
        refine nv_iadd hC d_Law_law_275 ?_
        refine nv_sld hC hXs hbl hbA (by omega) ⟨by omega, by omega⟩ e1 d_Law_law_276 ?_
        refine nv_aload_n hC d_Law_law_277 rfl 1 rfl ?_
        refine nv_iload hC d_Law_law_278 5 rfl ?_
        refine nv_iconst hC d_Law_law_280 ?_
        refine nv_iadd hC d_Law_law_281 ?_
        refine nv_sld hC hXs hbl hbA (by omega) ⟨by omega, by omega⟩ e2 d_Law_law_282 ?_
        obtain ⟨r42, N43, hq44, hm⟩ := nbd_s hm
        refine nv_calli (x := r42) (N' := N43) (nr_V hC (As := [.int (iI y1), .int (iI y2)]) (st := []) hp2.1 rfl (c_Mo_set l hC.2.2.1 k2 hp2 y1 hy1 y2 hy2 N40 r42 N43 hq44) (cwV 2 hC.1.2.2.2.2 (tt_V k_393 k_395 k_396 k_229 k_394) rfl rfl rfl (by decide +kernel) ⟨Nat.le_of_ble_eq_true rfl, Nat.le_of_ble_eq_true rfl⟩) rfl rfl (Nat.le_of_ble_eq_true rfl) ⟨(by omega), (by omega)⟩ d_Law_law_283) ?_
        refine nv_istore (lv' := [(6, .int (iI r42)), (5, .int (iI r39)), (0, .ref b), (1, .ref (ad h1)), (2, .ref (ad k2)), (3, .ref (ad a3)), (4, .int (iI x4))]) hC d_Law_law_286 (by decide) rfl ?_
        refine nv_aload_n hC d_Law_law_288 rfl 4 rfl ?_
        obtain ⟨r45, N46, hq47, hm⟩ := nbd_s hm
        refine nv_calli (x := r45) (N' := N46) (nr_V hC (As := []) (st := []) hp2.1 rfl (c_Mo_thrown l hC.2.2.1 k2 hp2 N43 r45 N46 hq47) (cwV 0 hC.1.2.2.2.2 (tt_V k_379 k_381 k_382 k_229 k_380) rfl rfl rfl (by decide +kernel) ⟨Nat.le_of_ble_eq_true rfl, Nat.le_of_ble_eq_true rfl⟩) rfl rfl (Nat.le_of_ble_eq_true rfl) ⟨(by omega), (by omega)⟩ d_Law_law_289) ?_
        refine nv_iload hC d_Law_law_292 1 rfl ?_
        obtain ⟨hr48, hm⟩ := ck_s hm
        obtain ⟨hr49, hm⟩ := ck_s hm
        refine nv_icmp_eq hC hr48 hr49 d_Law_law_294 (tgt := 299) (by decide) (fun c50 => ?_) (fun c50 => ?_)
        · have hm := if_t c50 hm
          refine nv_iload hC d_Law_law_299 1 rfl ?_
          refine nv_if_ne hC hr49 d_Law_law_301 (tgt := 316) (by decide) (fun c51 => ?_) (fun c51 => ?_)
          · have hm := if_f c51 hm
            refine nv_goto hC d_Law_law_316 (tgt := 1034) (by decide) ?_
            obtain ⟨-, rfl⟩ := ret_s hm
            refine nv_sub (lv' := [(0, .ref b), (1, .ref (ad h1)), (2, .ref (ad k2)), (3, .ref (ad a3)), (4, .int (iI x4))]) [2, 3, 4, 5, 6] rfl ?_
            refine nv_widen (k := cells + 5) (n := slots + 30) (by omega) (by omega) ?_
            exact kk
          · have hm := if_t c51 hm
            refine nv_aload_n hC d_Law_law_304 rfl 5 rfl ?_
            refine nv_iconst hC d_Law_law_305 ?_
            refine nv_lald hC hp3 (by decide) ⟨by decide, by decide⟩ d_Law_law_306 ?_
            refine nv_iload hC d_Law_law_307 0 rfl ?_
            obtain ⟨hr52, hm⟩ := ck_s hm
            refine nv_i2l hC d_Law_law_309 hr52 ?_
            obtain ⟨hc53, hm⟩ := ck_s hm
            refine nv_lcmp hC hc53 (rl_rg hr52) d_Law_law_310 ?_
            refine nv_if_eq hC rg_cmp d_Law_law_311 (tgt := 316) (by decide) (fun c54 => ?_) (fun c54 => ?_)
            · have hm := if_t c54 hm
              refine nv_goto hC d_Law_law_316 (tgt := 1034) (by decide) ?_
              obtain ⟨-, rfl⟩ := ret_s hm
              refine nv_sub (lv' := [(0, .ref b), (1, .ref (ad h1)), (2, .ref (ad k2)), (3, .ref (ad a3)), (4, .int (iI x4))]) [2, 3, 4, 5, 6] rfl ?_
              refine nv_widen (k := cells + 5) (n := slots + 30) (by omega) (by omega) ?_
              exact kk
            · have hm := if_f c54 hm
              refine nv_iconst hC d_Law_law_314 ?_
              exact absurd (ret_s hm).1 (by decide)
        · have hm := if_f c50 hm
          refine nv_iconst hC d_Law_law_297 ?_
          exact absurd (ret_s hm).1 (by decide)
      · have hm := if_f c38 hm
        by_cases c55 : (y0 % 16) = 3
        · have hm := if_t c55 hm
          refine nv_tableIn hC 3 rg_m16 c55 d_Law_law_40 (tgt := 319) (by decide) (by decide) rfl (by decide) ?_
          refine nv_aload_n hC d_Law_law_319 rfl 1 rfl ?_
          refine nv_aload_n hC d_Law_law_320 rfl 0 rfl ?_
          refine nv_iload hC d_Law_law_321 4 rfl ?_
          refine nv_iconst hC d_Law_law_323 ?_
          refine nv_iadd hC d_Law_law_324 ?_
          refine nv_sld hC hXs hbl hbA (by omega) ⟨by omega, by omega⟩ e1 d_Law_law_325 ?_
          refine nv_aload_n hC d_Law_law_326 rfl 0 rfl ?_
          refine nv_iload hC d_Law_law_327 4 rfl ?_
          refine nv_iconst hC d_Law_law_329 ?_
          refine nv_iadd hC d_Law_law_330 ?_
          refine nv_sld hC hXs hbl hbA (by omega) ⟨by omega, by omega⟩ e2 d_Law_law_331 ?_
          refine nv_aload_n hC d_Law_law_332 rfl 3 rfl ?_
          obtain ⟨r56, N57, hq58, hm⟩ := nbd_s hm
          refine nvw_cally (x := r56) (N' := N57) (nrw_S hC hX9 (As := [.ref (ad h1), .int (iI y1), .int (iI y2), .ref (ad a3)]) (st := []) (c_Law_loop l hl0 hC.2.2.1 h1 hp1 y1 hy1 y2 hy2 a3 hp3 N r56 N57 hq58) (vx_cwSW 4 hC.1.2.2.2.2 (tt_SW k_397 k_398 k_373 k_399) rfl rfl rfl (by decide +kernel) ⟨Nat.le_of_ble_eq_true rfl, Nat.le_of_ble_eq_true rfl⟩) rfl rfl (Nat.le_of_ble_eq_true rfl) ⟨(by omega), (by omega)⟩ d_Law_law_333) ?_
          refine nv_istore (lv' := [(5, .int (iI r56)), (0, .ref b), (1, .ref (ad h1)), (2, .ref (ad k2)), (3, .ref (ad a3)), (4, .int (iI x4))]) hC d_Law_law_336 (by decide) rfl ?_
          refine nv_aload_n hC d_Law_law_338 rfl 3 rfl ?_
          refine nv_aload_n hC d_Law_law_339 rfl 1 rfl ?_
          refine nv_iload hC d_Law_law_340 5 rfl ?_
          refine nv_iconst hC d_Law_law_342 ?_
          refine nv_iadd hC d_Law_law_343 ?_
          refine nv_sld hC hXs hbl hbA (by omega) ⟨by omega, by omega⟩ e1 d_Law_law_344 ?_
          refine nv_aload_n hC d_Law_law_345 rfl 1 rfl ?_
          refine nv_iload hC d_Law_law_346 5 rfl ?_
          refine nv_iconst hC d_Law_law_348 ?_
          refine nv_iadd hC d_Law_law_349 ?_
          refine nv_sld hC hXs hbl hbA (by omega) ⟨by omega, by omega⟩ e2 d_Law_law_350 ?_
          obtain ⟨r59, N60, hq61, hm⟩ := nbd_s hm
          refine nv_calli (x := r59) (N' := N60) (nr_V hC (As := [.int (iI y1), .int (iI y2)]) (st := []) hp2.1 rfl (c_Mo_loop l hC.2.2.1 k2 hp2 y1 hy1 y2 hy2 N57 r59 N60 hq61) (cwV 2 hC.1.2.2.2.2 (tt_V k_400 k_402 k_403 k_229 k_401) rfl rfl rfl (by decide +kernel) ⟨Nat.le_of_ble_eq_true rfl, Nat.le_of_ble_eq_true rfl⟩) rfl rfl (Nat.le_of_ble_eq_true rfl) ⟨(by omega), (by omega)⟩ d_Law_law_351) ?_
          refine nv_istore (lv' := [(6, .int (iI r59)), (5, .int (iI r56)), (0, .ref b), (1, .ref (ad h1)), (2, .ref (ad k2)), (3, .ref (ad a3)), (4, .int (iI x4))]) hC d_Law_law_354 (by decide) rfl ?_
          refine nv_aload_n hC d_Law_law_356 rfl 4 rfl ?_
          obtain ⟨r62, N63, hq64, hm⟩ := nbd_s hm
          refine nv_calli (x := r62) (N' := N63) (nr_V hC (As := []) (st := []) hp2.1 rfl (c_Mo_thrown l hC.2.2.1 k2 hp2 N60 r62 N63 hq64) (cwV 0 hC.1.2.2.2.2 (tt_V k_379 k_381 k_382 k_229 k_380) rfl rfl rfl (by decide +kernel) ⟨Nat.le_of_ble_eq_true rfl, Nat.le_of_ble_eq_true rfl⟩) rfl rfl (Nat.le_of_ble_eq_true rfl) ⟨(by omega), (by omega)⟩ d_Law_law_357) ?_
          refine nv_iload hC d_Law_law_360 1 rfl ?_
          obtain ⟨hr65, hm⟩ := ck_s hm
          obtain ⟨hr66, hm⟩ := ck_s hm
          refine nv_icmp_eq hC hr65 hr66 d_Law_law_362 (tgt := 367) (by decide) (fun c67 => ?_) (fun c67 => ?_)
          · have hm := if_t c67 hm
            refine nv_iload hC d_Law_law_367 1 rfl ?_
            refine nv_if_ne hC hr66 d_Law_law_369 (tgt := 384) (by decide) (fun c68 => ?_) (fun c68 => ?_)
            · have hm := if_f c68 hm
              refine nv_goto hC d_Law_law_384 (tgt := 1034) (by decide) ?_
              obtain ⟨-, rfl⟩ := ret_s hm
              refine nv_sub (lv' := [(0, .ref b), (1, .ref (ad h1)), (2, .ref (ad k2)), (3, .ref (ad a3)), (4, .int (iI x4))]) [2, 3, 4, 5, 6] rfl ?_
              refine nv_widen (k := cells + 5) (n := slots + 30) (by omega) (by omega) ?_
              exact kk
            · have hm := if_t c68 hm
              refine nv_aload_n hC d_Law_law_372 rfl 5 rfl ?_
              refine nv_iconst hC d_Law_law_373 ?_
              refine nv_lald hC hp3 (by decide) ⟨by decide, by decide⟩ d_Law_law_374 ?_
              refine nv_iload hC d_Law_law_375 0 rfl ?_
              obtain ⟨hr69, hm⟩ := ck_s hm
              refine nv_i2l hC d_Law_law_377 hr69 ?_
              obtain ⟨hc70, hm⟩ := ck_s hm
              refine nv_lcmp hC hc70 (rl_rg hr69) d_Law_law_378 ?_
              refine nv_if_eq hC rg_cmp d_Law_law_379 (tgt := 384) (by decide) (fun c71 => ?_) (fun c71 => ?_)
              · have hm := if_t c71 hm
                refine nv_goto hC d_Law_law_384 (tgt := 1034) (by decide) ?_
                obtain ⟨-, rfl⟩ := ret_s hm
                refine nv_sub (lv' := [(0, .ref b), (1, .ref (ad h1)), (2, .ref (ad k2)), (3, .ref (ad a3)), (4, .int (iI x4))]) [2, 3, 4, 5, 6] rfl ?_
                refine nv_widen (k := cells + 5) (n := slots + 30) (by omega) (by omega) ?_
                exact kk
              · have hm := if_f c71 hm
                refine nv_iconst hC d_Law_law_382 ?_
                exact absurd (ret_s hm).1 (by decide)
          · have hm := if_f c67 hm
            refine nv_iconst hC d_Law_law_365 ?_
            exact absurd (ret_s hm).1 (by decide)
        · have hm := if_f c55 hm
          by_cases c72 : (y0 % 16) = 4
          · have hm := if_t c72 hm
            refine nv_tableIn hC 4 rg_m16 c72 d_Law_law_40 (tgt := 387) (by decide) (by decide) rfl (by decide) ?_
            refine nv_aload_n hC d_Law_law_387 rfl 1 rfl ?_
            refine nv_aload_n hC d_Law_law_388 rfl 0 rfl ?_
            refine nv_iload hC d_Law_law_389 4 rfl ?_
            refine nv_iconst hC d_Law_law_391 ?_
            refine nv_iadd hC d_Law_law_392 ?_
            refine nv_sld hC hXs hbl hbA (by omega) ⟨by omega, by omega⟩ e1 d_Law_law_393 ?_
            refine nv_aload_n hC d_Law_law_394 rfl 0 rfl ?_
            refine nv_iload hC d_Law_law_395 4 rfl ?_
            refine nv_iconst hC d_Law_law_397 ?_
            refine nv_iadd hC d_Law_law_398 ?_
            refine nv_sld hC hXs hbl hbA (by omega) ⟨by omega, by omega⟩ e2 d_Law_law_399 ?_
            refine nv_aload_n hC d_Law_law_400 rfl 0 rfl ?_
            refine nv_iload hC d_Law_law_401 4 rfl ?_
            refine nv_iconst hC d_Law_law_403 ?_
            refine nv_iadd hC d_Law_law_404 ?_
            refine nv_sld hC hXs hbl hbA (by omega) ⟨by omega, by omega⟩ e3 d_Law_law_405 ?_
            refine nv_aload_n hC d_Law_law_406 rfl 3 rfl ?_
            obtain ⟨r73, N74, hq75, hm⟩ := nbd_s hm
            refine nvw_cally (x := r73) (N' := N74) (nrw_S hC hX9 (As := [.ref (ad h1), .int (iI y1), .int (iI y2), .int (iI y3), .ref (ad a3)]) (st := []) (c_Law_draw l hl0 hC.2.2.1 h1 hp1 y1 hy1 y2 hy2 y3 hy3 a3 hp3 N r73 N74 hq75) (vx_cwSW 5 hC.1.2.2.2.2 (tt_SW k_404 k_405 k_373 k_406) rfl rfl rfl (by decide +kernel) ⟨Nat.le_of_ble_eq_true rfl, Nat.le_of_ble_eq_true rfl⟩) rfl rfl (Nat.le_of_ble_eq_true rfl) ⟨(by omega), (by omega)⟩ d_Law_law_407) ?_
            refine nv_istore (lv' := [(5, .int (iI r73)), (0, .ref b), (1, .ref (ad h1)), (2, .ref (ad k2)), (3, .ref (ad a3)), (4, .int (iI x4))]) hC d_Law_law_410 (by decide) rfl ?_
            refine nv_aload_n hC d_Law_law_412 rfl 3 rfl ?_
            refine nv_aload_n hC d_Law_law_413 rfl 1 rfl ?_
            refine nv_iload hC d_Law_law_414 5 rfl ?_
            refine nv_iconst hC d_Law_law_416 ?_
            refine nv_iadd hC d_Law_law_417 ?_
            refine nv_sld hC hXs hbl hbA (by omega) ⟨by omega, by omega⟩ e1 d_Law_law_418 ?_
            refine nv_aload_n hC d_Law_law_419 rfl 1 rfl ?_
            refine nv_iload hC d_Law_law_420 5 rfl ?_
            refine nv_iconst hC d_Law_law_422 ?_
            refine nv_iadd hC d_Law_law_423 ?_
            refine nv_sld hC hXs hbl hbA (by omega) ⟨by omega, by omega⟩ e2 d_Law_law_424 ?_
            refine nv_aload_n hC d_Law_law_425 rfl 1 rfl ?_
            refine nv_iload hC d_Law_law_426 5 rfl ?_
            refine nv_iconst hC d_Law_law_428 ?_
            refine nv_iadd hC d_Law_law_429 ?_
            refine nv_sld hC hXs hbl hbA (by omega) ⟨by omega, by omega⟩ e3 d_Law_law_430 ?_
            obtain ⟨r76, N77, hq78, hm⟩ := nbd_s hm
            refine nv_calli (x := r76) (N' := N77) (nr_V hC (As := [.int (iI y1), .int (iI y2), .int (iI y3)]) (st := []) hp2.1 rfl (c_Mo_draw l hC.2.2.1 k2 hp2 y1 hy1 y2 hy2 y3 hy3 N74 r76 N77 hq78) (cwV 3 hC.1.2.2.2.2 (tt_V k_407 k_409 k_410 k_229 k_408) rfl rfl rfl (by decide +kernel) ⟨Nat.le_of_ble_eq_true rfl, Nat.le_of_ble_eq_true rfl⟩) rfl rfl (Nat.le_of_ble_eq_true rfl) ⟨(by omega), (by omega)⟩ d_Law_law_431) ?_
            refine nv_istore (lv' := [(6, .int (iI r76)), (5, .int (iI r73)), (0, .ref b), (1, .ref (ad h1)), (2, .ref (ad k2)), (3, .ref (ad a3)), (4, .int (iI x4))]) hC d_Law_law_434 (by decide) rfl ?_
            refine nv_aload_n hC d_Law_law_436 rfl 4 rfl ?_
            obtain ⟨r79, N80, hq81, hm⟩ := nbd_s hm
            refine nv_calli (x := r79) (N' := N80) (nr_V hC (As := []) (st := []) hp2.1 rfl (c_Mo_thrown l hC.2.2.1 k2 hp2 N77 r79 N80 hq81) (cwV 0 hC.1.2.2.2.2 (tt_V k_379 k_381 k_382 k_229 k_380) rfl rfl rfl (by decide +kernel) ⟨Nat.le_of_ble_eq_true rfl, Nat.le_of_ble_eq_true rfl⟩) rfl rfl (Nat.le_of_ble_eq_true rfl) ⟨(by omega), (by omega)⟩ d_Law_law_437) ?_
            refine nv_iload hC d_Law_law_440 1 rfl ?_
            obtain ⟨hr82, hm⟩ := ck_s hm
            obtain ⟨hr83, hm⟩ := ck_s hm
            refine nv_icmp_eq hC hr82 hr83 d_Law_law_442 (tgt := 447) (by decide) (fun c84 => ?_) (fun c84 => ?_)
            · have hm := if_t c84 hm
              refine nv_iload hC d_Law_law_447 1 rfl ?_
              refine nv_if_ne hC hr83 d_Law_law_449 (tgt := 464) (by decide) (fun c85 => ?_) (fun c85 => ?_)
              · have hm := if_f c85 hm
                refine nv_goto hC d_Law_law_464 (tgt := 1034) (by decide) ?_
                obtain ⟨-, rfl⟩ := ret_s hm
                refine nv_sub (lv' := [(0, .ref b), (1, .ref (ad h1)), (2, .ref (ad k2)), (3, .ref (ad a3)), (4, .int (iI x4))]) [2, 3, 4, 5, 6] rfl ?_
                refine nv_widen (k := cells + 5) (n := slots + 30) (by omega) (by omega) ?_
                exact kk
              · have hm := if_t c85 hm
                refine nv_aload_n hC d_Law_law_452 rfl 5 rfl ?_
                refine nv_iconst hC d_Law_law_453 ?_
                refine nv_lald hC hp3 (by decide) ⟨by decide, by decide⟩ d_Law_law_454 ?_
                refine nv_iload hC d_Law_law_455 0 rfl ?_
                obtain ⟨hr86, hm⟩ := ck_s hm
                refine nv_i2l hC d_Law_law_457 hr86 ?_
                obtain ⟨hc87, hm⟩ := ck_s hm
                refine nv_lcmp hC hc87 (rl_rg hr86) d_Law_law_458 ?_
                refine nv_if_eq hC rg_cmp d_Law_law_459 (tgt := 464) (by decide) (fun c88 => ?_) (fun c88 => ?_)
                · have hm := if_t c88 hm
                  refine nv_goto hC d_Law_law_464 (tgt := 1034) (by decide) ?_
                  obtain ⟨-, rfl⟩ := ret_s hm
                  refine nv_sub (lv' := [(0, .ref b), (1, .ref (ad h1)), (2, .ref (ad k2)), (3, .ref (ad a3)), (4, .int (iI x4))]) [2, 3, 4, 5, 6] rfl ?_
                  refine nv_widen (k := cells + 5) (n := slots + 30) (by omega) (by omega) ?_
                  exact kk
                · have hm := if_f c88 hm
                  refine nv_iconst hC d_Law_law_462 ?_
                  exact absurd (ret_s hm).1 (by decide)
            · have hm := if_f c84 hm
              refine nv_iconst hC d_Law_law_445 ?_
              exact absurd (ret_s hm).1 (by decide)
          · have hm := if_f c72 hm
            by_cases c89 : (y0 % 16) = 5
            · have hm := if_t c89 hm
              refine nv_tableIn hC 5 rg_m16 c89 d_Law_law_40 (tgt := 467) (by decide) (by decide) rfl (by decide) ?_
              refine nv_aload_n hC d_Law_law_467 rfl 1 rfl ?_
              refine nv_aload_n hC d_Law_law_468 rfl 0 rfl ?_
              refine nv_iload hC d_Law_law_469 4 rfl ?_
              refine nv_iconst hC d_Law_law_471 ?_
              refine nv_iadd hC d_Law_law_472 ?_
              refine nv_sld hC hXs hbl hbA (by omega) ⟨by omega, by omega⟩ e1 d_Law_law_473 ?_
              refine nv_aload_n hC d_Law_law_474 rfl 3 rfl ?_
              obtain ⟨r90, N91, hq92, hm⟩ := nbd_s hm
              refine nvw_cally (x := r90) (N' := N91) (nrw_S hC hX9 (As := [.ref (ad h1), .int (iI y1), .ref (ad a3)]) (st := []) (c_Law_run l hl0 hC.2.2.1 h1 hp1 y1 hy1 a3 hp3 N r90 N91 hq92) (vx_cwSW 3 hC.1.2.2.2.2 (tt_SW k_411 k_412 k_373 k_413) rfl rfl rfl (by decide +kernel) ⟨Nat.le_of_ble_eq_true rfl, Nat.le_of_ble_eq_true rfl⟩) rfl rfl (Nat.le_of_ble_eq_true rfl) ⟨(by omega), (by omega)⟩ d_Law_law_475) ?_
              refine nv_istore (lv' := [(5, .int (iI r90)), (0, .ref b), (1, .ref (ad h1)), (2, .ref (ad k2)), (3, .ref (ad a3)), (4, .int (iI x4))]) hC d_Law_law_478 (by decide) rfl ?_
              refine nv_aload_n hC d_Law_law_480 rfl 3 rfl ?_
              refine nv_aload_n hC d_Law_law_481 rfl 1 rfl ?_
              refine nv_iload hC d_Law_law_482 5 rfl ?_
              refine nv_iconst hC d_Law_law_484 ?_
              refine nv_iadd hC d_Law_law_485 ?_
              refine nv_sld hC hXs hbl hbA (by omega) ⟨by omega, by omega⟩ e1 d_Law_law_486 ?_
              obtain ⟨r93, N94, hq95, hm⟩ := nbd_s hm
              refine nv_calli (x := r93) (N' := N94) (nr_V hC (As := [.int (iI y1)]) (st := []) hp2.1 rfl (c_Mo_run l hC.2.2.1 k2 hp2 y1 hy1 N91 r93 N94 hq95) (cwV 1 hC.1.2.2.2.2 (tt_V k_414 k_416 k_417 k_229 k_415) rfl rfl rfl (by decide +kernel) ⟨Nat.le_of_ble_eq_true rfl, Nat.le_of_ble_eq_true rfl⟩) rfl rfl (Nat.le_of_ble_eq_true rfl) ⟨(by omega), (by omega)⟩ d_Law_law_487) ?_
              refine nv_istore (lv' := [(6, .int (iI r93)), (5, .int (iI r90)), (0, .ref b), (1, .ref (ad h1)), (2, .ref (ad k2)), (3, .ref (ad a3)), (4, .int (iI x4))]) hC d_Law_law_490 (by decide) rfl ?_
              refine nv_aload_n hC d_Law_law_492 rfl 4 rfl ?_
              obtain ⟨r96, N97, hq98, hm⟩ := nbd_s hm
              refine nv_calli (x := r96) (N' := N97) (nr_V hC (As := []) (st := []) hp2.1 rfl (c_Mo_thrown l hC.2.2.1 k2 hp2 N94 r96 N97 hq98) (cwV 0 hC.1.2.2.2.2 (tt_V k_379 k_381 k_382 k_229 k_380) rfl rfl rfl (by decide +kernel) ⟨Nat.le_of_ble_eq_true rfl, Nat.le_of_ble_eq_true rfl⟩) rfl rfl (Nat.le_of_ble_eq_true rfl) ⟨(by omega), (by omega)⟩ d_Law_law_493) ?_
              refine nv_iload hC d_Law_law_496 1 rfl ?_
              obtain ⟨hr99, hm⟩ := ck_s hm
              obtain ⟨hr100, hm⟩ := ck_s hm
              refine nv_icmp_eq hC hr99 hr100 d_Law_law_498 (tgt := 503) (by decide) (fun c101 => ?_) (fun c101 => ?_)
              · have hm := if_t c101 hm
                refine nv_iload hC d_Law_law_503 1 rfl ?_
                refine nv_if_ne hC hr100 d_Law_law_505 (tgt := 520) (by decide) (fun c102 => ?_) (fun c102 => ?_)
                · have hm := if_f c102 hm
                  refine nv_goto hC d_Law_law_520 (tgt := 1034) (by decide) ?_
                  obtain ⟨-, rfl⟩ := ret_s hm
                  refine nv_sub (lv' := [(0, .ref b), (1, .ref (ad h1)), (2, .ref (ad k2)), (3, .ref (ad a3)), (4, .int (iI x4))]) [2, 3, 4, 5, 6] rfl ?_
                  refine nv_widen (k := cells + 5) (n := slots + 30) (by omega) (by omega) ?_
                  exact kk
                · have hm := if_t c102 hm
                  refine nv_aload_n hC d_Law_law_508 rfl 5 rfl ?_
                  refine nv_iconst hC d_Law_law_509 ?_
                  refine nv_lald hC hp3 (by decide) ⟨by decide, by decide⟩ d_Law_law_510 ?_
                  refine nv_iload hC d_Law_law_511 0 rfl ?_
                  obtain ⟨hr103, hm⟩ := ck_s hm
                  refine nv_i2l hC d_Law_law_513 hr103 ?_
                  obtain ⟨hc104, hm⟩ := ck_s hm
                  refine nv_lcmp hC hc104 (rl_rg hr103) d_Law_law_514 ?_
                  refine nv_if_eq hC rg_cmp d_Law_law_515 (tgt := 520) (by decide) (fun c105 => ?_) (fun c105 => ?_)
                  · have hm := if_t c105 hm
                    refine nv_goto hC d_Law_law_520 (tgt := 1034) (by decide) ?_
                    obtain ⟨-, rfl⟩ := ret_s hm
                    refine nv_sub (lv' := [(0, .ref b), (1, .ref (ad h1)), (2, .ref (ad k2)), (3, .ref (ad a3)), (4, .int (iI x4))]) [2, 3, 4, 5, 6] rfl ?_
                    refine nv_widen (k := cells + 5) (n := slots + 30) (by omega) (by omega) ?_
                    exact kk
                  · have hm := if_f c105 hm
                    refine nv_iconst hC d_Law_law_518 ?_
                    exact absurd (ret_s hm).1 (by decide)
              · have hm := if_f c101 hm
                refine nv_iconst hC d_Law_law_501 ?_
                exact absurd (ret_s hm).1 (by decide)
            · have hm := if_f c89 hm
              by_cases c106 : (y0 % 16) = 6
              · have hm := if_t c106 hm
                refine nv_tableIn hC 6 rg_m16 c106 d_Law_law_40 (tgt := 523) (by decide) (by decide) rfl (by decide) ?_
                refine nv_aload_n hC d_Law_law_523 rfl 1 rfl ?_
                refine nv_aload_n hC d_Law_law_524 rfl 0 rfl ?_
                refine nv_iload hC d_Law_law_525 4 rfl ?_
                refine nv_iconst hC d_Law_law_527 ?_
                refine nv_iadd hC d_Law_law_528 ?_
                refine nv_sld hC hXs hbl hbA (by omega) ⟨by omega, by omega⟩ e1 d_Law_law_529 ?_
                refine nv_aload_n hC d_Law_law_530 rfl 0 rfl ?_
                refine nv_iload hC d_Law_law_531 4 rfl ?_
                refine nv_iconst hC d_Law_law_533 ?_
                refine nv_iadd hC d_Law_law_534 ?_
                refine nv_sld hC hXs hbl hbA (by omega) ⟨by omega, by omega⟩ e2 d_Law_law_535 ?_
                refine nv_aload_n hC d_Law_law_536 rfl 0 rfl ?_
                refine nv_iload hC d_Law_law_537 4 rfl ?_
                refine nv_iconst hC d_Law_law_539 ?_
                refine nv_iadd hC d_Law_law_540 ?_
                refine nv_sld hC hXs hbl hbA (by omega) ⟨by omega, by omega⟩ e3 d_Law_law_541 ?_
                refine nv_aload_n hC d_Law_law_542 rfl 3 rfl ?_
                obtain ⟨r107, N108, hq109, hm⟩ := nbd_s hm
                refine nvw_cally (x := r107) (N' := N108) (nrw_S hC hX9 (As := [.ref (ad h1), .int (iI y1), .int (iI y2), .int (iI y3), .ref (ad a3)]) (st := []) (c_Law_plug l hl0 hC.2.2.1 h1 hp1 y1 hy1 y2 hy2 y3 hy3 a3 hp3 N r107 N108 hq109) (vx_cwSW 5 hC.1.2.2.2.2 (tt_SW k_418 k_419 k_373 k_420) rfl rfl rfl (by decide +kernel) ⟨Nat.le_of_ble_eq_true rfl, Nat.le_of_ble_eq_true rfl⟩) rfl rfl (Nat.le_of_ble_eq_true rfl) ⟨(by omega), (by omega)⟩ d_Law_law_543) ?_
                refine nv_istore (lv' := [(5, .int (iI r107)), (0, .ref b), (1, .ref (ad h1)), (2, .ref (ad k2)), (3, .ref (ad a3)), (4, .int (iI x4))]) hC d_Law_law_546 (by decide) rfl ?_
                refine nv_aload_n hC d_Law_law_548 rfl 3 rfl ?_
                refine nv_aload_n hC d_Law_law_549 rfl 1 rfl ?_
                refine nv_iload hC d_Law_law_550 5 rfl ?_
                refine nv_iconst hC d_Law_law_552 ?_
                refine nv_iadd hC d_Law_law_553 ?_
                refine nv_sld hC hXs hbl hbA (by omega) ⟨by omega, by omega⟩ e1 d_Law_law_554 ?_
                refine nv_aload_n hC d_Law_law_555 rfl 1 rfl ?_
                refine nv_iload hC d_Law_law_556 5 rfl ?_
                refine nv_iconst hC d_Law_law_558 ?_
                refine nv_iadd hC d_Law_law_559 ?_
                refine nv_sld hC hXs hbl hbA (by omega) ⟨by omega, by omega⟩ e2 d_Law_law_560 ?_
                refine nv_aload_n hC d_Law_law_561 rfl 1 rfl ?_
                refine nv_iload hC d_Law_law_562 5 rfl ?_
                refine nv_iconst hC d_Law_law_564 ?_
                refine nv_iadd hC d_Law_law_565 ?_
                refine nv_sld hC hXs hbl hbA (by omega) ⟨by omega, by omega⟩ e3 d_Law_law_566 ?_
                obtain ⟨r110, N111, hq112, hm⟩ := nbd_s hm
                refine nv_calli (x := r110) (N' := N111) (nr_V hC (As := [.int (iI y1), .int (iI y2), .int (iI y3)]) (st := []) hp2.1 rfl (c_Mo_plug l hC.2.2.1 k2 hp2 y1 hy1 y2 hy2 y3 hy3 N108 r110 N111 hq112) (cwV 3 hC.1.2.2.2.2 (tt_V k_421 k_423 k_424 k_229 k_422) rfl rfl rfl (by decide +kernel) ⟨Nat.le_of_ble_eq_true rfl, Nat.le_of_ble_eq_true rfl⟩) rfl rfl (Nat.le_of_ble_eq_true rfl) ⟨(by omega), (by omega)⟩ d_Law_law_567) ?_
                refine nv_istore (lv' := [(6, .int (iI r110)), (5, .int (iI r107)), (0, .ref b), (1, .ref (ad h1)), (2, .ref (ad k2)), (3, .ref (ad a3)), (4, .int (iI x4))]) hC d_Law_law_570 (by decide) rfl ?_
                refine nv_aload_n hC d_Law_law_572 rfl 4 rfl ?_
                obtain ⟨r113, N114, hq115, hm⟩ := nbd_s hm
                refine nv_calli (x := r113) (N' := N114) (nr_V hC (As := []) (st := []) hp2.1 rfl (c_Mo_thrown l hC.2.2.1 k2 hp2 N111 r113 N114 hq115) (cwV 0 hC.1.2.2.2.2 (tt_V k_379 k_381 k_382 k_229 k_380) rfl rfl rfl (by decide +kernel) ⟨Nat.le_of_ble_eq_true rfl, Nat.le_of_ble_eq_true rfl⟩) rfl rfl (Nat.le_of_ble_eq_true rfl) ⟨(by omega), (by omega)⟩ d_Law_law_573) ?_
                refine nv_iload hC d_Law_law_576 1 rfl ?_
                obtain ⟨hr116, hm⟩ := ck_s hm
                obtain ⟨hr117, hm⟩ := ck_s hm
                refine nv_icmp_eq hC hr116 hr117 d_Law_law_578 (tgt := 583) (by decide) (fun c118 => ?_) (fun c118 => ?_)
                · have hm := if_t c118 hm
                  refine nv_iload hC d_Law_law_583 1 rfl ?_
                  refine nv_if_ne hC hr117 d_Law_law_585 (tgt := 600) (by decide) (fun c119 => ?_) (fun c119 => ?_)
                  · have hm := if_f c119 hm
                    refine nv_goto hC d_Law_law_600 (tgt := 1034) (by decide) ?_
                    obtain ⟨-, rfl⟩ := ret_s hm
                    refine nv_sub (lv' := [(0, .ref b), (1, .ref (ad h1)), (2, .ref (ad k2)), (3, .ref (ad a3)), (4, .int (iI x4))]) [2, 3, 4, 5, 6] rfl ?_
                    refine nv_widen (k := cells + 5) (n := slots + 30) (by omega) (by omega) ?_
                    exact kk
                  · have hm := if_t c119 hm
                    refine nv_aload_n hC d_Law_law_588 rfl 5 rfl ?_
                    refine nv_iconst hC d_Law_law_589 ?_
                    refine nv_lald hC hp3 (by decide) ⟨by decide, by decide⟩ d_Law_law_590 ?_
                    refine nv_iload hC d_Law_law_591 0 rfl ?_
                    obtain ⟨hr120, hm⟩ := ck_s hm
                    refine nv_i2l hC d_Law_law_593 hr120 ?_
                    obtain ⟨hc121, hm⟩ := ck_s hm
                    refine nv_lcmp hC hc121 (rl_rg hr120) d_Law_law_594 ?_
                    refine nv_if_eq hC rg_cmp d_Law_law_595 (tgt := 600) (by decide) (fun c122 => ?_) (fun c122 => ?_)
                    · have hm := if_t c122 hm
                      refine nv_goto hC d_Law_law_600 (tgt := 1034) (by decide) ?_
                      obtain ⟨-, rfl⟩ := ret_s hm
                      refine nv_sub (lv' := [(0, .ref b), (1, .ref (ad h1)), (2, .ref (ad k2)), (3, .ref (ad a3)), (4, .int (iI x4))]) [2, 3, 4, 5, 6] rfl ?_
                      refine nv_widen (k := cells + 5) (n := slots + 30) (by omega) (by omega) ?_
                      exact kk
                    · have hm := if_f c122 hm
                      refine nv_iconst hC d_Law_law_598 ?_
                      exact absurd (ret_s hm).1 (by decide)
                · have hm := if_f c118 hm
                  refine nv_iconst hC d_Law_law_581 ?_
                  exact absurd (ret_s hm).1 (by decide)
              · have hm := if_f c106 hm
                by_cases c123 : (y0 % 16) = 7
                · have hm := if_t c123 hm
                  refine nv_tableIn hC 7 rg_m16 c123 d_Law_law_40 (tgt := 603) (by decide) (by decide) rfl (by decide) ?_
                  refine nv_aload_n hC d_Law_law_603 rfl 1 rfl ?_
                  refine nv_aload_n hC d_Law_law_604 rfl 0 rfl ?_
                  refine nv_iload hC d_Law_law_605 4 rfl ?_
                  refine nv_iconst hC d_Law_law_607 ?_
                  refine nv_iadd hC d_Law_law_608 ?_
                  refine nv_sld hC hXs hbl hbA (by omega) ⟨by omega, by omega⟩ e1 d_Law_law_609 ?_
                  refine nv_aload_n hC d_Law_law_610 rfl 0 rfl ?_
                  refine nv_iload hC d_Law_law_611 4 rfl ?_
                  refine nv_iconst hC d_Law_law_613 ?_
                  refine nv_iadd hC d_Law_law_614 ?_
                  refine nv_sld hC hXs hbl hbA (by omega) ⟨by omega, by omega⟩ e2 d_Law_law_615 ?_
                  refine nv_aload_n hC d_Law_law_616 rfl 3 rfl ?_
                  obtain ⟨r124, N125, hq126, hm⟩ := nbd_s hm
                  refine nvw_cally (x := r124) (N' := N125) (nrw_S hC hX9 (As := [.ref (ad h1), .int (iI y1), .int (iI y2), .ref (ad a3)]) (st := []) (c_Law_told l hl0 hC.2.2.1 h1 hp1 y1 hy1 y2 hy2 a3 hp3 N r124 N125 hq126) (vx_cwSW 4 hC.1.2.2.2.2 (tt_SW k_425 k_426 k_373 k_427) rfl rfl rfl (by decide +kernel) ⟨Nat.le_of_ble_eq_true rfl, Nat.le_of_ble_eq_true rfl⟩) rfl rfl (Nat.le_of_ble_eq_true rfl) ⟨(by omega), (by omega)⟩ d_Law_law_617) ?_
                  refine nv_istore (lv' := [(5, .int (iI r124)), (0, .ref b), (1, .ref (ad h1)), (2, .ref (ad k2)), (3, .ref (ad a3)), (4, .int (iI x4))]) hC d_Law_law_620 (by decide) rfl ?_
                  refine nv_aload_n hC d_Law_law_622 rfl 3 rfl ?_
                  refine nv_aload_n hC d_Law_law_623 rfl 1 rfl ?_
                  refine nv_iload hC d_Law_law_624 5 rfl ?_
                  refine nv_iconst hC d_Law_law_626 ?_
                  refine nv_iadd hC d_Law_law_627 ?_
                  refine nv_sld hC hXs hbl hbA (by omega) ⟨by omega, by omega⟩ e1 d_Law_law_628 ?_
                  refine nv_aload_n hC d_Law_law_629 rfl 1 rfl ?_
                  refine nv_iload hC d_Law_law_630 5 rfl ?_
                  refine nv_iconst hC d_Law_law_632 ?_
                  refine nv_iadd hC d_Law_law_633 ?_
                  refine nv_sld hC hXs hbl hbA (by omega) ⟨by omega, by omega⟩ e2 d_Law_law_634 ?_
                  obtain ⟨r127, N128, hq129, hm⟩ := nbd_s hm
                  refine nv_calli (x := r127) (N' := N128) (nr_V hC (As := [.int (iI y1), .int (iI y2)]) (st := []) hp2.1 rfl (c_Mo_told l hC.2.2.1 k2 hp2 y1 hy1 y2 hy2 N125 r127 N128 hq129) (cwV 2 hC.1.2.2.2.2 (tt_V k_428 k_430 k_431 k_229 k_429) rfl rfl rfl (by decide +kernel) ⟨Nat.le_of_ble_eq_true rfl, Nat.le_of_ble_eq_true rfl⟩) rfl rfl (Nat.le_of_ble_eq_true rfl) ⟨(by omega), (by omega)⟩ d_Law_law_635) ?_
                  refine nv_istore (lv' := [(6, .int (iI r127)), (5, .int (iI r124)), (0, .ref b), (1, .ref (ad h1)), (2, .ref (ad k2)), (3, .ref (ad a3)), (4, .int (iI x4))]) hC d_Law_law_638 (by decide) rfl ?_
                  refine nv_aload_n hC d_Law_law_640 rfl 4 rfl ?_
                  obtain ⟨r130, N131, hq132, hm⟩ := nbd_s hm
                  refine nv_calli (x := r130) (N' := N131) (nr_V hC (As := []) (st := []) hp2.1 rfl (c_Mo_thrown l hC.2.2.1 k2 hp2 N128 r130 N131 hq132) (cwV 0 hC.1.2.2.2.2 (tt_V k_379 k_381 k_382 k_229 k_380) rfl rfl rfl (by decide +kernel) ⟨Nat.le_of_ble_eq_true rfl, Nat.le_of_ble_eq_true rfl⟩) rfl rfl (Nat.le_of_ble_eq_true rfl) ⟨(by omega), (by omega)⟩ d_Law_law_641) ?_
                  refine nv_iload hC d_Law_law_644 1 rfl ?_
                  obtain ⟨hr133, hm⟩ := ck_s hm
                  obtain ⟨hr134, hm⟩ := ck_s hm
                  refine nv_icmp_eq hC hr133 hr134 d_Law_law_646 (tgt := 651) (by decide) (fun c135 => ?_) (fun c135 => ?_)
                  · have hm := if_t c135 hm
                    refine nv_iload hC d_Law_law_651 1 rfl ?_
                    refine nv_if_ne hC hr134 d_Law_law_653 (tgt := 668) (by decide) (fun c136 => ?_) (fun c136 => ?_)
                    · have hm := if_f c136 hm
                      refine nv_goto hC d_Law_law_668 (tgt := 1034) (by decide) ?_
                      obtain ⟨-, rfl⟩ := ret_s hm
                      refine nv_sub (lv' := [(0, .ref b), (1, .ref (ad h1)), (2, .ref (ad k2)), (3, .ref (ad a3)), (4, .int (iI x4))]) [2, 3, 4, 5, 6] rfl ?_
                      refine nv_widen (k := cells + 5) (n := slots + 30) (by omega) (by omega) ?_
                      exact kk
                    · have hm := if_t c136 hm
                      refine nv_aload_n hC d_Law_law_656 rfl 5 rfl ?_
                      refine nv_iconst hC d_Law_law_657 ?_
                      refine nv_lald hC hp3 (by decide) ⟨by decide, by decide⟩ d_Law_law_658 ?_
                      refine nv_iload hC d_Law_law_659 0 rfl ?_
                      obtain ⟨hr137, hm⟩ := ck_s hm
                      refine nv_i2l hC d_Law_law_661 hr137 ?_
                      obtain ⟨hc138, hm⟩ := ck_s hm
                      refine nv_lcmp hC hc138 (rl_rg hr137) d_Law_law_662 ?_
                      refine nv_if_eq hC rg_cmp d_Law_law_663 (tgt := 668) (by decide) (fun c139 => ?_) (fun c139 => ?_)
                      · have hm := if_t c139 hm
                        refine nv_goto hC d_Law_law_668 (tgt := 1034) (by decide) ?_
                        obtain ⟨-, rfl⟩ := ret_s hm
                        refine nv_sub (lv' := [(0, .ref b), (1, .ref (ad h1)), (2, .ref (ad k2)), (3, .ref (ad a3)), (4, .int (iI x4))]) [2, 3, 4, 5, 6] rfl ?_
                        refine nv_widen (k := cells + 5) (n := slots + 30) (by omega) (by omega) ?_
                        exact kk
                      · have hm := if_f c139 hm
                        refine nv_iconst hC d_Law_law_666 ?_
                        exact absurd (ret_s hm).1 (by decide)
                  · have hm := if_f c135 hm
                    refine nv_iconst hC d_Law_law_649 ?_
                    exact absurd (ret_s hm).1 (by decide)
                · have hm := if_f c123 hm
                  by_cases c140 : (y0 % 16) = 8
                  · have hm := if_t c140 hm
                    refine nv_tableIn hC 8 rg_m16 c140 d_Law_law_40 (tgt := 671) (by decide) (by decide) rfl (by decide) ?_
                    refine nv_aload_n hC d_Law_law_671 rfl 1 rfl ?_
                    refine nv_aload_n hC d_Law_law_672 rfl 0 rfl ?_
                    refine nv_iload hC d_Law_law_673 4 rfl ?_
                    refine nv_iconst hC d_Law_law_675 ?_
                    refine nv_iadd hC d_Law_law_676 ?_
                    refine nv_sld hC hXs hbl hbA (by omega) ⟨by omega, by omega⟩ e1 d_Law_law_677 ?_
                    refine nv_aload_n hC d_Law_law_678 rfl 0 rfl ?_
                    refine nv_iload hC d_Law_law_679 4 rfl ?_
                    refine nv_iconst hC d_Law_law_681 ?_
                    refine nv_iadd hC d_Law_law_682 ?_
                    refine nv_sld hC hXs hbl hbA (by omega) ⟨by omega, by omega⟩ e2 d_Law_law_683 ?_
                    refine nv_aload_n hC d_Law_law_684 rfl 3 rfl ?_
                    obtain ⟨r141, N142, hq143, hm⟩ := nbd_s hm
                    refine nvw_cally (x := r141) (N' := N142) (nrw_S hC hX9 (As := [.ref (ad h1), .int (iI y1), .int (iI y2), .ref (ad a3)]) (st := []) (c_Law_dead l hl0 hC.2.2.1 h1 hp1 y1 hy1 y2 hy2 a3 hp3 N r141 N142 hq143) (vx_cwSW 4 hC.1.2.2.2.2 (tt_SW k_432 k_433 k_373 k_434) rfl rfl rfl (by decide +kernel) ⟨Nat.le_of_ble_eq_true rfl, Nat.le_of_ble_eq_true rfl⟩) rfl rfl (Nat.le_of_ble_eq_true rfl) ⟨(by omega), (by omega)⟩ d_Law_law_685) ?_
                    refine nv_istore (lv' := [(5, .int (iI r141)), (0, .ref b), (1, .ref (ad h1)), (2, .ref (ad k2)), (3, .ref (ad a3)), (4, .int (iI x4))]) hC d_Law_law_688 (by decide) rfl ?_
                    refine nv_aload_n hC d_Law_law_690 rfl 3 rfl ?_
                    refine nv_aload_n hC d_Law_law_691 rfl 1 rfl ?_
                    refine nv_iload hC d_Law_law_692 5 rfl ?_
                    refine nv_iconst hC d_Law_law_694 ?_
                    refine nv_iadd hC d_Law_law_695 ?_
                    refine nv_sld hC hXs hbl hbA (by omega) ⟨by omega, by omega⟩ e1 d_Law_law_696 ?_
                    refine nv_aload_n hC d_Law_law_697 rfl 1 rfl ?_
                    refine nv_iload hC d_Law_law_698 5 rfl ?_
                    refine nv_iconst hC d_Law_law_700 ?_
                    refine nv_iadd hC d_Law_law_701 ?_
                    refine nv_sld hC hXs hbl hbA (by omega) ⟨by omega, by omega⟩ e2 d_Law_law_702 ?_
                    obtain ⟨r144, N145, hq146, hm⟩ := nbd_s hm
                    refine nv_calli (x := r144) (N' := N145) (nr_V hC (As := [.int (iI y1), .int (iI y2)]) (st := []) hp2.1 rfl (c_Mo_dead l hC.2.2.1 k2 hp2 y1 hy1 y2 hy2 N142 r144 N145 hq146) (cwV 2 hC.1.2.2.2.2 (tt_V k_435 k_437 k_438 k_229 k_436) rfl rfl rfl (by decide +kernel) ⟨Nat.le_of_ble_eq_true rfl, Nat.le_of_ble_eq_true rfl⟩) rfl rfl (Nat.le_of_ble_eq_true rfl) ⟨(by omega), (by omega)⟩ d_Law_law_703) ?_
                    refine nv_istore (lv' := [(6, .int (iI r144)), (5, .int (iI r141)), (0, .ref b), (1, .ref (ad h1)), (2, .ref (ad k2)), (3, .ref (ad a3)), (4, .int (iI x4))]) hC d_Law_law_706 (by decide) rfl ?_
                    refine nv_aload_n hC d_Law_law_708 rfl 4 rfl ?_
                    obtain ⟨r147, N148, hq149, hm⟩ := nbd_s hm
                    refine nv_calli (x := r147) (N' := N148) (nr_V hC (As := []) (st := []) hp2.1 rfl (c_Mo_thrown l hC.2.2.1 k2 hp2 N145 r147 N148 hq149) (cwV 0 hC.1.2.2.2.2 (tt_V k_379 k_381 k_382 k_229 k_380) rfl rfl rfl (by decide +kernel) ⟨Nat.le_of_ble_eq_true rfl, Nat.le_of_ble_eq_true rfl⟩) rfl rfl (Nat.le_of_ble_eq_true rfl) ⟨(by omega), (by omega)⟩ d_Law_law_709) ?_
                    refine nv_iload hC d_Law_law_712 1 rfl ?_
                    obtain ⟨hr150, hm⟩ := ck_s hm
                    obtain ⟨hr151, hm⟩ := ck_s hm
                    refine nv_icmp_eq hC hr150 hr151 d_Law_law_714 (tgt := 719) (by decide) (fun c152 => ?_) (fun c152 => ?_)
                    · have hm := if_t c152 hm
                      refine nv_iload hC d_Law_law_719 1 rfl ?_
                      refine nv_if_ne hC hr151 d_Law_law_721 (tgt := 736) (by decide) (fun c153 => ?_) (fun c153 => ?_)
                      · have hm := if_f c153 hm
                        refine nv_goto hC d_Law_law_736 (tgt := 1034) (by decide) ?_
                        obtain ⟨-, rfl⟩ := ret_s hm
                        refine nv_sub (lv' := [(0, .ref b), (1, .ref (ad h1)), (2, .ref (ad k2)), (3, .ref (ad a3)), (4, .int (iI x4))]) [2, 3, 4, 5, 6] rfl ?_
                        refine nv_widen (k := cells + 5) (n := slots + 30) (by omega) (by omega) ?_
                        exact kk
                      · have hm := if_t c153 hm
                        refine nv_aload_n hC d_Law_law_724 rfl 5 rfl ?_
                        refine nv_iconst hC d_Law_law_725 ?_
                        refine nv_lald hC hp3 (by decide) ⟨by decide, by decide⟩ d_Law_law_726 ?_
                        refine nv_iload hC d_Law_law_727 0 rfl ?_
                        obtain ⟨hr154, hm⟩ := ck_s hm
                        refine nv_i2l hC d_Law_law_729 hr154 ?_
                        obtain ⟨hc155, hm⟩ := ck_s hm
                        refine nv_lcmp hC hc155 (rl_rg hr154) d_Law_law_730 ?_
                        refine nv_if_eq hC rg_cmp d_Law_law_731 (tgt := 736) (by decide) (fun c156 => ?_) (fun c156 => ?_)
                        · have hm := if_t c156 hm
                          refine nv_goto hC d_Law_law_736 (tgt := 1034) (by decide) ?_
                          obtain ⟨-, rfl⟩ := ret_s hm
                          refine nv_sub (lv' := [(0, .ref b), (1, .ref (ad h1)), (2, .ref (ad k2)), (3, .ref (ad a3)), (4, .int (iI x4))]) [2, 3, 4, 5, 6] rfl ?_
                          refine nv_widen (k := cells + 5) (n := slots + 30) (by omega) (by omega) ?_
                          exact kk
                        · have hm := if_f c156 hm
                          refine nv_iconst hC d_Law_law_734 ?_
                          exact absurd (ret_s hm).1 (by decide)
                    · have hm := if_f c152 hm
                      refine nv_iconst hC d_Law_law_717 ?_
                      exact absurd (ret_s hm).1 (by decide)
                  · have hm := if_f c140 hm
                    by_cases c157 : (y0 % 16) = 9
                    · have hm := if_t c157 hm
                      refine nv_tableIn hC 9 rg_m16 c157 d_Law_law_40 (tgt := 739) (by decide) (by decide) rfl (by decide) ?_
                      refine nv_aload_n hC d_Law_law_739 rfl 1 rfl ?_
                      refine nv_aload_n hC d_Law_law_740 rfl 0 rfl ?_
                      refine nv_iload hC d_Law_law_741 4 rfl ?_
                      refine nv_iconst hC d_Law_law_743 ?_
                      refine nv_iadd hC d_Law_law_744 ?_
                      refine nv_sld hC hXs hbl hbA (by omega) ⟨by omega, by omega⟩ e1 d_Law_law_745 ?_
                      refine nv_aload_n hC d_Law_law_746 rfl 0 rfl ?_
                      refine nv_iload hC d_Law_law_747 4 rfl ?_
                      refine nv_iconst hC d_Law_law_749 ?_
                      refine nv_iadd hC d_Law_law_750 ?_
                      refine nv_sld hC hXs hbl hbA (by omega) ⟨by omega, by omega⟩ e2 d_Law_law_751 ?_
                      refine nv_aload_n hC d_Law_law_752 rfl 3 rfl ?_
                      obtain ⟨r158, N159, hq160, hm⟩ := nbd_s hm
                      refine nvw_cally (x := r158) (N' := N159) (nrw_S hC hX9 (As := [.ref (ad h1), .int (iI y1), .int (iI y2), .ref (ad a3)]) (st := []) (c_Law_warm l hl0 hC.2.2.1 h1 hp1 y1 hy1 y2 hy2 a3 hp3 N r158 N159 hq160) (vx_cwSW 4 hC.1.2.2.2.2 (tt_SW k_439 k_440 k_373 k_441) rfl rfl rfl (by decide +kernel) ⟨Nat.le_of_ble_eq_true rfl, Nat.le_of_ble_eq_true rfl⟩) rfl rfl (Nat.le_of_ble_eq_true rfl) ⟨(by omega), (by omega)⟩ d_Law_law_753) ?_
                      refine nv_istore (lv' := [(5, .int (iI r158)), (0, .ref b), (1, .ref (ad h1)), (2, .ref (ad k2)), (3, .ref (ad a3)), (4, .int (iI x4))]) hC d_Law_law_756 (by decide) rfl ?_
                      refine nv_aload_n hC d_Law_law_758 rfl 3 rfl ?_
                      refine nv_aload_n hC d_Law_law_759 rfl 1 rfl ?_
                      refine nv_iload hC d_Law_law_760 5 rfl ?_
                      refine nv_iconst hC d_Law_law_762 ?_
                      refine nv_iadd hC d_Law_law_763 ?_
                      refine nv_sld hC hXs hbl hbA (by omega) ⟨by omega, by omega⟩ e1 d_Law_law_764 ?_
                      refine nv_aload_n hC d_Law_law_765 rfl 1 rfl ?_
                      refine nv_iload hC d_Law_law_766 5 rfl ?_
                      refine nv_iconst hC d_Law_law_768 ?_
                      refine nv_iadd hC d_Law_law_769 ?_
                      refine nv_sld hC hXs hbl hbA (by omega) ⟨by omega, by omega⟩ e2 d_Law_law_770 ?_
                      obtain ⟨r161, N162, hq163, hm⟩ := nbd_s hm
                      refine nv_calli (x := r161) (N' := N162) (nr_V hC (As := [.int (iI y1), .int (iI y2)]) (st := []) hp2.1 rfl (c_Mo_warm l hC.2.2.1 k2 hp2 y1 hy1 y2 hy2 N159 r161 N162 hq163) (cwV 2 hC.1.2.2.2.2 (tt_V k_442 k_444 k_445 k_229 k_443) rfl rfl rfl (by decide +kernel) ⟨Nat.le_of_ble_eq_true rfl, Nat.le_of_ble_eq_true rfl⟩) rfl rfl (Nat.le_of_ble_eq_true rfl) ⟨(by omega), (by omega)⟩ d_Law_law_771) ?_
                      refine nv_istore (lv' := [(6, .int (iI r161)), (5, .int (iI r158)), (0, .ref b), (1, .ref (ad h1)), (2, .ref (ad k2)), (3, .ref (ad a3)), (4, .int (iI x4))]) hC d_Law_law_774 (by decide) rfl ?_
                      refine nv_aload_n hC d_Law_law_776 rfl 4 rfl ?_
                      obtain ⟨r164, N165, hq166, hm⟩ := nbd_s hm
                      refine nv_calli (x := r164) (N' := N165) (nr_V hC (As := []) (st := []) hp2.1 rfl (c_Mo_thrown l hC.2.2.1 k2 hp2 N162 r164 N165 hq166) (cwV 0 hC.1.2.2.2.2 (tt_V k_379 k_381 k_382 k_229 k_380) rfl rfl rfl (by decide +kernel) ⟨Nat.le_of_ble_eq_true rfl, Nat.le_of_ble_eq_true rfl⟩) rfl rfl (Nat.le_of_ble_eq_true rfl) ⟨(by omega), (by omega)⟩ d_Law_law_777) ?_
                      refine nv_iload hC d_Law_law_780 1 rfl ?_
                      obtain ⟨hr167, hm⟩ := ck_s hm
                      obtain ⟨hr168, hm⟩ := ck_s hm
                      refine nv_icmp_eq hC hr167 hr168 d_Law_law_782 (tgt := 787) (by decide) (fun c169 => ?_) (fun c169 => ?_)
                      · have hm := if_t c169 hm
                        refine nv_iload hC d_Law_law_787 1 rfl ?_
                        refine nv_if_ne hC hr168 d_Law_law_789 (tgt := 804) (by decide) (fun c170 => ?_) (fun c170 => ?_)
                        · have hm := if_f c170 hm
                          refine nv_goto hC d_Law_law_804 (tgt := 1034) (by decide) ?_
                          obtain ⟨-, rfl⟩ := ret_s hm
                          refine nv_sub (lv' := [(0, .ref b), (1, .ref (ad h1)), (2, .ref (ad k2)), (3, .ref (ad a3)), (4, .int (iI x4))]) [2, 3, 4, 5, 6] rfl ?_
                          refine nv_widen (k := cells + 5) (n := slots + 30) (by omega) (by omega) ?_
                          exact kk
                        · have hm := if_t c170 hm
                          refine nv_aload_n hC d_Law_law_792 rfl 5 rfl ?_
                          refine nv_iconst hC d_Law_law_793 ?_
                          refine nv_lald hC hp3 (by decide) ⟨by decide, by decide⟩ d_Law_law_794 ?_
                          refine nv_iload hC d_Law_law_795 0 rfl ?_
                          obtain ⟨hr171, hm⟩ := ck_s hm
                          refine nv_i2l hC d_Law_law_797 hr171 ?_
                          obtain ⟨hc172, hm⟩ := ck_s hm
                          refine nv_lcmp hC hc172 (rl_rg hr171) d_Law_law_798 ?_
                          refine nv_if_eq hC rg_cmp d_Law_law_799 (tgt := 804) (by decide) (fun c173 => ?_) (fun c173 => ?_)
                          · have hm := if_t c173 hm
                            refine nv_goto hC d_Law_law_804 (tgt := 1034) (by decide) ?_
                            obtain ⟨-, rfl⟩ := ret_s hm
                            refine nv_sub (lv' := [(0, .ref b), (1, .ref (ad h1)), (2, .ref (ad k2)), (3, .ref (ad a3)), (4, .int (iI x4))]) [2, 3, 4, 5, 6] rfl ?_
                            refine nv_widen (k := cells + 5) (n := slots + 30) (by omega) (by omega) ?_
                            exact kk
                          · have hm := if_f c173 hm
                            refine nv_iconst hC d_Law_law_802 ?_
                            exact absurd (ret_s hm).1 (by decide)
                      · have hm := if_f c169 hm
                        refine nv_iconst hC d_Law_law_785 ?_
                        exact absurd (ret_s hm).1 (by decide)
                    · have hm := if_f c157 hm
                      by_cases c174 : (y0 % 16) = 10
                      · have hm := if_t c174 hm
                        refine nv_tableIn hC 10 rg_m16 c174 d_Law_law_40 (tgt := 807) (by decide) (by decide) rfl (by decide) ?_
                        refine nv_aload_n hC d_Law_law_807 rfl 1 rfl ?_
                        refine nv_aload_n hC d_Law_law_808 rfl 0 rfl ?_
                        refine nv_iload hC d_Law_law_809 4 rfl ?_
                        refine nv_iconst hC d_Law_law_811 ?_
                        refine nv_iadd hC d_Law_law_812 ?_
                        refine nv_sld hC hXs hbl hbA (by omega) ⟨by omega, by omega⟩ e1 d_Law_law_813 ?_
                        refine nv_aload_n hC d_Law_law_814 rfl 0 rfl ?_
                        refine nv_iload hC d_Law_law_815 4 rfl ?_
                        refine nv_iconst hC d_Law_law_817 ?_
                        refine nv_iadd hC d_Law_law_818 ?_
                        refine nv_sld hC hXs hbl hbA (by omega) ⟨by omega, by omega⟩ e2 d_Law_law_819 ?_
                        refine nv_aload_n hC d_Law_law_820 rfl 3 rfl ?_
                        obtain ⟨r175, N176, hq177, hm⟩ := nbd_s hm
                        refine nvw_cally (x := r175) (N' := N176) (nrw_S hC hX9 (As := [.ref (ad h1), .int (iI y1), .int (iI y2), .ref (ad a3)]) (st := []) (c_Law_drawn l hl0 hC.2.2.1 h1 hp1 y1 hy1 y2 hy2 a3 hp3 N r175 N176 hq177) (vx_cwSW 4 hC.1.2.2.2.2 (tt_SW k_446 k_447 k_373 k_448) rfl rfl rfl (by decide +kernel) ⟨Nat.le_of_ble_eq_true rfl, Nat.le_of_ble_eq_true rfl⟩) rfl rfl (Nat.le_of_ble_eq_true rfl) ⟨(by omega), (by omega)⟩ d_Law_law_821) ?_
                        refine nv_istore (lv' := [(5, .int (iI r175)), (0, .ref b), (1, .ref (ad h1)), (2, .ref (ad k2)), (3, .ref (ad a3)), (4, .int (iI x4))]) hC d_Law_law_824 (by decide) rfl ?_
                        refine nv_aload_n hC d_Law_law_826 rfl 3 rfl ?_
                        refine nv_aload_n hC d_Law_law_827 rfl 1 rfl ?_
                        refine nv_iload hC d_Law_law_828 5 rfl ?_
                        refine nv_iconst hC d_Law_law_830 ?_
                        refine nv_iadd hC d_Law_law_831 ?_
                        refine nv_sld hC hXs hbl hbA (by omega) ⟨by omega, by omega⟩ e1 d_Law_law_832 ?_
                        refine nv_aload_n hC d_Law_law_833 rfl 1 rfl ?_
                        refine nv_iload hC d_Law_law_834 5 rfl ?_
                        refine nv_iconst hC d_Law_law_836 ?_
                        refine nv_iadd hC d_Law_law_837 ?_
                        refine nv_sld hC hXs hbl hbA (by omega) ⟨by omega, by omega⟩ e2 d_Law_law_838 ?_
                        obtain ⟨r178, N179, hq180, hm⟩ := nbd_s hm
                        refine nv_calli (x := r178) (N' := N179) (nr_V hC (As := [.int (iI y1), .int (iI y2)]) (st := []) hp2.1 rfl (c_Mo_drawn l hC.2.2.1 k2 hp2 y1 hy1 y2 hy2 N176 r178 N179 hq180) (cwV 2 hC.1.2.2.2.2 (tt_V k_449 k_451 k_452 k_229 k_450) rfl rfl rfl (by decide +kernel) ⟨Nat.le_of_ble_eq_true rfl, Nat.le_of_ble_eq_true rfl⟩) rfl rfl (Nat.le_of_ble_eq_true rfl) ⟨(by omega), (by omega)⟩ d_Law_law_839) ?_
                        refine nv_istore (lv' := [(6, .int (iI r178)), (5, .int (iI r175)), (0, .ref b), (1, .ref (ad h1)), (2, .ref (ad k2)), (3, .ref (ad a3)), (4, .int (iI x4))]) hC d_Law_law_842 (by decide) rfl ?_
                        refine nv_aload_n hC d_Law_law_844 rfl 4 rfl ?_
                        obtain ⟨r181, N182, hq183, hm⟩ := nbd_s hm
                        refine nv_calli (x := r181) (N' := N182) (nr_V hC (As := []) (st := []) hp2.1 rfl (c_Mo_thrown l hC.2.2.1 k2 hp2 N179 r181 N182 hq183) (cwV 0 hC.1.2.2.2.2 (tt_V k_379 k_381 k_382 k_229 k_380) rfl rfl rfl (by decide +kernel) ⟨Nat.le_of_ble_eq_true rfl, Nat.le_of_ble_eq_true rfl⟩) rfl rfl (Nat.le_of_ble_eq_true rfl) ⟨(by omega), (by omega)⟩ d_Law_law_845) ?_
                        refine nv_iload hC d_Law_law_848 1 rfl ?_
                        obtain ⟨hr184, hm⟩ := ck_s hm
                        obtain ⟨hr185, hm⟩ := ck_s hm
                        refine nv_icmp_eq hC hr184 hr185 d_Law_law_850 (tgt := 855) (by decide) (fun c186 => ?_) (fun c186 => ?_)
                        · have hm := if_t c186 hm
                          refine nv_iload hC d_Law_law_855 1 rfl ?_
                          refine nv_if_ne hC hr185 d_Law_law_857 (tgt := 872) (by decide) (fun c187 => ?_) (fun c187 => ?_)
                          · have hm := if_f c187 hm
                            refine nv_goto hC d_Law_law_872 (tgt := 1034) (by decide) ?_
                            obtain ⟨-, rfl⟩ := ret_s hm
                            refine nv_sub (lv' := [(0, .ref b), (1, .ref (ad h1)), (2, .ref (ad k2)), (3, .ref (ad a3)), (4, .int (iI x4))]) [2, 3, 4, 5, 6] rfl ?_
                            refine nv_widen (k := cells + 5) (n := slots + 30) (by omega) (by omega) ?_
                            exact kk
                          · have hm := if_t c187 hm
                            refine nv_aload_n hC d_Law_law_860 rfl 5 rfl ?_
                            refine nv_iconst hC d_Law_law_861 ?_
                            refine nv_lald hC hp3 (by decide) ⟨by decide, by decide⟩ d_Law_law_862 ?_
                            refine nv_iload hC d_Law_law_863 0 rfl ?_
                            obtain ⟨hr188, hm⟩ := ck_s hm
                            refine nv_i2l hC d_Law_law_865 hr188 ?_
                            obtain ⟨hc189, hm⟩ := ck_s hm
                            refine nv_lcmp hC hc189 (rl_rg hr188) d_Law_law_866 ?_
                            refine nv_if_eq hC rg_cmp d_Law_law_867 (tgt := 872) (by decide) (fun c190 => ?_) (fun c190 => ?_)
                            · have hm := if_t c190 hm
                              refine nv_goto hC d_Law_law_872 (tgt := 1034) (by decide) ?_
                              obtain ⟨-, rfl⟩ := ret_s hm
                              refine nv_sub (lv' := [(0, .ref b), (1, .ref (ad h1)), (2, .ref (ad k2)), (3, .ref (ad a3)), (4, .int (iI x4))]) [2, 3, 4, 5, 6] rfl ?_
                              refine nv_widen (k := cells + 5) (n := slots + 30) (by omega) (by omega) ?_
                              exact kk
                            · have hm := if_f c190 hm
                              refine nv_iconst hC d_Law_law_870 ?_
                              exact absurd (ret_s hm).1 (by decide)
                        · have hm := if_f c186 hm
                          refine nv_iconst hC d_Law_law_853 ?_
                          exact absurd (ret_s hm).1 (by decide)
                      · have hm := if_f c174 hm
                        by_cases c191 : (y0 % 16) = 11
                        · have hm := if_t c191 hm
                          refine nv_tableIn hC 11 rg_m16 c191 d_Law_law_40 (tgt := 875) (by decide) (by decide) rfl (by decide) ?_
                          refine nv_aload_n hC d_Law_law_875 rfl 1 rfl ?_
                          refine nv_aload_n hC d_Law_law_876 rfl 0 rfl ?_
                          refine nv_iload hC d_Law_law_877 4 rfl ?_
                          refine nv_iconst hC d_Law_law_879 ?_
                          refine nv_iadd hC d_Law_law_880 ?_
                          refine nv_sld hC hXs hbl hbA (by omega) ⟨by omega, by omega⟩ e1 d_Law_law_881 ?_
                          refine nv_aload_n hC d_Law_law_882 rfl 3 rfl ?_
                          obtain ⟨r192, N193, hq194, hm⟩ := nbd_s hm
                          refine nvw_cally (x := r192) (N' := N193) (nrw_S hC hX9 (As := [.ref (ad h1), .int (iI y1), .ref (ad a3)]) (st := []) (c_Law_heat l hl0 hC.2.2.1 h1 hp1 y1 hy1 a3 hp3 N r192 N193 hq194) (vx_cwSW 3 hC.1.2.2.2.2 (tt_SW k_453 k_454 k_373 k_455) rfl rfl rfl (by decide +kernel) ⟨Nat.le_of_ble_eq_true rfl, Nat.le_of_ble_eq_true rfl⟩) rfl rfl (Nat.le_of_ble_eq_true rfl) ⟨(by omega), (by omega)⟩ d_Law_law_883) ?_
                          refine nv_istore (lv' := [(5, .int (iI r192)), (0, .ref b), (1, .ref (ad h1)), (2, .ref (ad k2)), (3, .ref (ad a3)), (4, .int (iI x4))]) hC d_Law_law_886 (by decide) rfl ?_
                          refine nv_aload_n hC d_Law_law_888 rfl 3 rfl ?_
                          refine nv_aload_n hC d_Law_law_889 rfl 1 rfl ?_
                          refine nv_iload hC d_Law_law_890 5 rfl ?_
                          refine nv_iconst hC d_Law_law_892 ?_
                          refine nv_iadd hC d_Law_law_893 ?_
                          refine nv_sld hC hXs hbl hbA (by omega) ⟨by omega, by omega⟩ e1 d_Law_law_894 ?_
                          obtain ⟨r195, N196, hq197, hm⟩ := nbd_s hm
                          refine nv_calll (x := r195) (N' := N196) (nr_V hC (As := [.int (iI y1)]) (st := []) hp2.1 rfl (c_Mo_heat l hC.2.2.1 k2 hp2 y1 hy1 N193 r195 N196 hq197) (cwV 1 hC.1.2.2.2.2 (tt_V k_456 k_458 k_459 k_229 k_457) rfl rfl rfl (by decide +kernel) ⟨Nat.le_of_ble_eq_true rfl, Nat.le_of_ble_eq_true rfl⟩) rfl rfl (Nat.le_of_ble_eq_true rfl) ⟨(by omega), (by omega)⟩ d_Law_law_895) ?_
                          refine nv_lstore (lv' := [(6, .long (lI r195)), (5, .int (iI r192)), (0, .ref b), (1, .ref (ad h1)), (2, .ref (ad k2)), (3, .ref (ad a3)), (4, .int (iI x4))]) hC d_Law_law_898 (by decide) rfl ?_
                          refine nv_aload_n hC d_Law_law_900 rfl 4 rfl ?_
                          obtain ⟨r198, N199, hq200, hm⟩ := nbd_s hm
                          refine nv_calli (x := r198) (N' := N199) (nr_V hC (As := []) (st := []) hp2.1 rfl (c_Mo_thrown l hC.2.2.1 k2 hp2 N196 r198 N199 hq200) (cwV 0 hC.1.2.2.2.2 (tt_V k_379 k_381 k_382 k_229 k_380) rfl rfl rfl (by decide +kernel) ⟨Nat.le_of_ble_eq_true rfl, Nat.le_of_ble_eq_true rfl⟩) rfl rfl (Nat.le_of_ble_eq_true rfl) ⟨(by omega), (by omega)⟩ d_Law_law_901) ?_
                          refine nv_iload hC d_Law_law_904 1 rfl ?_
                          obtain ⟨hr201, hm⟩ := ck_s hm
                          obtain ⟨hr202, hm⟩ := ck_s hm
                          refine nv_icmp_eq hC hr201 hr202 d_Law_law_906 (tgt := 911) (by decide) (fun c203 => ?_) (fun c203 => ?_)
                          · have hm := if_t c203 hm
                            refine nv_iload hC d_Law_law_911 1 rfl ?_
                            refine nv_if_ne hC hr202 d_Law_law_913 (tgt := 927) (by decide) (fun c204 => ?_) (fun c204 => ?_)
                            · have hm := if_f c204 hm
                              refine nv_goto hC d_Law_law_927 (tgt := 1034) (by decide) ?_
                              obtain ⟨-, rfl⟩ := ret_s hm
                              refine nv_sub (lv' := [(0, .ref b), (1, .ref (ad h1)), (2, .ref (ad k2)), (3, .ref (ad a3)), (4, .int (iI x4))]) [2, 3, 4, 5, 6] rfl ?_
                              refine nv_widen (k := cells + 5) (n := slots + 30) (by omega) (by omega) ?_
                              exact kk
                            · have hm := if_t c204 hm
                              refine nv_aload_n hC d_Law_law_916 rfl 5 rfl ?_
                              refine nv_iconst hC d_Law_law_917 ?_
                              refine nv_lald hC hp3 (by decide) ⟨by decide, by decide⟩ d_Law_law_918 ?_
                              refine nv_lload hC d_Law_law_919 0 rfl ?_
                              obtain ⟨hc205, hm⟩ := ck_s hm
                              obtain ⟨hc206, hm⟩ := ck_s hm
                              refine nv_lcmp hC hc205 hc206 d_Law_law_921 ?_
                              refine nv_if_eq hC rg_cmp d_Law_law_922 (tgt := 927) (by decide) (fun c207 => ?_) (fun c207 => ?_)
                              · have hm := if_t c207 hm
                                refine nv_goto hC d_Law_law_927 (tgt := 1034) (by decide) ?_
                                obtain ⟨-, rfl⟩ := ret_s hm
                                refine nv_sub (lv' := [(0, .ref b), (1, .ref (ad h1)), (2, .ref (ad k2)), (3, .ref (ad a3)), (4, .int (iI x4))]) [2, 3, 4, 5, 6] rfl ?_
                                refine nv_widen (k := cells + 5) (n := slots + 30) (by omega) (by omega) ?_
                                exact kk
                              · have hm := if_f c207 hm
                                refine nv_iconst hC d_Law_law_925 ?_
                                exact absurd (ret_s hm).1 (by decide)
                          · have hm := if_f c203 hm
                            refine nv_iconst hC d_Law_law_909 ?_
                            exact absurd (ret_s hm).1 (by decide)
                        · have hm := if_f c191 hm
                          by_cases c208 : (y0 % 16) = 12
                          · have hm := if_t c208 hm
                            refine nv_tableIn hC 12 rg_m16 c208 d_Law_law_40 (tgt := 930) (by decide) (by decide) rfl (by decide) ?_
                            refine nv_aload_n hC d_Law_law_930 rfl 1 rfl ?_
                            refine nv_aload_n hC d_Law_law_931 rfl 0 rfl ?_
                            refine nv_iload hC d_Law_law_932 4 rfl ?_
                            refine nv_iconst hC d_Law_law_934 ?_
                            refine nv_iadd hC d_Law_law_935 ?_
                            refine nv_sld hC hXs hbl hbA (by omega) ⟨by omega, by omega⟩ e1 d_Law_law_936 ?_
                            refine nv_aload_n hC d_Law_law_937 rfl 0 rfl ?_
                            refine nv_iload hC d_Law_law_938 4 rfl ?_
                            refine nv_iconst hC d_Law_law_940 ?_
                            refine nv_iadd hC d_Law_law_941 ?_
                            refine nv_sld hC hXs hbl hbA (by omega) ⟨by omega, by omega⟩ e2 d_Law_law_942 ?_
                            refine nv_aload_n hC d_Law_law_943 rfl 0 rfl ?_
                            refine nv_iload hC d_Law_law_944 4 rfl ?_
                            refine nv_iconst hC d_Law_law_946 ?_
                            refine nv_iadd hC d_Law_law_947 ?_
                            refine nv_sld hC hXs hbl hbA (by omega) ⟨by omega, by omega⟩ e3 d_Law_law_948 ?_
                            refine nv_aload_n hC d_Law_law_949 rfl 0 rfl ?_
                            refine nv_iload hC d_Law_law_950 4 rfl ?_
                            refine nv_iconst hC d_Law_law_952 ?_
                            refine nv_iadd hC d_Law_law_953 ?_
                            refine nv_sld hC hXs hbl hbA (by omega) ⟨by omega, by omega⟩ e4 d_Law_law_954 ?_
                            refine nv_aload_n hC d_Law_law_955 rfl 0 rfl ?_
                            refine nv_iload hC d_Law_law_956 4 rfl ?_
                            refine nv_iconst hC d_Law_law_958 ?_
                            refine nv_iadd hC d_Law_law_959 ?_
                            refine nv_sld hC hXs hbl hbA (by omega) ⟨by omega, by omega⟩ e5 d_Law_law_960 ?_
                            refine nv_aload_n hC d_Law_law_961 rfl 3 rfl ?_
                            obtain ⟨r209, N210, hq211, hm⟩ := nbd_s hm
                            refine nvw_cally (x := r209) (N' := N210) (nrw_S hC hX9 (As := [.ref (ad h1), .int (iI y1), .int (iI y2), .int (iI y3), .int (iI y4), .int (iI y5), .ref (ad a3)]) (st := []) (c_Law_shock l hl0 hC.2.2.1 h1 hp1 y1 hy1 y2 hy2 y3 hy3 y4 hy4 y5 hy5 a3 hp3 N r209 N210 hq211) (vx_cwSW 7 hC.1.2.2.2.2 (tt_SW k_460 k_461 k_373 k_462) rfl rfl rfl (by decide +kernel) ⟨Nat.le_of_ble_eq_true rfl, Nat.le_of_ble_eq_true rfl⟩) rfl rfl (Nat.le_of_ble_eq_true rfl) ⟨(by omega), (by omega)⟩ d_Law_law_962) ?_
                            refine nv_istore (lv' := [(5, .int (iI r209)), (0, .ref b), (1, .ref (ad h1)), (2, .ref (ad k2)), (3, .ref (ad a3)), (4, .int (iI x4))]) hC d_Law_law_965 (by decide) rfl ?_
                            refine nv_aload_n hC d_Law_law_967 rfl 3 rfl ?_
                            refine nv_aload_n hC d_Law_law_968 rfl 1 rfl ?_
                            refine nv_iload hC d_Law_law_969 5 rfl ?_
                            refine nv_iconst hC d_Law_law_971 ?_
                            refine nv_iadd hC d_Law_law_972 ?_
                            refine nv_sld hC hXs hbl hbA (by omega) ⟨by omega, by omega⟩ e1 d_Law_law_973 ?_
                            refine nv_aload_n hC d_Law_law_974 rfl 1 rfl ?_
                            refine nv_iload hC d_Law_law_975 5 rfl ?_
                            refine nv_iconst hC d_Law_law_977 ?_
                            refine nv_iadd hC d_Law_law_978 ?_
                            refine nv_sld hC hXs hbl hbA (by omega) ⟨by omega, by omega⟩ e2 d_Law_law_979 ?_
                            refine nv_aload_n hC d_Law_law_980 rfl 1 rfl ?_
                            refine nv_iload hC d_Law_law_981 5 rfl ?_
                            refine nv_iconst hC d_Law_law_983 ?_
                            refine nv_iadd hC d_Law_law_984 ?_
                            refine nv_sld hC hXs hbl hbA (by omega) ⟨by omega, by omega⟩ e3 d_Law_law_985 ?_
                            refine nv_aload_n hC d_Law_law_986 rfl 1 rfl ?_
                            refine nv_iload hC d_Law_law_987 5 rfl ?_
                            refine nv_iconst hC d_Law_law_989 ?_
                            refine nv_iadd hC d_Law_law_990 ?_
                            refine nv_sld hC hXs hbl hbA (by omega) ⟨by omega, by omega⟩ e4 d_Law_law_991 ?_
                            refine nv_aload_n hC d_Law_law_992 rfl 1 rfl ?_
                            refine nv_iload hC d_Law_law_993 5 rfl ?_
                            refine nv_iconst hC d_Law_law_995 ?_
                            refine nv_iadd hC d_Law_law_996 ?_
                            refine nv_sld hC hXs hbl hbA (by omega) ⟨by omega, by omega⟩ e5 d_Law_law_997 ?_
                            obtain ⟨r212, N213, hq214, hm⟩ := nbd_s hm
                            refine nv_calli (x := r212) (N' := N213) (nr_V hC (As := [.int (iI y1), .int (iI y2), .int (iI y3), .int (iI y4), .int (iI y5)]) (st := []) hp2.1 rfl (c_Mo_shock l hC.2.2.1 k2 hp2 y1 hy1 y2 hy2 y3 hy3 y4 hy4 y5 hy5 N210 r212 N213 hq214) (cwV 5 hC.1.2.2.2.2 (tt_V k_463 k_465 k_466 k_229 k_464) rfl rfl rfl (by decide +kernel) ⟨Nat.le_of_ble_eq_true rfl, Nat.le_of_ble_eq_true rfl⟩) rfl rfl (Nat.le_of_ble_eq_true rfl) ⟨(by omega), (by omega)⟩ d_Law_law_998) ?_
                            refine nv_istore (lv' := [(6, .int (iI r212)), (5, .int (iI r209)), (0, .ref b), (1, .ref (ad h1)), (2, .ref (ad k2)), (3, .ref (ad a3)), (4, .int (iI x4))]) hC d_Law_law_1001 (by decide) rfl ?_
                            refine nv_aload_n hC d_Law_law_1003 rfl 4 rfl ?_
                            obtain ⟨r215, N216, hq217, hm⟩ := nbd_s hm
                            refine nv_calli (x := r215) (N' := N216) (nr_V hC (As := []) (st := []) hp2.1 rfl (c_Mo_thrown l hC.2.2.1 k2 hp2 N213 r215 N216 hq217) (cwV 0 hC.1.2.2.2.2 (tt_V k_379 k_381 k_382 k_229 k_380) rfl rfl rfl (by decide +kernel) ⟨Nat.le_of_ble_eq_true rfl, Nat.le_of_ble_eq_true rfl⟩) rfl rfl (Nat.le_of_ble_eq_true rfl) ⟨(by omega), (by omega)⟩ d_Law_law_1004) ?_
                            refine nv_iload hC d_Law_law_1007 1 rfl ?_
                            obtain ⟨hr218, hm⟩ := ck_s hm
                            obtain ⟨hr219, hm⟩ := ck_s hm
                            refine nv_icmp_eq hC hr218 hr219 d_Law_law_1009 (tgt := 1014) (by decide) (fun c220 => ?_) (fun c220 => ?_)
                            · have hm := if_t c220 hm
                              refine nv_iload hC d_Law_law_1014 1 rfl ?_
                              refine nv_if_ne hC hr219 d_Law_law_1016 (tgt := 1031) (by decide) (fun c221 => ?_) (fun c221 => ?_)
                              · have hm := if_f c221 hm
                                refine nv_goto hC d_Law_law_1031 (tgt := 1034) (by decide) ?_
                                obtain ⟨-, rfl⟩ := ret_s hm
                                refine nv_sub (lv' := [(0, .ref b), (1, .ref (ad h1)), (2, .ref (ad k2)), (3, .ref (ad a3)), (4, .int (iI x4))]) [2, 3, 4, 5, 6] rfl ?_
                                refine nv_widen (k := cells + 5) (n := slots + 30) (by omega) (by omega) ?_
                                exact kk
                              · have hm := if_t c221 hm
                                refine nv_aload_n hC d_Law_law_1019 rfl 5 rfl ?_
                                refine nv_iconst hC d_Law_law_1020 ?_
                                refine nv_lald hC hp3 (by decide) ⟨by decide, by decide⟩ d_Law_law_1021 ?_
                                refine nv_iload hC d_Law_law_1022 0 rfl ?_
                                obtain ⟨hr222, hm⟩ := ck_s hm
                                refine nv_i2l hC d_Law_law_1024 hr222 ?_
                                obtain ⟨hc223, hm⟩ := ck_s hm
                                refine nv_lcmp hC hc223 (rl_rg hr222) d_Law_law_1025 ?_
                                refine nv_if_eq hC rg_cmp d_Law_law_1026 (tgt := 1031) (by decide) (fun c224 => ?_) (fun c224 => ?_)
                                · have hm := if_t c224 hm
                                  refine nv_goto hC d_Law_law_1031 (tgt := 1034) (by decide) ?_
                                  obtain ⟨-, rfl⟩ := ret_s hm
                                  refine nv_sub (lv' := [(0, .ref b), (1, .ref (ad h1)), (2, .ref (ad k2)), (3, .ref (ad a3)), (4, .int (iI x4))]) [2, 3, 4, 5, 6] rfl ?_
                                  refine nv_widen (k := cells + 5) (n := slots + 30) (by omega) (by omega) ?_
                                  exact kk
                                · have hm := if_f c224 hm
                                  refine nv_iconst hC d_Law_law_1029 ?_
                                  exact absurd (ret_s hm).1 (by decide)
                            · have hm := if_f c220 hm
                              refine nv_iconst hC d_Law_law_1012 ?_
                              exact absurd (ret_s hm).1 (by decide)
                          · have hm := if_f c208 hm
                            refine nv_tableOut hC rg_m16 d_Law_law_40 (tgt := 1034) (by omega) (by decide) ?_
                            obtain ⟨-, rfl⟩ := ret_s hm
                            refine nv_sub (lv' := [(0, .ref b), (1, .ref (ad h1)), (2, .ref (ad k2)), (3, .ref (ad a3)), (4, .int (iI x4))]) [0, 1, 2, 3, 4] rfl ?_
                            refine nv_widen (k := cells + 5) (n := slots + 30) (by omega) (by omega) ?_
                            exact kk
