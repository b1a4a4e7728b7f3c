def m_Law_pipe (h0 : Nat) (x1 : Int) (x2 : Int) (x3 : Int) (a4 : Nat) (N : nS) : Option (Int × nS) :=
  nbd (m_HL_pipe h0 x1 x2 x3 N) (fun q1 N2 =>
  if q1.1 = 0 then
  if rg q1.2 then
  nlt (up2 N2 a4 (Int.toNat 0) q1.2) (fun N6 =>
  some (0, N6))
  else none
  else if q1.1 = 1 then
  some (1, N2)
  else
  some (2, N2))
set_option maxRecDepth 20000 in
theorem k_317 : Cond.methodLink R_Law 7 y_HL_pipe ∈ TT := tt_i 216 (by decide +kernel) (by decide +kernel)
set_option maxRecDepth 20000 in
theorem k_318 : Cond.code y_HL_pipe b_HL_pipe 5 (some .int) ∈ TT := tt_i 219 (by decide +kernel) (by decide +kernel)
set_option maxRecDepth 20000 in
theorem k_319 : Cond.instanceMethod y_HL_pipe ∈ TT := tt_i 217 (by decide +kernel) (by decide +kernel)
set_option maxRecDepth 20000 in
theorem k_320 : Cond.selects R_HL y_HL_pipe y_HL_pipe ∈ TT := tt_i 218 (by decide +kernel) (by decide +kernel)
set_option maxRecDepth 20000 in
theorem k_321 : Cond.classLink R_Law 13 eIA ∈ TT := tt_i 214 (by decide +kernel) (by decide +kernel)
set_option maxRecDepth 20000 in
theorem k_322 : Cond.classLink R_Law 15 eIS ∈ TT := tt_i 215 (by decide +kernel) (by decide +kernel)
abbrev rm_Law_pipe : Room := { frames := 8, cells := 4, slots := 24, locals := 166 }
set_option maxRecDepth 100000 in
set_option maxHeartbeats 4000000 in
theorem c_Law_pipe (l : Launch) {D : va_G} {ct : Nat → ClassId} {A : Nat → Prop} {ad : Nat → Nat} {S : nH} (hl0 : l.stackTraces = false) (hD : nD ad A S.length) (h0 : Nat) (hp0 : isH S h0) (x1 : Int) (hx1 : rg x1) (x2 : Int) (hx2 : rg x2) (x3 : Int) (hx3 : rg x3) (a4 : Nat) (hp4 : isO S a4) (N : nS) (r : Int) (No : nS) (hm : m_Law_pipe h0 x1 x2 x3 a4 N = some (r, No)) : nMw l y_Law_pipe (Cond.codeWith y_Law_pipe b_Law_pipe 6 (some .int) [(0, 12, 15, 13), (0, 12, 19, 15)] :: TT) rm_Law_pipe 4 24 D vwCl ct A ad S N [.ref (ad h0), .int (iI x1), .int (iI x2), .int (iI x3), .ref (ad a4)] (nQi D vwCl ct A ad S r No) := by
  refine nMw_of (cc := b_Law_pipe) (maxL := 6) (ret := some .int) (hh := [(0, 12, 15, 13), (0, 12, 19, 15)]) (by decide) rfl (Nat.le_of_ble_eq_true rfl) hD ?_
  intro p e s m below meth c hC hX9 htab hr hlk
  refine nv_lv (lv' := [(0, .ref (ad h0)), (1, .int (iI x1)), (2, .int (iI x2)), (3, .int (iI x3)), (4, .ref (ad a4))]) rfl ?_
  rw [m_Law_pipe] at hm
  refine nv_aload hC d_Law_pipe_0 4 rfl ?_
  refine nv_iconst hC d_Law_pipe_2 ?_
  refine nv_aload_n hC d_Law_pipe_3 rfl 0 rfl ?_
  refine nv_iload_n hC d_Law_pipe_4 rfl 1 rfl ?_
  refine nv_iload_n hC d_Law_pipe_5 rfl 2 rfl ?_
  refine nv_iload_n hC d_Law_pipe_6 rfl 3 rfl ?_
  obtain ⟨q1, N2, hq3, hm⟩ := nbd_s hm
  refine nvw_calli2 hC hX9 htab (x := q1.1) (r := q1.2) (N1 := N2) (nrx_V hC hX9 (As := [.int (iI x1), .int (iI x2), .int (iI x3)]) (st := [.int (iI 0), .ref (ad a4)]) hp0.1 rfl (c_HL_pipe l hl0 hC.2.2.1 h0 hp0 x1 hx1 x2 hx2 x3 hx3 N q1.1 q1.2 N2 hq3) (cwV 3 hC.1.2.2.2.2 (tt_V k_317 k_319 k_320 k_149 k_318) rfl rfl rfl (by decide +kernel) ⟨Nat.le_of_ble_eq_true rfl, Nat.le_of_ble_eq_true rfl⟩) rfl rfl (Nat.le_of_ble_eq_true rfl) ⟨(Nat.le_of_ble_eq_true rfl), (Nat.le_of_ble_eq_true rfl)⟩ d_Law_pipe_7) ⟨by decide, by decide⟩ ⟨by decide, by decide⟩ k_321 (by decide) k_322 (by decide) (fun c4 => ?_) (fun c4 q9 => ?_) (fun c4 c4' q9 => ?_)
  · have hm := if_t c4 hm
    obtain ⟨hr5, hm⟩ := ck_s hm
    refine nv_i2l hC d_Law_pipe_10 hr5 ?_
    obtain ⟨N6, e7, hm⟩ := nlt_s hm
    refine nv_last hC hp4 (by decide) ⟨by decide, by decide⟩ e7 d_Law_pipe_11 ?_
    refine nv_goto hC d_Law_pipe_12 (tgt := 23) (by decide) ?_
    refine nv_iconst hC d_Law_pipe_23 ?_
    obtain ⟨rfl, rfl⟩ := ret_s hm
    exact nvw_iret hC hr hlk (Nat.le_of_ble_eq_true rfl) (Nat.le_of_ble_eq_true rfl) d_Law_pipe_24
  · have hm := if_t c4 (if_f (fun h9 => absurd (h9.symm.trans c4) (by decide)) hm)
    refine nv_astore (lv' := [(5, .ref q9), (0, .ref (ad h0)), (1, .int (iI x1)), (2, .int (iI x2)), (3, .int (iI x3)), (4, .ref (ad a4))]) hC d_Law_pipe_15 (by decide) rfl ?_
    refine nv_iconst hC d_Law_pipe_17 ?_
    obtain ⟨rfl, rfl⟩ := ret_s hm
    exact nvw_iret hC hr hlk (Nat.le_of_ble_eq_true rfl) (Nat.le_of_ble_eq_true rfl) d_Law_pipe_18
  · have hm := if_f c4' (if_f c4 hm)
    refine nv_astore (lv' := [(5, .ref q9), (0, .ref (ad h0)), (1, .int (iI x1)), (2, .int (iI x2)), (3, .int (iI x3)), (4, .ref (ad a4))]) hC d_Law_pipe_19 (by decide) rfl ?_
    refine nv_iconst hC d_Law_pipe_21 ?_
    obtain ⟨rfl, rfl⟩ := ret_s hm
    exact nvw_iret hC hr hlk (Nat.le_of_ble_eq_true rfl) (Nat.le_of_ble_eq_true rfl) d_Law_pipe_22
def m_Law_tap (h0 : Nat) (x1 : Int) (a2 : Nat) (N : nS) : Option (Int × nS) :=
  nbd (m_HL_tap h0 x1 N) (fun q1 N2 =>
  if q1.1 = 0 then
  if rg q1.2 then
  if q1.2 = 0 then
  nlt (up2 N2 a2 (Int.toNat 0) 0) (fun N7 =>
  some (0, N7))
  else
  nlt (up2 N2 a2 (Int.toNat 0) 1) (fun N9 =>
  some (0, N9))
  else none
  else if q1.1 = 1 then
  some (1, N2)
  else
  none)
set_option maxRecDepth 20000 in
theorem k_323 : Cond.methodLink R_Law 17 y_HL_tap ∈ TT := tt_i 331 (by decide +kernel) (by decide +kernel)
set_option maxRecDepth 20000 in
theorem k_324 : Cond.code y_HL_tap b_HL_tap 3 (some .boolean) ∈ TT := tt_i 334 (by decide +kernel) (by decide +kernel)
set_option maxRecDepth 20000 in
theorem k_325 : Cond.instanceMethod y_HL_tap ∈ TT := tt_i 332 (by decide +kernel) (by decide +kernel)
set_option maxRecDepth 20000 in
theorem k_326 : Cond.selects R_HL y_HL_tap y_HL_tap ∈ TT := tt_i 333 (by decide +kernel) (by decide +kernel)
abbrev rm_Law_tap : Room := { frames := 8, cells := 1, slots := 6, locals := 163 }
set_option maxRecDepth 100000 in
set_option maxHeartbeats 4000000 in
theorem c_Law_tap (l : Launch) {D : va_G} {ct : Nat → ClassId} {A : Nat → Prop} {ad : Nat → Nat} {S : nH} (hl0 : l.stackTraces = false) (hD : nD ad A S.length) (h0 : Nat) (hp0 : isH S h0) (x1 : Int) (hx1 : rg x1) (a2 : Nat) (hp2 : isO S a2) (N : nS) (r : Int) (No : nS) (hm : m_Law_tap h0 x1 a2 N = some (r, No)) : nMw l y_Law_tap (Cond.codeWith y_Law_tap b_Law_tap 4 (some .int) [(0, 16, 19, 13)] :: TT) rm_Law_tap 1 6 D vwCl ct A ad S N [.ref (ad h0), .int (iI x1), .ref (ad a2)] (nQi D vwCl ct A ad S r No) := by
  refine nMw_of (cc := b_Law_tap) (maxL := 4) (ret := some .int) (hh := [(0, 16, 19, 13)]) (by decide) rfl (Nat.le_of_ble_eq_true rfl) hD ?_
  intro p e s m below meth c hC hX9 htab hr hlk
  refine nv_lv (lv' := [(0, .ref (ad h0)), (1, .int (iI x1)), (2, .ref (ad a2))]) rfl ?_
  rw [m_Law_tap] at hm
  refine nv_aload_n hC d_Law_tap_0 rfl 2 rfl ?_
  refine nv_iconst hC d_Law_tap_1 ?_
  refine nv_aload_n hC d_Law_tap_2 rfl 0 rfl ?_
  refine nv_iload_n hC d_Law_tap_3 rfl 1 rfl ?_
  obtain ⟨q1, N2, hq3, hm⟩ := nbd_s hm
  refine nvw_calli1 hC hX9 htab (x := q1.1) (r := q1.2) (N1 := N2) (nrx_V hC hX9 (As := [.int (iI x1)]) (st := [.int (iI 0), .ref (ad a2)]) hp0.1 rfl (c_HL_tap l hl0 hC.2.2.1 h0 hp0 x1 hx1 N q1.1 q1.2 N2 hq3) (cwV 1 hC.1.2.2.2.2 (tt_V k_323 k_325 k_326 k_149 k_324) rfl rfl rfl (by decide +kernel) ⟨Nat.le_of_ble_eq_true rfl, Nat.le_of_ble_eq_true rfl⟩) rfl rfl (Nat.le_of_ble_eq_true rfl) ⟨(Nat.le_of_ble_eq_true rfl), (Nat.le_of_ble_eq_true rfl)⟩ d_Law_tap_4) ⟨by decide, by decide⟩ k_321 (by decide) (fun c4 => ?_) (fun c4 q9 => ?_) (fun c4 => (ck_s (if_f c4 hm)).1)
  · have hm := if_t c4 hm
    obtain ⟨hr5, hm⟩ := ck_s hm
    refine nv_if_eq hC hr5 d_Law_tap_7 (tgt := 14) (by decide) (fun c6 => ?_) (fun c6 => ?_)
    · have hm := if_t c6 hm
      refine nv_lconst hC (z := 0) d_Law_tap_14 rfl ?_
      obtain ⟨N7, e8, hm⟩ := nlt_s hm
      refine nv_last hC hp2 (by decide) ⟨by decide, by decide⟩ e8 d_Law_tap_15 ?_
      refine nv_goto hC d_Law_tap_16 (tgt := 22) (by decide) ?_
      refine nv_iconst hC d_Law_tap_22 ?_
      obtain ⟨rfl, rfl⟩ := ret_s hm
      exact nvw_iret hC hr hlk (Nat.le_of_ble_eq_true rfl) (Nat.le_of_ble_eq_true rfl) d_Law_tap_23
    · have hm := if_f c6 hm
      refine nv_lconst hC (z := 1) d_Law_tap_10 rfl ?_
      refine nv_goto hC d_Law_tap_11 (tgt := 15) (by decide) ?_
      obtain ⟨N9, e10, hm⟩ := nlt_s hm
      refine nv_last hC hp2 (by decide) ⟨by decide, by decide⟩ e10 d_Law_tap_15 ?_
      refine nv_goto hC d_Law_tap_16 (tgt := 22) (by decide) ?_
      refine nv_iconst hC d_Law_tap_22 ?_
      obtain ⟨rfl, rfl⟩ := ret_s hm
      exact nvw_iret hC hr hlk (Nat.le_of_ble_eq_true rfl) (Nat.le_of_ble_eq_true rfl) d_Law_tap_23
  · have hm := if_t c4 (if_f (fun h9 => absurd (h9.symm.trans c4) (by decide)) hm)
    refine nv_astore_n (lv' := [(3, .ref q9), (0, .ref (ad h0)), (1, .int (iI x1)), (2, .ref (ad a2))]) hC d_Law_tap_19 rfl (by decide) rfl ?_
    refine nv_iconst hC d_Law_tap_20 ?_
    obtain ⟨rfl, rfl⟩ := ret_s hm
    exact nvw_iret hC hr hlk (Nat.le_of_ble_eq_true rfl) (Nat.le_of_ble_eq_true rfl) d_Law_tap_21
def m_Law_set (h0 : Nat) (x1 : Int) (x2 : Int) (a3 : Nat) (N : nS) : Option (Int × nS) :=
  nbd (m_HL_set h0 x1 x2 N) (fun q1 N2 =>
  if q1.1 = 0 then
  if rg q1.2 then
  nlt (up2 N2 a3 (Int.toNat 0) q1.2) (fun N6 =>
  some (0, N6))
  else none
  else if q1.1 = 1 then
  some (1, N2)
  else
  none)
set_option maxRecDepth 20000 in
theorem k_327 : Cond.methodLink R_Law 21 y_HL_set ∈ TT := tt_i 338 (by decide +kernel) (by decide +kernel)
set_option maxRecDepth 20000 in
theorem k_328 : Cond.code y_HL_set b_HL_set 3 (some .int) ∈ TT := tt_i 341 (by decide +kernel) (by decide +kernel)
set_option maxRecDepth 20000 in
theorem k_329 : Cond.instanceMethod y_HL_set ∈ TT := tt_i 339 (by decide +kernel) (by decide +kernel)
set_option maxRecDepth 20000 in
theorem k_330 : Cond.selects R_HL y_HL_set y_HL_set ∈ TT := tt_i 340 (by decide +kernel) (by decide +kernel)
abbrev rm_Law_set : Room := { frames := 8, cells := 2, slots := 12, locals := 164 }
set_option maxRecDepth 100000 in
set_option maxHeartbeats 4000000 in
theorem c_Law_set (l : Launch) {D : va_G} {ct : Nat → ClassId} {A : Nat → Prop} {ad : Nat → Nat} {S : nH} (hl0 : l.stackTraces = false) (hD : nD ad A S.length) (h0 : Nat) (hp0 : isH S h0) (x1 : Int) (hx1 : rg x1) (x2 : Int) (hx2 : rg x2) (a3 : Nat) (hp3 : isO S a3) (N : nS) (r : Int) (No : nS) (hm : m_Law_set h0 x1 x2 a3 N = some (r, No)) : nMw l y_Law_set (Cond.codeWith y_Law_set b_Law_set 5 (some .int) [(0, 10, 13, 13)] :: TT) rm_Law_set 2 12 D vwCl ct A ad S N [.ref (ad h0), .int (iI x1), .int (iI x2), .ref (ad a3)] (nQi D vwCl ct A ad S r No) := by
  refine nMw_of (cc := b_Law_set) (maxL := 5) (ret := some .int) (hh := [(0, 10, 13, 13)]) (by decide) rfl (Nat.le_of_ble_eq_true rfl) hD ?_
  intro p e s m below meth c hC hX9 htab hr hlk
  refine nv_lv (lv' := [(0, .ref (ad h0)), (1, .int (iI x1)), (2, .int (iI x2)), (3, .ref (ad a3))]) rfl ?_
  rw [m_Law_set] at hm
  refine nv_aload_n hC d_Law_set_0 rfl 3 rfl ?_
  refine nv_iconst hC d_Law_set_1 ?_
  refine nv_aload_n hC d_Law_set_2 rfl 0 rfl ?_
  refine nv_iload_n hC d_Law_set_3 rfl 1 rfl ?_
  refine nv_iload_n hC d_Law_set_4 rfl 2 rfl ?_
  obtain ⟨q1, N2, hq3, hm⟩ := nbd_s hm
  refine nvw_calli1 hC hX9 htab (x := q1.1) (r := q1.2) (N1 := N2) (nrx_V hC hX9 (As := [.int (iI x1), .int (iI x2)]) (st := [.int (iI 0), .ref (ad a3)]) hp0.1 rfl (c_HL_set l hl0 hC.2.2.1 h0 hp0 x1 hx1 x2 hx2 N q1.1 q1.2 N2 hq3) (cwV 2 hC.1.2.2.2.2 (tt_V k_327 k_329 k_330 k_149 k_328) rfl rfl rfl (by decide +kernel) ⟨Nat.le_of_ble_eq_true rfl, Nat.le_of_ble_eq_true rfl⟩) rfl rfl (Nat.le_of_ble_eq_true rfl) ⟨(Nat.le_of_ble_eq_true rfl), (Nat.le_of_ble_eq_true rfl)⟩ d_Law_set_5) ⟨by decide, by decide⟩ k_321 (by decide) (fun c4 => ?_) (fun c4 q9 => ?_) (fun c4 => (ck_s (if_f c4 hm)).1)
  · have hm := if_t c4 hm
    obtain ⟨hr5, hm⟩ := ck_s hm
    refine nv_i2l hC d_Law_set_8 hr5 ?_
    obtain ⟨N6, e7, hm⟩ := nlt_s hm
    refine nv_last hC hp3 (by decide) ⟨by decide, by decide⟩ e7 d_Law_set_9 ?_
    refine nv_goto hC d_Law_set_10 (tgt := 17) (by decide) ?_
    refine nv_iconst hC d_Law_set_17 ?_
    obtain ⟨rfl, rfl⟩ := ret_s hm
    exact nvw_iret hC hr hlk (Nat.le_of_ble_eq_true rfl) (Nat.le_of_ble_eq_true rfl) d_Law_set_18
  · have hm := if_t c4 (if_f (fun h9 => absurd (h9.symm.trans c4) (by decide)) hm)
    refine nv_astore (lv' := [(4, .ref q9), (0, .ref (ad h0)), (1, .int (iI x1)), (2, .int (iI x2)), (3, .ref (ad a3))]) hC d_Law_set_13 (by decide) rfl ?_
    refine nv_iconst hC d_Law_set_15 ?_
    obtain ⟨rfl, rfl⟩ := ret_s hm
    exact nvw_iret hC hr hlk (Nat.le_of_ble_eq_true rfl) (Nat.le_of_ble_eq_true rfl) d_Law_set_16
def m_Law_loop (h0 : Nat) (x1 : Int) (x2 : Int) (a3 : Nat) (N : nS) : Option (Int × nS) :=
  nbd (m_HL_loop h0 x1 x2 N) (fun q1 N2 =>
  if q1.1 = 0 then
  if rg q1.2 then
  nlt (up2 N2 a3 (Int.toNat 0) q1.2) (fun N6 =>
  some (0, N6))
  else none
  else if q1.1 = 1 then
  some (1, N2)
  else
  none)
set_option maxRecDepth 20000 in
theorem k_331 : Cond.methodLink R_Law 25 y_HL_loop ∈ TT := tt_i 354 (by decide +kernel) (by decide +kernel)
set_option maxRecDepth 20000 in
theorem k_332 : Cond.code y_HL_loop b_HL_loop 4 (some .int) ∈ TT := tt_i 357 (by decide +kernel) (by decide +kernel)
set_option maxRecDepth 20000 in
theorem k_333 : Cond.instanceMethod y_HL_loop ∈ TT := tt_i 355 (by decide +kernel) (by decide +kernel)
set_option maxRecDepth 20000 in
theorem k_334 : Cond.selects R_HL y_HL_loop y_HL_loop ∈ TT := tt_i 356 (by decide +kernel) (by decide +kernel)
abbrev rm_Law_loop : Room := { frames := 8, cells := 2, slots := 12, locals := 165 }
set_option maxRecDepth 100000 in
set_option maxHeartbeats 4000000 in
theorem c_Law_loop (l : Launch) {D : va_G} {ct : Nat → ClassId} {A : Nat → Prop} {ad : Nat → Nat} {S : nH} (hl0 : l.stackTraces = false) (hD : nD ad A S.length) (h0 : Nat) (hp0 : isH S h0) (x1 : Int) (hx1 : rg x1) (x2 : Int) (hx2 : rg x2) (a3 : Nat) (hp3 : isO S a3) (N : nS) (r : Int) (No : nS) (hm : m_Law_loop h0 x1 x2 a3 N = some (r, No)) : nMw l y_Law_loop (Cond.codeWith y_Law_loop b_Law_loop 5 (some .int) [(0, 10, 13, 13)] :: TT) rm_Law_loop 2 12 D vwCl ct A ad S N [.ref (ad h0), .int (iI x1), .int (iI x2), .ref (ad a3)] (nQi D vwCl ct A ad S r No) := by
  refine nMw_of (cc := b_Law_loop) (maxL := 5) (ret := some .int) (hh := [(0, 10, 13, 13)]) (by decide) rfl (Nat.le_of_ble_eq_true rfl) hD ?_
  intro p e s m below meth c hC hX9 htab hr hlk
  refine nv_lv (lv' := [(0, .ref (ad h0)), (1, .int (iI x1)), (2, .int (iI x2)), (3, .ref (ad a3))]) rfl ?_
  rw [m_Law_loop] at hm
  refine nv_aload_n hC d_Law_loop_0 rfl 3 rfl ?_
  refine nv_iconst hC d_Law_loop_1 ?_
  refine nv_aload_n hC d_Law_loop_2 rfl 0 rfl ?_
  refine nv_iload_n hC d_Law_loop_3 rfl 1 rfl ?_
  refine nv_iload_n hC d_Law_loop_4 rfl 2 rfl ?_
  obtain ⟨q1, N2, hq3, hm⟩ := nbd_s hm
  refine nvw_calli1 hC hX9 htab (x := q1.1) (r := q1.2) (N1 := N2) (nrx_V hC hX9 (As := [.int (iI x1), .int (iI x2)]) (st := [.int (iI 0), .ref (ad a3)]) hp0.1 rfl (c_HL_loop l hl0 hC.2.2.1 h0 hp0 x1 hx1 x2 hx2 N q1.1 q1.2 N2 hq3) (cwV 2 hC.1.2.2.2.2 (tt_V k_331 k_333 k_334 k_149 k_332) rfl rfl rfl (by decide +kernel) ⟨Nat.le_of_ble_eq_true rfl, Nat.le_of_ble_eq_true rfl⟩) rfl rfl (Nat.le_of_ble_eq_true rfl) ⟨(Nat.le_of_ble_eq_true rfl), (Nat.le_of_ble_eq_true rfl)⟩ d_Law_loop_5) ⟨by decide, by decide⟩ k_321 (by decide) (fun c4 => ?_) (fun c4 q9 => ?_) (fun c4 => (ck_s (if_f c4 hm)).1)
  · have hm := if_t c4 hm
    obtain ⟨hr5, hm⟩ := ck_s hm
    refine nv_i2l hC d_Law_loop_8 hr5 ?_
    obtain ⟨N6, e7, hm⟩ := nlt_s hm
    refine nv_last hC hp3 (by decide) ⟨by decide, by decide⟩ e7 d_Law_loop_9 ?_
    refine nv_goto hC d_Law_loop_10 (tgt := 17) (by decide) ?_
    refine nv_iconst hC d_Law_loop_17 ?_
    obtain ⟨rfl, rfl⟩ := ret_s hm
    exact nvw_iret hC hr hlk (Nat.le_of_ble_eq_true rfl) (Nat.le_of_ble_eq_true rfl) d_Law_loop_18
  · have hm := if_t c4 (if_f (fun h9 => absurd (h9.symm.trans c4) (by decide)) hm)
    refine nv_astore (lv' := [(4, .ref q9), (0, .ref (ad h0)), (1, .int (iI x1)), (2, .int (iI x2)), (3, .ref (ad a3))]) hC d_Law_loop_13 (by decide) rfl ?_
    refine nv_iconst hC d_Law_loop_15 ?_
    obtain ⟨rfl, rfl⟩ := ret_s hm
    exact nvw_iret hC hr hlk (Nat.le_of_ble_eq_true rfl) (Nat.le_of_ble_eq_true rfl) d_Law_loop_16
def m_Law_draw (h0 : Nat) (x1 : Int) (x2 : Int) (x3 : Int) (a4 : Nat) (N : nS) : Option (Int × nS) :=
  nbd (m_HL_draw h0 x1 x2 x3 N) (fun q1 N2 =>
  if q1.1 = 0 then
  if rg q1.2 then
  nlt (up2 N2 a4 (Int.toNat 0) q1.2) (fun N6 =>
  some (0, N6))
  else none
  else if q1.1 = 1 then
  some (1, N2)
  else
  some (2, N2))
set_option maxRecDepth 20000 in
theorem k_335 : Cond.methodLink R_Law 28 y_HL_draw ∈ TT := tt_i 361 (by decide +kernel) (by decide +kernel)
set_option maxRecDepth 20000 in
theorem k_336 : Cond.code y_HL_draw b_HL_draw 4 (some .int) ∈ TT := tt_i 364 (by decide +kernel) (by decide +kernel)
set_option maxRecDepth 20000 in
theorem k_337 : Cond.instanceMethod y_HL_draw ∈ TT := tt_i 362 (by decide +kernel) (by decide +kernel)
set_option maxRecDepth 20000 in
theorem k_338 : Cond.selects R_HL y_HL_draw y_HL_draw ∈ TT := tt_i 363 (by decide +kernel) (by decide +kernel)
abbrev rm_Law_draw : Room := { frames := 8, cells := 4, slots := 24, locals := 165 }
set_option maxRecDepth 100000 in
set_option maxHeartbeats 4000000 in
theorem c_Law_draw (l : Launch) {D : va_G} {ct : Nat → ClassId} {A : Nat → Prop} {ad : Nat → Nat} {S : nH} (hl0 : l.stackTraces = false) (hD : nD ad A S.length) (h0 : Nat) (hp0 : isH S h0) (x1 : Int) (hx1 : rg x1) (x2 : Int) (hx2 : rg x2) (x3 : Int) (hx3 : rg x3) (a4 : Nat) (hp4 : isO S a4) (N : nS) (r : Int) (No : nS) (hm : m_Law_draw h0 x1 x2 x3 a4 N = some (r, No)) : nMw l y_Law_draw (Cond.codeWith y_Law_draw b_Law_draw 6 (some .int) [(0, 12, 15, 13), (0, 12, 19, 15)] :: TT) rm_Law_draw 4 24 D vwCl ct A ad S N [.ref (ad h0), .int (iI x1), .int (iI x2), .int (iI x3), .ref (ad a4)] (nQi D vwCl ct A ad S r No) := by
  refine nMw_of (cc := b_Law_draw) (maxL := 6) (ret := some .int) (hh := [(0, 12, 15, 13), (0, 12, 19, 15)]) (by decide) rfl (Nat.le_of_ble_eq_true rfl) hD ?_
  intro p e s m below meth c hC hX9 htab hr hlk
  refine nv_lv (lv' := [(0, .ref (ad h0)), (1, .int (iI x1)), (2, .int (iI x2)), (3, .int (iI x3)), (4, .ref (ad a4))]) rfl ?_
  rw [m_Law_draw] at hm
  refine nv_aload hC d_Law_draw_0 4 rfl ?_
  refine nv_iconst hC d_Law_draw_2 ?_
  refine nv_aload_n hC d_Law_draw_3 rfl 0 rfl ?_
  refine nv_iload_n hC d_Law_draw_4 rfl 1 rfl ?_
  refine nv_iload_n hC d_Law_draw_5 rfl 2 rfl ?_
  refine nv_iload_n hC d_Law_draw_6 rfl 3 rfl ?_
  obtain ⟨q1, N2, hq3, hm⟩ := nbd_s hm
  refine nvw_calli2 hC hX9 htab (x := q1.1) (r := q1.2) (N1 := N2) (nrx_V hC hX9 (As := [.int (iI x1), .int (iI x2), .int (iI x3)]) (st := [.int (iI 0), .ref (ad a4)]) hp0.1 rfl (c_HL_draw l hl0 hC.2.2.1 h0 hp0 x1 hx1 x2 hx2 x3 hx3 N q1.1 q1.2 N2 hq3) (cwV 3 hC.1.2.2.2.2 (tt_V k_335 k_337 k_338 k_149 k_336) rfl rfl rfl (by decide +kernel) ⟨Nat.le_of_ble_eq_true rfl, Nat.le_of_ble_eq_true rfl⟩) rfl rfl (Nat.le_of_ble_eq_true rfl) ⟨(Nat.le_of_ble_eq_true rfl), (Nat.le_of_ble_eq_true rfl)⟩ d_Law_draw_7) ⟨by decide, by decide⟩ ⟨by decide, by decide⟩ k_321 (by decide) k_322 (by decide) (fun c4 => ?_) (fun c4 q9 => ?_) (fun c4 c4' q9 => ?_)
  · have hm := if_t c4 hm
    obtain ⟨hr5, hm⟩ := ck_s hm
    refine nv_i2l hC d_Law_draw_10 hr5 ?_
    obtain ⟨N6, e7, hm⟩ := nlt_s hm
    refine nv_last hC hp4 (by decide) ⟨by decide, by decide⟩ e7 d_Law_draw_11 ?_
    refine nv_goto hC d_Law_draw_12 (tgt := 23) (by decide) ?_
    refine nv_iconst hC d_Law_draw_23 ?_
    obtain ⟨rfl, rfl⟩ := ret_s hm
    exact nvw_iret hC hr hlk (Nat.le_of_ble_eq_true rfl) (Nat.le_of_ble_eq_true rfl) d_Law_draw_24
  · have hm := if_t c4 (if_f (fun h9 => absurd (h9.symm.trans c4) (by decide)) hm)
    refine nv_astore (lv' := [(5, .ref q9), (0, .ref (ad h0)), (1, .int (iI x1)), (2, .int (iI x2)), (3, .int (iI x3)), (4, .ref (ad a4))]) hC d_Law_draw_15 (by decide) rfl ?_
    refine nv_iconst hC d_Law_draw_17 ?_
    obtain ⟨rfl, rfl⟩ := ret_s hm
    exact nvw_iret hC hr hlk (Nat.le_of_ble_eq_true rfl) (Nat.le_of_ble_eq_true rfl) d_Law_draw_18
  · have hm := if_f c4' (if_f c4 hm)
    refine nv_astore (lv' := [(5, .ref q9), (0, .ref (ad h0)), (1, .int (iI x1)), (2, .int (iI x2)), (3, .int (iI x3)), (4, .ref (ad a4))]) hC d_Law_draw_19 (by decide) rfl ?_
    refine nv_iconst hC d_Law_draw_21 ?_
    obtain ⟨rfl, rfl⟩ := ret_s hm
    exact nvw_iret hC hr hlk (Nat.le_of_ble_eq_true rfl) (Nat.le_of_ble_eq_true rfl) d_Law_draw_22
def m_Law_run (h0 : Nat) (x1 : Int) (a2 : Nat) (N : nS) : Option (Int × nS) :=
  nbd (m_HL_run h0 x1 N) (fun q1 N2 =>
  if q1.1 = 0 then
  if rg q1.2 then
  nlt (up2 N2 a2 (Int.toNat 0) q1.2) (fun N6 =>
  some (0, N6))
  else none
  else if q1.1 = 1 then
  some (1, N2)
  else
  some (2, N2))
set_option maxRecDepth 20000 in
theorem k_339 : Cond.methodLink R_Law 31 y_HL_run ∈ TT := tt_i 375 (by decide +kernel) (by decide +kernel)
set_option maxRecDepth 20000 in
theorem k_340 : Cond.code y_HL_run b_HL_run 3 (some .int) ∈ TT := tt_i 378 (by decide +kernel) (by decide +kernel)
set_option maxRecDepth 20000 in
theorem k_341 : Cond.instanceMethod y_HL_run ∈ TT := tt_i 376 (by decide +kernel) (by decide +kernel)
set_option maxRecDepth 20000 in
theorem k_342 : Cond.selects R_HL y_HL_run y_HL_run ∈ TT := tt_i 377 (by decide +kernel) (by decide +kernel)
abbrev rm_Law_run : Room := { frames := 8, cells := 2, slots := 12, locals := 164 }
set_option maxRecDepth 100000 in
set_option maxHeartbeats 4000000 in
theorem c_Law_run (l : Launch) {D : va_G} {ct : Nat → ClassId} {A : Nat → Prop} {ad : Nat → Nat} {S : nH} (hl0 : l.stackTraces = false) (hD : nD ad A S.length) (h0 : Nat) (hp0 : isH S h0) (x1 : Int) (hx1 : rg x1) (a2 : Nat) (hp2 : isO S a2) (N : nS) (r : Int) (No : nS) (hm : m_Law_run h0 x1 a2 N = some (r, No)) : nMw l y_Law_run (Cond.codeWith y_Law_run b_Law_run 4 (some .int) [(0, 9, 12, 13), (0, 9, 15, 15)] :: TT) rm_Law_run 2 12 D vwCl ct A ad S N [.ref (ad h0), .int (iI x1), .ref (ad a2)] (nQi D vwCl ct A ad S r No) := by
  refine nMw_of (cc := b_Law_run) (maxL := 4) (ret := some .int) (hh := [(0, 9, 12, 13), (0, 9, 15, 15)]) (by decide) rfl (Nat.le_of_ble_eq_true rfl) hD ?_
  intro p e s m below meth c hC hX9 htab hr hlk
  refine nv_lv (lv' := [(0, .ref (ad h0)), (1, .int (iI x1)), (2, .ref (ad a2))]) rfl ?_
  rw [m_Law_run] at hm
  refine nv_aload_n hC d_Law_run_0 rfl 2 rfl ?_
  refine nv_iconst hC d_Law_run_1 ?_
  refine nv_aload_n hC d_Law_run_2 rfl 0 rfl ?_
  refine nv_iload_n hC d_Law_run_3 rfl 1 rfl ?_
  obtain ⟨q1, N2, hq3, hm⟩ := nbd_s hm
  refine nvw_calli2 hC hX9 htab (x := q1.1) (r := q1.2) (N1 := N2) (nrx_V hC hX9 (As := [.int (iI x1)]) (st := [.int (iI 0), .ref (ad a2)]) hp0.1 rfl (c_HL_run l hl0 hC.2.2.1 h0 hp0 x1 hx1 N q1.1 q1.2 N2 hq3) (cwV 1 hC.1.2.2.2.2 (tt_V k_339 k_341 k_342 k_149 k_340) rfl rfl rfl (by decide +kernel) ⟨Nat.le_of_ble_eq_true rfl, Nat.le_of_ble_eq_true rfl⟩) rfl rfl (Nat.le_of_ble_eq_true rfl) ⟨(Nat.le_of_ble_eq_true rfl), (Nat.le_of_ble_eq_true rfl)⟩ d_Law_run_4) ⟨by decide, by decide⟩ ⟨by decide, by decide⟩ k_321 (by decide) k_322 (by decide) (fun c4 => ?_) (fun c4 q9 => ?_) (fun c4 c4' q9 => ?_)
  · have hm := if_t c4 hm
    obtain ⟨hr5, hm⟩ := ck_s hm
    refine nv_i2l hC d_Law_run_7 hr5 ?_
    obtain ⟨N6, e7, hm⟩ := nlt_s hm
    refine nv_last hC hp2 (by decide) ⟨by decide, by decide⟩ e7 d_Law_run_8 ?_
    refine nv_goto hC d_Law_run_9 (tgt := 18) (by decide) ?_
    refine nv_iconst hC d_Law_run_18 ?_
    obtain ⟨rfl, rfl⟩ := ret_s hm
    exact nvw_iret hC hr hlk (Nat.le_of_ble_eq_true rfl) (Nat.le_of_ble_eq_true rfl) d_Law_run_19
  · have hm := if_t c4 (if_f (fun h9 => absurd (h9.symm.trans c4) (by decide)) hm)
    refine nv_astore_n (lv' := [(3, .ref q9), (0, .ref (ad h0)), (1, .int (iI x1)), (2, .ref (ad a2))]) hC d_Law_run_12 rfl (by decide) rfl ?_
    refine nv_iconst hC d_Law_run_13 ?_
    obtain ⟨rfl, rfl⟩ := ret_s hm
    exact nvw_iret hC hr hlk (Nat.le_of_ble_eq_true rfl) (Nat.le_of_ble_eq_true rfl) d_Law_run_14
  · have hm := if_f c4' (if_f c4 hm)
    refine nv_astore_n (lv' := [(3, .ref q9), (0, .ref (ad h0)), (1, .int (iI x1)), (2, .ref (ad a2))]) hC d_Law_run_15 rfl (by decide) rfl ?_
    refine nv_iconst hC d_Law_run_16 ?_
    obtain ⟨rfl, rfl⟩ := ret_s hm
    exact nvw_iret hC hr hlk (Nat.le_of_ble_eq_true rfl) (Nat.le_of_ble_eq_true rfl) d_Law_run_17
def m_Law_plug (h0 : Nat) (x1 : Int) (x2 : Int) (x3 : Int) (a4 : Nat) (N : nS) : Option (Int × nS) :=
  nbd (m_HL_plug h0 x1 x2 x3 N) (fun q1 N2 =>
  if q1.1 = 0 then
  if rg q1.2 then
  nlt (up2 N2 a4 (Int.toNat 0) q1.2) (fun N6 =>
  some (0, N6))
  else none
  else if q1.1 = 1 then
  some (1, N2)
  else
  none)
set_option maxRecDepth 20000 in
theorem k_343 : Cond.methodLink R_Law 35 y_HL_plug ∈ TT := tt_i 455 (by decide +kernel) (by decide +kernel)
set_option maxRecDepth 20000 in
theorem k_344 : Cond.code y_HL_plug b_HL_plug 5 (some .int) ∈ TT := tt_i 458 (by decide +kernel) (by decide +kernel)
set_option maxRecDepth 20000 in
theorem k_345 : Cond.instanceMethod y_HL_plug ∈ TT := tt_i 456 (by decide +kernel) (by decide +kernel)
set_option maxRecDepth 20000 in
theorem k_346 : Cond.selects R_HL y_HL_plug y_HL_plug ∈ TT := tt_i 457 (by decide +kernel) (by decide +kernel)
abbrev rm_Law_plug : Room := { frames := 8, cells := 3, slots := 18, locals := 166 }
set_option maxRecDepth 100000 in
set_option maxHeartbeats 4000000 in
theorem c_Law_plug (l : Launch) {D : va_G} {ct : Nat → ClassId} {A : Nat → Prop} {ad : Nat → Nat} {S : nH} (hl0 : l.stackTraces = false) (hD : nD ad A S.length) (h0 : Nat) (hp0 : isH S h0) (x1 : Int) (hx1 : rg x1) (x2 : Int) (hx2 : rg x2) (x3 : Int) (hx3 : rg x3) (a4 : Nat) (hp4 : isO S a4) (N : nS) (r : Int) (No : nS) (hm : m_Law_plug h0 x1 x2 x3 a4 N = some (r, No)) : nMw l y_Law_plug (Cond.codeWith y_Law_plug b_Law_plug 6 (some .int) [(0, 12, 15, 13)] :: TT) rm_Law_plug 3 18 D vwCl ct A ad S N [.ref (ad h0), .int (iI x1), .int (iI x2), .int (iI x3), .ref (ad a4)] (nQi D vwCl ct A ad S r No) := by
  refine nMw_of (cc := b_Law_plug) (maxL := 6) (ret := some .int) (hh := [(0, 12, 15, 13)]) (by decide) rfl (Nat.le_of_ble_eq_true rfl) hD ?_
  intro p e s m below meth c hC hX9 htab hr hlk
  refine nv_lv (lv' := [(0, .ref (ad h0)), (1, .int (iI x1)), (2, .int (iI x2)), (3, .int (iI x3)), (4, .ref (ad a4))]) rfl ?_
  rw [m_Law_plug] at hm
  refine nv_aload hC d_Law_plug_0 4 rfl ?_
  refine nv_iconst hC d_Law_plug_2 ?_
  refine nv_aload_n hC d_Law_plug_3 rfl 0 rfl ?_
  refine nv_iload_n hC d_Law_plug_4 rfl 1 rfl ?_
  refine nv_iload_n hC d_Law_plug_5 rfl 2 rfl ?_
  refine nv_iload_n hC d_Law_plug_6 rfl 3 rfl ?_
  obtain ⟨q1, N2, hq3, hm⟩ := nbd_s hm
  refine nvw_calli1 hC hX9 htab (x := q1.1) (r := q1.2) (N1 := N2) (nrx_V hC hX9 (As := [.int (iI x1), .int (iI x2), .int (iI x3)]) (st := [.int (iI 0), .ref (ad a4)]) hp0.1 rfl (c_HL_plug l hl0 hC.2.2.1 h0 hp0 x1 hx1 x2 hx2 x3 hx3 N q1.1 q1.2 N2 hq3) (cwV 3 hC.1.2.2.2.2 (tt_V k_343 k_345 k_346 k_149 k_344) rfl rfl rfl (by decide +kernel) ⟨Nat.le_of_ble_eq_true rfl, Nat.le_of_ble_eq_true rfl⟩) rfl rfl (Nat.le_of_ble_eq_true rfl) ⟨(Nat.le_of_ble_eq_true rfl), (Nat.le_of_ble_eq_true rfl)⟩ d_Law_plug_7) ⟨by decide, by decide⟩ k_321 (by decide) (fun c4 => ?_) (fun c4 q9 => ?_) (fun c4 => (ck_s (if_f c4 hm)).1)
  · have hm := if_t c4 hm
    obtain ⟨hr5, hm⟩ := ck_s hm
    refine nv_i2l hC d_Law_plug_10 hr5 ?_
    obtain ⟨N6, e7, hm⟩ := nlt_s hm
    refine nv_last hC hp4 (by decide) ⟨by decide, by decide⟩ e7 d_Law_plug_11 ?_
    refine nv_goto hC d_Law_plug_12 (tgt := 19) (by decide) ?_
    refine nv_iconst hC d_Law_plug_19 ?_
    obtain ⟨rfl, rfl⟩ := ret_s hm
    exact nvw_iret hC hr hlk (Nat.le_of_ble_eq_true rfl) (Nat.le_of_ble_eq_true rfl) d_Law_plug_20
  · have hm := if_t c4 (if_f (fun h9 => absurd (h9.symm.trans c4) (by decide)) hm)
    refine nv_astore (lv' := [(5, .ref q9), (0, .ref (ad h0)), (1, .int (iI x1)), (2, .int (iI x2)), (3, .int (iI x3)), (4, .ref (ad a4))]) hC d_Law_plug_15 (by decide) rfl ?_
    refine nv_iconst hC d_Law_plug_17 ?_
    obtain ⟨rfl, rfl⟩ := ret_s hm
    exact nvw_iret hC hr hlk (Nat.le_of_ble_eq_true rfl) (Nat.le_of_ble_eq_true rfl) d_Law_plug_18
def m_Law_told (h0 : Nat) (x1 : Int) (x2 : Int) (a3 : Nat) (N : nS) : Option (Int × nS) :=
  nbd (m_HL_told h0 x1 x2 N) (fun q1 N2 =>
  if q1.1 = 0 then
  if rg q1.2 then
  nlt (up2 N2 a3 (Int.toNat 0) q1.2) (fun N6 =>
  some (0, N6))
  else none
  else if q1.1 = 1 then
  some (1, N2)
  else
  none)
set_option maxRecDepth 20000 in
theorem k_347 : Cond.methodLink R_Law 38 y_HL_told ∈ TT := tt_i 466 (by decide +kernel) (by decide +kernel)
set_option maxRecDepth 20000 in
theorem k_348 : Cond.code y_HL_told b_HL_told 3 (some .int) ∈ TT := tt_i 469 (by decide +kernel) (by decide +kernel)
set_option maxRecDepth 20000 in
theorem k_349 : Cond.instanceMethod y_HL_told ∈ TT := tt_i 467 (by decide +kernel) (by decide +kernel)
set_option maxRecDepth 20000 in
theorem k_350 : Cond.selects R_HL y_HL_told y_HL_told ∈ TT := tt_i 468 (by decide +kernel) (by decide +kernel)
abbrev rm_Law_told : Room := { frames := 8, cells := 2, slots := 12, locals := 164 }
set_option maxRecDepth 100000 in
set_option maxHeartbeats 4000000 in
theorem c_Law_told (l : Launch) {D : va_G} {ct : Nat → ClassId} {A : Nat → Prop} {ad : Nat → Nat} {S : nH} (hl0 : l.stackTraces = false) (hD : nD ad A S.length) (h0 : Nat) (hp0 : isH S h0) (x1 : Int) (hx1 : rg x1) (x2 : Int) (hx2 : rg x2) (a3 : Nat) (hp3 : isO S a3) (N : nS) (r : Int) (No : nS) (hm : m_Law_told h0 x1 x2 a3 N = some (r, No)) : nMw l y_Law_told (Cond.codeWith y_Law_told b_Law_told 5 (some .int) [(0, 10, 13, 13)] :: TT) rm_Law_told 2 12 D vwCl ct A ad S N [.ref (ad h0), .int (iI x1), .int (iI x2), .ref (ad a3)] (nQi D vwCl ct A ad S r No) := by
  refine nMw_of (cc := b_Law_told) (maxL := 5) (ret := some .int) (hh := [(0, 10, 13, 13)]) (by decide) rfl (Nat.le_of_ble_eq_true rfl) hD ?_
  intro p e s m below meth c hC hX9 htab hr hlk
  refine nv_lv (lv' := [(0, .ref (ad h0)), (1, .int (iI x1)), (2, .int (iI x2)), (3, .ref (ad a3))]) rfl ?_
  rw [m_Law_told] at hm
  refine nv_aload_n hC d_Law_told_0 rfl 3 rfl ?_
  refine nv_iconst hC d_Law_told_1 ?_
  refine nv_aload_n hC d_Law_told_2 rfl 0 rfl ?_
  refine nv_iload_n hC d_Law_told_3 rfl 1 rfl ?_
  refine nv_iload_n hC d_Law_told_4 rfl 2 rfl ?_
  obtain ⟨q1, N2, hq3, hm⟩ := nbd_s hm
  refine nvw_calli1 hC hX9 htab (x := q1.1) (r := q1.2) (N1 := N2) (nrx_V hC hX9 (As := [.int (iI x1), .int (iI x2)]) (st := [.int (iI 0), .ref (ad a3)]) hp0.1 rfl (c_HL_told l hl0 hC.2.2.1 h0 hp0 x1 hx1 x2 hx2 N q1.1 q1.2 N2 hq3) (cwV 2 hC.1.2.2.2.2 (tt_V k_347 k_349 k_350 k_149 k_348) rfl rfl rfl (by decide +kernel) ⟨Nat.le_of_ble_eq_true rfl, Nat.le_of_ble_eq_true rfl⟩) rfl rfl (Nat.le_of_ble_eq_true rfl) ⟨(Nat.le_of_ble_eq_true rfl), (Nat.le_of_ble_eq_true rfl)⟩ d_Law_told_5) ⟨by decide, by decide⟩ k_321 (by decide) (fun c4 => ?_) (fun c4 q9 => ?_) (fun c4 => (ck_s (if_f c4 hm)).1)
  · have hm := if_t c4 hm
    obtain ⟨hr5, hm⟩ := ck_s hm
    refine nv_i2l hC d_Law_told_8 hr5 ?_
    obtain ⟨N6, e7, hm⟩ := nlt_s hm
    refine nv_last hC hp3 (by decide) ⟨by decide, by decide⟩ e7 d_Law_told_9 ?_
    refine nv_goto hC d_Law_told_10 (tgt := 17) (by decide) ?_
    refine nv_iconst hC d_Law_told_17 ?_
    obtain ⟨rfl, rfl⟩ := ret_s hm
    exact nvw_iret hC hr hlk (Nat.le_of_ble_eq_true rfl) (Nat.le_of_ble_eq_true rfl) d_Law_told_18
  · have hm := if_t c4 (if_f (fun h9 => absurd (h9.symm.trans c4) (by decide)) hm)
    refine nv_astore (lv' := [(4, .ref q9), (0, .ref (ad h0)), (1, .int (iI x1)), (2, .int (iI x2)), (3, .ref (ad a3))]) hC d_Law_told_13 (by decide) rfl ?_
    refine nv_iconst hC d_Law_told_15 ?_
    obtain ⟨rfl, rfl⟩ := ret_s hm
    exact nvw_iret hC hr hlk (Nat.le_of_ble_eq_true rfl) (Nat.le_of_ble_eq_true rfl) d_Law_told_16
def m_Law_dead (h0 : Nat) (x1 : Int) (x2 : Int) (a3 : Nat) (N : nS) : Option (Int × nS) :=
  nbd (m_HL_dead h0 x1 x2 N) (fun q1 N2 =>
  if q1.1 = 0 then
  if rg q1.2 then
  nlt (up2 N2 a3 (Int.toNat 0) q1.2) (fun N6 =>
  some (0, N6))
  else none
  else if q1.1 = 1 then
  some (1, N2)
  else
  none)
set_option maxRecDepth 20000 in
theorem k_351 : Cond.methodLink R_Law 41 y_HL_dead ∈ TT := tt_i 479 (by decide +kernel) (by decide +kernel)
set_option maxRecDepth 20000 in
theorem k_352 : Cond.code y_HL_dead b_HL_dead 4 (some .int) ∈ TT := tt_i 482 (by decide +kernel) (by decide +kernel)
set_option maxRecDepth 20000 in
theorem k_353 : Cond.instanceMethod y_HL_dead ∈ TT := tt_i 480 (by decide +kernel) (by decide +kernel)
set_option maxRecDepth 20000 in
theorem k_354 : Cond.selects R_HL y_HL_dead y_HL_dead ∈ TT := tt_i 481 (by decide +kernel) (by decide +kernel)
abbrev rm_Law_dead : Room := { frames := 8, cells := 2, slots := 12, locals := 163 }
set_option maxRecDepth 100000 in
set_option maxHeartbeats 4000000 in
theorem c_Law_dead (l : Launch) {D : va_G} {ct : Nat → ClassId} {A : Nat → Prop} {ad : Nat → Nat} {S : nH} (hl0 : l.stackTraces = false) (hD : nD ad A S.length) (h0 : Nat) (hp0 : isH S h0) (x1 : Int) (hx1 : rg x1) (x2 : Int) (hx2 : rg x2) (a3 : Nat) (hp3 : isO S a3) (N : nS) (r : Int) (No : nS) (hm : m_Law_dead h0 x1 x2 a3 N = some (r, No)) : nMw l y_Law_dead (Cond.codeWith y_Law_dead b_Law_dead 5 (some .int) [(0, 10, 13, 13)] :: TT) rm_Law_dead 2 12 D vwCl ct A ad S N [.ref (ad h0), .int (iI x1), .int (iI x2), .ref (ad a3)] (nQi D vwCl ct A ad S r No) := by
  refine nMw_of (cc := b_Law_dead) (maxL := 5) (ret := some .int) (hh := [(0, 10, 13, 13)]) (by decide) rfl (Nat.le_of_ble_eq_true rfl) hD ?_
  intro p e s m below meth c hC hX9 htab hr hlk
  refine nv_lv (lv' := [(0, .ref (ad h0)), (1, .int (iI x1)), (2, .int (iI x2)), (3, .ref (ad a3))]) rfl ?_
  rw [m_Law_dead] at hm
  refine nv_aload_n hC d_Law_dead_0 rfl 3 rfl ?_
  refine nv_iconst hC d_Law_dead_1 ?_
  refine nv_aload_n hC d_Law_dead_2 rfl 0 rfl ?_
  refine nv_iload_n hC d_Law_dead_3 rfl 1 rfl ?_
  refine nv_iload_n hC d_Law_dead_4 rfl 2 rfl ?_
  obtain ⟨q1, N2, hq3, hm⟩ := nbd_s hm
  refine nvw_calli1 hC hX9 htab (x := q1.1) (r := q1.2) (N1 := N2) (nrx_V hC hX9 (As := [.int (iI x1), .int (iI x2)]) (st := [.int (iI 0), .ref (ad a3)]) hp0.1 rfl (c_HL_dead l hl0 hC.2.2.1 h0 hp0 x1 hx1 x2 hx2 N q1.1 q1.2 N2 hq3) (cwV 2 hC.1.2.2.2.2 (tt_V k_351 k_353 k_354 k_149 k_352) rfl rfl rfl (by decide +kernel) ⟨Nat.le_of_ble_eq_true rfl, Nat.le_of_ble_eq_true rfl⟩) rfl rfl (Nat.le_of_ble_eq_true rfl) ⟨(Nat.le_of_ble_eq_true rfl), (Nat.le_of_ble_eq_true rfl)⟩ d_Law_dead_5) ⟨by decide, by decide⟩ k_321 (by decide) (fun c4 => ?_) (fun c4 q9 => ?_) (fun c4 => (ck_s (if_f c4 hm)).1)
  · have hm := if_t c4 hm
    obtain ⟨hr5, hm⟩ := ck_s hm
    refine nv_i2l hC d_Law_dead_8 hr5 ?_
    obtain ⟨N6, e7, hm⟩ := nlt_s hm
    refine nv_last hC hp3 (by decide) ⟨by decide, by decide⟩ e7 d_Law_dead_9 ?_
    refine nv_goto hC d_Law_dead_10 (tgt := 17) (by decide) ?_
    refine nv_iconst hC d_Law_dead_17 ?_
    obtain ⟨rfl, rfl⟩ := ret_s hm
    exact nvw_iret hC hr hlk (Nat.le_of_ble_eq_true rfl) (Nat.le_of_ble_eq_true rfl) d_Law_dead_18
  · have hm := if_t c4 (if_f (fun h9 => absurd (h9.symm.trans c4) (by decide)) hm)
    refine nv_astore (lv' := [(4, .ref q9), (0, .ref (ad h0)), (1, .int (iI x1)), (2, .int (iI x2)), (3, .ref (ad a3))]) hC d_Law_dead_13 (by decide) rfl ?_
    refine nv_iconst hC d_Law_dead_15 ?_
    obtain ⟨rfl, rfl⟩ := ret_s hm
    exact nvw_iret hC hr hlk (Nat.le_of_ble_eq_true rfl) (Nat.le_of_ble_eq_true rfl) d_Law_dead_16
def m_Law_warm (h0 : Nat) (x1 : Int) (x2 : Int) (a3 : Nat) (N : nS) : Option (Int × nS) :=
  nbd (m_HL_warm h0 x1 x2 N) (fun q1 N2 =>
  if q1.1 = 0 then
  if rg q1.2 then
  nlt (up2 N2 a3 (Int.toNat 0) q1.2) (fun N6 =>
  some (0, N6))
  else none
  else if q1.1 = 1 then
  some (1, N2)
  else
  none)
set_option maxRecDepth 20000 in
theorem k_355 : Cond.methodLink R_Law 44 y_HL_warm ∈ TT := tt_i 495 (by decide +kernel) (by decide +kernel)
set_option maxRecDepth 20000 in
theorem k_356 : Cond.code y_HL_warm b_HL_warm 3 (some .int) ∈ TT := tt_i 498 (by decide +kernel) (by decide +kernel)
set_option maxRecDepth 20000 in
theorem k_357 : Cond.instanceMethod y_HL_warm ∈ TT := tt_i 496 (by decide +kernel) (by decide +kernel)
set_option maxRecDepth 20000 in
theorem k_358 : Cond.selects R_HL y_HL_warm y_HL_warm ∈ TT := tt_i 497 (by decide +kernel) (by decide +kernel)
abbrev rm_Law_warm : Room := { frames := 8, cells := 2, slots := 12, locals := 164 }
set_option maxRecDepth 100000 in
set_option maxHeartbeats 4000000 in
theorem c_Law_warm (l : Launch) {D : va_G} {ct : Nat → ClassId} {A : Nat → Prop} {ad : Nat → Nat} {S : nH} (hl0 : l.stackTraces = false) (hD : nD ad A S.length) (h0 : Nat) (hp0 : isH S h0) (x1 : Int) (hx1 : rg x1) (x2 : Int) (hx2 : rg x2) (a3 : Nat) (hp3 : isO S a3) (N : nS) (r : Int) (No : nS) (hm : m_Law_warm h0 x1 x2 a3 N = some (r, No)) : nMw l y_Law_warm (Cond.codeWith y_Law_warm b_Law_warm 5 (some .int) [(0, 10, 13, 13)] :: TT) rm_Law_warm 2 12 D vwCl ct A ad S N [.ref (ad h0), .int (iI x1), .int (iI x2), .ref (ad a3)] (nQi D vwCl ct A ad S r No) := by
  refine nMw_of (cc := b_Law_warm) (maxL := 5) (ret := some .int) (hh := [(0, 10, 13, 13)]) (by decide) rfl (Nat.le_of_ble_eq_true rfl) hD ?_
  intro p e s m below meth c hC hX9 htab hr hlk
  refine nv_lv (lv' := [(0, .ref (ad h0)), (1, .int (iI x1)), (2, .int (iI x2)), (3, .ref (ad a3))]) rfl ?_
  rw [m_Law_warm] at hm
  refine nv_aload_n hC d_Law_warm_0 rfl 3 rfl ?_
  refine nv_iconst hC d_Law_warm_1 ?_
  refine nv_aload_n hC d_Law_warm_2 rfl 0 rfl ?_
  refine nv_iload_n hC d_Law_warm_3 rfl 1 rfl ?_
  refine nv_iload_n hC d_Law_warm_4 rfl 2 rfl ?_
  obtain ⟨q1, N2, hq3, hm⟩ := nbd_s hm
  refine nvw_calli1 hC hX9 htab (x := q1.1) (r := q1.2) (N1 := N2) (nrx_V hC hX9 (As := [.int (iI x1), .int (iI x2)]) (st := [.int (iI 0), .ref (ad a3)]) hp0.1 rfl (c_HL_warm l hl0 hC.2.2.1 h0 hp0 x1 hx1 x2 hx2 N q1.1 q1.2 N2 hq3) (cwV 2 hC.1.2.2.2.2 (tt_V k_355 k_357 k_358 k_149 k_356) rfl rfl rfl (by decide +kernel) ⟨Nat.le_of_ble_eq_true rfl, Nat.le_of_ble_eq_true rfl⟩) rfl rfl (Nat.le_of_ble_eq_true rfl) ⟨(Nat.le_of_ble_eq_true rfl), (Nat.le_of_ble_eq_true rfl)⟩ d_Law_warm_5) ⟨by decide, by decide⟩ k_321 (by decide) (fun c4 => ?_) (fun c4 q9 => ?_) (fun c4 => (ck_s (if_f c4 hm)).1)
  · have hm := if_t c4 hm
    obtain ⟨hr5, hm⟩ := ck_s hm
    refine nv_i2l hC d_Law_warm_8 hr5 ?_
    obtain ⟨N6, e7, hm⟩ := nlt_s hm
    refine nv_last hC hp3 (by decide) ⟨by decide, by decide⟩ e7 d_Law_warm_9 ?_
    refine nv_goto hC d_Law_warm_10 (tgt := 17) (by decide) ?_
    refine nv_iconst hC d_Law_warm_17 ?_
    obtain ⟨rfl, rfl⟩ := ret_s hm
    exact nvw_iret hC hr hlk (Nat.le_of_ble_eq_true rfl) (Nat.le_of_ble_eq_true rfl) d_Law_warm_18
  · have hm := if_t c4 (if_f (fun h9 => absurd (h9.symm.trans c4) (by decide)) hm)
    refine nv_astore (lv' := [(4, .ref q9), (0, .ref (ad h0)), (1, .int (iI x1)), (2, .int (iI x2)), (3, .ref (ad a3))]) hC d_Law_warm_13 (by decide) rfl ?_
    refine nv_iconst hC d_Law_warm_15 ?_
    obtain ⟨rfl, rfl⟩ := ret_s hm
    exact nvw_iret hC hr hlk (Nat.le_of_ble_eq_true rfl) (Nat.le_of_ble_eq_true rfl) d_Law_warm_16
def m_Law_drawn (h0 : Nat) (x1 : Int) (x2 : Int) (a3 : Nat) (N : nS) : Option (Int × nS) :=
  nbd (m_HL_drawn h0 x1 x2 N) (fun q1 N2 =>
  if q1.1 = 0 then
  if rg q1.2 then
  nlt (up2 N2 a3 (Int.toNat 0) q1.2) (fun N6 =>
  some (0, N6))
  else none
  else if q1.1 = 1 then
  some (1, N2)
  else
  none)
set_option maxRecDepth 20000 in
theorem k_359 : Cond.methodLink R_Law 47 y_HL_drawn ∈ TT := tt_i 506 (by decide +kernel) (by decide +kernel)
set_option maxRecDepth 20000 in
theorem k_360 : Cond.code y_HL_drawn b_HL_drawn 3 (some .int) ∈ TT := tt_i 509 (by decide +kernel) (by decide +kernel)
set_option maxRecDepth 20000 in
theorem k_361 : Cond.instanceMethod y_HL_drawn ∈ TT := tt_i 507 (by decide +kernel) (by decide +kernel)
set_option maxRecDepth 20000 in
theorem k_362 : Cond.selects R_HL y_HL_drawn y_HL_drawn ∈ TT := tt_i 508 (by decide +kernel) (by decide +kernel)
abbrev rm_Law_drawn : Room := { frames := 8, cells := 2, slots := 12, locals := 164 }
set_option maxRecDepth 100000 in
set_option maxHeartbeats 4000000 in
theorem c_Law_drawn (l : Launch) {D : va_G} {ct : Nat → ClassId} {A : Nat → Prop} {ad : Nat → Nat} {S : nH} (hl0 : l.stackTraces = false) (hD : nD ad A S.length) (h0 : Nat) (hp0 : isH S h0) (x1 : Int) (hx1 : rg x1) (x2 : Int) (hx2 : rg x2) (a3 : Nat) (hp3 : isO S a3) (N : nS) (r : Int) (No : nS) (hm : m_Law_drawn h0 x1 x2 a3 N = some (r, No)) : nMw l y_Law_drawn (Cond.codeWith y_Law_drawn b_Law_drawn 5 (some .int) [(0, 10, 13, 13)] :: TT) rm_Law_drawn 2 12 D vwCl ct A ad S N [.ref (ad h0), .int (iI x1), .int (iI x2), .ref (ad a3)] (nQi D vwCl ct A ad S r No) := by
  refine nMw_of (cc := b_Law_drawn) (maxL := 5) (ret := some .int) (hh := [(0, 10, 13, 13)]) (by decide) rfl (Nat.le_of_ble_eq_true rfl) hD ?_
  intro p e s m below meth c hC hX9 htab hr hlk
  refine nv_lv (lv' := [(0, .ref (ad h0)), (1, .int (iI x1)), (2, .int (iI x2)), (3, .ref (ad a3))]) rfl ?_
  rw [m_Law_drawn] at hm
  refine nv_aload_n hC d_Law_drawn_0 rfl 3 rfl ?_
  refine nv_iconst hC d_Law_drawn_1 ?_
  refine nv_aload_n hC d_Law_drawn_2 rfl 0 rfl ?_
  refine nv_iload_n hC d_Law_drawn_3 rfl 1 rfl ?_
  refine nv_iload_n hC d_Law_drawn_4 rfl 2 rfl ?_
  obtain ⟨q1, N2, hq3, hm⟩ := nbd_s hm
  refine nvw_calli1 hC hX9 htab (x := q1.1) (r := q1.2) (N1 := N2) (nrx_V hC hX9 (As := [.int (iI x1), .int (iI x2)]) (st := [.int (iI 0), .ref (ad a3)]) hp0.1 rfl (c_HL_drawn l hl0 hC.2.2.1 h0 hp0 x1 hx1 x2 hx2 N q1.1 q1.2 N2 hq3) (cwV 2 hC.1.2.2.2.2 (tt_V k_359 k_361 k_362 k_149 k_360) rfl rfl rfl (by decide +kernel) ⟨Nat.le_of_ble_eq_true rfl, Nat.le_of_ble_eq_true rfl⟩) rfl rfl (Nat.le_of_ble_eq_true rfl) ⟨(Nat.le_of_ble_eq_true rfl), (Nat.le_of_ble_eq_true rfl)⟩ d_Law_drawn_5) ⟨by decide, by decide⟩ k_321 (by decide) (fun c4 => ?_) (fun c4 q9 => ?_) (fun c4 => (ck_s (if_f c4 hm)).1)
  · have hm := if_t c4 hm
    obtain ⟨hr5, hm⟩ := ck_s hm
    refine nv_i2l hC d_Law_drawn_8 hr5 ?_
    obtain ⟨N6, e7, hm⟩ := nlt_s hm
    refine nv_last hC hp3 (by decide) ⟨by decide, by decide⟩ e7 d_Law_drawn_9 ?_
    refine nv_goto hC d_Law_drawn_10 (tgt := 17) (by decide) ?_
    refine nv_iconst hC d_Law_drawn_17 ?_
    obtain ⟨rfl, rfl⟩ := ret_s hm
    exact nvw_iret hC hr hlk (Nat.le_of_ble_eq_true rfl) (Nat.le_of_ble_eq_true rfl) d_Law_drawn_18
  · have hm := if_t c4 (if_f (fun h9 => absurd (h9.symm.trans c4) (by decide)) hm)
    refine nv_astore (lv' := [(4, .ref q9), (0, .ref (ad h0)), (1, .int (iI x1)), (2, .int (iI x2)), (3, .ref (ad a3))]) hC d_Law_drawn_13 (by decide) rfl ?_
    refine nv_iconst hC d_Law_drawn_15 ?_
    obtain ⟨rfl, rfl⟩ := ret_s hm
    exact nvw_iret hC hr hlk (Nat.le_of_ble_eq_true rfl) (Nat.le_of_ble_eq_true rfl) d_Law_drawn_16
def m_Law_heat (h0 : Nat) (x1 : Int) (a2 : Nat) (N : nS) : Option (Int × nS) :=
  nbd (m_HL_heat h0 x1 N) (fun q1 N2 =>
  if q1.1 = 0 then
  nlt (up2 N2 a2 (Int.toNat 0) q1.2) (fun N5 =>
  some (0, N5))
  else if q1.1 = 1 then
  some (1, N2)
  else
  none)
set_option maxRecDepth 20000 in
theorem k_363 : Cond.methodLink R_Law 50 y_HL_heat ∈ TT := tt_i 513 (by decide +kernel) (by decide +kernel)
set_option maxRecDepth 20000 in
theorem k_364 : Cond.code y_HL_heat b_HL_heat 2 (some .long) ∈ TT := tt_i 516 (by decide +kernel) (by decide +kernel)
set_option maxRecDepth 20000 in
theorem k_365 : Cond.instanceMethod y_HL_heat ∈ TT := tt_i 514 (by decide +kernel) (by decide +kernel)
set_option maxRecDepth 20000 in
theorem k_366 : Cond.selects R_HL y_HL_heat y_HL_heat ∈ TT := tt_i 515 (by decide +kernel) (by decide +kernel)
abbrev rm_Law_heat : Room := { frames := 8, cells := 1, slots := 6, locals := 163 }
set_option maxRecDepth 100000 in
set_option maxHeartbeats 4000000 in
theorem c_Law_heat (l : Launch) {D : va_G} {ct : Nat → ClassId} {A : Nat → Prop} {ad : Nat → Nat} {S : nH} (hl0 : l.stackTraces = false) (hD : nD ad A S.length) (h0 : Nat) (hp0 : isH S h0) (x1 : Int) (hx1 : rg x1) (a2 : Nat) (hp2 : isO S a2) (N : nS) (r : Int) (No : nS) (hm : m_Law_heat h0 x1 a2 N = some (r, No)) : nMw l y_Law_heat (Cond.codeWith y_Law_heat b_Law_heat 4 (some .int) [(0, 8, 11, 13)] :: TT) rm_Law_heat 1 6 D vwCl ct A ad S N [.ref (ad h0), .int (iI x1), .ref (ad a2)] (nQi D vwCl ct A ad S r No) := by
  refine nMw_of (cc := b_Law_heat) (maxL := 4) (ret := some .int) (hh := [(0, 8, 11, 13)]) (by decide) rfl (Nat.le_of_ble_eq_true rfl) hD ?_
  intro p e s m below meth c hC hX9 htab hr hlk
  refine nv_lv (lv' := [(0, .ref (ad h0)), (1, .int (iI x1)), (2, .ref (ad a2))]) rfl ?_
  rw [m_Law_heat] at hm
  refine nv_aload_n hC d_Law_heat_0 rfl 2 rfl ?_
  refine nv_iconst hC d_Law_heat_1 ?_
  refine nv_aload_n hC d_Law_heat_2 rfl 0 rfl ?_
  refine nv_iload_n hC d_Law_heat_3 rfl 1 rfl ?_
  obtain ⟨q1, N2, hq3, hm⟩ := nbd_s hm
  refine nvw_calll1 hC hX9 htab (x := q1.1) (r := q1.2) (N1 := N2) (nrx_V hC hX9 (As := [.int (iI x1)]) (st := [.int (iI 0), .ref (ad a2)]) hp0.1 rfl (c_HL_heat l hl0 hC.2.2.1 h0 hp0 x1 hx1 N q1.1 q1.2 N2 hq3) (cwV 1 hC.1.2.2.2.2 (tt_V k_363 k_365 k_366 k_149 k_364) rfl rfl rfl (by decide +kernel) ⟨Nat.le_of_ble_eq_true rfl, Nat.le_of_ble_eq_true rfl⟩) rfl rfl (Nat.le_of_ble_eq_true rfl) ⟨(Nat.le_of_ble_eq_true rfl), (Nat.le_of_ble_eq_true rfl)⟩ d_Law_heat_4) ⟨by decide, by decide⟩ k_321 (by decide) (fun c4 => ?_) (fun c4 q9 => ?_) (fun c4 => (ck_s (if_f c4 hm)).1)
  · have hm := if_t c4 hm
    obtain ⟨N5, e6, hm⟩ := nlt_s hm
    refine nv_last hC hp2 (by decide) ⟨by decide, by decide⟩ e6 d_Law_heat_7 ?_
    refine nv_goto hC d_Law_heat_8 (tgt := 14) (by decide) ?_
    refine nv_iconst hC d_Law_heat_14 ?_
    obtain ⟨rfl, rfl⟩ := ret_s hm
    exact nvw_iret hC hr hlk (Nat.le_of_ble_eq_true rfl) (Nat.le_of_ble_eq_true rfl) d_Law_heat_15
  · have hm := if_t c4 (if_f (fun h9 => absurd (h9.symm.trans c4) (by decide)) hm)
    refine nv_astore_n (lv' := [(3, .ref q9), (0, .ref (ad h0)), (1, .int (iI x1)), (2, .ref (ad a2))]) hC d_Law_heat_11 rfl (by decide) rfl ?_
    refine nv_iconst hC d_Law_heat_12 ?_
    obtain ⟨rfl, rfl⟩ := ret_s hm
    exact nvw_iret hC hr hlk (Nat.le_of_ble_eq_true rfl) (Nat.le_of_ble_eq_true rfl) d_Law_heat_13
def m_Law_shock (h0 : Nat) (x1 : Int) (x2 : Int) (x3 : Int) (x4 : Int) (x5 : Int) (a6 : Nat) (N : nS) : Option (Int × nS) :=
  nbd (m_HL_shock h0 x1 x2 x3 x4 x5 N) (fun q1 N2 =>
  if q1.1 = 0 then
  if rg q1.2 then
  nlt (up2 N2 a6 (Int.toNat 0) q1.2) (fun N6 =>
  some (0, N6))
  else none
  else if q1.1 = 1 then
  some (1, N2)
  else
  none)
set_option maxRecDepth 20000 in
theorem k_367 : Cond.methodLink R_Law 54 y_HL_shock ∈ TT := tt_i 524 (by decide +kernel) (by decide +kernel)
set_option maxRecDepth 20000 in
theorem k_368 : Cond.code y_HL_shock b_HL_shock 6 (some .int) ∈ TT := tt_i 527 (by decide +kernel) (by decide +kernel)
set_option maxRecDepth 20000 in
theorem k_369 : Cond.instanceMethod y_HL_shock ∈ TT := tt_i 525 (by decide +kernel) (by decide +kernel)
set_option maxRecDepth 20000 in
theorem k_370 : Cond.selects R_HL y_HL_shock y_HL_shock ∈ TT := tt_i 526 (by decide +kernel) (by decide +kernel)
abbrev rm_Law_shock : Room := { frames := 8, cells := 5, slots := 30, locals := 188 }
set_option maxRecDepth 100000 in
set_option maxHeartbeats 4000000 in
theorem c_Law_shock (l : Launch) {D : va_G} {ct : Nat → ClassId} {A : Nat → Prop} {ad : Nat → Nat} {S : nH} (hl0 : l.stackTraces = false) (hD : nD ad A S.length) (h0 : Nat) (hp0 : isH S h0) (x1 : Int) (hx1 : rg x1) (x2 : Int) (hx2 : rg x2) (x3 : Int) (hx3 : rg x3) (x4 : Int) (hx4 : rg x4) (x5 : Int) (hx5 : rg x5) (a6 : Nat) (hp6 : isO S a6) (N : nS) (r : Int) (No : nS) (hm : m_Law_shock h0 x1 x2 x3 x4 x5 a6 N = some (r, No)) : nMw l y_Law_shock (Cond.codeWith y_Law_shock b_Law_shock 8 (some .int) [(0, 16, 19, 13)] :: TT) rm_Law_shock 5 30 D vwCl ct A ad S N [.ref (ad h0), .int (iI x1), .int (iI x2), .int (iI x3), .int (iI x4), .int (iI x5), .ref (ad a6)] (nQi D vwCl ct A ad S r No) := by
  refine nMw_of (cc := b_Law_shock) (maxL := 8) (ret := some .int) (hh := [(0, 16, 19, 13)]) (by decide) rfl (Nat.le_of_ble_eq_true rfl) hD ?_
  intro p e s m below meth c hC hX9 htab hr hlk
  refine nv_lv (lv' := [(0, .ref (ad h0)), (1, .int (iI x1)), (2, .int (iI x2)), (3, .int (iI x3)), (4, .int (iI x4)), (5, .int (iI x5)), (6, .ref (ad a6))]) rfl ?_
  rw [m_Law_shock] at hm
  refine nv_aload hC d_Law_shock_0 6 rfl ?_
  refine nv_iconst hC d_Law_shock_2 ?_
  refine nv_aload_n hC d_Law_shock_3 rfl 0 rfl ?_
  refine nv_iload_n hC d_Law_shock_4 rfl 1 rfl ?_
  refine nv_iload_n hC d_Law_shock_5 rfl 2 rfl ?_
  refine nv_iload_n hC d_Law_shock_6 rfl 3 rfl ?_
  refine nv_iload hC d_Law_shock_7 4 rfl ?_
  refine nv_iload hC d_Law_shock_9 5 rfl ?_
  obtain ⟨q1, N2, hq3, hm⟩ := nbd_s hm
  refine nvw_calli1 hC hX9 htab (x := q1.1) (r := q1.2) (N1 := N2) (nrx_V hC hX9 (As := [.int (iI x1), .int (iI x2), .int (iI x3), .int (iI x4), .int (iI x5)]) (st := [.int (iI 0), .ref (ad a6)]) hp0.1 rfl (c_HL_shock l hl0 hC.2.2.1 h0 hp0 x1 hx1 x2 hx2 x3 hx3 x4 hx4 x5 hx5 N q1.1 q1.2 N2 hq3) (cwV 5 hC.1.2.2.2.2 (tt_V k_367 k_369 k_370 k_149 k_368) rfl rfl rfl (by decide +kernel) ⟨Nat.le_of_ble_eq_true rfl, Nat.le_of_ble_eq_true rfl⟩) rfl rfl (Nat.le_of_ble_eq_true rfl) ⟨(Nat.le_of_ble_eq_true rfl), (Nat.le_of_ble_eq_true rfl)⟩ d_Law_shock_11) ⟨by decide, by decide⟩ k_321 (by decide) (fun c4 => ?_) (fun c4 q9 => ?_) (fun c4 => (ck_s (if_f c4 hm)).1)
  · have hm := if_t c4 hm
    obtain ⟨hr5, hm⟩ := ck_s hm
    refine nv_i2l hC d_Law_shock_14 hr5 ?_
    obtain ⟨N6, e7, hm⟩ := nlt_s hm
    refine nv_last hC hp6 (by decide) ⟨by decide, by decide⟩ e7 d_Law_shock_15 ?_
    refine nv_goto hC d_Law_shock_16 (tgt := 23) (by decide) ?_
    refine nv_iconst hC d_Law_shock_23 ?_
    obtain ⟨rfl, rfl⟩ := ret_s hm
    exact nvw_iret hC hr hlk (Nat.le_of_ble_eq_true rfl) (Nat.le_of_ble_eq_true rfl) d_Law_shock_24
  · have hm := if_t c4 (if_f (fun h9 => absurd (h9.symm.trans c4) (by decide)) hm)
    refine nv_astore (lv' := [(7, .ref q9), (0, .ref (ad h0)), (1, .int (iI x1)), (2, .int (iI x2)), (3, .int (iI x3)), (4, .int (iI x4)), (5, .int (iI x5)), (6, .ref (ad a6))]) hC d_Law_shock_19 (by decide) rfl ?_
    refine nv_iconst hC d_Law_shock_21 ?_
    obtain ⟨rfl, rfl⟩ := ret_s hm
    exact nvw_iret hC hr hlk (Nat.le_of_ble_eq_true rfl) (Nat.le_of_ble_eq_true rfl) d_Law_shock_22
