def m_Draws_add (dd0 : Nat) (x1 : Int) (x2 : Int) (x3 : Int) (N : nS) : Option (Int × nS) :=
  if rg (N dd0 6) then
  if (N dd0 6) < 60 then
  if 0 ≤ (N dd0 6) ∧ (N dd0 6) < ((60 : Nat) : Int) then
  nlt (up2 N (dd0 + 1) (Int.toNat (N dd0 6)) x1) (fun N4 =>
  if 0 ≤ (N4 dd0 6) ∧ (N4 dd0 6) < ((60 : Nat) : Int) then
  nlt (up2 N4 (dd0 + 2) (Int.toNat (N4 dd0 6)) x2) (fun N7 =>
  if 0 ≤ (N7 dd0 6) ∧ (N7 dd0 6) < ((60 : Nat) : Int) then
  nlt (up2 N7 (dd0 + 3) (Int.toNat (N7 dd0 6)) x3) (fun N10 =>
  nlt (up2 N10 dd0 6 ((N10 dd0 6) + 1)) (fun N12 =>
  some (((N12 dd0 6) - 1), N12)))
  else none)
  else none)
  else none
  else
  some ((-1), N)
  else none
set_option maxRecDepth 20000 in
theorem k_34 : Cond.fieldLink R_Draws 30 (T_Draws 6).1 (T_Draws 6).2.1 (T_Draws 6).2.2.1 ∈ TT := tt_i 178 (by decide +kernel) (by decide +kernel)
set_option maxRecDepth 20000 in
theorem k_35 : Cond.fieldLink R_Draws 9 (T_Draws 0).1 (T_Draws 0).2.1 (T_Draws 0).2.2.1 ∈ TT := tt_i 166 (by decide +kernel) (by decide +kernel)
set_option maxRecDepth 20000 in
theorem k_36 : Cond.fieldLink R_Draws 15 (T_Draws 1).1 (T_Draws 1).2.1 (T_Draws 1).2.2.1 ∈ TT := tt_i 168 (by decide +kernel) (by decide +kernel)
set_option maxRecDepth 20000 in
theorem k_37 : Cond.fieldLink R_Draws 18 (T_Draws 2).1 (T_Draws 2).2.1 (T_Draws 2).2.2.1 ∈ TT := tt_i 170 (by decide +kernel) (by decide +kernel)
abbrev rm_Draws_add : Room := { frames := 0, cells := 0, slots := 0, locals := 0 }
set_option maxRecDepth 100000 in
set_option maxHeartbeats 4000000 in
theorem c_Draws_add (l : Launch) {D : va_G} {ct : Nat → ClassId} {A : Nat → Prop} {ad : Nat → Nat} {S : nH} (hD : nD ad A S.length) (dd0 : Nat) (hp0 : isD S dd0) (x1 : Int) (hx1 : rg x1) (x2 : Int) (hx2 : rg x2) (x3 : Int) (hx3 : rg x3) (N : nS) (r : Int) (No : nS) (hm : m_Draws_add dd0 x1 x2 x3 N = some (r, No)) : nM l y_Draws_add (Cond.code y_Draws_add b_Draws_add 4 (some .int) :: TT) rm_Draws_add D vwCl ct A ad S N [.ref (ad dd0), .int (iI x1), .int (iI x2), .int (iI x3)] (nQi D vwCl ct A ad S r No) := by
  refine nM_of (cc := b_Draws_add) (maxL := 4) (ret := (some .int)) (by decide) rfl (Nat.le_of_ble_eq_true rfl) hD ?_
  intro p e s m below meth c hC hr hlk
  refine nv_lv (lv' := [(0, .ref (ad dd0)), (1, .int (iI x1)), (2, .int (iI x2)), (3, .int (iI x3))]) rfl ?_
  rw [m_Draws_add] at hm
  refine nv_aload_n hC d_Draws_add_0 rfl 0 rfl ?_
  refine nv_getI hC (j := 6) hp0.1 rfl in_Draws (by decide) k_34 rfl d_Draws_add_1 ?_
  refine nv_bipush hC (z := 60) d_Draws_add_4 rfl ?_
  obtain ⟨hr1, hm⟩ := ck_s hm
  refine nv_icmp_lt hC hr1 ⟨by decide, by decide⟩ d_Draws_add_6 (tgt := 11) (by decide) (fun c2 => ?_) (fun c2 => ?_)
  · have hm := if_t c2 hm
    refine nv_aload_n hC d_Draws_add_11 rfl 0 rfl ?_
    refine nv_getR hC (j := 0) hp0.1 rfl in_Draws (by decide) k_35 rfl d_Draws_add_12 ?_
    refine nv_aload_n hC d_Draws_add_15 rfl 0 rfl ?_
    refine nv_getI hC (j := 6) hp0.1 rfl in_Draws (by decide) k_34 rfl d_Draws_add_16 ?_
    refine nv_iload_n hC d_Draws_add_19 rfl 1 rfl ?_
    obtain ⟨hc3, hm⟩ := ck_s hm
    obtain ⟨N4, e5, hm⟩ := nlt_s hm
    refine nv_iast hC hp0.2.1 (by decide) hc3 e5 d_Draws_add_20 ?_
    refine nv_aload_n hC d_Draws_add_21 rfl 0 rfl ?_
    refine nv_getR hC (j := 1) hp0.1 rfl in_Draws (by decide) k_36 rfl d_Draws_add_22 ?_
    refine nv_aload_n hC d_Draws_add_25 rfl 0 rfl ?_
    refine nv_getI hC (j := 6) hp0.1 rfl in_Draws (by decide) k_34 rfl d_Draws_add_26 ?_
    refine nv_iload_n hC d_Draws_add_29 rfl 2 rfl ?_
    obtain ⟨hc6, hm⟩ := ck_s hm
    obtain ⟨N7, e8, hm⟩ := nlt_s hm
    refine nv_iast hC hp0.2.2.1 (by decide) hc6 e8 d_Draws_add_30 ?_
    refine nv_aload_n hC d_Draws_add_31 rfl 0 rfl ?_
    refine nv_getR hC (j := 2) hp0.1 rfl in_Draws (by decide) k_37 rfl d_Draws_add_32 ?_
    refine nv_aload_n hC d_Draws_add_35 rfl 0 rfl ?_
    refine nv_getI hC (j := 6) hp0.1 rfl in_Draws (by decide) k_34 rfl d_Draws_add_36 ?_
    refine nv_iload_n hC d_Draws_add_39 rfl 3 rfl ?_
    obtain ⟨hc9, hm⟩ := ck_s hm
    obtain ⟨N10, e11, hm⟩ := nlt_s hm
    refine nv_iast hC hp0.2.2.2.1 (by decide) hc9 e11 d_Draws_add_40 ?_
    refine nv_aload_n hC d_Draws_add_41 rfl 0 rfl ?_
    refine nv_dup hC d_Draws_add_42 rfl ?_
    refine nv_getI hC (j := 6) hp0.1 rfl in_Draws (by decide) k_34 rfl d_Draws_add_43 ?_
    refine nv_iconst hC d_Draws_add_46 ?_
    refine nv_iadd hC d_Draws_add_47 ?_
    obtain ⟨N12, e13, hm⟩ := nlt_s hm
    refine nv_putI hC (j := 6) hp0.1 rfl in_Draws (by decide) ty_Draws tyok_Draws nm_Draws k_34 rfl rfl (by decide +kernel) e13 d_Draws_add_48 ?_
    refine nv_aload_n hC d_Draws_add_51 rfl 0 rfl ?_
    refine nv_getI hC (j := 6) hp0.1 rfl in_Draws (by decide) k_34 rfl d_Draws_add_52 ?_
    refine nv_iconst hC d_Draws_add_55 ?_
    refine nv_isub hC d_Draws_add_56 ?_
    obtain ⟨rfl, rfl⟩ := ret_s hm
    exact nv_iret hC hr hlk d_Draws_add_57
  · have hm := if_f c2 hm
    refine nv_iconst hC d_Draws_add_9 ?_
    obtain ⟨rfl, rfl⟩ := ret_s hm
    exact nv_iret hC hr hlk d_Draws_add_10
def m_Draws_keepAnswer (dd0 : Nat) (x1 : Int) (o2 cap2 : Nat) (N : nS) : Option (Int × nS) :=
  if x1 < 0 then
  some (0, N)
  else
  if rg (N dd0 6) then
  if x1 < (N dd0 6) then
  nbd (m_Plugs_volumeTimesWarmth o2 cap2 N) (fun r4 N5 =>
  if 0 ≤ x1 ∧ x1 < ((60 : Nat) : Int) then
  if rg (N5 (dd0 + 3) (Int.toNat x1)) then
  if rl r4 then
  if rl (if 1 < (N5 (dd0 + 3) (Int.toNat x1)) then (N5 (dd0 + 3) (Int.toNat x1)) else 1) then
  if ¬ (if 1 < (N5 (dd0 + 3) (Int.toNat x1)) then (N5 (dd0 + 3) (Int.toNat x1)) else 1) = 0 then
  nlt (up2 N5 (dd0 + 4) (Int.toNat x1) (Int.tdiv r4 (if 1 < (N5 (dd0 + 3) (Int.toNat x1)) then (N5 (dd0 + 3) (Int.toNat x1)) else 1))) (fun N12 =>
  nbd (m_Plugs_least o2 cap2 N12) (fun r14 N15 =>
  nlt (up2 N15 (dd0 + 5) (Int.toNat x1) r14) (fun N17 =>
  nbd (m_Plugs_greatest o2 cap2 N17) (fun r19 N20 =>
  nlt (up2 N20 (dd0 + 6) (Int.toNat x1) r19) (fun N22 =>
  some (0, N22))))))
  else none
  else none
  else none
  else none
  else none)
  else
  some (0, N)
  else none
set_option maxRecDepth 20000 in
theorem k_38 : Cond.fieldLink R_Draws 21 (T_Draws 3).1 (T_Draws 3).2.1 (T_Draws 3).2.2.1 ∈ TT := tt_i 172 (by decide +kernel) (by decide +kernel)
set_option maxRecDepth 20000 in
theorem k_39 : Cond.methodLink R_Draws 34 y_Plugs_volumeTimesWarmth ∈ TT := tt_i 432 (by decide +kernel) (by decide +kernel)
set_option maxRecDepth 20000 in
theorem k_40 : Cond.code y_Plugs_volumeTimesWarmth b_Plugs_volumeTimesWarmth 4 (some .long) ∈ TT := tt_i 391 (by decide +kernel) (by decide +kernel)
set_option maxRecDepth 20000 in
theorem k_41 : Cond.instanceMethod y_Plugs_volumeTimesWarmth ∈ TT := tt_i 389 (by decide +kernel) (by decide +kernel)
set_option maxRecDepth 20000 in
theorem k_42 : Cond.selects R_Plugs y_Plugs_volumeTimesWarmth y_Plugs_volumeTimesWarmth ∈ TT := tt_i 390 (by decide +kernel) (by decide +kernel)
set_option maxRecDepth 20000 in
theorem k_43 : Cond.methodLink R_Draws 40 Lib.Math.max.name ∈ TT := tt_i 433 (by decide +kernel) (by decide +kernel)
set_option maxRecDepth 20000 in
theorem k_44 : Cond.fieldLink R_Draws 24 (T_Draws 4).1 (T_Draws 4).2.1 (T_Draws 4).2.2.1 ∈ TT := tt_i 174 (by decide +kernel) (by decide +kernel)
set_option maxRecDepth 20000 in
theorem k_45 : Cond.methodLink R_Draws 46 y_Plugs_least ∈ TT := tt_i 434 (by decide +kernel) (by decide +kernel)
set_option maxRecDepth 20000 in
theorem k_46 : Cond.code y_Plugs_least b_Plugs_least 3 (some .int) ∈ TT := tt_i 437 (by decide +kernel) (by decide +kernel)
set_option maxRecDepth 20000 in
theorem k_47 : Cond.instanceMethod y_Plugs_least ∈ TT := tt_i 435 (by decide +kernel) (by decide +kernel)
set_option maxRecDepth 20000 in
theorem k_48 : Cond.selects R_Plugs y_Plugs_least y_Plugs_least ∈ TT := tt_i 436 (by decide +kernel) (by decide +kernel)
set_option maxRecDepth 20000 in
theorem k_49 : Cond.fieldLink R_Draws 27 (T_Draws 5).1 (T_Draws 5).2.1 (T_Draws 5).2.2.1 ∈ TT := tt_i 176 (by decide +kernel) (by decide +kernel)
set_option maxRecDepth 20000 in
theorem k_50 : Cond.methodLink R_Draws 50 y_Plugs_greatest ∈ TT := tt_i 438 (by decide +kernel) (by decide +kernel)
set_option maxRecDepth 20000 in
theorem k_51 : Cond.code y_Plugs_greatest b_Plugs_greatest 3 (some .int) ∈ TT := tt_i 441 (by decide +kernel) (by decide +kernel)
set_option maxRecDepth 20000 in
theorem k_52 : Cond.instanceMethod y_Plugs_greatest ∈ TT := tt_i 439 (by decide +kernel) (by decide +kernel)
set_option maxRecDepth 20000 in
theorem k_53 : Cond.selects R_Plugs y_Plugs_greatest y_Plugs_greatest ∈ TT := tt_i 440 (by decide +kernel) (by decide +kernel)
abbrev rm_Draws_keepAnswer : Room := { frames := 2, cells := 0, slots := 0, locals := 46 }
set_option maxRecDepth 100000 in
set_option maxHeartbeats 4000000 in
theorem c_Draws_keepAnswer (l : Launch) {D : va_G} {ct : Nat → ClassId} {A : Nat → Prop} {ad : Nat → Nat} {S : nH} (hD : nD ad A S.length) (dd0 : Nat) (hp0 : isD S dd0) (x1 : Int) (hx1 : rg x1) (o2 cap2 : Nat) (hp2 : isP S o2 cap2) (N : nS) (r : Int) (No : nS) (hm : m_Draws_keepAnswer dd0 x1 o2 cap2 N = some (r, No)) : nM l y_Draws_keepAnswer (Cond.code y_Draws_keepAnswer b_Draws_keepAnswer 3 none :: TT) rm_Draws_keepAnswer D vwCl ct A ad S N [.ref (ad dd0), .int (iI x1), .ref (ad o2)] (nQv D vwCl ct A ad S No) := by
  refine nM_of (cc := b_Draws_keepAnswer) (maxL := 3) (ret := none) (by decide) rfl (Nat.le_of_ble_eq_true rfl) hD ?_
  intro p e s m below meth c hC hr hlk
  refine nv_lv (lv' := [(0, .ref (ad dd0)), (1, .int (iI x1)), (2, .ref (ad o2))]) rfl ?_
  rw [m_Draws_keepAnswer] at hm
  refine nv_iload_n hC d_Draws_keepAnswer_0 rfl 1 rfl ?_
  refine nv_if_lt hC hx1 d_Draws_keepAnswer_1 (tgt := 12) (by decide) (fun c1 => ?_) (fun c1 => ?_)
  · have hm := if_t c1 hm
    obtain ⟨rfl, rfl⟩ := ret_s hm
    exact nv_vret hC hr hlk d_Draws_keepAnswer_12
  · have hm := if_f c1 hm
    refine nv_iload_n hC d_Draws_keepAnswer_4 rfl 1 rfl ?_
    refine nv_aload_n hC d_Draws_keepAnswer_5 rfl 0 rfl ?_
    refine nv_getI hC (j := 6) hp0.1 rfl in_Draws (by decide) k_34 rfl d_Draws_keepAnswer_6 ?_
    obtain ⟨hr2, hm⟩ := ck_s hm
    refine nv_icmp_lt hC hx1 hr2 d_Draws_keepAnswer_9 (tgt := 13) (by decide) (fun c3 => ?_) (fun c3 => ?_)
    · have hm := if_t c3 hm
      refine nv_aload_n hC d_Draws_keepAnswer_13 rfl 0 rfl ?_
      refine nv_getR hC (j := 3) hp0.1 rfl in_Draws (by decide) k_38 rfl d_Draws_keepAnswer_14 ?_
      refine nv_iload_n hC d_Draws_keepAnswer_17 rfl 1 rfl ?_
      refine nv_aload_n hC d_Draws_keepAnswer_18 rfl 2 rfl ?_
      obtain ⟨r4, N5, hq6, hm⟩ := nbd_s hm
      refine nv_calll (x := r4) (N' := N5) (nr_V hC (As := []) (st := [.int (iI x1), .ref (ad (dd0 + 4))]) hp2.1 rfl (c_Plugs_volumeTimesWarmth l hC.2.2.1 o2 cap2 hp2 N r4 N5 hq6) (cwV 0 hC.1.2.2.2.2 (tt_V k_39 k_41 k_42 k_7 k_40) rfl rfl rfl (by decide +kernel) ⟨Nat.le_of_ble_eq_true rfl, Nat.le_of_ble_eq_true rfl⟩) rfl rfl (Nat.le_of_ble_eq_true rfl) ⟨(Nat.le_of_ble_eq_true rfl), (Nat.le_of_ble_eq_true rfl)⟩ d_Draws_keepAnswer_19) ?_
      refine nv_iconst hC d_Draws_keepAnswer_22 ?_
      refine nv_aload_n hC d_Draws_keepAnswer_23 rfl 0 rfl ?_
      refine nv_getR hC (j := 2) hp0.1 rfl in_Draws (by decide) k_37 rfl d_Draws_keepAnswer_24 ?_
      refine nv_iload_n hC d_Draws_keepAnswer_27 rfl 1 rfl ?_
      obtain ⟨hc7, hm⟩ := ck_s hm
      refine nv_iald hC hp0.2.2.2.1 (by decide) hc7 d_Draws_keepAnswer_28 ?_
      obtain ⟨hr8, hm⟩ := ck_s hm
      refine nv_mmax hC k_43 k_28 k_14 k_29 (Nat.le_of_ble_eq_true rfl) (Nat.le_of_ble_eq_true rfl) (Nat.zero_le _) (Nat.zero_le _) ⟨by decide, by decide⟩ hr8 d_Draws_keepAnswer_29 ?_
      refine nv_i2l hC d_Draws_keepAnswer_32 (rg_max ⟨by decide, by decide⟩ hr8) ?_
      obtain ⟨hc9, hm⟩ := ck_s hm
      obtain ⟨hc10, hm⟩ := ck_s hm
      obtain ⟨hc11, hm⟩ := ck_s hm
      refine nv_ldiv hC d_Draws_keepAnswer_33 hc9 hc10 hc11 ?_
      refine nv_l2i hC d_Draws_keepAnswer_34 ?_
      obtain ⟨N12, e13, hm⟩ := nlt_s hm
      refine nv_iast hC hp0.2.2.2.2.1 (by decide) hc7 e13 d_Draws_keepAnswer_35 ?_
      refine nv_aload_n hC d_Draws_keepAnswer_36 rfl 0 rfl ?_
      refine nv_getR hC (j := 4) hp0.1 rfl in_Draws (by decide) k_44 rfl d_Draws_keepAnswer_37 ?_
      refine nv_iload_n hC d_Draws_keepAnswer_40 rfl 1 rfl ?_
      refine nv_aload_n hC d_Draws_keepAnswer_41 rfl 2 rfl ?_
      obtain ⟨r14, N15, hq16, hm⟩ := nbd_s hm
      refine nv_calli (x := r14) (N' := N15) (nr_V hC (As := []) (st := [.int (iI x1), .ref (ad (dd0 + 5))]) hp2.1 rfl (c_Plugs_least l hC.2.2.1 o2 cap2 hp2 N12 r14 N15 hq16) (cwV 0 hC.1.2.2.2.2 (tt_V k_45 k_47 k_48 k_7 k_46) rfl rfl rfl (by decide +kernel) ⟨Nat.le_of_ble_eq_true rfl, Nat.le_of_ble_eq_true rfl⟩) rfl rfl (Nat.le_of_ble_eq_true rfl) ⟨(Nat.le_of_ble_eq_true rfl), (Nat.le_of_ble_eq_true rfl)⟩ d_Draws_keepAnswer_42) ?_
      obtain ⟨N17, e18, hm⟩ := nlt_s hm
      refine nv_iast hC hp0.2.2.2.2.2.1 (by decide) hc7 e18 d_Draws_keepAnswer_45 ?_
      refine nv_aload_n hC d_Draws_keepAnswer_46 rfl 0 rfl ?_
      refine nv_getR hC (j := 5) hp0.1 rfl in_Draws (by decide) k_49 rfl d_Draws_keepAnswer_47 ?_
      refine nv_iload_n hC d_Draws_keepAnswer_50 rfl 1 rfl ?_
      refine nv_aload_n hC d_Draws_keepAnswer_51 rfl 2 rfl ?_
      obtain ⟨r19, N20, hq21, hm⟩ := nbd_s hm
      refine nv_calli (x := r19) (N' := N20) (nr_V hC (As := []) (st := [.int (iI x1), .ref (ad (dd0 + 6))]) hp2.1 rfl (c_Plugs_greatest l hC.2.2.1 o2 cap2 hp2 N17 r19 N20 hq21) (cwV 0 hC.1.2.2.2.2 (tt_V k_50 k_52 k_53 k_7 k_51) rfl rfl rfl (by decide +kernel) ⟨Nat.le_of_ble_eq_true rfl, Nat.le_of_ble_eq_true rfl⟩) rfl rfl (Nat.le_of_ble_eq_true rfl) ⟨(Nat.le_of_ble_eq_true rfl), (Nat.le_of_ble_eq_true rfl)⟩ d_Draws_keepAnswer_52) ?_
      obtain ⟨N22, e23, hm⟩ := nlt_s hm
      refine nv_iast hC hp0.2.2.2.2.2.2 (by decide) hc7 e23 d_Draws_keepAnswer_55 ?_
      obtain ⟨rfl, rfl⟩ := ret_s hm
      exact nv_vret hC hr hlk d_Draws_keepAnswer_56
    · have hm := if_f c3 hm
      obtain ⟨rfl, rfl⟩ := ret_s hm
      exact nv_vret hC hr hlk d_Draws_keepAnswer_12
