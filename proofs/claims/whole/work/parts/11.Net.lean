def m_Net_add (nn0 : Nat) (x1 : Int) (x2 : Int) (x3 : Int) (N : nS) : Option (Int × nS) :=
  if rg (N nn0 5) then
  if (N nn0 5) < 10 then
  if 0 ≤ (N nn0 5) ∧ (N nn0 5) < ((10 : Nat) : Int) then
  nlt (up2 N (nn0 + 1) (Int.toNat (N nn0 5)) x1) (fun N4 =>
  if 0 ≤ (N4 nn0 5) ∧ (N4 nn0 5) < ((10 : Nat) : Int) then
  nlt (up2 N4 (nn0 + 2) (Int.toNat (N4 nn0 5)) x2) (fun N7 =>
  if 0 ≤ (N7 nn0 5) ∧ (N7 nn0 5) < ((10 : Nat) : Int) then
  nlt (up2 N7 (nn0 + 3) (Int.toNat (N7 nn0 5)) x3) (fun N10 =>
  nlt (up2 N10 nn0 5 ((N10 nn0 5) + 1)) (fun N12 =>
  some (((N12 nn0 5) - 1), N12)))
  else none)
  else none)
  else none
  else
  some ((-1), N)
  else none
set_option maxRecDepth 20000 in
theorem k_30 : Cond.fieldLink R_Net 28 (T_Net 5).1 (T_Net 5).2.1 (T_Net 5).2.2.1 ∈ TT := tt_i 60 (by decide +kernel) (by decide +kernel)
set_option maxRecDepth 20000 in
theorem k_31 : Cond.fieldLink R_Net 9 (T_Net 0).1 (T_Net 0).2.1 (T_Net 0).2.2.1 ∈ TT := tt_i 49 (by decide +kernel) (by decide +kernel)
set_option maxRecDepth 20000 in
theorem k_32 : Cond.fieldLink R_Net 15 (T_Net 1).1 (T_Net 1).2.1 (T_Net 1).2.2.1 ∈ TT := tt_i 51 (by decide +kernel) (by decide +kernel)
set_option maxRecDepth 20000 in
theorem k_33 : Cond.fieldLink R_Net 18 (T_Net 2).1 (T_Net 2).2.1 (T_Net 2).2.2.1 ∈ TT := tt_i 53 (by decide +kernel) (by decide +kernel)
abbrev rm_Net_add : Room := { frames := 0, cells := 0, slots := 0, locals := 0 }
set_option maxRecDepth 100000 in
set_option maxHeartbeats 4000000 in
theorem c_Net_add (l : Launch) {D : va_G} {ct : Nat → ClassId} {A : Nat → Prop} {ad : Nat → Nat} {S : nH} (hD : nD ad A S.length) (nn0 : Nat) (hp0 : isN S nn0) (x1 : Int) (hx1 : rg x1) (x2 : Int) (hx2 : rg x2) (x3 : Int) (hx3 : rg x3) (N : nS) (r : Int) (No : nS) (hm : m_Net_add nn0 x1 x2 x3 N = some (r, No)) : nM l y_Net_add (Cond.code y_Net_add b_Net_add 4 (some .int) :: TT) rm_Net_add D vwCl ct A ad S N [.ref (ad nn0), .int (iI x1), .int (iI x2), .int (iI x3)] (nQi D vwCl ct A ad S r No) := by
  refine nM_of (cc := b_Net_add) (maxL := 4) (ret := (some .int)) (by decide) rfl (Nat.le_of_ble_eq_true rfl) hD ?_
  intro p e s m below meth c hC hr hlk
  refine nv_lv (lv' := [(0, .ref (ad nn0)), (1, .int (iI x1)), (2, .int (iI x2)), (3, .int (iI x3))]) rfl ?_
  rw [m_Net_add] at hm
  refine nv_aload_n hC d_Net_add_0 rfl 0 rfl ?_
  refine nv_getI hC (j := 5) hp0.1 rfl in_Net (by decide) k_30 rfl d_Net_add_1 ?_
  refine nv_bipush hC (z := 10) d_Net_add_4 rfl ?_
  obtain ⟨hr1, hm⟩ := ck_s hm
  refine nv_icmp_lt hC hr1 ⟨by decide, by decide⟩ d_Net_add_6 (tgt := 11) (by decide) (fun c2 => ?_) (fun c2 => ?_)
  · have hm := if_t c2 hm
    refine nv_aload_n hC d_Net_add_11 rfl 0 rfl ?_
    refine nv_getR hC (j := 0) hp0.1 rfl in_Net (by decide) k_31 rfl d_Net_add_12 ?_
    refine nv_aload_n hC d_Net_add_15 rfl 0 rfl ?_
    refine nv_getI hC (j := 5) hp0.1 rfl in_Net (by decide) k_30 rfl d_Net_add_16 ?_
    refine nv_iload_n hC d_Net_add_19 rfl 1 rfl ?_
    obtain ⟨hc3, hm⟩ := ck_s hm
    obtain ⟨N4, e5, hm⟩ := nlt_s hm
    refine nv_iast hC hp0.2.1 (by decide) hc3 e5 d_Net_add_20 ?_
    refine nv_aload_n hC d_Net_add_21 rfl 0 rfl ?_
    refine nv_getR hC (j := 1) hp0.1 rfl in_Net (by decide) k_32 rfl d_Net_add_22 ?_
    refine nv_aload_n hC d_Net_add_25 rfl 0 rfl ?_
    refine nv_getI hC (j := 5) hp0.1 rfl in_Net (by decide) k_30 rfl d_Net_add_26 ?_
    refine nv_iload_n hC d_Net_add_29 rfl 2 rfl ?_
    obtain ⟨hc6, hm⟩ := ck_s hm
    obtain ⟨N7, e8, hm⟩ := nlt_s hm
    refine nv_iast hC hp0.2.2.1 (by decide) hc6 e8 d_Net_add_30 ?_
    refine nv_aload_n hC d_Net_add_31 rfl 0 rfl ?_
    refine nv_getR hC (j := 2) hp0.1 rfl in_Net (by decide) k_33 rfl d_Net_add_32 ?_
    refine nv_aload_n hC d_Net_add_35 rfl 0 rfl ?_
    refine nv_getI hC (j := 5) hp0.1 rfl in_Net (by decide) k_30 rfl d_Net_add_36 ?_
    refine nv_iload_n hC d_Net_add_39 rfl 3 rfl ?_
    obtain ⟨hc9, hm⟩ := ck_s hm
    obtain ⟨N10, e11, hm⟩ := nlt_s hm
    refine nv_iast hC hp0.2.2.2.1 (by decide) hc9 e11 d_Net_add_40 ?_
    refine nv_aload_n hC d_Net_add_41 rfl 0 rfl ?_
    refine nv_dup hC d_Net_add_42 rfl ?_
    refine nv_getI hC (j := 5) hp0.1 rfl in_Net (by decide) k_30 rfl d_Net_add_43 ?_
    refine nv_iconst hC d_Net_add_46 ?_
    refine nv_iadd hC d_Net_add_47 ?_
    obtain ⟨N12, e13, hm⟩ := nlt_s hm
    refine nv_putI hC (j := 5) hp0.1 rfl in_Net (by decide) ty_Net tyok_Net nm_Net k_30 rfl rfl (by decide +kernel) e13 d_Net_add_48 ?_
    refine nv_aload_n hC d_Net_add_51 rfl 0 rfl ?_
    refine nv_getI hC (j := 5) hp0.1 rfl in_Net (by decide) k_30 rfl d_Net_add_52 ?_
    refine nv_iconst hC d_Net_add_55 ?_
    refine nv_isub hC d_Net_add_56 ?_
    obtain ⟨rfl, rfl⟩ := ret_s hm
    exact nv_iret hC hr hlk d_Net_add_57
  · have hm := if_f c2 hm
    refine nv_iconst hC d_Net_add_9 ?_
    obtain ⟨rfl, rfl⟩ := ret_s hm
    exact nv_iret hC hr hlk d_Net_add_10
