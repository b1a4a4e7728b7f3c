def m_Mo_thrown (k0 : Nat) (N : nS) : Option (Int × nS) :=
  some ((N k0 0), N)
set_option maxRecDepth 20000 in
theorem k_224 : Cond.fieldLink R_Mo 99 (T_Mo 0).1 (T_Mo 0).2.1 (T_Mo 0).2.2.1 ∈ TT := tt_i 546 (by decide +kernel) (by decide +kernel)
abbrev rm_Mo_thrown : Room := { frames := 0, cells := 0, slots := 0, locals := 0 }
set_option maxRecDepth 100000 in
set_option maxHeartbeats 4000000 in
theorem c_Mo_thrown (l : Launch) {D : va_G} {ct : Nat → ClassId} {A : Nat → Prop} {ad : Nat → Nat} {S : nH} (hD : nD ad A S.length) (k0 : Nat) (hp0 : isM S k0) (N : nS) (r : Int) (No : nS) (hm : m_Mo_thrown k0 N = some (r, No)) : nM l y_Mo_thrown (Cond.code y_Mo_thrown b_Mo_thrown 1 (some .int) :: TT) rm_Mo_thrown D vwCl ct A ad S N [.ref (ad k0)] (nQi D vwCl ct A ad S r No) := by
  refine nM_of (cc := b_Mo_thrown) (maxL := 1) (ret := (some .int)) (by decide) rfl (Nat.le_of_ble_eq_true rfl) hD ?_
  intro p e s m below meth c hC hr hlk
  refine nv_lv (lv' := [(0, .ref (ad k0))]) rfl ?_
  rw [m_Mo_thrown] at hm
  refine nv_aload_n hC d_Mo_thrown_0 rfl 0 rfl ?_
  refine nv_getI hC (j := 0) hp0.1 rfl in_Mo (by decide) k_224 rfl d_Mo_thrown_1 ?_
  obtain ⟨rfl, rfl⟩ := ret_s hm
  exact nv_iret hC hr hlk d_Mo_thrown_4
def m_Mo_in (x0 : Int) (x1 : Int) (x2 : Int) (N : nS) : Option (Int × nS) :=
  if x0 < x1 then
  some (0, N)
  else
  if x2 < x0 then
  some (0, N)
  else
  some (1, N)
abbrev rm_Mo_in : Room := { frames := 0, cells := 0, slots := 0, locals := 0 }
set_option maxRecDepth 100000 in
set_option maxHeartbeats 4000000 in
theorem c_Mo_in (l : Launch) {D : va_G} {ct : Nat → ClassId} {A : Nat → Prop} {ad : Nat → Nat} {S : nH} (hD : nD ad A S.length) (x0 : Int) (hx0 : rg x0) (x1 : Int) (hx1 : rg x1) (x2 : Int) (hx2 : rg x2) (N : nS) (r : Int) (No : nS) (hm : m_Mo_in x0 x1 x2 N = some (r, No)) : nM l y_Mo_in (Cond.code y_Mo_in b_Mo_in 3 (some .boolean) :: TT) rm_Mo_in D vwCl ct A ad S N [.int (iI x0), .int (iI x1), .int (iI x2)] (nQi D vwCl ct A ad S r No) := by
  refine nM_of (cc := b_Mo_in) (maxL := 3) (ret := (some .boolean)) (by decide) rfl (Nat.le_of_ble_eq_true rfl) hD ?_
  intro p e s m below meth c hC hr hlk
  refine nv_lv (lv' := [(0, .int (iI x0)), (1, .int (iI x1)), (2, .int (iI x2))]) rfl ?_
  rw [m_Mo_in] at hm
  refine nv_iload_n hC d_Mo_in_0 rfl 0 rfl ?_
  refine nv_iload_n hC d_Mo_in_1 rfl 1 rfl ?_
  refine nv_icmp_lt hC hx0 hx1 d_Mo_in_2 (tgt := 14) (by decide) (fun c1 => ?_) (fun c1 => ?_)
  · have hm := if_t c1 hm
    refine nv_iconst hC d_Mo_in_14 ?_
    obtain ⟨rfl, rfl⟩ := ret_s hm
    exact nv_zret hC hr hlk (Or.inl rfl) d_Mo_in_15
  · have hm := if_f c1 hm
    refine nv_iload_n hC d_Mo_in_5 rfl 0 rfl ?_
    refine nv_iload_n hC d_Mo_in_6 rfl 2 rfl ?_
    refine nv_icmp_gt hC hx0 hx2 d_Mo_in_7 (tgt := 14) (by decide) (fun c2 => ?_) (fun c2 => ?_)
    · have hm := if_t c2 hm
      refine nv_iconst hC d_Mo_in_14 ?_
      obtain ⟨rfl, rfl⟩ := ret_s hm
      exact nv_zret hC hr hlk (Or.inl rfl) d_Mo_in_15
    · have hm := if_f c2 hm
      refine nv_iconst hC d_Mo_in_10 ?_
      refine nv_goto hC d_Mo_in_11 (tgt := 15) (by decide) ?_
      obtain ⟨rfl, rfl⟩ := ret_s hm
      exact nv_zret hC hr hlk (Or.inr rfl) d_Mo_in_15
def m_Mo_isPipe (k0 : Nat) (x1 : Int) (N : nS) : Option (Int × nS) :=
  if rg ((N k0 1) - 1) then
  nbd (m_Mo_in x1 0 ((N k0 1) - 1) N) (fun r2 N3 =>
  if r2 = 0 ∨ r2 = 1 then
  some (r2, N3)
  else none)
  else none
set_option maxRecDepth 20000 in
theorem k_225 : Cond.fieldLink R_Mo 102 (T_Mo 1).1 (T_Mo 1).2.1 (T_Mo 1).2.2.1 ∈ TT := tt_i 547 (by decide +kernel) (by decide +kernel)
set_option maxRecDepth 20000 in
theorem k_226 : Cond.methodLink R_Mo 105 y_Mo_in ∈ TT := tt_i 678 (by decide +kernel) (by decide +kernel)
set_option maxRecDepth 20000 in
theorem k_227 : Cond.code y_Mo_in b_Mo_in 3 (some .boolean) ∈ TT := tt_i 680 (by decide +kernel) (by decide +kernel)
set_option maxRecDepth 20000 in
theorem k_228 : Cond.static y_Mo_in ∈ TT := tt_i 679 (by decide +kernel) (by decide +kernel)
set_option maxRecDepth 20000 in
theorem k_229 : Cond.initialized R_Mo ∈ TT := tt_i 29 (by decide +kernel) (by decide +kernel)
abbrev rm_Mo_isPipe : Room := { frames := 1, cells := 0, slots := 0, locals := 22 }
set_option maxRecDepth 100000 in
set_option maxHeartbeats 4000000 in
theorem c_Mo_isPipe (l : Launch) {D : va_G} {ct : Nat → ClassId} {A : Nat → Prop} {ad : Nat → Nat} {S : nH} (hD : nD ad A S.length) (k0 : Nat) (hp0 : isM S k0) (x1 : Int) (hx1 : rg x1) (N : nS) (r : Int) (No : nS) (hm : m_Mo_isPipe k0 x1 N = some (r, No)) : nM l y_Mo_isPipe (Cond.code y_Mo_isPipe b_Mo_isPipe 2 (some .boolean) :: TT) rm_Mo_isPipe D vwCl ct A ad S N [.ref (ad k0), .int (iI x1)] (nQi D vwCl ct A ad S r No) := by
  refine nM_of (cc := b_Mo_isPipe) (maxL := 2) (ret := (some .boolean)) (by decide) rfl (Nat.le_of_ble_eq_true rfl) hD ?_
  intro p e s m below meth c hC hr hlk
  refine nv_lv (lv' := [(0, .ref (ad k0)), (1, .int (iI x1))]) rfl ?_
  rw [m_Mo_isPipe] at hm
  refine nv_iload_n hC d_Mo_isPipe_0 rfl 1 rfl ?_
  refine nv_iconst hC d_Mo_isPipe_1 ?_
  refine nv_aload_n hC d_Mo_isPipe_2 rfl 0 rfl ?_
  refine nv_getI hC (j := 1) hp0.1 rfl in_Mo (by decide) k_225 rfl d_Mo_isPipe_3 ?_
  refine nv_iconst hC d_Mo_isPipe_6 ?_
  refine nv_isub hC d_Mo_isPipe_7 ?_
  obtain ⟨hr1, hm⟩ := ck_s hm
  obtain ⟨r2, N3, hq4, hm⟩ := nbd_s hm
  refine nv_calli (x := r2) (N' := N3) (nr_S hC (As := [.int (iI x1), .int (iI 0), .int (iI ((N k0 1) - 1))]) (st := []) (c_Mo_in l hC.2.2.1 x1 hx1 0 ⟨by decide, by decide⟩ ((N k0 1) - 1) hr1 N r2 N3 hq4) (cwS 3 hC.1.2.2.2.2 (tt_S k_226 k_228 k_229 k_227) rfl rfl rfl (by decide +kernel) ⟨Nat.le_of_ble_eq_true rfl, Nat.le_of_ble_eq_true rfl⟩) rfl rfl (Nat.le_of_ble_eq_true rfl) ⟨(Nat.le_of_ble_eq_true rfl), (Nat.le_of_ble_eq_true rfl)⟩ d_Mo_isPipe_8) ?_
  obtain ⟨hc5, hm⟩ := ck_s hm
  obtain ⟨rfl, rfl⟩ := ret_s hm
  exact nv_zret hC hr hlk hc5 d_Mo_isPipe_11
def m_Mo_lay (k0 : Nat) (x1 : Int) (x2 : Int) (N : nS) : Option (Int × nS) :=
  if x1 ≤ 0 then
  some (0, N)
  else
  if rg (N k0 28) then
  if (N k0 28) ≤ 0 then
  nlt (up2 N k0 28 ((N k0 28) + 1)) (fun N5 =>
  if 0 ≤ (((N k0 28) + 1) - 1) ∧ (((N k0 28) + 1) - 1) < ((160 : Nat) : Int) then
  nlt (up2 N5 (k0 + 19) (Int.toNat (((N k0 28) + 1) - 1)) x1) (fun N9 =>
  if 0 ≤ ((N9 k0 28) - 1) ∧ ((N9 k0 28) - 1) < ((160 : Nat) : Int) then
  nlt (up2 N9 (k0 + 20) (Int.toNat ((N9 k0 28) - 1)) x2) (fun N12 =>
  some (0, N12))
  else none)
  else none)
  else
  if 0 ≤ ((N k0 28) - 1) ∧ ((N k0 28) - 1) < ((160 : Nat) : Int) then
  if rg (N (k0 + 20) (Int.toNat ((N k0 28) - 1))) then
  if (N (k0 + 20) (Int.toNat ((N k0 28) - 1))) = x2 then
  nlt (up2 N k0 28 ((N k0 28) + 0)) (fun N28 =>
  if 0 ≤ (((N k0 28) + 0) - 1) ∧ (((N k0 28) + 0) - 1) < ((160 : Nat) : Int) then
  nlt (up2 N28 (k0 + 19) (Int.toNat (((N k0 28) + 0) - 1)) ((N28 (k0 + 19) (Int.toNat (((N k0 28) + 0) - 1))) + x1)) (fun N32 =>
  if 0 ≤ ((N32 k0 28) - 1) ∧ ((N32 k0 28) - 1) < ((160 : Nat) : Int) then
  nlt (up2 N32 (k0 + 20) (Int.toNat ((N32 k0 28) - 1)) x2) (fun N35 =>
  some (0, N35))
  else none)
  else none)
  else
  nlt (up2 N k0 28 ((N k0 28) + 1)) (fun N18 =>
  if 0 ≤ (((N k0 28) + 1) - 1) ∧ (((N k0 28) + 1) - 1) < ((160 : Nat) : Int) then
  nlt (up2 N18 (k0 + 19) (Int.toNat (((N k0 28) + 1) - 1)) x1) (fun N22 =>
  if 0 ≤ ((N22 k0 28) - 1) ∧ ((N22 k0 28) - 1) < ((160 : Nat) : Int) then
  nlt (up2 N22 (k0 + 20) (Int.toNat ((N22 k0 28) - 1)) x2) (fun N25 =>
  some (0, N25))
  else none)
  else none)
  else none
  else none
  else none
set_option maxRecDepth 20000 in
theorem k_230 : Cond.fieldLink R_Mo 109 (T_Mo 28).1 (T_Mo 28).2.1 (T_Mo 28).2.2.1 ∈ TT := tt_i 574 (by decide +kernel) (by decide +kernel)
set_option maxRecDepth 20000 in
theorem k_231 : Cond.fieldLink R_Mo 72 (T_Mo 29).1 (T_Mo 29).2.1 (T_Mo 29).2.2.1 ∈ TT := tt_i 575 (by decide +kernel) (by decide +kernel)
set_option maxRecDepth 20000 in
theorem k_232 : Cond.fieldLink R_Mo 75 (T_Mo 30).1 (T_Mo 30).2.1 (T_Mo 30).2.2.1 ∈ TT := tt_i 576 (by decide +kernel) (by decide +kernel)
abbrev rm_Mo_lay : Room := { frames := 0, cells := 0, slots := 0, locals := 0 }
set_option maxRecDepth 100000 in
set_option maxHeartbeats 4000000 in
theorem c_Mo_lay (l : Launch) {D : va_G} {ct : Nat → ClassId} {A : Nat → Prop} {ad : Nat → Nat} {S : nH} (hD : nD ad A S.length) (k0 : Nat) (hp0 : isM S k0) (x1 : Int) (hx1 : rg x1) (x2 : Int) (hx2 : rg x2) (N : nS) (r : Int) (No : nS) (hm : m_Mo_lay k0 x1 x2 N = some (r, No)) : nM l y_Mo_lay (Cond.code y_Mo_lay b_Mo_lay 4 none :: TT) rm_Mo_lay D vwCl ct A ad S N [.ref (ad k0), .int (iI x1), .int (iI x2)] (nQv D vwCl ct A ad S No) := by
  refine nM_of (cc := b_Mo_lay) (maxL := 4) (ret := none) (by decide) rfl (Nat.le_of_ble_eq_true rfl) hD ?_
  intro p e s m below meth c hC hr hlk
  refine nv_lv (lv' := [(0, .ref (ad k0)), (1, .int (iI x1)), (2, .int (iI x2))]) rfl ?_
  rw [m_Mo_lay] at hm
  refine nv_iload_n hC d_Mo_lay_0 rfl 1 rfl ?_
  refine nv_if_le hC hx1 d_Mo_lay_1 (tgt := 94) (by decide) (fun c1 => ?_) (fun c1 => ?_)
  · have hm := if_t c1 hm
    obtain ⟨rfl, rfl⟩ := ret_s hm
    exact nv_vret hC hr hlk d_Mo_lay_94
  · have hm := if_f c1 hm
    refine nv_aload_n hC d_Mo_lay_4 rfl 0 rfl ?_
    refine nv_getI hC (j := 28) hp0.1 rfl in_Mo (by decide) k_230 rfl d_Mo_lay_5 ?_
    obtain ⟨hr2, hm⟩ := ck_s hm
    refine nv_if_le hC hr2 d_Mo_lay_8 (tgt := 30) (by decide) (fun c3 => ?_) (fun c3 => ?_)
    · have hm := if_t c3 hm
      refine nv_iconst hC d_Mo_lay_30 ?_
      refine nv_istore_n (lv' := [(3, .int (iI 0)), (0, .ref (ad k0)), (1, .int (iI x1)), (2, .int (iI x2))]) hC d_Mo_lay_31 rfl (by decide) rfl ?_
      refine nv_aload_n hC d_Mo_lay_32 rfl 1 rfl ?_
      refine nv_dup hC d_Mo_lay_33 rfl ?_
      refine nv_getI hC (j := 28) hp0.1 rfl in_Mo (by decide) k_230 rfl d_Mo_lay_34 ?_
      refine nv_iload_n hC d_Mo_lay_37 rfl 0 rfl ?_
      refine nv_if_eq hC ⟨by decide, by decide⟩ d_Mo_lay_38 (tgt := 45) (by decide) (fun _ => ?_) (fun h9 => absurd (by decide) h9)
      refine nv_iconst hC d_Mo_lay_45 ?_
      refine nv_iadd hC d_Mo_lay_46 ?_
      obtain ⟨N5, e6, hm⟩ := nlt_s hm
      refine nv_putI hC (j := 28) hp0.1 rfl in_Mo (by decide) ty_Mo tyok_Mo nm_Mo k_230 rfl rfl (by decide +kernel) e6 d_Mo_lay_47 ?_
      refine nv_aload_n hC d_Mo_lay_50 rfl 1 rfl ?_
      refine nv_getR hC (j := 29) hp0.1 rfl in_Mo (by decide) k_231 rfl d_Mo_lay_51 ?_
      refine nv_aload_n hC d_Mo_lay_54 rfl 1 rfl ?_
      refine nv_getIe (v := ((N k0 28) + 1)) hC (j := 28) hp0.1 rfl in_Mo (by decide) k_230 rfl d_Mo_lay_55 (up2_v e6) ?_
      refine nv_iconst hC d_Mo_lay_58 ?_
      refine nv_isub hC d_Mo_lay_59 ?_
      refine nv_iload_n hC d_Mo_lay_60 rfl 0 rfl ?_
      refine nv_if_eq hC ⟨by decide, by decide⟩ d_Mo_lay_61 (tgt := 80) (by decide) (fun _ => ?_) (fun h9 => absurd (by decide) h9)
      refine nv_iload_n hC d_Mo_lay_80 rfl 2 rfl ?_
      obtain ⟨hc8, hm⟩ := ck_s hm
      obtain ⟨N9, e10, hm⟩ := nlt_s hm
      refine nv_iast hC (isM_19 hp0) (by decide) hc8 e10 d_Mo_lay_81 ?_
      refine nv_aload_n hC d_Mo_lay_82 rfl 1 rfl ?_
      refine nv_getR hC (j := 30) hp0.1 rfl in_Mo (by decide) k_232 rfl d_Mo_lay_83 ?_
      refine nv_aload_n hC d_Mo_lay_86 rfl 1 rfl ?_
      refine nv_getI hC (j := 28) hp0.1 rfl in_Mo (by decide) k_230 rfl d_Mo_lay_87 ?_
      refine nv_iconst hC d_Mo_lay_90 ?_
      refine nv_isub hC d_Mo_lay_91 ?_
      refine nv_iload_n hC d_Mo_lay_92 rfl 3 rfl ?_
      obtain ⟨hc11, hm⟩ := ck_s hm
      obtain ⟨N12, e13, hm⟩ := nlt_s hm
      refine nv_iast hC (isM_20 hp0) (by decide) hc11 e13 d_Mo_lay_93 ?_
      obtain ⟨rfl, rfl⟩ := ret_s hm
      exact nv_vret hC hr hlk d_Mo_lay_94
    · have hm := if_f c3 hm
      refine nv_aload_n hC d_Mo_lay_11 rfl 0 rfl ?_
      refine nv_getR hC (j := 30) hp0.1 rfl in_Mo (by decide) k_232 rfl d_Mo_lay_12 ?_
      refine nv_aload_n hC d_Mo_lay_15 rfl 0 rfl ?_
      refine nv_getI hC (j := 28) hp0.1 rfl in_Mo (by decide) k_230 rfl d_Mo_lay_16 ?_
      refine nv_iconst hC d_Mo_lay_19 ?_
      refine nv_isub hC d_Mo_lay_20 ?_
      obtain ⟨hc14, hm⟩ := ck_s hm
      refine nv_iald hC (isM_20 hp0) (by decide) hc14 d_Mo_lay_21 ?_
      refine nv_iload_n hC d_Mo_lay_22 rfl 2 rfl ?_
      obtain ⟨hr15, hm⟩ := ck_s hm
      refine nv_icmp_ne hC hr15 hx2 d_Mo_lay_23 (tgt := 30) (by decide) (fun c16 => ?_) (fun c16 => ?_)
      · have hm := if_f c16 hm
        refine nv_iconst hC d_Mo_lay_30 ?_
        refine nv_istore_n (lv' := [(3, .int (iI 0)), (0, .ref (ad k0)), (1, .int (iI x1)), (2, .int (iI x2))]) hC d_Mo_lay_31 rfl (by decide) rfl ?_
        refine nv_aload_n hC d_Mo_lay_32 rfl 1 rfl ?_
        refine nv_dup hC d_Mo_lay_33 rfl ?_
        refine nv_getI hC (j := 28) hp0.1 rfl in_Mo (by decide) k_230 rfl d_Mo_lay_34 ?_
        refine nv_iload_n hC d_Mo_lay_37 rfl 0 rfl ?_
        refine nv_if_eq hC ⟨by decide, by decide⟩ d_Mo_lay_38 (tgt := 45) (by decide) (fun _ => ?_) (fun h9 => absurd (by decide) h9)
        refine nv_iconst hC d_Mo_lay_45 ?_
        refine nv_iadd hC d_Mo_lay_46 ?_
        obtain ⟨N18, e19, hm⟩ := nlt_s hm
        refine nv_putI hC (j := 28) hp0.1 rfl in_Mo (by decide) ty_Mo tyok_Mo nm_Mo k_230 rfl rfl (by decide +kernel) e19 d_Mo_lay_47 ?_
        refine nv_aload_n hC d_Mo_lay_50 rfl 1 rfl ?_
        refine nv_getR hC (j := 29) hp0.1 rfl in_Mo (by decide) k_231 rfl d_Mo_lay_51 ?_
        refine nv_aload_n hC d_Mo_lay_54 rfl 1 rfl ?_
        refine nv_getIe (v := ((N k0 28) + 1)) hC (j := 28) hp0.1 rfl in_Mo (by decide) k_230 rfl d_Mo_lay_55 (up2_v e19) ?_
        refine nv_iconst hC d_Mo_lay_58 ?_
        refine nv_isub hC d_Mo_lay_59 ?_
        refine nv_iload_n hC d_Mo_lay_60 rfl 0 rfl ?_
        refine nv_if_eq hC ⟨by decide, by decide⟩ d_Mo_lay_61 (tgt := 80) (by decide) (fun _ => ?_) (fun h9 => absurd (by decide) h9)
        refine nv_iload_n hC d_Mo_lay_80 rfl 2 rfl ?_
        obtain ⟨hc21, hm⟩ := ck_s hm
        obtain ⟨N22, e23, hm⟩ := nlt_s hm
        refine nv_iast hC (isM_19 hp0) (by decide) hc21 e23 d_Mo_lay_81 ?_
        refine nv_aload_n hC d_Mo_lay_82 rfl 1 rfl ?_
        refine nv_getR hC (j := 30) hp0.1 rfl in_Mo (by decide) k_232 rfl d_Mo_lay_83 ?_
        refine nv_aload_n hC d_Mo_lay_86 rfl 1 rfl ?_
        refine nv_getI hC (j := 28) hp0.1 rfl in_Mo (by decide) k_230 rfl d_Mo_lay_87 ?_
        refine nv_iconst hC d_Mo_lay_90 ?_
        refine nv_isub hC d_Mo_lay_91 ?_
        refine nv_iload_n hC d_Mo_lay_92 rfl 3 rfl ?_
        obtain ⟨hc24, hm⟩ := ck_s hm
        obtain ⟨N25, e26, hm⟩ := nlt_s hm
        refine nv_iast hC (isM_20 hp0) (by decide) hc24 e26 d_Mo_lay_93 ?_
        obtain ⟨rfl, rfl⟩ := ret_s hm
        exact nv_vret hC hr hlk d_Mo_lay_94
      · have hm := if_t c16 hm
        refine nv_iconst hC d_Mo_lay_26 ?_
        refine nv_goto hC d_Mo_lay_27 (tgt := 31) (by decide) ?_
        refine nv_istore_n (lv' := [(3, .int (iI 1)), (0, .ref (ad k0)), (1, .int (iI x1)), (2, .int (iI x2))]) hC d_Mo_lay_31 rfl (by decide) rfl ?_
        refine nv_aload_n hC d_Mo_lay_32 rfl 1 rfl ?_
        refine nv_dup hC d_Mo_lay_33 rfl ?_
        refine nv_getI hC (j := 28) hp0.1 rfl in_Mo (by decide) k_230 rfl d_Mo_lay_34 ?_
        refine nv_iload_n hC d_Mo_lay_37 rfl 0 rfl ?_
        refine nv_if_eq hC ⟨by decide, by decide⟩ d_Mo_lay_38 (tgt := 45) (by decide) (fun h9 => absurd h9 (by decide)) (fun _ => ?_)
        refine nv_iconst hC d_Mo_lay_41 ?_
        refine nv_goto hC d_Mo_lay_42 (tgt := 46) (by decide) ?_
        refine nv_iadd hC d_Mo_lay_46 ?_
        obtain ⟨N28, e29, hm⟩ := nlt_s hm
        refine nv_putI hC (j := 28) hp0.1 rfl in_Mo (by decide) ty_Mo tyok_Mo nm_Mo k_230 rfl rfl (by decide +kernel) e29 d_Mo_lay_47 ?_
        refine nv_aload_n hC d_Mo_lay_50 rfl 1 rfl ?_
        refine nv_getR hC (j := 29) hp0.1 rfl in_Mo (by decide) k_231 rfl d_Mo_lay_51 ?_
        refine nv_aload_n hC d_Mo_lay_54 rfl 1 rfl ?_
        refine nv_getIe (v := ((N k0 28) + 0)) hC (j := 28) hp0.1 rfl in_Mo (by decide) k_230 rfl d_Mo_lay_55 (up2_v e29) ?_
        refine nv_iconst hC d_Mo_lay_58 ?_
        refine nv_isub hC d_Mo_lay_59 ?_
        refine nv_iload_n hC d_Mo_lay_60 rfl 0 rfl ?_
        refine nv_if_eq hC ⟨by decide, by decide⟩ d_Mo_lay_61 (tgt := 80) (by decide) (fun h9 => absurd h9 (by decide)) (fun _ => ?_)
        refine nv_aload_n hC d_Mo_lay_64 rfl 1 rfl ?_
        refine nv_getR hC (j := 29) hp0.1 rfl in_Mo (by decide) k_231 rfl d_Mo_lay_65 ?_
        refine nv_aload_n hC d_Mo_lay_68 rfl 1 rfl ?_
        refine nv_getIe (v := ((N k0 28) + 0)) hC (j := 28) hp0.1 rfl in_Mo (by decide) k_230 rfl d_Mo_lay_69 (up2_v e29) ?_
        refine nv_iconst hC d_Mo_lay_72 ?_
        refine nv_isub hC d_Mo_lay_73 ?_
        obtain ⟨hc31, hm⟩ := ck_s hm
        refine nv_iald hC (isM_19 hp0) (by decide) hc31 d_Mo_lay_74 ?_
        refine nv_iload_n hC d_Mo_lay_75 rfl 2 rfl ?_
        refine nv_iadd hC d_Mo_lay_76 ?_
        refine nv_goto hC d_Mo_lay_77 (tgt := 81) (by decide) ?_
        obtain ⟨N32, e33, hm⟩ := nlt_s hm
        refine nv_iast hC (isM_19 hp0) (by decide) hc31 e33 d_Mo_lay_81 ?_
        refine nv_aload_n hC d_Mo_lay_82 rfl 1 rfl ?_
        refine nv_getR hC (j := 30) hp0.1 rfl in_Mo (by decide) k_232 rfl d_Mo_lay_83 ?_
        refine nv_aload_n hC d_Mo_lay_86 rfl 1 rfl ?_
        refine nv_getI hC (j := 28) hp0.1 rfl in_Mo (by decide) k_230 rfl d_Mo_lay_87 ?_
        refine nv_iconst hC d_Mo_lay_90 ?_
        refine nv_isub hC d_Mo_lay_91 ?_
        refine nv_iload_n hC d_Mo_lay_92 rfl 3 rfl ?_
        obtain ⟨hc34, hm⟩ := ck_s hm
        obtain ⟨N35, e36, hm⟩ := nlt_s hm
        refine nv_iast hC (isM_20 hp0) (by decide) hc34 e36 d_Mo_lay_93 ?_
        obtain ⟨rfl, rfl⟩ := ret_s hm
        exact nv_vret hC hr hlk d_Mo_lay_94
def m_Mo_join_127 (k0 : Nat) (x1 : Int) (x2 : Int) (x3 : Int) (x5 : Int) (x6 : Int) (x7 : Int) (x8 : Int) : Nat → Int → nS → Option ((Int) × nS)
  | 0, _, _ => none
  | f + 1, x9, N =>
    if x6 ≤ x9 then
    some (x9, N)
    else
    if 0 ≤ x9 ∧ x9 < ((160 : Nat) : Int) then
    if rg (N (k0 + 19) (Int.toNat x9)) then
    if rg (N (k0 + 20) (Int.toNat x9)) then
    nbd (m_Mo_lay k0 (N (k0 + 19) (Int.toNat x9)) (N (k0 + 20) (Int.toNat x9)) N) (fun r28 N29 =>
    if rg (x9 + 1) then
    m_Mo_join_127 k0 x1 x2 x3 x5 x6 x7 x8 f (x9 + 1) N29
    else none)
    else none
    else none
    else none
def m_Mo_join (k0 : Nat) (x1 : Int) (N : nS) : Option (Int × nS) :=
  if 0 ≤ x1 ∧ x1 < ((160 : Nat) : Int) then
  if 0 ≤ (x1 + 1) ∧ (x1 + 1) < ((160 : Nat) : Int) then
  if rg (N (k0 + 19) (Int.toNat x1)) then
  if rg (N (k0 + 20) (Int.toNat x1)) then
  if rg (N (k0 + 19) (Int.toNat (x1 + 1))) then
  if rg (N (k0 + 20) (Int.toNat (x1 + 1))) then
  if rg ((N (k0 + 19) (Int.toNat x1)) + (N (k0 + 19) (Int.toNat (x1 + 1)))) then
  if rl (((N (k0 + 19) (Int.toNat x1)) * (N (k0 + 20) (Int.toNat x1))) + ((N (k0 + 19) (Int.toNat (x1 + 1))) * (N (k0 + 20) (Int.toNat (x1 + 1))))) then
  if rl ((N (k0 + 19) (Int.toNat x1)) + (N (k0 + 19) (Int.toNat (x1 + 1)))) then
  if ¬ ((N (k0 + 19) (Int.toNat x1)) + (N (k0 + 19) (Int.toNat (x1 + 1)))) = 0 then
  if rg (Int.tdiv (((N (k0 + 19) (Int.toNat x1)) * (N (k0 + 20) (Int.toNat x1))) + ((N (k0 + 19) (Int.toNat (x1 + 1))) * (N (k0 + 20) (Int.toNat (x1 + 1))))) ((N (k0 + 19) (Int.toNat x1)) + (N (k0 + 19) (Int.toNat (x1 + 1))))) then
  nlt (up2 N k0 24 ((N k0 24) + ((((N (k0 + 19) (Int.toNat x1)) * (N (k0 + 20) (Int.toNat x1))) + ((N (k0 + 19) (Int.toNat (x1 + 1))) * (N (k0 + 20) (Int.toNat (x1 + 1))))) - (((N (k0 + 19) (Int.toNat x1)) + (N (k0 + 19) (Int.toNat (x1 + 1)))) * (Int.tdiv (((N (k0 + 19) (Int.toNat x1)) * (N (k0 + 20) (Int.toNat x1))) + ((N (k0 + 19) (Int.toNat (x1 + 1))) * (N (k0 + 20) (Int.toNat (x1 + 1))))) ((N (k0 + 19) (Int.toNat x1)) + (N (k0 + 19) (Int.toNat (x1 + 1))))))))) (fun N12 =>
  nlt (up2 N12 (k0 + 19) (Int.toNat x1) ((N (k0 + 19) (Int.toNat x1)) + (N (k0 + 19) (Int.toNat (x1 + 1))))) (fun N14 =>
  nlt (up2 N14 (k0 + 20) (Int.toNat x1) (Int.tdiv (((N (k0 + 19) (Int.toNat x1)) * (N (k0 + 20) (Int.toNat x1))) + ((N (k0 + 19) (Int.toNat (x1 + 1))) * (N (k0 + 20) (Int.toNat (x1 + 1))))) ((N (k0 + 19) (Int.toNat x1)) + (N (k0 + 19) (Int.toNat (x1 + 1)))))) (fun N16 =>
  nlt (up2 N16 k0 28 x1) (fun N18 =>
  if rg (N16 (k0 + 19) (Int.toNat x1)) then
  nbd (m_Mo_lay k0 (N16 (k0 + 19) (Int.toNat x1)) (Int.tdiv (((N (k0 + 19) (Int.toNat x1)) * (N (k0 + 20) (Int.toNat x1))) + ((N (k0 + 19) (Int.toNat (x1 + 1))) * (N (k0 + 20) (Int.toNat (x1 + 1))))) ((N (k0 + 19) (Int.toNat x1)) + (N (k0 + 19) (Int.toNat (x1 + 1))))) N18) (fun r21 N22 =>
  if rg (N16 k0 28) then
  if rg (x1 + 2) then
  nbd (m_Mo_join_127 k0 x1 ((N (k0 + 19) (Int.toNat x1)) + (N (k0 + 19) (Int.toNat (x1 + 1)))) (((N (k0 + 19) (Int.toNat x1)) * (N (k0 + 20) (Int.toNat x1))) + ((N (k0 + 19) (Int.toNat (x1 + 1))) * (N (k0 + 20) (Int.toNat (x1 + 1))))) (Int.tdiv (((N (k0 + 19) (Int.toNat x1)) * (N (k0 + 20) (Int.toNat x1))) + ((N (k0 + 19) (Int.toNat (x1 + 1))) * (N (k0 + 20) (Int.toNat (x1 + 1))))) ((N (k0 + 19) (Int.toNat x1)) + (N (k0 + 19) (Int.toNat (x1 + 1))))) (N16 k0 28) (x1 + 2) (N16 (k0 + 19) (Int.toNat x1)) FU (x1 + 2) N22) (fun q34 N35 =>
  some (0, N35))
  else none
  else none)
  else none))))
  else none
  else none
  else none
  else none
  else none
  else none
  else none
  else none
  else none
  else none
  else none
set_option maxRecDepth 20000 in
theorem k_233 : Cond.fieldLink R_Mo 112 (T_Mo 24).1 (T_Mo 24).2.1 (T_Mo 24).2.2.1 ∈ TT := tt_i 570 (by decide +kernel) (by decide +kernel)
set_option maxRecDepth 20000 in
theorem k_234 : Cond.methodLink R_Mo 116 y_Mo_lay ∈ TT := tt_i 717 (by decide +kernel) (by decide +kernel)
set_option maxRecDepth 20000 in
theorem k_235 : Cond.code y_Mo_lay b_Mo_lay 4 none ∈ TT := tt_i 720 (by decide +kernel) (by decide +kernel)
set_option maxRecDepth 20000 in
theorem k_236 : Cond.instanceMethod y_Mo_lay ∈ TT := tt_i 719 (by decide +kernel) (by decide +kernel)
set_option maxRecDepth 20000 in
theorem k_237 : Cond.selects R_Mo y_Mo_lay y_Mo_lay ∈ TT := tt_i 14 (by decide +kernel) (by decide +kernel)
abbrev rm_Mo_join : Room := { frames := 1, cells := 0, slots := 0, locals := 23 }
set_option maxRecDepth 100000 in
set_option maxHeartbeats 4000000 in
theorem w_Mo_join_127 {p : Program} {l : Launch} {e : Env} {s : State} {m : MethodId} {args : Array Value} {below : List Frame} {meth : Method} {c : Code} {Q : State → Prop} {D : va_G} {ct : Nat → ClassId} {A : Nat → Prop} {ad : Nat → Nat} {S : nH} (hC : nC p s m args c D vwCl ct A ad S 10 b_Mo_join R_Mo TT) (k0 : Nat) (hp0 : isM S k0) (x1 : Int) (hx1 : rg x1) (x2 : Int) (hx2 : rg x2) (x3 : Int) (x5 : Int) (hx5 : rg x5) (x6 : Int) (hx6 : rg x6) (x7 : Int) (hx7 : rg x7) (x8 : Int) (hx8 : rg x8) : ∀ (f : Nat) (x9 : Int) (N : nS) (q : Int) (No : nS), m_Mo_join_127 k0 x1 x2 x3 x5 x6 x7 x8 f x9 N = some (q, No) → rg x9 → nV p l e rm_Mo_join s m args below meth c 0 0 Q D vwCl ct A ad S 10 No 158 [(0, .ref (ad k0)), (1, .int (iI x1)), (2, .int (iI x2)), (3, .long (lI x3)), (5, .int (iI x5)), (6, .int (iI x6)), (7, .int (iI x7)), (8, .int (iI x8)), (9, .int (iI q))] [] → nV p l e rm_Mo_join s m args below meth c 0 0 Q D vwCl ct A ad S 10 N 127 [(0, .ref (ad k0)), (1, .int (iI x1)), (2, .int (iI x2)), (3, .long (lI x3)), (5, .int (iI x5)), (6, .int (iI x6)), (7, .int (iI x7)), (8, .int (iI x8)), (9, .int (iI x9))] [] := by
  intro f
  induction f with
  | zero =>
    intro x9 N q No hm
    rw [m_Mo_join_127] at hm
    cases hm
  | succ f ih =>
    intro x9 N q No hm hx9 kx
    rw [m_Mo_join_127] at hm
    refine nv_iload hC d_Mo_join_127 8 rfl ?_
    refine nv_iload hC d_Mo_join_129 5 rfl ?_
    refine nv_icmp_ge hC hx9 hx6 d_Mo_join_131 (tgt := 158) (by decide) (fun c24 => ?_) (fun c24 => ?_)
    · have hm := if_t c24 hm
      obtain ⟨rfl, rfl⟩ := ret_s hm
      refine nv_sub (lv' := [(0, .ref (ad k0)), (1, .int (iI x1)), (2, .int (iI x2)), (3, .long (lI x3)), (5, .int (iI x5)), (6, .int (iI x6)), (7, .int (iI x7)), (8, .int (iI x8)), (9, .int (iI x9))]) [0, 1, 2, 3, 4, 5, 6, 7, 8] rfl ?_
      exact kx
    · have hm := if_f c24 hm
      refine nv_aload_n hC d_Mo_join_134 rfl 0 rfl ?_
      refine nv_aload_n hC d_Mo_join_135 rfl 0 rfl ?_
      refine nv_getR hC (j := 29) hp0.1 rfl in_Mo (by decide) k_231 rfl d_Mo_join_136 ?_
      refine nv_iload hC d_Mo_join_139 8 rfl ?_
      obtain ⟨hc25, hm⟩ := ck_s hm
      refine nv_iald hC (isM_19 hp0) (by decide) hc25 d_Mo_join_141 ?_
      refine nv_aload_n hC d_Mo_join_142 rfl 0 rfl ?_
      refine nv_getR hC (j := 30) hp0.1 rfl in_Mo (by decide) k_232 rfl d_Mo_join_143 ?_
      refine nv_iload hC d_Mo_join_146 8 rfl ?_
      refine nv_iald hC (isM_20 hp0) (by decide) hc25 d_Mo_join_148 ?_
      obtain ⟨hr26, hm⟩ := ck_s hm
      obtain ⟨hr27, hm⟩ := ck_s hm
      obtain ⟨r28, N29, hq30, hm⟩ := nbd_s hm
      refine nv_callv (N' := N29) (nr_V hC (As := [.int (iI (N (k0 + 19) (Int.toNat x9))), .int (iI (N (k0 + 20) (Int.toNat x9)))]) (st := []) hp0.1 rfl (c_Mo_lay l hC.2.2.1 k0 hp0 (N (k0 + 19) (Int.toNat x9)) hr26 (N (k0 + 20) (Int.toNat x9)) hr27 N r28 N29 hq30) (cwV 2 hC.1.2.2.2.2 (tt_V k_234 k_236 k_237 k_229 k_235) rfl rfl rfl (by decide +kernel) ⟨Nat.le_of_ble_eq_true rfl, Nat.le_of_ble_eq_true rfl⟩) rfl rfl (Nat.le_of_ble_eq_true rfl) ⟨(Nat.le_of_ble_eq_true rfl), (Nat.le_of_ble_eq_true rfl)⟩ d_Mo_join_149) ?_
      refine nv_iinc (lv' := [(9, .int (iI (x9 + 1))), (0, .ref (ad k0)), (1, .int (iI x1)), (2, .int (iI x2)), (3, .long (lI x3)), (5, .int (iI x5)), (6, .int (iI x6)), (7, .int (iI x7)), (8, .int (iI x8))]) hC d_Mo_join_152 8 rfl (by decide) rfl ?_
      refine nv_goto hC d_Mo_join_155 (tgt := 127) (by decide) ?_
      obtain ⟨hr31, hm⟩ := ck_s hm
      refine nv_sub (lv' := [(0, .ref (ad k0)), (1, .int (iI x1)), (2, .int (iI x2)), (3, .long (lI x3)), (5, .int (iI x5)), (6, .int (iI x6)), (7, .int (iI x7)), (8, .int (iI x8)), (9, .int (iI (x9 + 1)))]) [1, 2, 3, 4, 5, 6, 7, 8, 0] rfl ?_
      exact ih (x9 + 1) N29 q No hm hr31 kx
set_option maxRecDepth 100000 in
set_option maxHeartbeats 4000000 in
theorem c_Mo_join (l : Launch) {D : va_G} {ct : Nat → ClassId} {A : Nat → Prop} {ad : Nat → Nat} {S : nH} (hD : nD ad A S.length) (k0 : Nat) (hp0 : isM S k0) (x1 : Int) (hx1 : rg x1) (N : nS) (r : Int) (No : nS) (hm : m_Mo_join k0 x1 N = some (r, No)) : nM l y_Mo_join (Cond.code y_Mo_join b_Mo_join 10 none :: TT) rm_Mo_join D vwCl ct A ad S N [.ref (ad k0), .int (iI x1)] (nQv D vwCl ct A ad S No) := by
  refine nM_of (cc := b_Mo_join) (maxL := 10) (ret := none) (by decide) rfl (Nat.le_of_ble_eq_true rfl) hD ?_
  intro p e s m below meth c hC hr hlk
  refine nv_lv (lv' := [(0, .ref (ad k0)), (1, .int (iI x1))]) rfl ?_
  rw [m_Mo_join] at hm
  refine nv_aload_n hC d_Mo_join_0 rfl 0 rfl ?_
  refine nv_getR hC (j := 29) hp0.1 rfl in_Mo (by decide) k_231 rfl d_Mo_join_1 ?_
  refine nv_iload_n hC d_Mo_join_4 rfl 1 rfl ?_
  obtain ⟨hc1, hm⟩ := ck_s hm
  refine nv_iald hC (isM_19 hp0) (by decide) hc1 d_Mo_join_5 ?_
  refine nv_aload_n hC d_Mo_join_6 rfl 0 rfl ?_
  refine nv_getR hC (j := 29) hp0.1 rfl in_Mo (by decide) k_231 rfl d_Mo_join_7 ?_
  refine nv_iload_n hC d_Mo_join_10 rfl 1 rfl ?_
  refine nv_iconst hC d_Mo_join_11 ?_
  refine nv_iadd hC d_Mo_join_12 ?_
  obtain ⟨hc2, hm⟩ := ck_s hm
  refine nv_iald hC (isM_19 hp0) (by decide) hc2 d_Mo_join_13 ?_
  refine nv_iadd hC d_Mo_join_14 ?_
  refine nv_istore_n (lv' := [(2, .int (iI ((N (k0 + 19) (Int.toNat x1)) + (N (k0 + 19) (Int.toNat (x1 + 1)))))), (0, .ref (ad k0)), (1, .int (iI x1))]) hC d_Mo_join_15 rfl (by decide) rfl ?_
  refine nv_aload_n hC d_Mo_join_16 rfl 1 rfl ?_
  refine nv_getR hC (j := 29) hp0.1 rfl in_Mo (by decide) k_231 rfl d_Mo_join_17 ?_
  refine nv_iload_n hC d_Mo_join_20 rfl 2 rfl ?_
  refine nv_iald hC (isM_19 hp0) (by decide) hc1 d_Mo_join_21 ?_
  obtain ⟨hr3, hm⟩ := ck_s hm
  refine nv_i2l hC d_Mo_join_22 hr3 ?_
  refine nv_aload_n hC d_Mo_join_23 rfl 1 rfl ?_
  refine nv_getR hC (j := 30) hp0.1 rfl in_Mo (by decide) k_232 rfl d_Mo_join_24 ?_
  refine nv_iload_n hC d_Mo_join_27 rfl 2 rfl ?_
  refine nv_iald hC (isM_20 hp0) (by decide) hc1 d_Mo_join_28 ?_
  obtain ⟨hr4, hm⟩ := ck_s hm
  refine nv_i2l hC d_Mo_join_29 hr4 ?_
  refine nv_lmul hC d_Mo_join_30 ?_
  refine nv_aload_n hC d_Mo_join_31 rfl 1 rfl ?_
  refine nv_getR hC (j := 29) hp0.1 rfl in_Mo (by decide) k_231 rfl d_Mo_join_32 ?_
  refine nv_iload_n hC d_Mo_join_35 rfl 2 rfl ?_
  refine nv_iconst hC d_Mo_join_36 ?_
  refine nv_iadd hC d_Mo_join_37 ?_
  refine nv_iald hC (isM_19 hp0) (by decide) hc2 d_Mo_join_38 ?_
  obtain ⟨hr5, hm⟩ := ck_s hm
  refine nv_i2l hC d_Mo_join_39 hr5 ?_
  refine nv_aload_n hC d_Mo_join_40 rfl 1 rfl ?_
  refine nv_getR hC (j := 30) hp0.1 rfl in_Mo (by decide) k_232 rfl d_Mo_join_41 ?_
  refine nv_iload_n hC d_Mo_join_44 rfl 2 rfl ?_
  refine nv_iconst hC d_Mo_join_45 ?_
  refine nv_iadd hC d_Mo_join_46 ?_
  refine nv_iald hC (isM_20 hp0) (by decide) hc2 d_Mo_join_47 ?_
  obtain ⟨hr6, hm⟩ := ck_s hm
  refine nv_i2l hC d_Mo_join_48 hr6 ?_
  refine nv_lmul hC d_Mo_join_49 ?_
  refine nv_ladd hC d_Mo_join_50 ?_
  refine nv_lstore_n (lv' := [(3, .long (lI (((N (k0 + 19) (Int.toNat x1)) * (N (k0 + 20) (Int.toNat x1))) + ((N (k0 + 19) (Int.toNat (x1 + 1))) * (N (k0 + 20) (Int.toNat (x1 + 1))))))), (2, .int (iI ((N (k0 + 19) (Int.toNat x1)) + (N (k0 + 19) (Int.toNat (x1 + 1)))))), (0, .ref (ad k0)), (1, .int (iI x1))]) hC d_Mo_join_51 rfl (by decide) rfl ?_
  refine nv_lload_n hC d_Mo_join_52 rfl 0 rfl ?_
  refine nv_iload_n hC d_Mo_join_53 rfl 1 rfl ?_
  obtain ⟨hr7, hm⟩ := ck_s hm
  refine nv_i2l hC d_Mo_join_54 hr7 ?_
  obtain ⟨hc8, hm⟩ := ck_s hm
  obtain ⟨hc9, hm⟩ := ck_s hm
  obtain ⟨hc10, hm⟩ := ck_s hm
  refine nv_ldiv hC d_Mo_join_55 hc8 hc9 hc10 ?_
  refine nv_l2i hC d_Mo_join_56 ?_
  refine nv_istore (lv' := [(5, .int (iI (Int.tdiv (((N (k0 + 19) (Int.toNat x1)) * (N (k0 + 20) (Int.toNat x1))) + ((N (k0 + 19) (Int.toNat (x1 + 1))) * (N (k0 + 20) (Int.toNat (x1 + 1))))) ((N (k0 + 19) (Int.toNat x1)) + (N (k0 + 19) (Int.toNat (x1 + 1))))))), (3, .long (lI (((N (k0 + 19) (Int.toNat x1)) * (N (k0 + 20) (Int.toNat x1))) + ((N (k0 + 19) (Int.toNat (x1 + 1))) * (N (k0 + 20) (Int.toNat (x1 + 1))))))), (2, .int (iI ((N (k0 + 19) (Int.toNat x1)) + (N (k0 + 19) (Int.toNat (x1 + 1)))))), (0, .ref (ad k0)), (1, .int (iI x1))]) hC d_Mo_join_57 (by decide) rfl ?_
  refine nv_aload_n hC d_Mo_join_59 rfl 3 rfl ?_
  refine nv_dup hC d_Mo_join_60 rfl ?_
  refine nv_getJ hC (j := 24) hp0.1 rfl in_Mo (by decide) k_233 rfl d_Mo_join_61 ?_
  refine nv_lload_n hC d_Mo_join_64 rfl 1 rfl ?_
  refine nv_iload_n hC d_Mo_join_65 rfl 2 rfl ?_
  refine nv_i2l hC d_Mo_join_66 hr7 ?_
  refine nv_iload hC d_Mo_join_67 0 rfl ?_
  obtain ⟨hr11, hm⟩ := ck_s hm
  refine nv_i2l hC d_Mo_join_69 hr11 ?_
  refine nv_lmul hC d_Mo_join_70 ?_
  refine nv_lsub hC d_Mo_join_71 ?_
  refine nv_ladd hC d_Mo_join_72 ?_
  obtain ⟨N12, e13, hm⟩ := nlt_s hm
  refine nv_putJ hC (j := 24) hp0.1 rfl in_Mo (by decide) ty_Mo tyok_Mo nm_Mo k_233 rfl rfl (by decide +kernel) e13 d_Mo_join_73 ?_
  refine nv_aload_n hC d_Mo_join_76 rfl 3 rfl ?_
  refine nv_getR hC (j := 29) hp0.1 rfl in_Mo (by decide) k_231 rfl d_Mo_join_77 ?_
  refine nv_iload_n hC d_Mo_join_80 rfl 4 rfl ?_
  refine nv_iload_n hC d_Mo_join_81 rfl 2 rfl ?_
  obtain ⟨N14, e15, hm⟩ := nlt_s hm
  refine nv_iast hC (isM_19 hp0) (by decide) hc1 e15 d_Mo_join_82 ?_
  refine nv_aload_n hC d_Mo_join_83 rfl 3 rfl ?_
  refine nv_getR hC (j := 30) hp0.1 rfl in_Mo (by decide) k_232 rfl d_Mo_join_84 ?_
  refine nv_iload_n hC d_Mo_join_87 rfl 4 rfl ?_
  refine nv_iload hC d_Mo_join_88 0 rfl ?_
  obtain ⟨N16, e17, hm⟩ := nlt_s hm
  refine nv_iast hC (isM_20 hp0) (by decide) hc1 e17 d_Mo_join_90 ?_
  refine nv_aload_n hC d_Mo_join_91 rfl 3 rfl ?_
  refine nv_getI hC (j := 28) hp0.1 rfl in_Mo (by decide) k_230 rfl d_Mo_join_92 ?_
  refine nv_istore (lv' := [(6, .int (iI (N16 k0 28))), (5, .int (iI (Int.tdiv (((N (k0 + 19) (Int.toNat x1)) * (N (k0 + 20) (Int.toNat x1))) + ((N (k0 + 19) (Int.toNat (x1 + 1))) * (N (k0 + 20) (Int.toNat (x1 + 1))))) ((N (k0 + 19) (Int.toNat x1)) + (N (k0 + 19) (Int.toNat (x1 + 1))))))), (3, .long (lI (((N (k0 + 19) (Int.toNat x1)) * (N (k0 + 20) (Int.toNat x1))) + ((N (k0 + 19) (Int.toNat (x1 + 1))) * (N (k0 + 20) (Int.toNat (x1 + 1))))))), (2, .int (iI ((N (k0 + 19) (Int.toNat x1)) + (N (k0 + 19) (Int.toNat (x1 + 1)))))), (0, .ref (ad k0)), (1, .int (iI x1))]) hC d_Mo_join_95 (by decide) rfl ?_
  refine nv_iload_n hC d_Mo_join_97 rfl 5 rfl ?_
  refine nv_iconst hC d_Mo_join_98 ?_
  refine nv_iadd hC d_Mo_join_99 ?_
  refine nv_istore (lv' := [(7, .int (iI (x1 + 2))), (6, .int (iI (N16 k0 28))), (5, .int (iI (Int.tdiv (((N (k0 + 19) (Int.toNat x1)) * (N (k0 + 20) (Int.toNat x1))) + ((N (k0 + 19) (Int.toNat (x1 + 1))) * (N (k0 + 20) (Int.toNat (x1 + 1))))) ((N (k0 + 19) (Int.toNat x1)) + (N (k0 + 19) (Int.toNat (x1 + 1))))))), (3, .long (lI (((N (k0 + 19) (Int.toNat x1)) * (N (k0 + 20) (Int.toNat x1))) + ((N (k0 + 19) (Int.toNat (x1 + 1))) * (N (k0 + 20) (Int.toNat (x1 + 1))))))), (2, .int (iI ((N (k0 + 19) (Int.toNat x1)) + (N (k0 + 19) (Int.toNat (x1 + 1)))))), (0, .ref (ad k0)), (1, .int (iI x1))]) hC d_Mo_join_100 (by decide) rfl ?_
  refine nv_aload_n hC d_Mo_join_102 rfl 5 rfl ?_
  refine nv_getR hC (j := 29) hp0.1 rfl in_Mo (by decide) k_231 rfl d_Mo_join_103 ?_
  refine nv_iload_n hC d_Mo_join_106 rfl 6 rfl ?_
  refine nv_iald hC (isM_19 hp0) (by decide) hc1 d_Mo_join_107 ?_
  refine nv_istore (lv' := [(8, .int (iI (N16 (k0 + 19) (Int.toNat x1)))), (7, .int (iI (x1 + 2))), (6, .int (iI (N16 k0 28))), (5, .int (iI (Int.tdiv (((N (k0 + 19) (Int.toNat x1)) * (N (k0 + 20) (Int.toNat x1))) + ((N (k0 + 19) (Int.toNat (x1 + 1))) * (N (k0 + 20) (Int.toNat (x1 + 1))))) ((N (k0 + 19) (Int.toNat x1)) + (N (k0 + 19) (Int.toNat (x1 + 1))))))), (3, .long (lI (((N (k0 + 19) (Int.toNat x1)) * (N (k0 + 20) (Int.toNat x1))) + ((N (k0 + 19) (Int.toNat (x1 + 1))) * (N (k0 + 20) (Int.toNat (x1 + 1))))))), (2, .int (iI ((N (k0 + 19) (Int.toNat x1)) + (N (k0 + 19) (Int.toNat (x1 + 1)))))), (0, .ref (ad k0)), (1, .int (iI x1))]) hC d_Mo_join_108 (by decide) rfl ?_
  refine nv_aload_n hC d_Mo_join_110 rfl 6 rfl ?_
  refine nv_iload_n hC d_Mo_join_111 rfl 7 rfl ?_
  obtain ⟨N18, e19, hm⟩ := nlt_s hm
  refine nv_putI hC (j := 28) hp0.1 rfl in_Mo (by decide) ty_Mo tyok_Mo nm_Mo k_230 rfl rfl (by decide +kernel) e19 d_Mo_join_112 ?_
  refine nv_aload_n hC d_Mo_join_115 rfl 6 rfl ?_
  refine nv_iload hC d_Mo_join_116 0 rfl ?_
  refine nv_iload hC d_Mo_join_118 3 rfl ?_
  obtain ⟨hr20, hm⟩ := ck_s hm
  obtain ⟨r21, N22, hq23, hm⟩ := nbd_s hm
  refine nv_callv (N' := N22) (nr_V hC (As := [.int (iI (N16 (k0 + 19) (Int.toNat x1))), .int (iI (Int.tdiv (((N (k0 + 19) (Int.toNat x1)) * (N (k0 + 20) (Int.toNat x1))) + ((N (k0 + 19) (Int.toNat (x1 + 1))) * (N (k0 + 20) (Int.toNat (x1 + 1))))) ((N (k0 + 19) (Int.toNat x1)) + (N (k0 + 19) (Int.toNat (x1 + 1))))))]) (st := []) hp0.1 rfl (c_Mo_lay l hC.2.2.1 k0 hp0 (N16 (k0 + 19) (Int.toNat x1)) hr20 (Int.tdiv (((N (k0 + 19) (Int.toNat x1)) * (N (k0 + 20) (Int.toNat x1))) + ((N (k0 + 19) (Int.toNat (x1 + 1))) * (N (k0 + 20) (Int.toNat (x1 + 1))))) ((N (k0 + 19) (Int.toNat x1)) + (N (k0 + 19) (Int.toNat (x1 + 1))))) hr11 N18 r21 N22 hq23) (cwV 2 hC.1.2.2.2.2 (tt_V k_234 k_236 k_237 k_229 k_235) rfl rfl rfl (by decide +kernel) ⟨Nat.le_of_ble_eq_true rfl, Nat.le_of_ble_eq_true rfl⟩) rfl rfl (Nat.le_of_ble_eq_true rfl) ⟨(Nat.le_of_ble_eq_true rfl), (Nat.le_of_ble_eq_true rfl)⟩ d_Mo_join_120) ?_
  refine nv_iload hC d_Mo_join_123 1 rfl ?_
  refine nv_istore (lv' := [(9, .int (iI (x1 + 2))), (8, .int (iI (N16 (k0 + 19) (Int.toNat x1)))), (7, .int (iI (x1 + 2))), (6, .int (iI (N16 k0 28))), (5, .int (iI (Int.tdiv (((N (k0 + 19) (Int.toNat x1)) * (N (k0 + 20) (Int.toNat x1))) + ((N (k0 + 19) (Int.toNat (x1 + 1))) * (N (k0 + 20) (Int.toNat (x1 + 1))))) ((N (k0 + 19) (Int.toNat x1)) + (N (k0 + 19) (Int.toNat (x1 + 1))))))), (3, .long (lI (((N (k0 + 19) (Int.toNat x1)) * (N (k0 + 20) (Int.toNat x1))) + ((N (k0 + 19) (Int.toNat (x1 + 1))) * (N (k0 + 20) (Int.toNat (x1 + 1))))))), (2, .int (iI ((N (k0 + 19) (Int.toNat x1)) + (N (k0 + 19) (Int.toNat (x1 + 1)))))), (0, .ref (ad k0)), (1, .int (iI x1))]) hC d_Mo_join_125 (by decide) rfl ?_
  obtain ⟨hr32, hm⟩ := ck_s hm
  obtain ⟨hr33, hm⟩ := ck_s hm
  obtain ⟨q34, N35, hq36, hm⟩ := nbd_s hm
  refine nv_sub (lv' := [(0, .ref (ad k0)), (1, .int (iI x1)), (2, .int (iI ((N (k0 + 19) (Int.toNat x1)) + (N (k0 + 19) (Int.toNat (x1 + 1)))))), (3, .long (lI (((N (k0 + 19) (Int.toNat x1)) * (N (k0 + 20) (Int.toNat x1))) + ((N (k0 + 19) (Int.toNat (x1 + 1))) * (N (k0 + 20) (Int.toNat (x1 + 1))))))), (5, .int (iI (Int.tdiv (((N (k0 + 19) (Int.toNat x1)) * (N (k0 + 20) (Int.toNat x1))) + ((N (k0 + 19) (Int.toNat (x1 + 1))) * (N (k0 + 20) (Int.toNat (x1 + 1))))) ((N (k0 + 19) (Int.toNat x1)) + (N (k0 + 19) (Int.toNat (x1 + 1))))))), (6, .int (iI (N16 k0 28))), (7, .int (iI (x1 + 2))), (8, .int (iI (N16 (k0 + 19) (Int.toNat x1)))), (9, .int (iI (x1 + 2)))]) [7, 8, 6, 5, 4, 3, 2, 1, 0] rfl ?_
  refine w_Mo_join_127 hC k0 hp0 x1 hx1 ((N (k0 + 19) (Int.toNat x1)) + (N (k0 + 19) (Int.toNat (x1 + 1)))) hr7 (((N (k0 + 19) (Int.toNat x1)) * (N (k0 + 20) (Int.toNat x1))) + ((N (k0 + 19) (Int.toNat (x1 + 1))) * (N (k0 + 20) (Int.toNat (x1 + 1))))) (Int.tdiv (((N (k0 + 19) (Int.toNat x1)) * (N (k0 + 20) (Int.toNat x1))) + ((N (k0 + 19) (Int.toNat (x1 + 1))) * (N (k0 + 20) (Int.toNat (x1 + 1))))) ((N (k0 + 19) (Int.toNat x1)) + (N (k0 + 19) (Int.toNat (x1 + 1))))) hr11 (N16 k0 28) hr32 (x1 + 2) hr33 (N16 (k0 + 19) (Int.toNat x1)) hr20 FU (x1 + 2) N22 q34 N35 hq36 hr33 ?_
  obtain ⟨rfl, rfl⟩ := ret_s hm
  exact nv_vret hC hr hlk d_Mo_join_158
def m_Mo_joinTillFew_17 (k0 : Nat) : Nat → Int → Int → Int → nS → Option ((Int × Int × Int) × nS)
  | 0, _, _, _, _ => none
  | f + 1, x1, x2, x3, N =>
    if rg (x3 + 1) then
    if rg (N k0 28) then
    if (N k0 28) ≤ (x3 + 1) then
    some ((x1, x2, x3), N)
    else
    if 0 ≤ x3 ∧ x3 < ((160 : Nat) : Int) then
    if 0 ≤ (x3 + 1) ∧ (x3 + 1) < ((160 : Nat) : Int) then
    if rg (N (k0 + 20) (Int.toNat x3)) then
    if rg (N (k0 + 20) (Int.toNat (x3 + 1))) then
    if (N (k0 + 20) (Int.toNat x3)) ≤ (N (k0 + 20) (Int.toNat (x3 + 1))) then
    if rg ((N (k0 + 20) (Int.toNat (x3 + 1))) - (N (k0 + 20) (Int.toNat x3))) then
    if x2 ≤ ((N (k0 + 20) (Int.toNat (x3 + 1))) - (N (k0 + 20) (Int.toNat x3))) then
    m_Mo_joinTillFew_17 k0 f x1 x2 (x3 + 1) N
    else
    m_Mo_joinTillFew_17 k0 f x3 ((N (k0 + 20) (Int.toNat (x3 + 1))) - (N (k0 + 20) (Int.toNat x3))) (x3 + 1) N
    else none
    else
    if rg ((N (k0 + 20) (Int.toNat x3)) - (N (k0 + 20) (Int.toNat (x3 + 1)))) then
    if x2 ≤ ((N (k0 + 20) (Int.toNat x3)) - (N (k0 + 20) (Int.toNat (x3 + 1)))) then
    m_Mo_joinTillFew_17 k0 f x1 x2 (x3 + 1) N
    else
    m_Mo_joinTillFew_17 k0 f x3 ((N (k0 + 20) (Int.toNat x3)) - (N (k0 + 20) (Int.toNat (x3 + 1)))) (x3 + 1) N
    else none
    else none
    else none
    else none
    else none
    else none
    else none
def m_Mo_joinTillFew_0 (k0 : Nat) : Nat → nS → Option ((Int) × nS)
  | 0, _ => none
  | f + 1, N =>
    if rg (N k0 28) then
    if (N k0 28) ≤ 12 then
    some (0, N)
    else
    nbd (m_Mo_joinTillFew_17 k0 FU 0 20000 0 N) (fun q19 N20 =>
    if rg q19.1 then
    nbd (m_Mo_join k0 q19.1 N20) (fun r23 N24 =>
    m_Mo_joinTillFew_0 k0 f  N24)
    else none)
    else none
def m_Mo_joinTillFew (k0 : Nat) (N : nS) : Option (Int × nS) :=
  nbd (m_Mo_joinTillFew_0 k0 FU  N) (fun q26 N27 =>
  some (0, N27))
set_option maxRecDepth 20000 in
theorem k_238 : Cond.methodLink R_Mo 120 y_Mo_join ∈ TT := tt_i 725 (by decide +kernel) (by decide +kernel)
set_option maxRecDepth 20000 in
theorem k_239 : Cond.code y_Mo_join b_Mo_join 10 none ∈ TT := tt_i 728 (by decide +kernel) (by decide +kernel)
set_option maxRecDepth 20000 in
theorem k_240 : Cond.instanceMethod y_Mo_join ∈ TT := tt_i 727 (by decide +kernel) (by decide +kernel)
set_option maxRecDepth 20000 in
theorem k_241 : Cond.selects R_Mo y_Mo_join y_Mo_join ∈ TT := tt_i 16 (by decide +kernel) (by decide +kernel)
abbrev rm_Mo_joinTillFew : Room := { frames := 2, cells := 0, slots := 0, locals := 52 }
set_option maxRecDepth 100000 in
set_option maxHeartbeats 4000000 in
theorem w_Mo_joinTillFew_17 {p : Program} {l : Launch} {e : Env} {s : State} {m : MethodId} {args : Array Value} {below : List Frame} {meth : Method} {c : Code} {Q : State → Prop} {D : va_G} {ct : Nat → ClassId} {A : Nat → Prop} {ad : Nat → Nat} {S : nH} (hC : nC p s m args c D vwCl ct A ad S 5 b_Mo_joinTillFew R_Mo TT) (k0 : Nat) (hp0 : isM S k0) : ∀ (f : Nat) (x1 x2 x3 : Int) (N : nS) (q : Int × Int × Int) (No : nS), m_Mo_joinTillFew_17 k0 f x1 x2 x3 N = some (q, No) → rg x1 → rg x2 → rg x3 → nV p l e rm_Mo_joinTillFew s m args below meth c 0 0 Q D vwCl ct A ad S 5 No 110 [(0, .ref (ad k0)), (1, .int (iI q.1)), (2, .int (iI q.2.1)), (3, .int (iI q.2.2))] [] → nV p l e rm_Mo_joinTillFew s m args below meth c 0 0 Q D vwCl ct A ad S 5 N 17 [(0, .ref (ad k0)), (1, .int (iI x1)), (2, .int (iI x2)), (3, .int (iI x3))] [] := by
  intro f
  induction f with
  | zero =>
    intro x1 x2 x3 N q No hm
    rw [m_Mo_joinTillFew_17] at hm
    cases hm
  | succ f ih =>
    intro x1 x2 x3 N q No hm hx1 hx2 hx3 kx
    rw [m_Mo_joinTillFew_17] at hm
    refine nv_iload_n hC d_Mo_joinTillFew_17 rfl 3 rfl ?_
    refine nv_iconst hC d_Mo_joinTillFew_18 ?_
    refine nv_iadd hC d_Mo_joinTillFew_19 ?_
    refine nv_aload_n hC d_Mo_joinTillFew_20 rfl 0 rfl ?_
    refine nv_getI hC (j := 28) hp0.1 rfl in_Mo (by decide) k_230 rfl d_Mo_joinTillFew_21 ?_
    obtain ⟨hr3, hm⟩ := ck_s hm
    obtain ⟨hr4, hm⟩ := ck_s hm
    refine nv_icmp_ge hC hr3 hr4 d_Mo_joinTillFew_24 (tgt := 110) (by decide) (fun c5 => ?_) (fun c5 => ?_)
    · have hm := if_t c5 hm
      obtain ⟨rfl, rfl⟩ := ret_s hm
      refine nv_sub (lv' := [(0, .ref (ad k0)), (1, .int (iI x1)), (2, .int (iI x2)), (3, .int (iI x3))]) [0, 1, 2, 3] rfl ?_
      exact kx
    · have hm := if_f c5 hm
      refine nv_aload_n hC d_Mo_joinTillFew_27 rfl 0 rfl ?_
      refine nv_getR hC (j := 30) hp0.1 rfl in_Mo (by decide) k_232 rfl d_Mo_joinTillFew_28 ?_
      refine nv_iload_n hC d_Mo_joinTillFew_31 rfl 3 rfl ?_
      obtain ⟨hc6, hm⟩ := ck_s hm
      refine nv_iald hC (isM_20 hp0) (by decide) hc6 d_Mo_joinTillFew_32 ?_
      refine nv_aload_n hC d_Mo_joinTillFew_33 rfl 0 rfl ?_
      refine nv_getR hC (j := 30) hp0.1 rfl in_Mo (by decide) k_232 rfl d_Mo_joinTillFew_34 ?_
      refine nv_iload_n hC d_Mo_joinTillFew_37 rfl 3 rfl ?_
      refine nv_iconst hC d_Mo_joinTillFew_38 ?_
      refine nv_iadd hC d_Mo_joinTillFew_39 ?_
      obtain ⟨hc7, hm⟩ := ck_s hm
      refine nv_iald hC (isM_20 hp0) (by decide) hc7 d_Mo_joinTillFew_40 ?_
      obtain ⟨hr8, hm⟩ := ck_s hm
      obtain ⟨hr9, hm⟩ := ck_s hm
      refine nv_icmp_le hC hr8 hr9 d_Mo_joinTillFew_41 (tgt := 62) (by decide) (fun c10 => ?_) (fun c10 => ?_)
      · have hm := if_t c10 hm
        refine nv_aload_n hC d_Mo_joinTillFew_62 rfl 0 rfl ?_
        refine nv_getR hC (j := 30) hp0.1 rfl in_Mo (by decide) k_232 rfl d_Mo_joinTillFew_63 ?_
        refine nv_iload_n hC d_Mo_joinTillFew_66 rfl 3 rfl ?_
        refine nv_iconst hC d_Mo_joinTillFew_67 ?_
        refine nv_iadd hC d_Mo_joinTillFew_68 ?_
        refine nv_iald hC (isM_20 hp0) (by decide) hc7 d_Mo_joinTillFew_69 ?_
        refine nv_aload_n hC d_Mo_joinTillFew_70 rfl 0 rfl ?_
        refine nv_getR hC (j := 30) hp0.1 rfl in_Mo (by decide) k_232 rfl d_Mo_joinTillFew_71 ?_
        refine nv_iload_n hC d_Mo_joinTillFew_74 rfl 3 rfl ?_
        refine nv_iald hC (isM_20 hp0) (by decide) hc6 d_Mo_joinTillFew_75 ?_
        refine nv_isub hC d_Mo_joinTillFew_76 ?_
        refine nv_istore (lv' := [(4, .int (iI ((N (k0 + 20) (Int.toNat (x3 + 1))) - (N (k0 + 20) (Int.toNat x3))))), (0, .ref (ad k0)), (1, .int (iI x1)), (2, .int (iI x2)), (3, .int (iI x3))]) hC d_Mo_joinTillFew_77 (by decide) rfl ?_
        refine nv_iload hC d_Mo_joinTillFew_79 0 rfl ?_
        refine nv_iload_n hC d_Mo_joinTillFew_81 rfl 3 rfl ?_
        obtain ⟨hr11, hm⟩ := ck_s hm
        refine nv_icmp_ge hC hr11 hx2 d_Mo_joinTillFew_82 (tgt := 89) (by decide) (fun c12 => ?_) (fun c12 => ?_)
        · have hm := if_t c12 hm
          refine nv_iload_n hC d_Mo_joinTillFew_89 rfl 2 rfl ?_
          refine nv_istore_n (lv' := [(1, .int (iI x1)), (4, .int (iI ((N (k0 + 20) (Int.toNat (x3 + 1))) - (N (k0 + 20) (Int.toNat x3))))), (0, .ref (ad k0)), (2, .int (iI x2)), (3, .int (iI x3))]) hC d_Mo_joinTillFew_90 rfl (by decide) rfl ?_
          refine nv_iload hC d_Mo_joinTillFew_91 1 rfl ?_
          refine nv_iload_n hC d_Mo_joinTillFew_93 rfl 3 rfl ?_
          refine nv_icmp_ge hC hr11 hx2 d_Mo_joinTillFew_94 (tgt := 102) (by decide) (fun _ => ?_) (fun h9 => absurd c12 h9)
          refine nv_iload_n hC d_Mo_joinTillFew_102 rfl 3 rfl ?_
          refine nv_istore_n (lv' := [(2, .int (iI x2)), (1, .int (iI x1)), (4, .int (iI ((N (k0 + 20) (Int.toNat (x3 + 1))) - (N (k0 + 20) (Int.toNat x3))))), (0, .ref (ad k0)), (3, .int (iI x3))]) hC d_Mo_joinTillFew_103 rfl (by decide) rfl ?_
          refine nv_iinc (lv' := [(3, .int (iI (x3 + 1))), (2, .int (iI x2)), (1, .int (iI x1)), (4, .int (iI ((N (k0 + 20) (Int.toNat (x3 + 1))) - (N (k0 + 20) (Int.toNat x3))))), (0, .ref (ad k0))]) hC d_Mo_joinTillFew_104 4 rfl (by decide) rfl ?_
          refine nv_goto hC d_Mo_joinTillFew_107 (tgt := 17) (by decide) ?_
          refine nv_sub (lv' := [(0, .ref (ad k0)), (1, .int (iI x1)), (2, .int (iI x2)), (3, .int (iI (x3 + 1)))]) [4, 2, 1, 0] rfl ?_
          exact ih x1 x2 (x3 + 1) N q No hm hx1 hx2 hr3 kx
        · have hm := if_f c12 hm
          refine nv_iload_n hC d_Mo_joinTillFew_85 rfl 4 rfl ?_
          refine nv_goto hC d_Mo_joinTillFew_86 (tgt := 90) (by decide) ?_
          refine nv_istore_n (lv' := [(1, .int (iI x3)), (4, .int (iI ((N (k0 + 20) (Int.toNat (x3 + 1))) - (N (k0 + 20) (Int.toNat x3))))), (0, .ref (ad k0)), (2, .int (iI x2)), (3, .int (iI x3))]) hC d_Mo_joinTillFew_90 rfl (by decide) rfl ?_
          refine nv_iload hC d_Mo_joinTillFew_91 1 rfl ?_
          refine nv_iload_n hC d_Mo_joinTillFew_93 rfl 3 rfl ?_
          refine nv_icmp_ge hC hr11 hx2 d_Mo_joinTillFew_94 (tgt := 102) (by decide) (fun h9 => absurd h9 c12) (fun _ => ?_)
          refine nv_iload hC d_Mo_joinTillFew_97 1 rfl ?_
          refine nv_goto hC d_Mo_joinTillFew_99 (tgt := 103) (by decide) ?_
          refine nv_istore_n (lv' := [(2, .int (iI ((N (k0 + 20) (Int.toNat (x3 + 1))) - (N (k0 + 20) (Int.toNat x3))))), (1, .int (iI x3)), (4, .int (iI ((N (k0 + 20) (Int.toNat (x3 + 1))) - (N (k0 + 20) (Int.toNat x3))))), (0, .ref (ad k0)), (3, .int (iI x3))]) hC d_Mo_joinTillFew_103 rfl (by decide) rfl ?_
          refine nv_iinc (lv' := [(3, .int (iI (x3 + 1))), (2, .int (iI ((N (k0 + 20) (Int.toNat (x3 + 1))) - (N (k0 + 20) (Int.toNat x3))))), (1, .int (iI x3)), (4, .int (iI ((N (k0 + 20) (Int.toNat (x3 + 1))) - (N (k0 + 20) (Int.toNat x3))))), (0, .ref (ad k0))]) hC d_Mo_joinTillFew_104 4 rfl (by decide) rfl ?_
          refine nv_goto hC d_Mo_joinTillFew_107 (tgt := 17) (by decide) ?_
          refine nv_sub (lv' := [(0, .ref (ad k0)), (1, .int (iI x3)), (2, .int (iI ((N (k0 + 20) (Int.toNat (x3 + 1))) - (N (k0 + 20) (Int.toNat x3))))), (3, .int (iI (x3 + 1)))]) [4, 2, 1, 0] rfl ?_
          exact ih x3 ((N (k0 + 20) (Int.toNat (x3 + 1))) - (N (k0 + 20) (Int.toNat x3))) (x3 + 1) N q No hm hx3 hr11 hr3 kx
      · have hm := if_f c10 hm
        refine nv_aload_n hC d_Mo_joinTillFew_44 rfl 0 rfl ?_
        refine nv_getR hC (j := 30) hp0.1 rfl in_Mo (by decide) k_232 rfl d_Mo_joinTillFew_45 ?_
        refine nv_iload_n hC d_Mo_joinTillFew_48 rfl 3 rfl ?_
        refine nv_iald hC (isM_20 hp0) (by decide) hc6 d_Mo_joinTillFew_49 ?_
        refine nv_aload_n hC d_Mo_joinTillFew_50 rfl 0 rfl ?_
        refine nv_getR hC (j := 30) hp0.1 rfl in_Mo (by decide) k_232 rfl d_Mo_joinTillFew_51 ?_
        refine nv_iload_n hC d_Mo_joinTillFew_54 rfl 3 rfl ?_
        refine nv_iconst hC d_Mo_joinTillFew_55 ?_
        refine nv_iadd hC d_Mo_joinTillFew_56 ?_
        refine nv_iald hC (isM_20 hp0) (by decide) hc7 d_Mo_joinTillFew_57 ?_
        refine nv_isub hC d_Mo_joinTillFew_58 ?_
        refine nv_goto hC d_Mo_joinTillFew_59 (tgt := 77) (by decide) ?_
        refine nv_istore (lv' := [(4, .int (iI ((N (k0 + 20) (Int.toNat x3)) - (N (k0 + 20) (Int.toNat (x3 + 1)))))), (0, .ref (ad k0)), (1, .int (iI x1)), (2, .int (iI x2)), (3, .int (iI x3))]) hC d_Mo_joinTillFew_77 (by decide) rfl ?_
        refine nv_iload hC d_Mo_joinTillFew_79 0 rfl ?_
        refine nv_iload_n hC d_Mo_joinTillFew_81 rfl 3 rfl ?_
        obtain ⟨hr15, hm⟩ := ck_s hm
        refine nv_icmp_ge hC hr15 hx2 d_Mo_joinTillFew_82 (tgt := 89) (by decide) (fun c16 => ?_) (fun c16 => ?_)
        · have hm := if_t c16 hm
          refine nv_iload_n hC d_Mo_joinTillFew_89 rfl 2 rfl ?_
          refine nv_istore_n (lv' := [(1, .int (iI x1)), (4, .int (iI ((N (k0 + 20) (Int.toNat x3)) - (N (k0 + 20) (Int.toNat (x3 + 1)))))), (0, .ref (ad k0)), (2, .int (iI x2)), (3, .int (iI x3))]) hC d_Mo_joinTillFew_90 rfl (by decide) rfl ?_
          refine nv_iload hC d_Mo_joinTillFew_91 1 rfl ?_
          refine nv_iload_n hC d_Mo_joinTillFew_93 rfl 3 rfl ?_
          refine nv_icmp_ge hC hr15 hx2 d_Mo_joinTillFew_94 (tgt := 102) (by decide) (fun _ => ?_) (fun h9 => absurd c16 h9)
          refine nv_iload_n hC d_Mo_joinTillFew_102 rfl 3 rfl ?_
          refine nv_istore_n (lv' := [(2, .int (iI x2)), (1, .int (iI x1)), (4, .int (iI ((N (k0 + 20) (Int.toNat x3)) - (N (k0 + 20) (Int.toNat (x3 + 1)))))), (0, .ref (ad k0)), (3, .int (iI x3))]) hC d_Mo_joinTillFew_103 rfl (by decide) rfl ?_
          refine nv_iinc (lv' := [(3, .int (iI (x3 + 1))), (2, .int (iI x2)), (1, .int (iI x1)), (4, .int (iI ((N (k0 + 20) (Int.toNat x3)) - (N (k0 + 20) (Int.toNat (x3 + 1)))))), (0, .ref (ad k0))]) hC d_Mo_joinTillFew_104 4 rfl (by decide) rfl ?_
          refine nv_goto hC d_Mo_joinTillFew_107 (tgt := 17) (by decide) ?_
          refine nv_sub (lv' := [(0, .ref (ad k0)), (1, .int (iI x1)), (2, .int (iI x2)), (3, .int (iI (x3 + 1)))]) [4, 2, 1, 0] rfl ?_
          exact ih x1 x2 (x3 + 1) N q No hm hx1 hx2 hr3 kx
        · have hm := if_f c16 hm
          refine nv_iload_n hC d_Mo_joinTillFew_85 rfl 4 rfl ?_
          refine nv_goto hC d_Mo_joinTillFew_86 (tgt := 90) (by decide) ?_
          refine nv_istore_n (lv' := [(1, .int (iI x3)), (4, .int (iI ((N (k0 + 20) (Int.toNat x3)) - (N (k0 + 20) (Int.toNat (x3 + 1)))))), (0, .ref (ad k0)), (2, .int (iI x2)), (3, .int (iI x3))]) hC d_Mo_joinTillFew_90 rfl (by decide) rfl ?_
          refine nv_iload hC d_Mo_joinTillFew_91 1 rfl ?_
          refine nv_iload_n hC d_Mo_joinTillFew_93 rfl 3 rfl ?_
          refine nv_icmp_ge hC hr15 hx2 d_Mo_joinTillFew_94 (tgt := 102) (by decide) (fun h9 => absurd h9 c16) (fun _ => ?_)
          refine nv_iload hC d_Mo_joinTillFew_97 1 rfl ?_
          refine nv_goto hC d_Mo_joinTillFew_99 (tgt := 103) (by decide) ?_
          refine nv_istore_n (lv' := [(2, .int (iI ((N (k0 + 20) (Int.toNat x3)) - (N (k0 + 20) (Int.toNat (x3 + 1)))))), (1, .int (iI x3)), (4, .int (iI ((N (k0 + 20) (Int.toNat x3)) - (N (k0 + 20) (Int.toNat (x3 + 1)))))), (0, .ref (ad k0)), (3, .int (iI x3))]) hC d_Mo_joinTillFew_103 rfl (by decide) rfl ?_
          refine nv_iinc (lv' := [(3, .int (iI (x3 + 1))), (2, .int (iI ((N (k0 + 20) (Int.toNat x3)) - (N (k0 + 20) (Int.toNat (x3 + 1)))))), (1, .int (iI x3)), (4, .int (iI ((N (k0 + 20) (Int.toNat x3)) - (N (k0 + 20) (Int.toNat (x3 + 1)))))), (0, .ref (ad k0))]) hC d_Mo_joinTillFew_104 4 rfl (by decide) rfl ?_
          refine nv_goto hC d_Mo_joinTillFew_107 (tgt := 17) (by decide) ?_
          refine nv_sub (lv' := [(0, .ref (ad k0)), (1, .int (iI x3)), (2, .int (iI ((N (k0 + 20) (Int.toNat x3)) - (N (k0 + 20) (Int.toNat (x3 + 1)))))), (3, .int (iI (x3 + 1)))]) [4, 2, 1, 0] rfl ?_
          exact ih x3 ((N (k0 + 20) (Int.toNat x3)) - (N (k0 + 20) (Int.toNat (x3 + 1)))) (x3 + 1) N q No hm hx3 hr15 hr3 kx
set_option maxRecDepth 100000 in
set_option maxHeartbeats 4000000 in
theorem w_Mo_joinTillFew_0 {p : Program} {l : Launch} {e : Env} {s : State} {m : MethodId} {args : Array Value} {below : List Frame} {meth : Method} {c : Code} {Q : State → Prop} {D : va_G} {ct : Nat → ClassId} {A : Nat → Prop} {ad : Nat → Nat} {S : nH} (hC : nC p s m args c D vwCl ct A ad S 5 b_Mo_joinTillFew R_Mo TT) (k0 : Nat) (hp0 : isM S k0) : ∀ (f : Nat) (N : nS) (q : Int) (No : nS), m_Mo_joinTillFew_0 k0 f  N = some (q, No) → nV p l e rm_Mo_joinTillFew s m args below meth c 0 0 Q D vwCl ct A ad S 5 No 118 [(0, .ref (ad k0))] [] → nV p l e rm_Mo_joinTillFew s m args below meth c 0 0 Q D vwCl ct A ad S 5 N 0 [(0, .ref (ad k0))] [] := by
  intro f
  induction f with
  | zero =>
    intro  N q No hm
    rw [m_Mo_joinTillFew_0] at hm
    cases hm
  | succ f ih =>
    intro  N q No hm  kx
    rw [m_Mo_joinTillFew_0] at hm
    refine nv_aload_n hC d_Mo_joinTillFew_0 rfl 0 rfl ?_
    refine nv_getI hC (j := 28) hp0.1 rfl in_Mo (by decide) k_230 rfl d_Mo_joinTillFew_1 ?_
    refine nv_bipush hC (z := 12) d_Mo_joinTillFew_4 rfl ?_
    obtain ⟨hr1, hm⟩ := ck_s hm
    refine nv_icmp_le hC hr1 ⟨by decide, by decide⟩ d_Mo_joinTillFew_6 (tgt := 118) (by decide) (fun c2 => ?_) (fun c2 => ?_)
    · have hm := if_t c2 hm
      obtain ⟨rfl, rfl⟩ := ret_s hm
      refine nv_sub (lv' := [(0, .ref (ad k0))]) [0] rfl ?_
      exact kx
    · have hm := if_f c2 hm
      refine nv_iconst hC d_Mo_joinTillFew_9 ?_
      refine nv_istore_n (lv' := [(1, .int (iI 0)), (0, .ref (ad k0))]) hC d_Mo_joinTillFew_10 rfl (by decide) rfl ?_
      refine nv_sipush hC (z := 20000) d_Mo_joinTillFew_11 rfl ?_
      refine nv_istore_n (lv' := [(2, .int (iI 20000)), (1, .int (iI 0)), (0, .ref (ad k0))]) hC d_Mo_joinTillFew_14 rfl (by decide) rfl ?_
      refine nv_iconst hC d_Mo_joinTillFew_15 ?_
      refine nv_istore_n (lv' := [(3, .int (iI 0)), (2, .int (iI 20000)), (1, .int (iI 0)), (0, .ref (ad k0))]) hC d_Mo_joinTillFew_16 rfl (by decide) rfl ?_
      obtain ⟨q19, N20, hq21, hm⟩ := nbd_s hm
      refine nv_sub (lv' := [(0, .ref (ad k0)), (1, .int (iI 0)), (2, .int (iI 20000)), (3, .int (iI 0))]) [3, 2, 1, 0] rfl ?_
      refine w_Mo_joinTillFew_17 hC k0 hp0 FU 0 20000 0 N q19 N20 hq21 ⟨by decide, by decide⟩ ⟨by decide, by decide⟩ ⟨by decide, by decide⟩ ?_
      refine nv_aload_n hC d_Mo_joinTillFew_110 rfl 0 rfl ?_
      refine nv_iload_n hC d_Mo_joinTillFew_111 rfl 1 rfl ?_
      obtain ⟨hr22, hm⟩ := ck_s hm
      obtain ⟨r23, N24, hq25, hm⟩ := nbd_s hm
      refine nv_callv (N' := N24) (nr_V hC (As := [.int (iI q19.1)]) (st := []) hp0.1 rfl (c_Mo_join l hC.2.2.1 k0 hp0 q19.1 hr22 N20 r23 N24 hq25) (cwV 1 hC.1.2.2.2.2 (tt_V k_238 k_240 k_241 k_229 k_239) rfl rfl rfl (by decide +kernel) ⟨Nat.le_of_ble_eq_true rfl, Nat.le_of_ble_eq_true rfl⟩) rfl rfl (Nat.le_of_ble_eq_true rfl) ⟨(Nat.le_of_ble_eq_true rfl), (Nat.le_of_ble_eq_true rfl)⟩ d_Mo_joinTillFew_112) ?_
      refine nv_goto hC d_Mo_joinTillFew_115 (tgt := 0) (by decide) ?_
      refine nv_sub (lv' := [(0, .ref (ad k0))]) [0] rfl ?_
      exact ih  N24 q No hm  kx
set_option maxRecDepth 100000 in
set_option maxHeartbeats 4000000 in
theorem c_Mo_joinTillFew (l : Launch) {D : va_G} {ct : Nat → ClassId} {A : Nat → Prop} {ad : Nat → Nat} {S : nH} (hD : nD ad A S.length) (k0 : Nat) (hp0 : isM S k0) (N : nS) (r : Int) (No : nS) (hm : m_Mo_joinTillFew k0 N = some (r, No)) : nM l y_Mo_joinTillFew (Cond.code y_Mo_joinTillFew b_Mo_joinTillFew 5 none :: TT) rm_Mo_joinTillFew D vwCl ct A ad S N [.ref (ad k0)] (nQv D vwCl ct A ad S No) := by
  refine nM_of (cc := b_Mo_joinTillFew) (maxL := 5) (ret := none) (by decide) rfl (Nat.le_of_ble_eq_true rfl) hD ?_
  intro p e s m below meth c hC hr hlk
  refine nv_lv (lv' := [(0, .ref (ad k0))]) rfl ?_
  rw [m_Mo_joinTillFew] at hm
  obtain ⟨q26, N27, hq28, hm⟩ := nbd_s hm
  refine nv_sub (lv' := [(0, .ref (ad k0))]) [0] rfl ?_
  refine w_Mo_joinTillFew_0 hC k0 hp0 FU  N q26 N27 hq28  ?_
  obtain ⟨rfl, rfl⟩ := ret_s hm
  exact nv_vret hC hr hlk d_Mo_joinTillFew_118
def m_Mo_putBack_12 (k0 : Nat) (x1 : Int) : Nat → Int → nS → Option ((Int) × nS)
  | 0, _, _ => none
  | f + 1, x2, N =>
    if rg (N k0 28) then
    if (N k0 28) ≤ x2 then
    some (x2, N)
    else
    if 0 ≤ x2 ∧ x2 < ((160 : Nat) : Int) then
    if 0 ≤ ((12 * x1) + x2) ∧ ((12 * x1) + x2) < ((120 : Nat) : Int) then
    nlt (up2 N (k0 + 7) (Int.toNat ((12 * x1) + x2)) (N (k0 + 19) (Int.toNat x2))) (fun N8 =>
    nlt (up2 N8 (k0 + 8) (Int.toNat ((12 * x1) + x2)) (N8 (k0 + 20) (Int.toNat x2))) (fun N10 =>
    if rg (x2 + 1) then
    m_Mo_putBack_12 k0 x1 f (x2 + 1) N10
    else none))
    else none
    else none
    else none
def m_Mo_putBack (k0 : Nat) (x1 : Int) (N : nS) : Option (Int × nS) :=
  if 0 ≤ x1 ∧ x1 < ((10 : Nat) : Int) then
  nlt (up2 N (k0 + 6) (Int.toNat x1) (N k0 28)) (fun N2 =>
  nbd (m_Mo_putBack_12 k0 x1 FU 0 N2) (fun q13 N14 =>
  some (0, N14)))
  else none
set_option maxRecDepth 20000 in
theorem k_242 : Cond.fieldLink R_Mo 33 (T_Mo 10).1 (T_Mo 10).2.1 (T_Mo 10).2.2.1 ∈ TT := tt_i 556 (by decide +kernel) (by decide +kernel)
set_option maxRecDepth 20000 in
theorem k_243 : Cond.fieldLink R_Mo 36 (T_Mo 11).1 (T_Mo 11).2.1 (T_Mo 11).2.2.1 ∈ TT := tt_i 557 (by decide +kernel) (by decide +kernel)
set_option maxRecDepth 20000 in
theorem k_244 : Cond.fieldLink R_Mo 39 (T_Mo 12).1 (T_Mo 12).2.1 (T_Mo 12).2.2.1 ∈ TT := tt_i 558 (by decide +kernel) (by decide +kernel)
abbrev rm_Mo_putBack : Room := { frames := 0, cells := 0, slots := 0, locals := 0 }
set_option maxRecDepth 100000 in
set_option maxHeartbeats 4000000 in
theorem w_Mo_putBack_12 {p : Program} {l : Launch} {e : Env} {s : State} {m : MethodId} {args : Array Value} {below : List Frame} {meth : Method} {c : Code} {Q : State → Prop} {D : va_G} {ct : Nat → ClassId} {A : Nat → Prop} {ad : Nat → Nat} {S : nH} (hC : nC p s m args c D vwCl ct A ad S 3 b_Mo_putBack R_Mo TT) (k0 : Nat) (hp0 : isM S k0) (x1 : Int) (hx1 : rg x1) : ∀ (f : Nat) (x2 : Int) (N : nS) (q : Int) (No : nS), m_Mo_putBack_12 k0 x1 f x2 N = some (q, No) → rg x2 → nV p l e rm_Mo_putBack s m args below meth c 0 0 Q D vwCl ct A ad S 3 No 60 [(0, .ref (ad k0)), (1, .int (iI x1)), (2, .int (iI q))] [] → nV p l e rm_Mo_putBack s m args below meth c 0 0 Q D vwCl ct A ad S 3 N 12 [(0, .ref (ad k0)), (1, .int (iI x1)), (2, .int (iI x2))] [] := by
  intro f
  induction f with
  | zero =>
    intro x2 N q No hm
    rw [m_Mo_putBack_12] at hm
    cases hm
  | succ f ih =>
    intro x2 N q No hm hx2 kx
    rw [m_Mo_putBack_12] at hm
    refine nv_iload_n hC d_Mo_putBack_12 rfl 2 rfl ?_
    refine nv_aload_n hC d_Mo_putBack_13 rfl 0 rfl ?_
    refine nv_getI hC (j := 28) hp0.1 rfl in_Mo (by decide) k_230 rfl d_Mo_putBack_14 ?_
    obtain ⟨hr4, hm⟩ := ck_s hm
    refine nv_icmp_ge hC hx2 hr4 d_Mo_putBack_17 (tgt := 60) (by decide) (fun c5 => ?_) (fun c5 => ?_)
    · have hm := if_t c5 hm
      obtain ⟨rfl, rfl⟩ := ret_s hm
      refine nv_sub (lv' := [(0, .ref (ad k0)), (1, .int (iI x1)), (2, .int (iI x2))]) [0, 1, 2] rfl ?_
      exact kx
    · have hm := if_f c5 hm
      refine nv_aload_n hC d_Mo_putBack_20 rfl 0 rfl ?_
      refine nv_getR hC (j := 11) hp0.1 rfl in_Mo (by decide) k_243 rfl d_Mo_putBack_21 ?_
      refine nv_bipush hC (z := 12) d_Mo_putBack_24 rfl ?_
      refine nv_iload_n hC d_Mo_putBack_26 rfl 1 rfl ?_
      refine nv_imul hC d_Mo_putBack_27 ?_
      refine nv_iload_n hC d_Mo_putBack_28 rfl 2 rfl ?_
      refine nv_iadd hC d_Mo_putBack_29 ?_
      refine nv_aload_n hC d_Mo_putBack_30 rfl 0 rfl ?_
      refine nv_getR hC (j := 29) hp0.1 rfl in_Mo (by decide) k_231 rfl d_Mo_putBack_31 ?_
      refine nv_iload_n hC d_Mo_putBack_34 rfl 2 rfl ?_
      obtain ⟨hc6, hm⟩ := ck_s hm
      refine nv_iald hC (isM_19 hp0) (by decide) hc6 d_Mo_putBack_35 ?_
      obtain ⟨hc7, hm⟩ := ck_s hm
      obtain ⟨N8, e9, hm⟩ := nlt_s hm
      refine nv_iast hC (isM_7 hp0) (by decide) hc7 e9 d_Mo_putBack_36 ?_
      refine nv_aload_n hC d_Mo_putBack_37 rfl 0 rfl ?_
      refine nv_getR hC (j := 12) hp0.1 rfl in_Mo (by decide) k_244 rfl d_Mo_putBack_38 ?_
      refine nv_bipush hC (z := 12) d_Mo_putBack_41 rfl ?_
      refine nv_iload_n hC d_Mo_putBack_43 rfl 1 rfl ?_
      refine nv_imul hC d_Mo_putBack_44 ?_
      refine nv_iload_n hC d_Mo_putBack_45 rfl 2 rfl ?_
      refine nv_iadd hC d_Mo_putBack_46 ?_
      refine nv_aload_n hC d_Mo_putBack_47 rfl 0 rfl ?_
      refine nv_getR hC (j := 30) hp0.1 rfl in_Mo (by decide) k_232 rfl d_Mo_putBack_48 ?_
      refine nv_iload_n hC d_Mo_putBack_51 rfl 2 rfl ?_
      refine nv_iald hC (isM_20 hp0) (by decide) hc6 d_Mo_putBack_52 ?_
      obtain ⟨N10, e11, hm⟩ := nlt_s hm
      refine nv_iast hC (isM_8 hp0) (by decide) hc7 e11 d_Mo_putBack_53 ?_
      refine nv_iinc (lv' := [(2, .int (iI (x2 + 1))), (0, .ref (ad k0)), (1, .int (iI x1))]) hC d_Mo_putBack_54 2 rfl (by decide) rfl ?_
      refine nv_goto hC d_Mo_putBack_57 (tgt := 12) (by decide) ?_
      obtain ⟨hr12, hm⟩ := ck_s hm
      refine nv_sub (lv' := [(0, .ref (ad k0)), (1, .int (iI x1)), (2, .int (iI (x2 + 1)))]) [1, 2, 0] rfl ?_
      exact ih (x2 + 1) N10 q No hm hr12 kx
set_option maxRecDepth 100000 in
set_option maxHeartbeats 4000000 in
theorem c_Mo_putBack (l : Launch) {D : va_G} {ct : Nat → ClassId} {A : Nat → Prop} {ad : Nat → Nat} {S : nH} (hD : nD ad A S.length) (k0 : Nat) (hp0 : isM S k0) (x1 : Int) (hx1 : rg x1) (N : nS) (r : Int) (No : nS) (hm : m_Mo_putBack k0 x1 N = some (r, No)) : nM l y_Mo_putBack (Cond.code y_Mo_putBack b_Mo_putBack 3 none :: TT) rm_Mo_putBack D vwCl ct A ad S N [.ref (ad k0), .int (iI x1)] (nQv D vwCl ct A ad S No) := by
  refine nM_of (cc := b_Mo_putBack) (maxL := 3) (ret := none) (by decide) rfl (Nat.le_of_ble_eq_true rfl) hD ?_
  intro p e s m below meth c hC hr hlk
  refine nv_lv (lv' := [(0, .ref (ad k0)), (1, .int (iI x1))]) rfl ?_
  rw [m_Mo_putBack] at hm
  refine nv_aload_n hC d_Mo_putBack_0 rfl 0 rfl ?_
  refine nv_getR hC (j := 10) hp0.1 rfl in_Mo (by decide) k_242 rfl d_Mo_putBack_1 ?_
  refine nv_iload_n hC d_Mo_putBack_4 rfl 1 rfl ?_
  refine nv_aload_n hC d_Mo_putBack_5 rfl 0 rfl ?_
  refine nv_getI hC (j := 28) hp0.1 rfl in_Mo (by decide) k_230 rfl d_Mo_putBack_6 ?_
  obtain ⟨hc1, hm⟩ := ck_s hm
  obtain ⟨N2, e3, hm⟩ := nlt_s hm
  refine nv_iast hC (isM_6 hp0) (by decide) hc1 e3 d_Mo_putBack_9 ?_
  refine nv_iconst hC d_Mo_putBack_10 ?_
  refine nv_istore_n (lv' := [(2, .int (iI 0)), (0, .ref (ad k0)), (1, .int (iI x1))]) hC d_Mo_putBack_11 rfl (by decide) rfl ?_
  obtain ⟨q13, N14, hq15, hm⟩ := nbd_s hm
  refine nv_sub (lv' := [(0, .ref (ad k0)), (1, .int (iI x1)), (2, .int (iI 0))]) [1, 2, 0] rfl ?_
  refine w_Mo_putBack_12 hC k0 hp0 x1 hx1 FU 0 N2 q13 N14 hq15 ⟨by decide, by decide⟩ ?_
  obtain ⟨rfl, rfl⟩ := ret_s hm
  exact nv_vret hC hr hlk d_Mo_putBack_60
def m_Mo_push_2 (k0 : Nat) (x1 : Int) : Nat → Int → nS → Option ((Int) × nS)
  | 0, _, _ => none
  | f + 1, x2, N =>
    if 0 ≤ x1 ∧ x1 < ((10 : Nat) : Int) then
    if rg (N (k0 + 6) (Int.toNat x1)) then
    if (N (k0 + 6) (Int.toNat x1)) ≤ x2 then
    some (x2, N)
    else
    if 0 ≤ ((12 * x1) + x2) ∧ ((12 * x1) + x2) < ((120 : Nat) : Int) then
    if 0 ≤ (N k0 25) ∧ (N k0 25) < ((160 : Nat) : Int) then
    nlt (up2 N (k0 + 17) (Int.toNat (N k0 25)) (N (k0 + 7) (Int.toNat ((12 * x1) + x2)))) (fun N6 =>
    if 0 ≤ (N6 k0 25) ∧ (N6 k0 25) < ((160 : Nat) : Int) then
    nlt (up2 N6 (k0 + 18) (Int.toNat (N6 k0 25)) (N6 (k0 + 8) (Int.toNat ((12 * x1) + x2)))) (fun N9 =>
    nlt (up2 N9 k0 25 ((N9 k0 25) + 1)) (fun N11 =>
    if rg (x2 + 1) then
    m_Mo_push_2 k0 x1 f (x2 + 1) N11
    else none))
    else none)
    else none
    else none
    else none
    else none
def m_Mo_push_82 (k0 : Nat) (x1 : Int) : Nat → Int → Int → nS → Option ((Int × Int) × nS)
  | 0, _, _, _ => none
  | f + 1, x2, x3, N =>
    if x2 ≤ 0 then
    some ((x2, x3), N)
    else
    if 0 ≤ x3 ∧ x3 < ((160 : Nat) : Int) then
    if rg (N (k0 + 17) (Int.toNat x3)) then
    if x2 ≤ (N (k0 + 17) (Int.toNat x3)) then
    if rg (N (k0 + 18) (Int.toNat x3)) then
    nbd (m_Mo_lay k0 x2 (N (k0 + 18) (Int.toNat x3)) N) (fun r25 N26 =>
    nlt (up2 N26 (k0 + 17) (Int.toNat x3) ((N26 (k0 + 17) (Int.toNat x3)) - x2)) (fun N28 =>
    if rg (N28 (k0 + 17) (Int.toNat x3)) then
    if (N28 (k0 + 17) (Int.toNat x3)) = 0 then
    if rg (x2 - x2) then
    if rg (x3 + 1) then
    m_Mo_push_82 k0 x1 f (x2 - x2) (x3 + 1) N28
    else none
    else none
    else
    if rg (x2 - x2) then
    if rg (x3 + 0) then
    m_Mo_push_82 k0 x1 f (x2 - x2) (x3 + 0) N28
    else none
    else none
    else none))
    else none
    else
    if rg (N (k0 + 18) (Int.toNat x3)) then
    nbd (m_Mo_lay k0 (N (k0 + 17) (Int.toNat x3)) (N (k0 + 18) (Int.toNat x3)) N) (fun r37 N38 =>
    nlt (up2 N38 (k0 + 17) (Int.toNat x3) ((N38 (k0 + 17) (Int.toNat x3)) - (N (k0 + 17) (Int.toNat x3)))) (fun N40 =>
    if rg (N40 (k0 + 17) (Int.toNat x3)) then
    if (N40 (k0 + 17) (Int.toNat x3)) = 0 then
    if rg (x2 - (N (k0 + 17) (Int.toNat x3))) then
    if rg (x3 + 1) then
    m_Mo_push_82 k0 x1 f (x2 - (N (k0 + 17) (Int.toNat x3))) (x3 + 1) N40
    else none
    else none
    else
    if rg (x2 - (N (k0 + 17) (Int.toNat x3))) then
    if rg (x3 + 0) then
    m_Mo_push_82 k0 x1 f (x2 - (N (k0 + 17) (Int.toNat x3))) (x3 + 0) N40
    else none
    else none
    else none))
    else none
    else none
    else none
def m_Mo_push_159 (k0 : Nat) (x1 : Int) (x2 : Int) : Nat → Int → Int → nS → Option ((Int × Int) × nS)
  | 0, _, _, _ => none
  | f + 1, x3, x4, N =>
    if rg (N k0 25) then
    if (N k0 25) ≤ x3 then
    some ((x3, x4), N)
    else
    if 0 ≤ x3 ∧ x3 < ((160 : Nat) : Int) then
    if 0 ≤ x4 ∧ x4 < ((160 : Nat) : Int) then
    nlt (up2 N (k0 + 17) (Int.toNat x4) (N (k0 + 17) (Int.toNat x3))) (fun N56 =>
    nlt (up2 N56 (k0 + 18) (Int.toNat x4) (N56 (k0 + 18) (Int.toNat x3))) (fun N58 =>
    if rg (x3 + 1) then
    if rg (x4 + 1) then
    m_Mo_push_159 k0 x1 x2 f (x3 + 1) (x4 + 1) N58
    else none
    else none))
    else none
    else none
    else none
def m_Mo_push (k0 : Nat) (x1 : Int) (N : nS) : Option (Int × nS) :=
  nbd (m_Mo_push_2 k0 x1 FU 0 N) (fun q14 N15 =>
  if 0 ≤ x1 ∧ x1 < ((10 : Nat) : Int) then
  nlt (up2 N15 k0 28 0) (fun N18 =>
  if rg (N15 (k0 + 2) (Int.toNat x1)) then
  nbd (m_Mo_push_82 k0 x1 FU (N15 (k0 + 2) (Int.toNat x1)) 0 N18) (fun q49 N50 =>
  if rg q49.1 then
  if rg q49.2 then
  nbd (m_Mo_push_159 k0 x1 q49.1 FU q49.2 0 N50) (fun q64 N65 =>
  nlt (up2 N65 k0 25 q64.2) (fun N67 =>
  nbd (m_Mo_joinTillFew k0 N67) (fun r69 N70 =>
  nbd (m_Mo_putBack k0 x1 N70) (fun r72 N73 =>
  nlt (up2 N73 (k0 + 9) (Int.toNat x1) (N73 k0 9)) (fun N75 =>
  some (0, N75))))))
  else none
  else none)
  else none)
  else none)
set_option maxRecDepth 20000 in
theorem k_245 : Cond.fieldLink R_Mo 66 (T_Mo 26).1 (T_Mo 26).2.1 (T_Mo 26).2.2.1 ∈ TT := tt_i 572 (by decide +kernel) (by decide +kernel)
set_option maxRecDepth 20000 in
theorem k_246 : Cond.fieldLink R_Mo 124 (T_Mo 25).1 (T_Mo 25).2.1 (T_Mo 25).2.2.1 ∈ TT := tt_i 571 (by decide +kernel) (by decide +kernel)
set_option maxRecDepth 20000 in
theorem k_247 : Cond.fieldLink R_Mo 69 (T_Mo 27).1 (T_Mo 27).2.1 (T_Mo 27).2.2.1 ∈ TT := tt_i 573 (by decide +kernel) (by decide +kernel)
set_option maxRecDepth 20000 in
theorem k_248 : Cond.fieldLink R_Mo 13 (T_Mo 3).1 (T_Mo 3).2.1 (T_Mo 3).2.2.1 ∈ TT := tt_i 549 (by decide +kernel) (by decide +kernel)
set_option maxRecDepth 20000 in
theorem k_249 : Cond.methodLink R_Mo 127 y_Mo_joinTillFew ∈ TT := tt_i 721 (by decide +kernel) (by decide +kernel)
set_option maxRecDepth 20000 in
theorem k_250 : Cond.code y_Mo_joinTillFew b_Mo_joinTillFew 5 none ∈ TT := tt_i 724 (by decide +kernel) (by decide +kernel)
set_option maxRecDepth 20000 in
theorem k_251 : Cond.instanceMethod y_Mo_joinTillFew ∈ TT := tt_i 723 (by decide +kernel) (by decide +kernel)
set_option maxRecDepth 20000 in
theorem k_252 : Cond.selects R_Mo y_Mo_joinTillFew y_Mo_joinTillFew ∈ TT := tt_i 15 (by decide +kernel) (by decide +kernel)
set_option maxRecDepth 20000 in
theorem k_253 : Cond.methodLink R_Mo 130 y_Mo_putBack ∈ TT := tt_i 729 (by decide +kernel) (by decide +kernel)
set_option maxRecDepth 20000 in
theorem k_254 : Cond.code y_Mo_putBack b_Mo_putBack 3 none ∈ TT := tt_i 732 (by decide +kernel) (by decide +kernel)
set_option maxRecDepth 20000 in
theorem k_255 : Cond.instanceMethod y_Mo_putBack ∈ TT := tt_i 731 (by decide +kernel) (by decide +kernel)
set_option maxRecDepth 20000 in
theorem k_256 : Cond.selects R_Mo y_Mo_putBack y_Mo_putBack ∈ TT := tt_i 17 (by decide +kernel) (by decide +kernel)
set_option maxRecDepth 20000 in
theorem k_257 : Cond.fieldLink R_Mo 42 (T_Mo 13).1 (T_Mo 13).2.1 (T_Mo 13).2.2.1 ∈ TT := tt_i 559 (by decide +kernel) (by decide +kernel)
set_option maxRecDepth 20000 in
theorem k_258 : Cond.fieldLink R_Mo 133 (T_Mo 9).1 (T_Mo 9).2.1 (T_Mo 9).2.2.1 ∈ TT := tt_i 555 (by decide +kernel) (by decide +kernel)
abbrev rm_Mo_push : Room := { frames := 3, cells := 0, slots := 0, locals := 76 }
set_option maxRecDepth 100000 in
set_option maxHeartbeats 4000000 in
theorem w_Mo_push_2 {p : Program} {l : Launch} {e : Env} {s : State} {m : MethodId} {args : Array Value} {below : List Frame} {meth : Method} {c : Code} {Q : State → Prop} {D : va_G} {ct : Nat → ClassId} {A : Nat → Prop} {ad : Nat → Nat} {S : nH} (hC : nC p s m args c D vwCl ct A ad S 5 b_Mo_push R_Mo TT) (k0 : Nat) (hp0 : isM S k0) (x1 : Int) (hx1 : rg x1) : ∀ (f : Nat) (x2 : Int) (N : nS) (q : Int) (No : nS), m_Mo_push_2 k0 x1 f x2 N = some (q, No) → rg x2 → nV p l e rm_Mo_push s m args below meth c 0 0 Q D vwCl ct A ad S 5 No 68 [(0, .ref (ad k0)), (1, .int (iI x1)), (2, .int (iI q))] [] → nV p l e rm_Mo_push s m args below meth c 0 0 Q D vwCl ct A ad S 5 N 2 [(0, .ref (ad k0)), (1, .int (iI x1)), (2, .int (iI x2))] [] := by
  intro f
  induction f with
  | zero =>
    intro x2 N q No hm
    rw [m_Mo_push_2] at hm
    cases hm
  | succ f ih =>
    intro x2 N q No hm hx2 kx
    rw [m_Mo_push_2] at hm
    refine nv_iload_n hC d_Mo_push_2 rfl 2 rfl ?_
    refine nv_aload_n hC d_Mo_push_3 rfl 0 rfl ?_
    refine nv_getR hC (j := 10) hp0.1 rfl in_Mo (by decide) k_242 rfl d_Mo_push_4 ?_
    refine nv_iload_n hC d_Mo_push_7 rfl 1 rfl ?_
    obtain ⟨hc1, hm⟩ := ck_s hm
    refine nv_iald hC (isM_6 hp0) (by decide) hc1 d_Mo_push_8 ?_
    obtain ⟨hr2, hm⟩ := ck_s hm
    refine nv_icmp_ge hC hx2 hr2 d_Mo_push_9 (tgt := 68) (by decide) (fun c3 => ?_) (fun c3 => ?_)
    · have hm := if_t c3 hm
      obtain ⟨rfl, rfl⟩ := ret_s hm
      refine nv_sub (lv' := [(0, .ref (ad k0)), (1, .int (iI x1)), (2, .int (iI x2))]) [0, 1, 2] rfl ?_
      exact kx
    · have hm := if_f c3 hm
      refine nv_aload_n hC d_Mo_push_12 rfl 0 rfl ?_
      refine nv_getR hC (j := 26) hp0.1 rfl in_Mo (by decide) k_245 rfl d_Mo_push_13 ?_
      refine nv_aload_n hC d_Mo_push_16 rfl 0 rfl ?_
      refine nv_getI hC (j := 25) hp0.1 rfl in_Mo (by decide) k_246 rfl d_Mo_push_17 ?_
      refine nv_aload_n hC d_Mo_push_20 rfl 0 rfl ?_
      refine nv_getR hC (j := 11) hp0.1 rfl in_Mo (by decide) k_243 rfl d_Mo_push_21 ?_
      refine nv_bipush hC (z := 12) d_Mo_push_24 rfl ?_
      refine nv_iload_n hC d_Mo_push_26 rfl 1 rfl ?_
      refine nv_imul hC d_Mo_push_27 ?_
      refine nv_iload_n hC d_Mo_push_28 rfl 2 rfl ?_
      refine nv_iadd hC d_Mo_push_29 ?_
      obtain ⟨hc4, hm⟩ := ck_s hm
      refine nv_iald hC (isM_7 hp0) (by decide) hc4 d_Mo_push_30 ?_
      obtain ⟨hc5, hm⟩ := ck_s hm
      obtain ⟨N6, e7, hm⟩ := nlt_s hm
      refine nv_iast hC (isM_17 hp0) (by decide) hc5 e7 d_Mo_push_31 ?_
      refine nv_aload_n hC d_Mo_push_32 rfl 0 rfl ?_
      refine nv_getR hC (j := 27) hp0.1 rfl in_Mo (by decide) k_247 rfl d_Mo_push_33 ?_
      refine nv_aload_n hC d_Mo_push_36 rfl 0 rfl ?_
      refine nv_getI hC (j := 25) hp0.1 rfl in_Mo (by decide) k_246 rfl d_Mo_push_37 ?_
      refine nv_aload_n hC d_Mo_push_40 rfl 0 rfl ?_
      refine nv_getR hC (j := 12) hp0.1 rfl in_Mo (by decide) k_244 rfl d_Mo_push_41 ?_
      refine nv_bipush hC (z := 12) d_Mo_push_44 rfl ?_
      refine nv_iload_n hC d_Mo_push_46 rfl 1 rfl ?_
      refine nv_imul hC d_Mo_push_47 ?_
      refine nv_iload_n hC d_Mo_push_48 rfl 2 rfl ?_
      refine nv_iadd hC d_Mo_push_49 ?_
      refine nv_iald hC (isM_8 hp0) (by decide) hc4 d_Mo_push_50 ?_
      obtain ⟨hc8, hm⟩ := ck_s hm
      obtain ⟨N9, e10, hm⟩ := nlt_s hm
      refine nv_iast hC (isM_18 hp0) (by decide) hc8 e10 d_Mo_push_51 ?_
      refine nv_aload_n hC d_Mo_push_52 rfl 0 rfl ?_
      refine nv_dup hC d_Mo_push_53 rfl ?_
      refine nv_getI hC (j := 25) hp0.1 rfl in_Mo (by decide) k_246 rfl d_Mo_push_54 ?_
      refine nv_iconst hC d_Mo_push_57 ?_
      refine nv_iadd hC d_Mo_push_58 ?_
      obtain ⟨N11, e12, hm⟩ := nlt_s hm
      refine nv_putI hC (j := 25) hp0.1 rfl in_Mo (by decide) ty_Mo tyok_Mo nm_Mo k_246 rfl rfl (by decide +kernel) e12 d_Mo_push_59 ?_
      refine nv_iinc (lv' := [(2, .int (iI (x2 + 1))), (0, .ref (ad k0)), (1, .int (iI x1))]) hC d_Mo_push_62 2 rfl (by decide) rfl ?_
      refine nv_goto hC d_Mo_push_65 (tgt := 2) (by decide) ?_
      obtain ⟨hr13, hm⟩ := ck_s hm
      refine nv_sub (lv' := [(0, .ref (ad k0)), (1, .int (iI x1)), (2, .int (iI (x2 + 1)))]) [1, 2, 0] rfl ?_
      exact ih (x2 + 1) N11 q No hm hr13 kx
set_option maxRecDepth 100000 in
set_option maxHeartbeats 4000000 in
theorem w_Mo_push_82 {p : Program} {l : Launch} {e : Env} {s : State} {m : MethodId} {args : Array Value} {below : List Frame} {meth : Method} {c : Code} {Q : State → Prop} {D : va_G} {ct : Nat → ClassId} {A : Nat → Prop} {ad : Nat → Nat} {S : nH} (hC : nC p s m args c D vwCl ct A ad S 5 b_Mo_push R_Mo TT) (k0 : Nat) (hp0 : isM S k0) (x1 : Int) (hx1 : rg x1) : ∀ (f : Nat) (x2 x3 : Int) (N : nS) (q : Int × Int) (No : nS), m_Mo_push_82 k0 x1 f x2 x3 N = some (q, No) → rg x2 → rg x3 → nV p l e rm_Mo_push s m args below meth c 0 0 Q D vwCl ct A ad S 5 No 156 [(0, .ref (ad k0)), (1, .int (iI x1)), (2, .int (iI q.1)), (3, .int (iI q.2))] [] → nV p l e rm_Mo_push s m args below meth c 0 0 Q D vwCl ct A ad S 5 N 82 [(0, .ref (ad k0)), (1, .int (iI x1)), (2, .int (iI x2)), (3, .int (iI x3))] [] := by
  intro f
  induction f with
  | zero =>
    intro x2 x3 N q No hm
    rw [m_Mo_push_82] at hm
    cases hm
  | succ f ih =>
    intro x2 x3 N q No hm hx2 hx3 kx
    rw [m_Mo_push_82] at hm
    refine nv_iload_n hC d_Mo_push_82 rfl 2 rfl ?_
    refine nv_if_le hC hx2 d_Mo_push_83 (tgt := 156) (by decide) (fun c20 => ?_) (fun c20 => ?_)
    · have hm := if_t c20 hm
      obtain ⟨rfl, rfl⟩ := ret_s hm
      refine nv_sub (lv' := [(0, .ref (ad k0)), (1, .int (iI x1)), (2, .int (iI x2)), (3, .int (iI x3))]) [0, 1, 2, 3] rfl ?_
      exact kx
    · have hm := if_f c20 hm
      refine nv_aload_n hC d_Mo_push_86 rfl 0 rfl ?_
      refine nv_getR hC (j := 26) hp0.1 rfl in_Mo (by decide) k_245 rfl d_Mo_push_87 ?_
      refine nv_iload_n hC d_Mo_push_90 rfl 3 rfl ?_
      obtain ⟨hc21, hm⟩ := ck_s hm
      refine nv_iald hC (isM_17 hp0) (by decide) hc21 d_Mo_push_91 ?_
      refine nv_iload_n hC d_Mo_push_92 rfl 2 rfl ?_
      obtain ⟨hr22, hm⟩ := ck_s hm
      refine nv_icmp_ge hC hr22 hx2 d_Mo_push_93 (tgt := 105) (by decide) (fun c23 => ?_) (fun c23 => ?_)
      · have hm := if_t c23 hm
        refine nv_iload_n hC d_Mo_push_105 rfl 2 rfl ?_
        refine nv_istore (lv' := [(4, .int (iI x2)), (0, .ref (ad k0)), (1, .int (iI x1)), (2, .int (iI x2)), (3, .int (iI x3))]) hC d_Mo_push_106 (by decide) rfl ?_
        refine nv_aload_n hC d_Mo_push_108 rfl 1 rfl ?_
        refine nv_iload hC d_Mo_push_109 0 rfl ?_
        refine nv_aload_n hC d_Mo_push_111 rfl 1 rfl ?_
        refine nv_getR hC (j := 27) hp0.1 rfl in_Mo (by decide) k_247 rfl d_Mo_push_112 ?_
        refine nv_iload_n hC d_Mo_push_115 rfl 4 rfl ?_
        refine nv_iald hC (isM_18 hp0) (by decide) hc21 d_Mo_push_116 ?_
        obtain ⟨hr24, hm⟩ := ck_s hm
        obtain ⟨r25, N26, hq27, hm⟩ := nbd_s hm
        refine nv_callv (N' := N26) (nr_V hC (As := [.int (iI x2), .int (iI (N (k0 + 18) (Int.toNat x3)))]) (st := []) hp0.1 rfl (c_Mo_lay l hC.2.2.1 k0 hp0 x2 hx2 (N (k0 + 18) (Int.toNat x3)) hr24 N r25 N26 hq27) (cwV 2 hC.1.2.2.2.2 (tt_V k_234 k_236 k_237 k_229 k_235) rfl rfl rfl (by decide +kernel) ⟨Nat.le_of_ble_eq_true rfl, Nat.le_of_ble_eq_true rfl⟩) rfl rfl (Nat.le_of_ble_eq_true rfl) ⟨(Nat.le_of_ble_eq_true rfl), (Nat.le_of_ble_eq_true rfl)⟩ d_Mo_push_117) ?_
        refine nv_aload_n hC d_Mo_push_120 rfl 1 rfl ?_
        refine nv_getR hC (j := 26) hp0.1 rfl in_Mo (by decide) k_245 rfl d_Mo_push_121 ?_
        refine nv_iload_n hC d_Mo_push_124 rfl 4 rfl ?_
        refine nv_dup2_11 hC d_Mo_push_125 rfl rfl ?_
        refine nv_iald hC (isM_17 hp0) (by decide) hc21 d_Mo_push_126 ?_
        refine nv_iload hC d_Mo_push_127 0 rfl ?_
        refine nv_isub hC d_Mo_push_129 ?_
        obtain ⟨N28, e29, hm⟩ := nlt_s hm
        refine nv_iast hC (isM_17 hp0) (by decide) hc21 e29 d_Mo_push_130 ?_
        refine nv_iload_n hC d_Mo_push_131 rfl 3 rfl ?_
        refine nv_iload hC d_Mo_push_132 0 rfl ?_
        refine nv_isub hC d_Mo_push_134 ?_
        refine nv_istore_n (lv' := [(2, .int (iI (x2 - x2))), (4, .int (iI x2)), (0, .ref (ad k0)), (1, .int (iI x1)), (3, .int (iI x3))]) hC d_Mo_push_135 rfl (by decide) rfl ?_
        refine nv_iload_n hC d_Mo_push_136 rfl 4 rfl ?_
        refine nv_aload_n hC d_Mo_push_137 rfl 2 rfl ?_
        refine nv_getR hC (j := 26) hp0.1 rfl in_Mo (by decide) k_245 rfl d_Mo_push_138 ?_
        refine nv_iload_n hC d_Mo_push_141 rfl 4 rfl ?_
        refine nv_iald hC (isM_17 hp0) (by decide) hc21 d_Mo_push_142 ?_
        obtain ⟨hr30, hm⟩ := ck_s hm
        refine nv_if_ne hC hr30 d_Mo_push_143 (tgt := 150) (by decide) (fun c31 => ?_) (fun c31 => ?_)
        · have hm := if_f c31 hm
          refine nv_iconst hC d_Mo_push_150 ?_
          refine nv_iadd hC d_Mo_push_151 ?_
          refine nv_istore_n (lv' := [(3, .int (iI (x3 + 0))), (2, .int (iI (x2 - x2))), (4, .int (iI x2)), (0, .ref (ad k0)), (1, .int (iI x1))]) hC d_Mo_push_152 rfl (by decide) rfl ?_
          refine nv_goto hC d_Mo_push_153 (tgt := 82) (by decide) ?_
          obtain ⟨hr32, hm⟩ := ck_s hm
          obtain ⟨hr33, hm⟩ := ck_s hm
          refine nv_sub (lv' := [(0, .ref (ad k0)), (1, .int (iI x1)), (2, .int (iI (x2 - x2))), (3, .int (iI (x3 + 0)))]) [3, 4, 1, 0] rfl ?_
          exact ih (x2 - x2) (x3 + 0) N28 q No hm hr32 hr33 kx
        · have hm := if_t c31 hm
          refine nv_iconst hC d_Mo_push_146 ?_
          refine nv_goto hC d_Mo_push_147 (tgt := 151) (by decide) ?_
          refine nv_iadd hC d_Mo_push_151 ?_
          refine nv_istore_n (lv' := [(3, .int (iI (x3 + 1))), (2, .int (iI (x2 - x2))), (4, .int (iI x2)), (0, .ref (ad k0)), (1, .int (iI x1))]) hC d_Mo_push_152 rfl (by decide) rfl ?_
          refine nv_goto hC d_Mo_push_153 (tgt := 82) (by decide) ?_
          obtain ⟨hr34, hm⟩ := ck_s hm
          obtain ⟨hr35, hm⟩ := ck_s hm
          refine nv_sub (lv' := [(0, .ref (ad k0)), (1, .int (iI x1)), (2, .int (iI (x2 - x2))), (3, .int (iI (x3 + 1)))]) [3, 4, 1, 0] rfl ?_
          exact ih (x2 - x2) (x3 + 1) N28 q No hm hr34 hr35 kx
      · have hm := if_f c23 hm
        refine nv_aload_n hC d_Mo_push_96 rfl 0 rfl ?_
        refine nv_getR hC (j := 26) hp0.1 rfl in_Mo (by decide) k_245 rfl d_Mo_push_97 ?_
        refine nv_iload_n hC d_Mo_push_100 rfl 3 rfl ?_
        refine nv_iald hC (isM_17 hp0) (by decide) hc21 d_Mo_push_101 ?_
        refine nv_goto hC d_Mo_push_102 (tgt := 106) (by decide) ?_
        refine nv_istore (lv' := [(4, .int (iI (N (k0 + 17) (Int.toNat x3)))), (0, .ref (ad k0)), (1, .int (iI x1)), (2, .int (iI x2)), (3, .int (iI x3))]) hC d_Mo_push_106 (by decide) rfl ?_
        refine nv_aload_n hC d_Mo_push_108 rfl 1 rfl ?_
        refine nv_iload hC d_Mo_push_109 0 rfl ?_
        refine nv_aload_n hC d_Mo_push_111 rfl 1 rfl ?_
        refine nv_getR hC (j := 27) hp0.1 rfl in_Mo (by decide) k_247 rfl d_Mo_push_112 ?_
        refine nv_iload_n hC d_Mo_push_115 rfl 4 rfl ?_
        refine nv_iald hC (isM_18 hp0) (by decide) hc21 d_Mo_push_116 ?_
        obtain ⟨hr36, hm⟩ := ck_s hm
        obtain ⟨r37, N38, hq39, hm⟩ := nbd_s hm
        refine nv_callv (N' := N38) (nr_V hC (As := [.int (iI (N (k0 + 17) (Int.toNat x3))), .int (iI (N (k0 + 18) (Int.toNat x3)))]) (st := []) hp0.1 rfl (c_Mo_lay l hC.2.2.1 k0 hp0 (N (k0 + 17) (Int.toNat x3)) hr22 (N (k0 + 18) (Int.toNat x3)) hr36 N r37 N38 hq39) (cwV 2 hC.1.2.2.2.2 (tt_V k_234 k_236 k_237 k_229 k_235) rfl rfl rfl (by decide +kernel) ⟨Nat.le_of_ble_eq_true rfl, Nat.le_of_ble_eq_true rfl⟩) rfl rfl (Nat.le_of_ble_eq_true rfl) ⟨(Nat.le_of_ble_eq_true rfl), (Nat.le_of_ble_eq_true rfl)⟩ d_Mo_push_117) ?_
        refine nv_aload_n hC d_Mo_push_120 rfl 1 rfl ?_
        refine nv_getR hC (j := 26) hp0.1 rfl in_Mo (by decide) k_245 rfl d_Mo_push_121 ?_
        refine nv_iload_n hC d_Mo_push_124 rfl 4 rfl ?_
        refine nv_dup2_11 hC d_Mo_push_125 rfl rfl ?_
        refine nv_iald hC (isM_17 hp0) (by decide) hc21 d_Mo_push_126 ?_
        refine nv_iload hC d_Mo_push_127 0 rfl ?_
        refine nv_isub hC d_Mo_push_129 ?_
        obtain ⟨N40, e41, hm⟩ := nlt_s hm
        refine nv_iast hC (isM_17 hp0) (by decide) hc21 e41 d_Mo_push_130 ?_
        refine nv_iload_n hC d_Mo_push_131 rfl 3 rfl ?_
        refine nv_iload hC d_Mo_push_132 0 rfl ?_
        refine nv_isub hC d_Mo_push_134 ?_
        refine nv_istore_n (lv' := [(2, .int (iI (x2 - (N (k0 + 17) (Int.toNat x3))))), (4, .int (iI (N (k0 + 17) (Int.toNat x3)))), (0, .ref (ad k0)), (1, .int (iI x1)), (3, .int (iI x3))]) hC d_Mo_push_135 rfl (by decide) rfl ?_
        refine nv_iload_n hC d_Mo_push_136 rfl 4 rfl ?_
        refine nv_aload_n hC d_Mo_push_137 rfl 2 rfl ?_
        refine nv_getR hC (j := 26) hp0.1 rfl in_Mo (by decide) k_245 rfl d_Mo_push_138 ?_
        refine nv_iload_n hC d_Mo_push_141 rfl 4 rfl ?_
        refine nv_iald hC (isM_17 hp0) (by decide) hc21 d_Mo_push_142 ?_
        obtain ⟨hr42, hm⟩ := ck_s hm
        refine nv_if_ne hC hr42 d_Mo_push_143 (tgt := 150) (by decide) (fun c43 => ?_) (fun c43 => ?_)
        · have hm := if_f c43 hm
          refine nv_iconst hC d_Mo_push_150 ?_
          refine nv_iadd hC d_Mo_push_151 ?_
          refine nv_istore_n (lv' := [(3, .int (iI (x3 + 0))), (2, .int (iI (x2 - (N (k0 + 17) (Int.toNat x3))))), (4, .int (iI (N (k0 + 17) (Int.toNat x3)))), (0, .ref (ad k0)), (1, .int (iI x1))]) hC d_Mo_push_152 rfl (by decide) rfl ?_
          refine nv_goto hC d_Mo_push_153 (tgt := 82) (by decide) ?_
          obtain ⟨hr44, hm⟩ := ck_s hm
          obtain ⟨hr45, hm⟩ := ck_s hm
          refine nv_sub (lv' := [(0, .ref (ad k0)), (1, .int (iI x1)), (2, .int (iI (x2 - (N (k0 + 17) (Int.toNat x3))))), (3, .int (iI (x3 + 0)))]) [3, 4, 1, 0] rfl ?_
          exact ih (x2 - (N (k0 + 17) (Int.toNat x3))) (x3 + 0) N40 q No hm hr44 hr45 kx
        · have hm := if_t c43 hm
          refine nv_iconst hC d_Mo_push_146 ?_
          refine nv_goto hC d_Mo_push_147 (tgt := 151) (by decide) ?_
          refine nv_iadd hC d_Mo_push_151 ?_
          refine nv_istore_n (lv' := [(3, .int (iI (x3 + 1))), (2, .int (iI (x2 - (N (k0 + 17) (Int.toNat x3))))), (4, .int (iI (N (k0 + 17) (Int.toNat x3)))), (0, .ref (ad k0)), (1, .int (iI x1))]) hC d_Mo_push_152 rfl (by decide) rfl ?_
          refine nv_goto hC d_Mo_push_153 (tgt := 82) (by decide) ?_
          obtain ⟨hr46, hm⟩ := ck_s hm
          obtain ⟨hr47, hm⟩ := ck_s hm
          refine nv_sub (lv' := [(0, .ref (ad k0)), (1, .int (iI x1)), (2, .int (iI (x2 - (N (k0 + 17) (Int.toNat x3))))), (3, .int (iI (x3 + 1)))]) [3, 4, 1, 0] rfl ?_
          exact ih (x2 - (N (k0 + 17) (Int.toNat x3))) (x3 + 1) N40 q No hm hr46 hr47 kx
set_option maxRecDepth 100000 in
set_option maxHeartbeats 4000000 in
theorem w_Mo_push_159 {p : Program} {l : Launch} {e : Env} {s : State} {m : MethodId} {args : Array Value} {below : List Frame} {meth : Method} {c : Code} {Q : State → Prop} {D : va_G} {ct : Nat → ClassId} {A : Nat → Prop} {ad : Nat → Nat} {S : nH} (hC : nC p s m args c D vwCl ct A ad S 5 b_Mo_push R_Mo TT) (k0 : Nat) (hp0 : isM S k0) (x1 : Int) (hx1 : rg x1) (x2 : Int) (hx2 : rg x2) : ∀ (f : Nat) (x3 x4 : Int) (N : nS) (q : Int × Int) (No : nS), m_Mo_push_159 k0 x1 x2 f x3 x4 N = some (q, No) → rg x3 → rg x4 → nV p l e rm_Mo_push s m args below meth c 0 0 Q D vwCl ct A ad S 5 No 202 [(0, .ref (ad k0)), (1, .int (iI x1)), (2, .int (iI x2)), (3, .int (iI q.1)), (4, .int (iI q.2))] [] → nV p l e rm_Mo_push s m args below meth c 0 0 Q D vwCl ct A ad S 5 N 159 [(0, .ref (ad k0)), (1, .int (iI x1)), (2, .int (iI x2)), (3, .int (iI x3)), (4, .int (iI x4))] [] := by
  intro f
  induction f with
  | zero =>
    intro x3 x4 N q No hm
    rw [m_Mo_push_159] at hm
    cases hm
  | succ f ih =>
    intro x3 x4 N q No hm hx3 hx4 kx
    rw [m_Mo_push_159] at hm
    refine nv_iload_n hC d_Mo_push_159 rfl 3 rfl ?_
    refine nv_aload_n hC d_Mo_push_160 rfl 0 rfl ?_
    refine nv_getI hC (j := 25) hp0.1 rfl in_Mo (by decide) k_246 rfl d_Mo_push_161 ?_
    obtain ⟨hr52, hm⟩ := ck_s hm
    refine nv_icmp_ge hC hx3 hr52 d_Mo_push_164 (tgt := 202) (by decide) (fun c53 => ?_) (fun c53 => ?_)
    · have hm := if_t c53 hm
      obtain ⟨rfl, rfl⟩ := ret_s hm
      refine nv_sub (lv' := [(0, .ref (ad k0)), (1, .int (iI x1)), (2, .int (iI x2)), (3, .int (iI x3)), (4, .int (iI x4))]) [0, 1, 2, 3, 4] rfl ?_
      exact kx
    · have hm := if_f c53 hm
      refine nv_aload_n hC d_Mo_push_167 rfl 0 rfl ?_
      refine nv_getR hC (j := 26) hp0.1 rfl in_Mo (by decide) k_245 rfl d_Mo_push_168 ?_
      refine nv_iload hC d_Mo_push_171 4 rfl ?_
      refine nv_aload_n hC d_Mo_push_173 rfl 0 rfl ?_
      refine nv_getR hC (j := 26) hp0.1 rfl in_Mo (by decide) k_245 rfl d_Mo_push_174 ?_
      refine nv_iload_n hC d_Mo_push_177 rfl 3 rfl ?_
      obtain ⟨hc54, hm⟩ := ck_s hm
      refine nv_iald hC (isM_17 hp0) (by decide) hc54 d_Mo_push_178 ?_
      obtain ⟨hc55, hm⟩ := ck_s hm
      obtain ⟨N56, e57, hm⟩ := nlt_s hm
      refine nv_iast hC (isM_17 hp0) (by decide) hc55 e57 d_Mo_push_179 ?_
      refine nv_aload_n hC d_Mo_push_180 rfl 0 rfl ?_
      refine nv_getR hC (j := 27) hp0.1 rfl in_Mo (by decide) k_247 rfl d_Mo_push_181 ?_
      refine nv_iload hC d_Mo_push_184 4 rfl ?_
      refine nv_aload_n hC d_Mo_push_186 rfl 0 rfl ?_
      refine nv_getR hC (j := 27) hp0.1 rfl in_Mo (by decide) k_247 rfl d_Mo_push_187 ?_
      refine nv_iload_n hC d_Mo_push_190 rfl 3 rfl ?_
      refine nv_iald hC (isM_18 hp0) (by decide) hc54 d_Mo_push_191 ?_
      obtain ⟨N58, e59, hm⟩ := nlt_s hm
      refine nv_iast hC (isM_18 hp0) (by decide) hc55 e59 d_Mo_push_192 ?_
      refine nv_iinc (lv' := [(4, .int (iI (x4 + 1))), (0, .ref (ad k0)), (1, .int (iI x1)), (2, .int (iI x2)), (3, .int (iI x3))]) hC d_Mo_push_193 4 rfl (by decide) rfl ?_
      refine nv_iinc (lv' := [(3, .int (iI (x3 + 1))), (4, .int (iI (x4 + 1))), (0, .ref (ad k0)), (1, .int (iI x1)), (2, .int (iI x2))]) hC d_Mo_push_196 4 rfl (by decide) rfl ?_
      refine nv_goto hC d_Mo_push_199 (tgt := 159) (by decide) ?_
      obtain ⟨hr60, hm⟩ := ck_s hm
      obtain ⟨hr61, hm⟩ := ck_s hm
      refine nv_sub (lv' := [(0, .ref (ad k0)), (1, .int (iI x1)), (2, .int (iI x2)), (3, .int (iI (x3 + 1))), (4, .int (iI (x4 + 1)))]) [2, 3, 4, 0, 1] rfl ?_
      exact ih (x3 + 1) (x4 + 1) N58 q No hm hr60 hr61 kx
set_option maxRecDepth 100000 in
set_option maxHeartbeats 4000000 in
theorem c_Mo_push (l : Launch) {D : va_G} {ct : Nat → ClassId} {A : Nat → Prop} {ad : Nat → Nat} {S : nH} (hD : nD ad A S.length) (k0 : Nat) (hp0 : isM S k0) (x1 : Int) (hx1 : rg x1) (N : nS) (r : Int) (No : nS) (hm : m_Mo_push k0 x1 N = some (r, No)) : nM l y_Mo_push (Cond.code y_Mo_push b_Mo_push 5 none :: TT) rm_Mo_push D vwCl ct A ad S N [.ref (ad k0), .int (iI x1)] (nQv D vwCl ct A ad S No) := by
  refine nM_of (cc := b_Mo_push) (maxL := 5) (ret := none) (by decide) rfl (Nat.le_of_ble_eq_true rfl) hD ?_
  intro p e s m below meth c hC hr hlk
  refine nv_lv (lv' := [(0, .ref (ad k0)), (1, .int (iI x1))]) rfl ?_
  rw [m_Mo_push] at hm
  refine nv_iconst hC d_Mo_push_0 ?_
  refine nv_istore_n (lv' := [(2, .int (iI 0)), (0, .ref (ad k0)), (1, .int (iI x1))]) hC d_Mo_push_1 rfl (by decide) rfl ?_
  obtain ⟨q14, N15, hq16, hm⟩ := nbd_s hm
  refine nv_sub (lv' := [(0, .ref (ad k0)), (1, .int (iI x1)), (2, .int (iI 0))]) [1, 2, 0] rfl ?_
  refine w_Mo_push_2 hC k0 hp0 x1 hx1 FU 0 N q14 N15 hq16 ⟨by decide, by decide⟩ ?_
  refine nv_aload_n hC d_Mo_push_68 rfl 0 rfl ?_
  refine nv_getR hC (j := 3) hp0.1 rfl in_Mo (by decide) k_248 rfl d_Mo_push_69 ?_
  refine nv_iload_n hC d_Mo_push_72 rfl 1 rfl ?_
  obtain ⟨hc17, hm⟩ := ck_s hm
  refine nv_iald hC (isM_2 hp0) (by decide) hc17 d_Mo_push_73 ?_
  refine nv_istore_n (lv' := [(2, .int (iI (N15 (k0 + 2) (Int.toNat x1)))), (0, .ref (ad k0)), (1, .int (iI x1))]) hC d_Mo_push_74 rfl (by decide) rfl ?_
  refine nv_iconst hC d_Mo_push_75 ?_
  refine nv_istore_n (lv' := [(3, .int (iI 0)), (2, .int (iI (N15 (k0 + 2) (Int.toNat x1)))), (0, .ref (ad k0)), (1, .int (iI x1))]) hC d_Mo_push_76 rfl (by decide) rfl ?_
  refine nv_aload_n hC d_Mo_push_77 rfl 2 rfl ?_
  refine nv_iconst hC d_Mo_push_78 ?_
  obtain ⟨N18, e19, hm⟩ := nlt_s hm
  refine nv_putI hC (j := 28) hp0.1 rfl in_Mo (by decide) ty_Mo tyok_Mo nm_Mo k_230 rfl rfl (by decide +kernel) e19 d_Mo_push_79 ?_
  obtain ⟨hr48, hm⟩ := ck_s hm
  obtain ⟨q49, N50, hq51, hm⟩ := nbd_s hm
  refine nv_sub (lv' := [(0, .ref (ad k0)), (1, .int (iI x1)), (2, .int (iI (N15 (k0 + 2) (Int.toNat x1)))), (3, .int (iI 0))]) [2, 3, 1, 0] rfl ?_
  refine w_Mo_push_82 hC k0 hp0 x1 hx1 FU (N15 (k0 + 2) (Int.toNat x1)) 0 N18 q49 N50 hq51 hr48 ⟨by decide, by decide⟩ ?_
  refine nv_iconst hC d_Mo_push_156 ?_
  refine nv_istore (lv' := [(4, .int (iI 0)), (0, .ref (ad k0)), (1, .int (iI x1)), (2, .int (iI q49.1)), (3, .int (iI q49.2))]) hC d_Mo_push_157 (by decide) rfl ?_
  obtain ⟨hr62, hm⟩ := ck_s hm
  obtain ⟨hr63, hm⟩ := ck_s hm
  obtain ⟨q64, N65, hq66, hm⟩ := nbd_s hm
  refine nv_sub (lv' := [(0, .ref (ad k0)), (1, .int (iI x1)), (2, .int (iI q49.1)), (3, .int (iI q49.2)), (4, .int (iI 0))]) [1, 2, 3, 4, 0] rfl ?_
  refine w_Mo_push_159 hC k0 hp0 x1 hx1 q49.1 hr62 FU q49.2 0 N50 q64 N65 hq66 hr63 ⟨by decide, by decide⟩ ?_
  refine nv_aload_n hC d_Mo_push_202 rfl 0 rfl ?_
  refine nv_iload hC d_Mo_push_203 4 rfl ?_
  obtain ⟨N67, e68, hm⟩ := nlt_s hm
  refine nv_putI hC (j := 25) hp0.1 rfl in_Mo (by decide) ty_Mo tyok_Mo nm_Mo k_246 rfl rfl (by decide +kernel) e68 d_Mo_push_205 ?_
  refine nv_aload_n hC d_Mo_push_208 rfl 0 rfl ?_
  obtain ⟨r69, N70, hq71, hm⟩ := nbd_s hm
  refine nv_callv (N' := N70) (nr_V hC (As := []) (st := []) hp0.1 rfl (c_Mo_joinTillFew l hC.2.2.1 k0 hp0 N67 r69 N70 hq71) (cwV 0 hC.1.2.2.2.2 (tt_V k_249 k_251 k_252 k_229 k_250) rfl rfl rfl (by decide +kernel) ⟨Nat.le_of_ble_eq_true rfl, Nat.le_of_ble_eq_true rfl⟩) rfl rfl (Nat.le_of_ble_eq_true rfl) ⟨(Nat.le_of_ble_eq_true rfl), (Nat.le_of_ble_eq_true rfl)⟩ d_Mo_push_209) ?_
  refine nv_aload_n hC d_Mo_push_212 rfl 0 rfl ?_
  refine nv_iload_n hC d_Mo_push_213 rfl 1 rfl ?_
  obtain ⟨r72, N73, hq74, hm⟩ := nbd_s hm
  refine nv_callv (N' := N73) (nr_V hC (As := [.int (iI x1)]) (st := []) hp0.1 rfl (c_Mo_putBack l hC.2.2.1 k0 hp0 x1 hx1 N70 r72 N73 hq74) (cwV 1 hC.1.2.2.2.2 (tt_V k_253 k_255 k_256 k_229 k_254) rfl rfl rfl (by decide +kernel) ⟨Nat.le_of_ble_eq_true rfl, Nat.le_of_ble_eq_true rfl⟩) rfl rfl (Nat.le_of_ble_eq_true rfl) ⟨(Nat.le_of_ble_eq_true rfl), (Nat.le_of_ble_eq_true rfl)⟩ d_Mo_push_214) ?_
  refine nv_aload_n hC d_Mo_push_217 rfl 0 rfl ?_
  refine nv_getR hC (j := 13) hp0.1 rfl in_Mo (by decide) k_257 rfl d_Mo_push_218 ?_
  refine nv_iload_n hC d_Mo_push_221 rfl 1 rfl ?_
  refine nv_aload_n hC d_Mo_push_222 rfl 0 rfl ?_
  refine nv_getI hC (j := 9) hp0.1 rfl in_Mo (by decide) k_258 rfl d_Mo_push_223 ?_
  obtain ⟨N75, e76, hm⟩ := nlt_s hm
  refine nv_iast hC (isM_9 hp0) (by decide) hc17 e76 d_Mo_push_226 ?_
  obtain ⟨rfl, rfl⟩ := ret_s hm
  exact nv_vret hC hr hlk d_Mo_push_227
def m_Mo_take_5 (k0 : Nat) (x1 : Int) (x2 : Int) : Nat → Int → Int → nS → Option ((Int × Int) × nS)
  | 0, _, _, _ => none
  | f + 1, x3, x4, N =>
    if x4 = (-1) then
    some ((x3, x4), N)
    else
    if 0 ≤ x3 ∧ x3 < ((10 : Nat) : Int) then
    nlt (up2 N (k0 + 21) (Int.toNat x3) x4) (fun N3 =>
    if 0 ≤ x4 ∧ x4 < ((10 : Nat) : Int) then
    if rg (x3 + 1) then
    if rg (N3 (k0 + 1) (Int.toNat x4)) then
    m_Mo_take_5 k0 x1 x2 f (x3 + 1) (N3 (k0 + 1) (Int.toNat x4)) N3
    else none
    else none
    else none)
    else none
def m_Mo_take_78 (k0 : Nat) (x1 : Int) (x2 : Int) (x3 : Int) : Nat → Int → nS → Option ((Int) × nS)
  | 0, _, _ => none
  | f + 1, x4, N =>
    if x4 < 0 then
    some (x4, N)
    else
    if 0 ≤ x4 ∧ x4 < ((10 : Nat) : Int) then
    if rg (N (k0 + 21) (Int.toNat x4)) then
    nbd (m_Mo_push k0 (N (k0 + 21) (Int.toNat x4)) N) (fun r23 N24 =>
    if rg (x4 + (-1)) then
    m_Mo_take_78 k0 x1 x2 x3 f (x4 + (-1)) N24
    else none)
    else none
    else none
def m_Mo_take_128 (k0 : Nat) (x1 : Int) (x2 : Int) (x3 : Int) : Nat → Int → nS → Option ((Int) × nS)
  | 0, _, _ => none
  | f + 1, x4, N =>
    if rg (N k0 25) then
    if (N k0 25) ≤ x4 then
    some (x4, N)
    else
    if 0 ≤ x4 ∧ x4 < ((160 : Nat) : Int) then
    if rg (N (k0 + 17) (Int.toNat x4)) then
    if rg (N (k0 + 18) (Int.toNat x4)) then
    nlt (up2 N k0 32 ((N k0 32) + ((N (k0 + 17) (Int.toNat x4)) * (N (k0 + 18) (Int.toNat x4))))) (fun N43 =>
    if rg (N43 (k0 + 18) (Int.toNat x4)) then
    if rg (N43 k0 33) then
    if (N43 k0 33) ≤ (N43 (k0 + 18) (Int.toNat x4)) then
    nlt (up2 N43 k0 33 (N43 k0 33)) (fun N48 =>
    if rg (N48 (k0 + 18) (Int.toNat x4)) then
    if rg (N48 k0 34) then
    if (N48 (k0 + 18) (Int.toNat x4)) ≤ (N48 k0 34) then
    nlt (up2 N48 k0 34 (N48 k0 34)) (fun N53 =>
    if rg (x4 + 1) then
    m_Mo_take_128 k0 x1 x2 x3 f (x4 + 1) N53
    else none)
    else
    nlt (up2 N48 k0 34 (N48 (k0 + 18) (Int.toNat x4))) (fun N56 =>
    if rg (x4 + 1) then
    m_Mo_take_128 k0 x1 x2 x3 f (x4 + 1) N56
    else none)
    else none
    else none)
    else
    nlt (up2 N43 k0 33 (N43 (k0 + 18) (Int.toNat x4))) (fun N59 =>
    if rg (N59 (k0 + 18) (Int.toNat x4)) then
    if rg (N59 k0 34) then
    if (N59 (k0 + 18) (Int.toNat x4)) ≤ (N59 k0 34) then
    nlt (up2 N59 k0 34 (N59 k0 34)) (fun N64 =>
    if rg (x4 + 1) then
    m_Mo_take_128 k0 x1 x2 x3 f (x4 + 1) N64
    else none)
    else
    nlt (up2 N59 k0 34 (N59 (k0 + 18) (Int.toNat x4))) (fun N67 =>
    if rg (x4 + 1) then
    m_Mo_take_128 k0 x1 x2 x3 f (x4 + 1) N67
    else none)
    else none
    else none)
    else none
    else none)
    else none
    else none
    else none
    else none
def m_Mo_take (k0 : Nat) (x1 : Int) (x2 : Int) (N : nS) : Option (Int × nS) :=
  nbd (m_Mo_take_5 k0 x1 x2 FU 0 x1 N) (fun q8 N9 =>
  nlt (up2 N9 k0 25 1) (fun N11 =>
  nlt (up2 N11 (k0 + 17) (Int.toNat 0) x2) (fun N13 =>
  nlt (up2 N13 (k0 + 18) (Int.toNat 0) (N13 k0 7)) (fun N15 =>
  if rg (N15 k0 7) then
  nlt (up2 N15 k0 22 ((N15 k0 22) + (x2 * (N15 k0 7)))) (fun N18 =>
  if rg q8.1 then
  if rg (q8.1 - 1) then
  nbd (m_Mo_take_78 k0 x1 x2 q8.1 FU (q8.1 - 1) N18) (fun q29 N30 =>
  nlt (up2 N30 k0 32 0) (fun N32 =>
  nlt (up2 N32 k0 33 (N32 (k0 + 18) (Int.toNat 0))) (fun N34 =>
  nlt (up2 N34 k0 34 (N34 (k0 + 18) (Int.toNat 0))) (fun N36 =>
  nbd (m_Mo_take_128 k0 x1 x2 q8.1 FU 0 N36) (fun q70 N71 =>
  nlt (up2 N71 k0 23 ((N71 k0 23) + (N71 k0 32))) (fun N73 =>
  some (0, N73)))))))
  else none
  else none)
  else none))))
set_option maxRecDepth 20000 in
theorem k_259 : Cond.fieldLink R_Mo 78 (T_Mo 31).1 (T_Mo 31).2.1 (T_Mo 31).2.2.1 ∈ TT := tt_i 577 (by decide +kernel) (by decide +kernel)
set_option maxRecDepth 20000 in
theorem k_260 : Cond.fieldLink R_Mo 7 (T_Mo 2).1 (T_Mo 2).2.1 (T_Mo 2).2.2.1 ∈ TT := tt_i 548 (by decide +kernel) (by decide +kernel)
set_option maxRecDepth 20000 in
theorem k_261 : Cond.fieldLink R_Mo 26 (T_Mo 7).1 (T_Mo 7).2.1 (T_Mo 7).2.2.1 ∈ TT := tt_i 553 (by decide +kernel) (by decide +kernel)
set_option maxRecDepth 20000 in
theorem k_262 : Cond.fieldLink R_Mo 136 (T_Mo 22).1 (T_Mo 22).2.1 (T_Mo 22).2.2.1 ∈ TT := tt_i 568 (by decide +kernel) (by decide +kernel)
set_option maxRecDepth 20000 in
theorem k_263 : Cond.methodLink R_Mo 139 y_Mo_push ∈ TT := tt_i 713 (by decide +kernel) (by decide +kernel)
set_option maxRecDepth 20000 in
theorem k_264 : Cond.code y_Mo_push b_Mo_push 5 none ∈ TT := tt_i 716 (by decide +kernel) (by decide +kernel)
set_option maxRecDepth 20000 in
theorem k_265 : Cond.instanceMethod y_Mo_push ∈ TT := tt_i 715 (by decide +kernel) (by decide +kernel)
set_option maxRecDepth 20000 in
theorem k_266 : Cond.selects R_Mo y_Mo_push y_Mo_push ∈ TT := tt_i 13 (by decide +kernel) (by decide +kernel)
set_option maxRecDepth 20000 in
theorem k_267 : Cond.fieldLink R_Mo 142 (T_Mo 32).1 (T_Mo 32).2.1 (T_Mo 32).2.2.1 ∈ TT := tt_i 578 (by decide +kernel) (by decide +kernel)
set_option maxRecDepth 20000 in
theorem k_268 : Cond.fieldLink R_Mo 145 (T_Mo 33).1 (T_Mo 33).2.1 (T_Mo 33).2.2.1 ∈ TT := tt_i 579 (by decide +kernel) (by decide +kernel)
set_option maxRecDepth 20000 in
theorem k_269 : Cond.fieldLink R_Mo 148 (T_Mo 34).1 (T_Mo 34).2.1 (T_Mo 34).2.2.1 ∈ TT := tt_i 580 (by decide +kernel) (by decide +kernel)
set_option maxRecDepth 20000 in
theorem k_270 : Cond.fieldLink R_Mo 151 (T_Mo 23).1 (T_Mo 23).2.1 (T_Mo 23).2.2.1 ∈ TT := tt_i 569 (by decide +kernel) (by decide +kernel)
abbrev rm_Mo_take : Room := { frames := 4, cells := 0, slots := 0, locals := 100 }
set_option maxRecDepth 100000 in
set_option maxHeartbeats 4000000 in
theorem w_Mo_take_5 {p : Program} {l : Launch} {e : Env} {s : State} {m : MethodId} {args : Array Value} {below : List Frame} {meth : Method} {c : Code} {Q : State → Prop} {D : va_G} {ct : Nat → ClassId} {A : Nat → Prop} {ad : Nat → Nat} {S : nH} (hC : nC p s m args c D vwCl ct A ad S 5 b_Mo_take R_Mo TT) (k0 : Nat) (hp0 : isM S k0) (x1 : Int) (hx1 : rg x1) (x2 : Int) (hx2 : rg x2) : ∀ (f : Nat) (x3 x4 : Int) (N : nS) (q : Int × Int) (No : nS), m_Mo_take_5 k0 x1 x2 f x3 x4 N = some (q, No) → rg x3 → rg x4 → nV p l e rm_Mo_take s m args below meth c 0 0 Q D vwCl ct A ad S 5 No 34 [(0, .ref (ad k0)), (1, .int (iI x1)), (2, .int (iI x2)), (3, .int (iI q.1)), (4, .int (iI q.2))] [] → nV p l e rm_Mo_take s m args below meth c 0 0 Q D vwCl ct A ad S 5 N 5 [(0, .ref (ad k0)), (1, .int (iI x1)), (2, .int (iI x2)), (3, .int (iI x3)), (4, .int (iI x4))] [] := by
  intro f
  induction f with
  | zero =>
    intro x3 x4 N q No hm
    rw [m_Mo_take_5] at hm
    cases hm
  | succ f ih =>
    intro x3 x4 N q No hm hx3 hx4 kx
    rw [m_Mo_take_5] at hm
    refine nv_iload hC d_Mo_take_5 4 rfl ?_
    refine nv_iconst hC d_Mo_take_7 ?_
    refine nv_icmp_eq hC hx4 ⟨by decide, by decide⟩ d_Mo_take_8 (tgt := 34) (by decide) (fun c1 => ?_) (fun c1 => ?_)
    · have hm := if_t c1 hm
      obtain ⟨rfl, rfl⟩ := ret_s hm
      refine nv_sub (lv' := [(0, .ref (ad k0)), (1, .int (iI x1)), (2, .int (iI x2)), (3, .int (iI x3)), (4, .int (iI x4))]) [0, 1, 2, 3, 4] rfl ?_
      exact kx
    · have hm := if_f c1 hm
      refine nv_aload_n hC d_Mo_take_11 rfl 0 rfl ?_
      refine nv_getR hC (j := 31) hp0.1 rfl in_Mo (by decide) k_259 rfl d_Mo_take_12 ?_
      refine nv_iload_n hC d_Mo_take_15 rfl 3 rfl ?_
      refine nv_iload hC d_Mo_take_16 4 rfl ?_
      obtain ⟨hc2, hm⟩ := ck_s hm
      obtain ⟨N3, e4, hm⟩ := nlt_s hm
      refine nv_iast hC (isM_21 hp0) (by decide) hc2 e4 d_Mo_take_18 ?_
      refine nv_iinc (lv' := [(3, .int (iI (x3 + 1))), (0, .ref (ad k0)), (1, .int (iI x1)), (2, .int (iI x2)), (4, .int (iI x4))]) hC d_Mo_take_19 3 rfl (by decide) rfl ?_
      refine nv_aload_n hC d_Mo_take_22 rfl 1 rfl ?_
      refine nv_getR hC (j := 2) hp0.1 rfl in_Mo (by decide) k_260 rfl d_Mo_take_23 ?_
      refine nv_iload hC d_Mo_take_26 4 rfl ?_
      obtain ⟨hc5, hm⟩ := ck_s hm
      refine nv_iald hC (isM_1 hp0) (by decide) hc5 d_Mo_take_28 ?_
      refine nv_istore (lv' := [(4, .int (iI (N3 (k0 + 1) (Int.toNat x4)))), (3, .int (iI (x3 + 1))), (0, .ref (ad k0)), (1, .int (iI x1)), (2, .int (iI x2))]) hC d_Mo_take_29 (by decide) rfl ?_
      refine nv_goto hC d_Mo_take_31 (tgt := 5) (by decide) ?_
      obtain ⟨hr6, hm⟩ := ck_s hm
      obtain ⟨hr7, hm⟩ := ck_s hm
      refine nv_sub (lv' := [(0, .ref (ad k0)), (1, .int (iI x1)), (2, .int (iI x2)), (3, .int (iI (x3 + 1))), (4, .int (iI (N3 (k0 + 1) (Int.toNat x4))))]) [2, 3, 4, 1, 0] rfl ?_
      exact ih (x3 + 1) (N3 (k0 + 1) (Int.toNat x4)) N3 q No hm hr6 hr7 kx
set_option maxRecDepth 100000 in
set_option maxHeartbeats 4000000 in
theorem w_Mo_take_78 {p : Program} {l : Launch} {e : Env} {s : State} {m : MethodId} {args : Array Value} {below : List Frame} {meth : Method} {c : Code} {Q : State → Prop} {D : va_G} {ct : Nat → ClassId} {A : Nat → Prop} {ad : Nat → Nat} {S : nH} (hC : nC p s m args c D vwCl ct A ad S 5 b_Mo_take R_Mo TT) (k0 : Nat) (hp0 : isM S k0) (x1 : Int) (hx1 : rg x1) (x2 : Int) (hx2 : rg x2) (x3 : Int) (hx3 : rg x3) : ∀ (f : Nat) (x4 : Int) (N : nS) (q : Int) (No : nS), m_Mo_take_78 k0 x1 x2 x3 f x4 N = some (q, No) → rg x4 → nV p l e rm_Mo_take s m args below meth c 0 0 Q D vwCl ct A ad S 5 No 100 [(0, .ref (ad k0)), (1, .int (iI x1)), (2, .int (iI x2)), (3, .int (iI x3)), (4, .int (iI q))] [] → nV p l e rm_Mo_take s m args below meth c 0 0 Q D vwCl ct A ad S 5 N 78 [(0, .ref (ad k0)), (1, .int (iI x1)), (2, .int (iI x2)), (3, .int (iI x3)), (4, .int (iI x4))] [] := by
  intro f
  induction f with
  | zero =>
    intro x4 N q No hm
    rw [m_Mo_take_78] at hm
    cases hm
  | succ f ih =>
    intro x4 N q No hm hx4 kx
    rw [m_Mo_take_78] at hm
    refine nv_iload hC d_Mo_take_78 4 rfl ?_
    refine nv_if_lt hC hx4 d_Mo_take_80 (tgt := 100) (by decide) (fun c20 => ?_) (fun c20 => ?_)
    · have hm := if_t c20 hm
      obtain ⟨rfl, rfl⟩ := ret_s hm
      refine nv_sub (lv' := [(0, .ref (ad k0)), (1, .int (iI x1)), (2, .int (iI x2)), (3, .int (iI x3)), (4, .int (iI x4))]) [0, 1, 2, 3, 4] rfl ?_
      exact kx
    · have hm := if_f c20 hm
      refine nv_aload_n hC d_Mo_take_83 rfl 0 rfl ?_
      refine nv_aload_n hC d_Mo_take_84 rfl 0 rfl ?_
      refine nv_getR hC (j := 31) hp0.1 rfl in_Mo (by decide) k_259 rfl d_Mo_take_85 ?_
      refine nv_iload hC d_Mo_take_88 4 rfl ?_
      obtain ⟨hc21, hm⟩ := ck_s hm
      refine nv_iald hC (isM_21 hp0) (by decide) hc21 d_Mo_take_90 ?_
      obtain ⟨hr22, hm⟩ := ck_s hm
      obtain ⟨r23, N24, hq25, hm⟩ := nbd_s hm
      refine nv_callv (N' := N24) (nr_V hC (As := [.int (iI (N (k0 + 21) (Int.toNat x4)))]) (st := []) hp0.1 rfl (c_Mo_push l hC.2.2.1 k0 hp0 (N (k0 + 21) (Int.toNat x4)) hr22 N r23 N24 hq25) (cwV 1 hC.1.2.2.2.2 (tt_V k_263 k_265 k_266 k_229 k_264) rfl rfl rfl (by decide +kernel) ⟨Nat.le_of_ble_eq_true rfl, Nat.le_of_ble_eq_true rfl⟩) rfl rfl (Nat.le_of_ble_eq_true rfl) ⟨(Nat.le_of_ble_eq_true rfl), (Nat.le_of_ble_eq_true rfl)⟩ d_Mo_take_91) ?_
      refine nv_iinc (lv' := [(4, .int (iI (x4 + (-1)))), (0, .ref (ad k0)), (1, .int (iI x1)), (2, .int (iI x2)), (3, .int (iI x3))]) hC d_Mo_take_94 4 rfl (by decide) rfl ?_
      refine nv_goto hC d_Mo_take_97 (tgt := 78) (by decide) ?_
      obtain ⟨hr26, hm⟩ := ck_s hm
      refine nv_sub (lv' := [(0, .ref (ad k0)), (1, .int (iI x1)), (2, .int (iI x2)), (3, .int (iI x3)), (4, .int (iI (x4 + (-1))))]) [1, 2, 3, 4, 0] rfl ?_
      exact ih (x4 + (-1)) N24 q No hm hr26 kx
set_option maxRecDepth 100000 in
set_option maxHeartbeats 4000000 in
theorem w_Mo_take_128 {p : Program} {l : Launch} {e : Env} {s : State} {m : MethodId} {args : Array Value} {below : List Frame} {meth : Method} {c : Code} {Q : State → Prop} {D : va_G} {ct : Nat → ClassId} {A : Nat → Prop} {ad : Nat → Nat} {S : nH} (hC : nC p s m args c D vwCl ct A ad S 5 b_Mo_take R_Mo TT) (k0 : Nat) (hp0 : isM S k0) (x1 : Int) (hx1 : rg x1) (x2 : Int) (hx2 : rg x2) (x3 : Int) (hx3 : rg x3) : ∀ (f : Nat) (x4 : Int) (N : nS) (q : Int) (No : nS), m_Mo_take_128 k0 x1 x2 x3 f x4 N = some (q, No) → rg x4 → nV p l e rm_Mo_take s m args below meth c 0 0 Q D vwCl ct A ad S 5 No 233 [(0, .ref (ad k0)), (1, .int (iI x1)), (2, .int (iI x2)), (3, .int (iI x3)), (4, .int (iI q))] [] → nV p l e rm_Mo_take s m args below meth c 0 0 Q D vwCl ct A ad S 5 N 128 [(0, .ref (ad k0)), (1, .int (iI x1)), (2, .int (iI x2)), (3, .int (iI x3)), (4, .int (iI x4))] [] := by
  intro f
  induction f with
  | zero =>
    intro x4 N q No hm
    rw [m_Mo_take_128] at hm
    cases hm
  | succ f ih =>
    intro x4 N q No hm hx4 kx
    rw [m_Mo_take_128] at hm
    refine nv_iload hC d_Mo_take_128 4 rfl ?_
    refine nv_aload_n hC d_Mo_take_130 rfl 0 rfl ?_
    refine nv_getI hC (j := 25) hp0.1 rfl in_Mo (by decide) k_246 rfl d_Mo_take_131 ?_
    obtain ⟨hr38, hm⟩ := ck_s hm
    refine nv_icmp_ge hC hx4 hr38 d_Mo_take_134 (tgt := 233) (by decide) (fun c39 => ?_) (fun c39 => ?_)
    · have hm := if_t c39 hm
      obtain ⟨rfl, rfl⟩ := ret_s hm
      refine nv_sub (lv' := [(0, .ref (ad k0)), (1, .int (iI x1)), (2, .int (iI x2)), (3, .int (iI x3)), (4, .int (iI x4))]) [0, 1, 2, 3, 4] rfl ?_
      exact kx
    · have hm := if_f c39 hm
      refine nv_aload_n hC d_Mo_take_137 rfl 0 rfl ?_
      refine nv_dup hC d_Mo_take_138 rfl ?_
      refine nv_getJ hC (j := 32) hp0.1 rfl in_Mo (by decide) k_267 rfl d_Mo_take_139 ?_
      refine nv_aload_n hC d_Mo_take_142 rfl 0 rfl ?_
      refine nv_getR hC (j := 26) hp0.1 rfl in_Mo (by decide) k_245 rfl d_Mo_take_143 ?_
      refine nv_iload hC d_Mo_take_146 4 rfl ?_
      obtain ⟨hc40, hm⟩ := ck_s hm
      refine nv_iald hC (isM_17 hp0) (by decide) hc40 d_Mo_take_148 ?_
      obtain ⟨hr41, hm⟩ := ck_s hm
      refine nv_i2l hC d_Mo_take_149 hr41 ?_
      refine nv_aload_n hC d_Mo_take_150 rfl 0 rfl ?_
      refine nv_getR hC (j := 27) hp0.1 rfl in_Mo (by decide) k_247 rfl d_Mo_take_151 ?_
      refine nv_iload hC d_Mo_take_154 4 rfl ?_
      refine nv_iald hC (isM_18 hp0) (by decide) hc40 d_Mo_take_156 ?_
      obtain ⟨hr42, hm⟩ := ck_s hm
      refine nv_i2l hC d_Mo_take_157 hr42 ?_
      refine nv_lmul hC d_Mo_take_158 ?_
      refine nv_ladd hC d_Mo_take_159 ?_
      obtain ⟨N43, e44, hm⟩ := nlt_s hm
      refine nv_putJ hC (j := 32) hp0.1 rfl in_Mo (by decide) ty_Mo tyok_Mo nm_Mo k_267 rfl rfl (by decide +kernel) e44 d_Mo_take_160 ?_
      refine nv_aload_n hC d_Mo_take_163 rfl 0 rfl ?_
      refine nv_aload_n hC d_Mo_take_164 rfl 0 rfl ?_
      refine nv_getR hC (j := 27) hp0.1 rfl in_Mo (by decide) k_247 rfl d_Mo_take_165 ?_
      refine nv_iload hC d_Mo_take_168 4 rfl ?_
      refine nv_iald hC (isM_18 hp0) (by decide) hc40 d_Mo_take_170 ?_
      refine nv_aload_n hC d_Mo_take_171 rfl 0 rfl ?_
      refine nv_getI hC (j := 33) hp0.1 rfl in_Mo (by decide) k_268 rfl d_Mo_take_172 ?_
      obtain ⟨hr45, hm⟩ := ck_s hm
      obtain ⟨hr46, hm⟩ := ck_s hm
      refine nv_icmp_ge hC hr45 hr46 d_Mo_take_175 (tgt := 188) (by decide) (fun c47 => ?_) (fun c47 => ?_)
      · have hm := if_t c47 hm
        refine nv_aload_n hC d_Mo_take_188 rfl 0 rfl ?_
        refine nv_getI hC (j := 33) hp0.1 rfl in_Mo (by decide) k_268 rfl d_Mo_take_189 ?_
        obtain ⟨N48, e49, hm⟩ := nlt_s hm
        refine nv_putI hC (j := 33) hp0.1 rfl in_Mo (by decide) ty_Mo tyok_Mo nm_Mo k_268 rfl rfl (by decide +kernel) e49 d_Mo_take_192 ?_
        refine nv_aload_n hC d_Mo_take_195 rfl 0 rfl ?_
        refine nv_aload_n hC d_Mo_take_196 rfl 0 rfl ?_
        refine nv_getR hC (j := 27) hp0.1 rfl in_Mo (by decide) k_247 rfl d_Mo_take_197 ?_
        refine nv_iload hC d_Mo_take_200 4 rfl ?_
        refine nv_iald hC (isM_18 hp0) (by decide) hc40 d_Mo_take_202 ?_
        refine nv_aload_n hC d_Mo_take_203 rfl 0 rfl ?_
        refine nv_getI hC (j := 34) hp0.1 rfl in_Mo (by decide) k_269 rfl d_Mo_take_204 ?_
        obtain ⟨hr50, hm⟩ := ck_s hm
        obtain ⟨hr51, hm⟩ := ck_s hm
        refine nv_icmp_le hC hr50 hr51 d_Mo_take_207 (tgt := 220) (by decide) (fun c52 => ?_) (fun c52 => ?_)
        · have hm := if_t c52 hm
          refine nv_aload_n hC d_Mo_take_220 rfl 0 rfl ?_
          refine nv_getI hC (j := 34) hp0.1 rfl in_Mo (by decide) k_269 rfl d_Mo_take_221 ?_
          obtain ⟨N53, e54, hm⟩ := nlt_s hm
          refine nv_putI hC (j := 34) hp0.1 rfl in_Mo (by decide) ty_Mo tyok_Mo nm_Mo k_269 rfl rfl (by decide +kernel) e54 d_Mo_take_224 ?_
          refine nv_iinc (lv' := [(4, .int (iI (x4 + 1))), (0, .ref (ad k0)), (1, .int (iI x1)), (2, .int (iI x2)), (3, .int (iI x3))]) hC d_Mo_take_227 4 rfl (by decide) rfl ?_
          refine nv_goto hC d_Mo_take_230 (tgt := 128) (by decide) ?_
          obtain ⟨hr55, hm⟩ := ck_s hm
          refine nv_sub (lv' := [(0, .ref (ad k0)), (1, .int (iI x1)), (2, .int (iI x2)), (3, .int (iI x3)), (4, .int (iI (x4 + 1)))]) [1, 2, 3, 4, 0] rfl ?_
          exact ih (x4 + 1) N53 q No hm hr55 kx
        · have hm := if_f c52 hm
          refine nv_aload_n hC d_Mo_take_210 rfl 0 rfl ?_
          refine nv_getR hC (j := 27) hp0.1 rfl in_Mo (by decide) k_247 rfl d_Mo_take_211 ?_
          refine nv_iload hC d_Mo_take_214 4 rfl ?_
          refine nv_iald hC (isM_18 hp0) (by decide) hc40 d_Mo_take_216 ?_
          refine nv_goto hC d_Mo_take_217 (tgt := 224) (by decide) ?_
          obtain ⟨N56, e57, hm⟩ := nlt_s hm
          refine nv_putI hC (j := 34) hp0.1 rfl in_Mo (by decide) ty_Mo tyok_Mo nm_Mo k_269 rfl rfl (by decide +kernel) e57 d_Mo_take_224 ?_
          refine nv_iinc (lv' := [(4, .int (iI (x4 + 1))), (0, .ref (ad k0)), (1, .int (iI x1)), (2, .int (iI x2)), (3, .int (iI x3))]) hC d_Mo_take_227 4 rfl (by decide) rfl ?_
          refine nv_goto hC d_Mo_take_230 (tgt := 128) (by decide) ?_
          obtain ⟨hr58, hm⟩ := ck_s hm
          refine nv_sub (lv' := [(0, .ref (ad k0)), (1, .int (iI x1)), (2, .int (iI x2)), (3, .int (iI x3)), (4, .int (iI (x4 + 1)))]) [1, 2, 3, 4, 0] rfl ?_
          exact ih (x4 + 1) N56 q No hm hr58 kx
      · have hm := if_f c47 hm
        refine nv_aload_n hC d_Mo_take_178 rfl 0 rfl ?_
        refine nv_getR hC (j := 27) hp0.1 rfl in_Mo (by decide) k_247 rfl d_Mo_take_179 ?_
        refine nv_iload hC d_Mo_take_182 4 rfl ?_
        refine nv_iald hC (isM_18 hp0) (by decide) hc40 d_Mo_take_184 ?_
        refine nv_goto hC d_Mo_take_185 (tgt := 192) (by decide) ?_
        obtain ⟨N59, e60, hm⟩ := nlt_s hm
        refine nv_putI hC (j := 33) hp0.1 rfl in_Mo (by decide) ty_Mo tyok_Mo nm_Mo k_268 rfl rfl (by decide +kernel) e60 d_Mo_take_192 ?_
        refine nv_aload_n hC d_Mo_take_195 rfl 0 rfl ?_
        refine nv_aload_n hC d_Mo_take_196 rfl 0 rfl ?_
        refine nv_getR hC (j := 27) hp0.1 rfl in_Mo (by decide) k_247 rfl d_Mo_take_197 ?_
        refine nv_iload hC d_Mo_take_200 4 rfl ?_
        refine nv_iald hC (isM_18 hp0) (by decide) hc40 d_Mo_take_202 ?_
        refine nv_aload_n hC d_Mo_take_203 rfl 0 rfl ?_
        refine nv_getI hC (j := 34) hp0.1 rfl in_Mo (by decide) k_269 rfl d_Mo_take_204 ?_
        obtain ⟨hr61, hm⟩ := ck_s hm
        obtain ⟨hr62, hm⟩ := ck_s hm
        refine nv_icmp_le hC hr61 hr62 d_Mo_take_207 (tgt := 220) (by decide) (fun c63 => ?_) (fun c63 => ?_)
        · have hm := if_t c63 hm
          refine nv_aload_n hC d_Mo_take_220 rfl 0 rfl ?_
          refine nv_getI hC (j := 34) hp0.1 rfl in_Mo (by decide) k_269 rfl d_Mo_take_221 ?_
          obtain ⟨N64, e65, hm⟩ := nlt_s hm
          refine nv_putI hC (j := 34) hp0.1 rfl in_Mo (by decide) ty_Mo tyok_Mo nm_Mo k_269 rfl rfl (by decide +kernel) e65 d_Mo_take_224 ?_
          refine nv_iinc (lv' := [(4, .int (iI (x4 + 1))), (0, .ref (ad k0)), (1, .int (iI x1)), (2, .int (iI x2)), (3, .int (iI x3))]) hC d_Mo_take_227 4 rfl (by decide) rfl ?_
          refine nv_goto hC d_Mo_take_230 (tgt := 128) (by decide) ?_
          obtain ⟨hr66, hm⟩ := ck_s hm
          refine nv_sub (lv' := [(0, .ref (ad k0)), (1, .int (iI x1)), (2, .int (iI x2)), (3, .int (iI x3)), (4, .int (iI (x4 + 1)))]) [1, 2, 3, 4, 0] rfl ?_
          exact ih (x4 + 1) N64 q No hm hr66 kx
        · have hm := if_f c63 hm
          refine nv_aload_n hC d_Mo_take_210 rfl 0 rfl ?_
          refine nv_getR hC (j := 27) hp0.1 rfl in_Mo (by decide) k_247 rfl d_Mo_take_211 ?_
          refine nv_iload hC d_Mo_take_214 4 rfl ?_
          refine nv_iald hC (isM_18 hp0) (by decide) hc40 d_Mo_take_216 ?_
          refine nv_goto hC d_Mo_take_217 (tgt := 224) (by decide) ?_
          obtain ⟨N67, e68, hm⟩ := nlt_s hm
          refine nv_putI hC (j := 34) hp0.1 rfl in_Mo (by decide) ty_Mo tyok_Mo nm_Mo k_269 rfl rfl (by decide +kernel) e68 d_Mo_take_224 ?_
          refine nv_iinc (lv' := [(4, .int (iI (x4 + 1))), (0, .ref (ad k0)), (1, .int (iI x1)), (2, .int (iI x2)), (3, .int (iI x3))]) hC d_Mo_take_227 4 rfl (by decide) rfl ?_
          refine nv_goto hC d_Mo_take_230 (tgt := 128) (by decide) ?_
          obtain ⟨hr69, hm⟩ := ck_s hm
          refine nv_sub (lv' := [(0, .ref (ad k0)), (1, .int (iI x1)), (2, .int (iI x2)), (3, .int (iI x3)), (4, .int (iI (x4 + 1)))]) [1, 2, 3, 4, 0] rfl ?_
          exact ih (x4 + 1) N67 q No hm hr69 kx
set_option maxRecDepth 100000 in
set_option maxHeartbeats 4000000 in
theorem c_Mo_take (l : Launch) {D : va_G} {ct : Nat → ClassId} {A : Nat → Prop} {ad : Nat → Nat} {S : nH} (hD : nD ad A S.length) (k0 : Nat) (hp0 : isM S k0) (x1 : Int) (hx1 : rg x1) (x2 : Int) (hx2 : rg x2) (N : nS) (r : Int) (No : nS) (hm : m_Mo_take k0 x1 x2 N = some (r, No)) : nM l y_Mo_take (Cond.code y_Mo_take b_Mo_take 5 none :: TT) rm_Mo_take D vwCl ct A ad S N [.ref (ad k0), .int (iI x1), .int (iI x2)] (nQv D vwCl ct A ad S No) := by
  refine nM_of (cc := b_Mo_take) (maxL := 5) (ret := none) (by decide) rfl (Nat.le_of_ble_eq_true rfl) hD ?_
  intro p e s m below meth c hC hr hlk
  refine nv_lv (lv' := [(0, .ref (ad k0)), (1, .int (iI x1)), (2, .int (iI x2))]) rfl ?_
  rw [m_Mo_take] at hm
  refine nv_iconst hC d_Mo_take_0 ?_
  refine nv_istore_n (lv' := [(3, .int (iI 0)), (0, .ref (ad k0)), (1, .int (iI x1)), (2, .int (iI x2))]) hC d_Mo_take_1 rfl (by decide) rfl ?_
  refine nv_iload_n hC d_Mo_take_2 rfl 2 rfl ?_
  refine nv_istore (lv' := [(4, .int (iI x1)), (3, .int (iI 0)), (0, .ref (ad k0)), (1, .int (iI x1)), (2, .int (iI x2))]) hC d_Mo_take_3 (by decide) rfl ?_
  obtain ⟨q8, N9, hq10, hm⟩ := nbd_s hm
  refine nv_sub (lv' := [(0, .ref (ad k0)), (1, .int (iI x1)), (2, .int (iI x2)), (3, .int (iI 0)), (4, .int (iI x1))]) [2, 3, 4, 1, 0] rfl ?_
  refine w_Mo_take_5 hC k0 hp0 x1 hx1 x2 hx2 FU 0 x1 N q8 N9 hq10 ⟨by decide, by decide⟩ hx1 ?_
  refine nv_aload_n hC d_Mo_take_34 rfl 0 rfl ?_
  refine nv_iconst hC d_Mo_take_35 ?_
  obtain ⟨N11, e12, hm⟩ := nlt_s hm
  refine nv_putI hC (j := 25) hp0.1 rfl in_Mo (by decide) ty_Mo tyok_Mo nm_Mo k_246 rfl rfl (by decide +kernel) e12 d_Mo_take_36 ?_
  refine nv_aload_n hC d_Mo_take_39 rfl 0 rfl ?_
  refine nv_getR hC (j := 26) hp0.1 rfl in_Mo (by decide) k_245 rfl d_Mo_take_40 ?_
  refine nv_iconst hC d_Mo_take_43 ?_
  refine nv_iload_n hC d_Mo_take_44 rfl 2 rfl ?_
  obtain ⟨N13, e14, hm⟩ := nlt_s hm
  refine nv_iast hC (isM_17 hp0) (by decide) ⟨by decide, by decide⟩ e14 d_Mo_take_45 ?_
  refine nv_aload_n hC d_Mo_take_46 rfl 0 rfl ?_
  refine nv_getR hC (j := 27) hp0.1 rfl in_Mo (by decide) k_247 rfl d_Mo_take_47 ?_
  refine nv_iconst hC d_Mo_take_50 ?_
  refine nv_aload_n hC d_Mo_take_51 rfl 0 rfl ?_
  refine nv_getI hC (j := 7) hp0.1 rfl in_Mo (by decide) k_261 rfl d_Mo_take_52 ?_
  obtain ⟨N15, e16, hm⟩ := nlt_s hm
  refine nv_iast hC (isM_18 hp0) (by decide) ⟨by decide, by decide⟩ e16 d_Mo_take_55 ?_
  refine nv_aload_n hC d_Mo_take_56 rfl 0 rfl ?_
  refine nv_dup hC d_Mo_take_57 rfl ?_
  refine nv_getJ hC (j := 22) hp0.1 rfl in_Mo (by decide) k_262 rfl d_Mo_take_58 ?_
  refine nv_iload_n hC d_Mo_take_61 rfl 2 rfl ?_
  refine nv_i2l hC d_Mo_take_62 hx2 ?_
  refine nv_aload_n hC d_Mo_take_63 rfl 0 rfl ?_
  refine nv_getI hC (j := 7) hp0.1 rfl in_Mo (by decide) k_261 rfl d_Mo_take_64 ?_
  obtain ⟨hr17, hm⟩ := ck_s hm
  refine nv_i2l hC d_Mo_take_67 hr17 ?_
  refine nv_lmul hC d_Mo_take_68 ?_
  refine nv_ladd hC d_Mo_take_69 ?_
  obtain ⟨N18, e19, hm⟩ := nlt_s hm
  refine nv_putJ hC (j := 22) hp0.1 rfl in_Mo (by decide) ty_Mo tyok_Mo nm_Mo k_262 rfl rfl (by decide +kernel) e19 d_Mo_take_70 ?_
  refine nv_iload_n hC d_Mo_take_73 rfl 3 rfl ?_
  refine nv_iconst hC d_Mo_take_74 ?_
  refine nv_isub hC d_Mo_take_75 ?_
  refine nv_istore (lv' := [(4, .int (iI (q8.1 - 1))), (0, .ref (ad k0)), (1, .int (iI x1)), (2, .int (iI x2)), (3, .int (iI q8.1))]) hC d_Mo_take_76 (by decide) rfl ?_
  obtain ⟨hr27, hm⟩ := ck_s hm
  obtain ⟨hr28, hm⟩ := ck_s hm
  obtain ⟨q29, N30, hq31, hm⟩ := nbd_s hm
  refine nv_sub (lv' := [(0, .ref (ad k0)), (1, .int (iI x1)), (2, .int (iI x2)), (3, .int (iI q8.1)), (4, .int (iI (q8.1 - 1)))]) [1, 2, 3, 4, 0] rfl ?_
  refine w_Mo_take_78 hC k0 hp0 x1 hx1 x2 hx2 q8.1 hr27 FU (q8.1 - 1) N18 q29 N30 hq31 hr28 ?_
  refine nv_aload_n hC d_Mo_take_100 rfl 0 rfl ?_
  refine nv_lconst hC (z := 0) d_Mo_take_101 rfl ?_
  obtain ⟨N32, e33, hm⟩ := nlt_s hm
  refine nv_putJ hC (j := 32) hp0.1 rfl in_Mo (by decide) ty_Mo tyok_Mo nm_Mo k_267 rfl rfl (by decide +kernel) e33 d_Mo_take_102 ?_
  refine nv_aload_n hC d_Mo_take_105 rfl 0 rfl ?_
  refine nv_aload_n hC d_Mo_take_106 rfl 0 rfl ?_
  refine nv_getR hC (j := 27) hp0.1 rfl in_Mo (by decide) k_247 rfl d_Mo_take_107 ?_
  refine nv_iconst hC d_Mo_take_110 ?_
  refine nv_iald hC (isM_18 hp0) (by decide) ⟨by decide, by decide⟩ d_Mo_take_111 ?_
  obtain ⟨N34, e35, hm⟩ := nlt_s hm
  refine nv_putI hC (j := 33) hp0.1 rfl in_Mo (by decide) ty_Mo tyok_Mo nm_Mo k_268 rfl rfl (by decide +kernel) e35 d_Mo_take_112 ?_
  refine nv_aload_n hC d_Mo_take_115 rfl 0 rfl ?_
  refine nv_aload_n hC d_Mo_take_116 rfl 0 rfl ?_
  refine nv_getR hC (j := 27) hp0.1 rfl in_Mo (by decide) k_247 rfl d_Mo_take_117 ?_
  refine nv_iconst hC d_Mo_take_120 ?_
  refine nv_iald hC (isM_18 hp0) (by decide) ⟨by decide, by decide⟩ d_Mo_take_121 ?_
  obtain ⟨N36, e37, hm⟩ := nlt_s hm
  refine nv_putI hC (j := 34) hp0.1 rfl in_Mo (by decide) ty_Mo tyok_Mo nm_Mo k_269 rfl rfl (by decide +kernel) e37 d_Mo_take_122 ?_
  refine nv_iconst hC d_Mo_take_125 ?_
  refine nv_istore (lv' := [(4, .int (iI 0)), (0, .ref (ad k0)), (1, .int (iI x1)), (2, .int (iI x2)), (3, .int (iI q8.1))]) hC d_Mo_take_126 (by decide) rfl ?_
  obtain ⟨q70, N71, hq72, hm⟩ := nbd_s hm
  refine nv_sub (lv' := [(0, .ref (ad k0)), (1, .int (iI x1)), (2, .int (iI x2)), (3, .int (iI q8.1)), (4, .int (iI 0))]) [1, 2, 3, 4, 0] rfl ?_
  refine w_Mo_take_128 hC k0 hp0 x1 hx1 x2 hx2 q8.1 hr27 FU 0 N36 q70 N71 hq72 ⟨by decide, by decide⟩ ?_
  refine nv_aload_n hC d_Mo_take_233 rfl 0 rfl ?_
  refine nv_dup hC d_Mo_take_234 rfl ?_
  refine nv_getJ hC (j := 23) hp0.1 rfl in_Mo (by decide) k_270 rfl d_Mo_take_235 ?_
  refine nv_aload_n hC d_Mo_take_238 rfl 0 rfl ?_
  refine nv_getJ hC (j := 32) hp0.1 rfl in_Mo (by decide) k_267 rfl d_Mo_take_239 ?_
  refine nv_ladd hC d_Mo_take_242 ?_
  obtain ⟨N73, e74, hm⟩ := nlt_s hm
  refine nv_putJ hC (j := 23) hp0.1 rfl in_Mo (by decide) ty_Mo tyok_Mo nm_Mo k_270 rfl rfl (by decide +kernel) e74 d_Mo_take_243 ?_
  obtain ⟨rfl, rfl⟩ := ret_s hm
  exact nv_vret hC hr hlk d_Mo_take_246
def m_Mo_leastOf_12 (k0 : Nat) (x1 : Int) : Nat → Int → Int → nS → Option ((Int × Int) × nS)
  | 0, _, _, _ => none
  | f + 1, x2, x3, N =>
    if 0 ≤ x1 ∧ x1 < ((10 : Nat) : Int) then
    if rg (N (k0 + 6) (Int.toNat x1)) then
    if (N (k0 + 6) (Int.toNat x1)) ≤ x3 then
    some ((x2, x3), N)
    else
    if 0 ≤ ((12 * x1) + x3) ∧ ((12 * x1) + x3) < ((120 : Nat) : Int) then
    if rg (N (k0 + 8) (Int.toNat ((12 * x1) + x3))) then
    if x2 ≤ (N (k0 + 8) (Int.toNat ((12 * x1) + x3))) then
    if rg (x3 + 1) then
    m_Mo_leastOf_12 k0 x1 f x2 (x3 + 1) N
    else none
    else
    if rg (x3 + 1) then
    m_Mo_leastOf_12 k0 x1 f (N (k0 + 8) (Int.toNat ((12 * x1) + x3))) (x3 + 1) N
    else none
    else none
    else none
    else none
    else none
def m_Mo_leastOf (k0 : Nat) (x1 : Int) (N : nS) : Option (Int × nS) :=
  if 0 ≤ (12 * x1) ∧ (12 * x1) < ((120 : Nat) : Int) then
  if rg (N (k0 + 8) (Int.toNat (12 * x1))) then
  nbd (m_Mo_leastOf_12 k0 x1 FU (N (k0 + 8) (Int.toNat (12 * x1))) 1 N) (fun q11 N12 =>
  some (q11.1, N12))
  else none
  else none
abbrev rm_Mo_leastOf : Room := { frames := 0, cells := 0, slots := 0, locals := 0 }
set_option maxRecDepth 100000 in
set_option maxHeartbeats 4000000 in
theorem w_Mo_leastOf_12 {p : Program} {l : Launch} {e : Env} {s : State} {m : MethodId} {args : Array Value} {below : List Frame} {meth : Method} {c : Code} {Q : State → Prop} {D : va_G} {ct : Nat → ClassId} {A : Nat → Prop} {ad : Nat → Nat} {S : nH} (hC : nC p s m args c D vwCl ct A ad S 4 b_Mo_leastOf R_Mo TT) (k0 : Nat) (hp0 : isM S k0) (x1 : Int) (hx1 : rg x1) : ∀ (f : Nat) (x2 x3 : Int) (N : nS) (q : Int × Int) (No : nS), m_Mo_leastOf_12 k0 x1 f x2 x3 N = some (q, No) → rg x2 → rg x3 → nV p l e rm_Mo_leastOf s m args below meth c 0 0 Q D vwCl ct A ad S 4 No 59 [(0, .ref (ad k0)), (1, .int (iI x1)), (2, .int (iI q.1)), (3, .int (iI q.2))] [] → nV p l e rm_Mo_leastOf s m args below meth c 0 0 Q D vwCl ct A ad S 4 N 12 [(0, .ref (ad k0)), (1, .int (iI x1)), (2, .int (iI x2)), (3, .int (iI x3))] [] := by
  intro f
  induction f with
  | zero =>
    intro x2 x3 N q No hm
    rw [m_Mo_leastOf_12] at hm
    cases hm
  | succ f ih =>
    intro x2 x3 N q No hm hx2 hx3 kx
    rw [m_Mo_leastOf_12] at hm
    refine nv_iload_n hC d_Mo_leastOf_12 rfl 3 rfl ?_
    refine nv_aload_n hC d_Mo_leastOf_13 rfl 0 rfl ?_
    refine nv_getR hC (j := 10) hp0.1 rfl in_Mo (by decide) k_242 rfl d_Mo_leastOf_14 ?_
    refine nv_iload_n hC d_Mo_leastOf_17 rfl 1 rfl ?_
    obtain ⟨hc2, hm⟩ := ck_s hm
    refine nv_iald hC (isM_6 hp0) (by decide) hc2 d_Mo_leastOf_18 ?_
    obtain ⟨hr3, hm⟩ := ck_s hm
    refine nv_icmp_ge hC hx3 hr3 d_Mo_leastOf_19 (tgt := 59) (by decide) (fun c4 => ?_) (fun c4 => ?_)
    · have hm := if_t c4 hm
      obtain ⟨rfl, rfl⟩ := ret_s hm
      refine nv_sub (lv' := [(0, .ref (ad k0)), (1, .int (iI x1)), (2, .int (iI x2)), (3, .int (iI x3))]) [0, 1, 2, 3] rfl ?_
      exact kx
    · have hm := if_f c4 hm
      refine nv_aload_n hC d_Mo_leastOf_22 rfl 0 rfl ?_
      refine nv_getR hC (j := 12) hp0.1 rfl in_Mo (by decide) k_244 rfl d_Mo_leastOf_23 ?_
      refine nv_bipush hC (z := 12) d_Mo_leastOf_26 rfl ?_
      refine nv_iload_n hC d_Mo_leastOf_28 rfl 1 rfl ?_
      refine nv_imul hC d_Mo_leastOf_29 ?_
      refine nv_iload_n hC d_Mo_leastOf_30 rfl 3 rfl ?_
      refine nv_iadd hC d_Mo_leastOf_31 ?_
      obtain ⟨hc5, hm⟩ := ck_s hm
      refine nv_iald hC (isM_8 hp0) (by decide) hc5 d_Mo_leastOf_32 ?_
      refine nv_iload_n hC d_Mo_leastOf_33 rfl 2 rfl ?_
      obtain ⟨hr6, hm⟩ := ck_s hm
      refine nv_icmp_ge hC hr6 hx2 d_Mo_leastOf_34 (tgt := 51) (by decide) (fun c7 => ?_) (fun c7 => ?_)
      · have hm := if_t c7 hm
        refine nv_iload_n hC d_Mo_leastOf_51 rfl 2 rfl ?_
        refine nv_istore_n (lv' := [(2, .int (iI x2)), (0, .ref (ad k0)), (1, .int (iI x1)), (3, .int (iI x3))]) hC d_Mo_leastOf_52 rfl (by decide) rfl ?_
        refine nv_iinc (lv' := [(3, .int (iI (x3 + 1))), (2, .int (iI x2)), (0, .ref (ad k0)), (1, .int (iI x1))]) hC d_Mo_leastOf_53 3 rfl (by decide) rfl ?_
        refine nv_goto hC d_Mo_leastOf_56 (tgt := 12) (by decide) ?_
        obtain ⟨hr8, hm⟩ := ck_s hm
        refine nv_sub (lv' := [(0, .ref (ad k0)), (1, .int (iI x1)), (2, .int (iI x2)), (3, .int (iI (x3 + 1)))]) [2, 3, 1, 0] rfl ?_
        exact ih x2 (x3 + 1) N q No hm hx2 hr8 kx
      · have hm := if_f c7 hm
        refine nv_aload_n hC d_Mo_leastOf_37 rfl 0 rfl ?_
        refine nv_getR hC (j := 12) hp0.1 rfl in_Mo (by decide) k_244 rfl d_Mo_leastOf_38 ?_
        refine nv_bipush hC (z := 12) d_Mo_leastOf_41 rfl ?_
        refine nv_iload_n hC d_Mo_leastOf_43 rfl 1 rfl ?_
        refine nv_imul hC d_Mo_leastOf_44 ?_
        refine nv_iload_n hC d_Mo_leastOf_45 rfl 3 rfl ?_
        refine nv_iadd hC d_Mo_leastOf_46 ?_
        refine nv_iald hC (isM_8 hp0) (by decide) hc5 d_Mo_leastOf_47 ?_
        refine nv_goto hC d_Mo_leastOf_48 (tgt := 52) (by decide) ?_
        refine nv_istore_n (lv' := [(2, .int (iI (N (k0 + 8) (Int.toNat ((12 * x1) + x3))))), (0, .ref (ad k0)), (1, .int (iI x1)), (3, .int (iI x3))]) hC d_Mo_leastOf_52 rfl (by decide) rfl ?_
        refine nv_iinc (lv' := [(3, .int (iI (x3 + 1))), (2, .int (iI (N (k0 + 8) (Int.toNat ((12 * x1) + x3))))), (0, .ref (ad k0)), (1, .int (iI x1))]) hC d_Mo_leastOf_53 3 rfl (by decide) rfl ?_
        refine nv_goto hC d_Mo_leastOf_56 (tgt := 12) (by decide) ?_
        obtain ⟨hr9, hm⟩ := ck_s hm
        refine nv_sub (lv' := [(0, .ref (ad k0)), (1, .int (iI x1)), (2, .int (iI (N (k0 + 8) (Int.toNat ((12 * x1) + x3))))), (3, .int (iI (x3 + 1)))]) [2, 3, 1, 0] rfl ?_
        exact ih (N (k0 + 8) (Int.toNat ((12 * x1) + x3))) (x3 + 1) N q No hm hr6 hr9 kx
set_option maxRecDepth 100000 in
set_option maxHeartbeats 4000000 in
theorem c_Mo_leastOf (l : Launch) {D : va_G} {ct : Nat → ClassId} {A : Nat → Prop} {ad : Nat → Nat} {S : nH} (hD : nD ad A S.length) (k0 : Nat) (hp0 : isM S k0) (x1 : Int) (hx1 : rg x1) (N : nS) (r : Int) (No : nS) (hm : m_Mo_leastOf k0 x1 N = some (r, No)) : nM l y_Mo_leastOf (Cond.code y_Mo_leastOf b_Mo_leastOf 4 (some .int) :: TT) rm_Mo_leastOf D vwCl ct A ad S N [.ref (ad k0), .int (iI x1)] (nQi D vwCl ct A ad S r No) := by
  refine nM_of (cc := b_Mo_leastOf) (maxL := 4) (ret := (some .int)) (by decide) rfl (Nat.le_of_ble_eq_true rfl) hD ?_
  intro p e s m below meth c hC hr hlk
  refine nv_lv (lv' := [(0, .ref (ad k0)), (1, .int (iI x1))]) rfl ?_
  rw [m_Mo_leastOf] at hm
  refine nv_aload_n hC d_Mo_leastOf_0 rfl 0 rfl ?_
  refine nv_getR hC (j := 12) hp0.1 rfl in_Mo (by decide) k_244 rfl d_Mo_leastOf_1 ?_
  refine nv_bipush hC (z := 12) d_Mo_leastOf_4 rfl ?_
  refine nv_iload_n hC d_Mo_leastOf_6 rfl 1 rfl ?_
  refine nv_imul hC d_Mo_leastOf_7 ?_
  obtain ⟨hc1, hm⟩ := ck_s hm
  refine nv_iald hC (isM_8 hp0) (by decide) hc1 d_Mo_leastOf_8 ?_
  refine nv_istore_n (lv' := [(2, .int (iI (N (k0 + 8) (Int.toNat (12 * x1))))), (0, .ref (ad k0)), (1, .int (iI x1))]) hC d_Mo_leastOf_9 rfl (by decide) rfl ?_
  refine nv_iconst hC d_Mo_leastOf_10 ?_
  refine nv_istore_n (lv' := [(3, .int (iI 1)), (2, .int (iI (N (k0 + 8) (Int.toNat (12 * x1))))), (0, .ref (ad k0)), (1, .int (iI x1))]) hC d_Mo_leastOf_11 rfl (by decide) rfl ?_
  obtain ⟨hr10, hm⟩ := ck_s hm
  obtain ⟨q11, N12, hq13, hm⟩ := nbd_s hm
  refine nv_sub (lv' := [(0, .ref (ad k0)), (1, .int (iI x1)), (2, .int (iI (N (k0 + 8) (Int.toNat (12 * x1))))), (3, .int (iI 1))]) [2, 3, 1, 0] rfl ?_
  refine w_Mo_leastOf_12 hC k0 hp0 x1 hx1 FU (N (k0 + 8) (Int.toNat (12 * x1))) 1 N q11 N12 hq13 hr10 ⟨by decide, by decide⟩ ?_
  refine nv_iload_n hC d_Mo_leastOf_59 rfl 2 rfl ?_
  obtain ⟨rfl, rfl⟩ := ret_s hm
  exact nv_iret hC hr hlk d_Mo_leastOf_60
def m_Mo_mostOf_12 (k0 : Nat) (x1 : Int) : Nat → Int → Int → nS → Option ((Int × Int) × nS)
  | 0, _, _, _ => none
  | f + 1, x2, x3, N =>
    if 0 ≤ x1 ∧ x1 < ((10 : Nat) : Int) then
    if rg (N (k0 + 6) (Int.toNat x1)) then
    if (N (k0 + 6) (Int.toNat x1)) ≤ x3 then
    some ((x2, x3), N)
    else
    if 0 ≤ ((12 * x1) + x3) ∧ ((12 * x1) + x3) < ((120 : Nat) : Int) then
    if rg (N (k0 + 8) (Int.toNat ((12 * x1) + x3))) then
    if (N (k0 + 8) (Int.toNat ((12 * x1) + x3))) ≤ x2 then
    if rg (x3 + 1) then
    m_Mo_mostOf_12 k0 x1 f x2 (x3 + 1) N
    else none
    else
    if rg (x3 + 1) then
    m_Mo_mostOf_12 k0 x1 f (N (k0 + 8) (Int.toNat ((12 * x1) + x3))) (x3 + 1) N
    else none
    else none
    else none
    else none
    else none
def m_Mo_mostOf (k0 : Nat) (x1 : Int) (N : nS) : Option (Int × nS) :=
  if 0 ≤ (12 * x1) ∧ (12 * x1) < ((120 : Nat) : Int) then
  if rg (N (k0 + 8) (Int.toNat (12 * x1))) then
  nbd (m_Mo_mostOf_12 k0 x1 FU (N (k0 + 8) (Int.toNat (12 * x1))) 1 N) (fun q11 N12 =>
  some (q11.1, N12))
  else none
  else none
abbrev rm_Mo_mostOf : Room := { frames := 0, cells := 0, slots := 0, locals := 0 }
set_option maxRecDepth 100000 in
set_option maxHeartbeats 4000000 in
theorem w_Mo_mostOf_12 {p : Program} {l : Launch} {e : Env} {s : State} {m : MethodId} {args : Array Value} {below : List Frame} {meth : Method} {c : Code} {Q : State → Prop} {D : va_G} {ct : Nat → ClassId} {A : Nat → Prop} {ad : Nat → Nat} {S : nH} (hC : nC p s m args c D vwCl ct A ad S 4 b_Mo_mostOf R_Mo TT) (k0 : Nat) (hp0 : isM S k0) (x1 : Int) (hx1 : rg x1) : ∀ (f : Nat) (x2 x3 : Int) (N : nS) (q : Int × Int) (No : nS), m_Mo_mostOf_12 k0 x1 f x2 x3 N = some (q, No) → rg x2 → rg x3 → nV p l e rm_Mo_mostOf s m args below meth c 0 0 Q D vwCl ct A ad S 4 No 59 [(0, .ref (ad k0)), (1, .int (iI x1)), (2, .int (iI q.1)), (3, .int (iI q.2))] [] → nV p l e rm_Mo_mostOf s m args below meth c 0 0 Q D vwCl ct A ad S 4 N 12 [(0, .ref (ad k0)), (1, .int (iI x1)), (2, .int (iI x2)), (3, .int (iI x3))] [] := by
  intro f
  induction f with
  | zero =>
    intro x2 x3 N q No hm
    rw [m_Mo_mostOf_12] at hm
    cases hm
  | succ f ih =>
    intro x2 x3 N q No hm hx2 hx3 kx
    rw [m_Mo_mostOf_12] at hm
    refine nv_iload_n hC d_Mo_mostOf_12 rfl 3 rfl ?_
    refine nv_aload_n hC d_Mo_mostOf_13 rfl 0 rfl ?_
    refine nv_getR hC (j := 10) hp0.1 rfl in_Mo (by decide) k_242 rfl d_Mo_mostOf_14 ?_
    refine nv_iload_n hC d_Mo_mostOf_17 rfl 1 rfl ?_
    obtain ⟨hc2, hm⟩ := ck_s hm
    refine nv_iald hC (isM_6 hp0) (by decide) hc2 d_Mo_mostOf_18 ?_
    obtain ⟨hr3, hm⟩ := ck_s hm
    refine nv_icmp_ge hC hx3 hr3 d_Mo_mostOf_19 (tgt := 59) (by decide) (fun c4 => ?_) (fun c4 => ?_)
    · have hm := if_t c4 hm
      obtain ⟨rfl, rfl⟩ := ret_s hm
      refine nv_sub (lv' := [(0, .ref (ad k0)), (1, .int (iI x1)), (2, .int (iI x2)), (3, .int (iI x3))]) [0, 1, 2, 3] rfl ?_
      exact kx
    · have hm := if_f c4 hm
      refine nv_aload_n hC d_Mo_mostOf_22 rfl 0 rfl ?_
      refine nv_getR hC (j := 12) hp0.1 rfl in_Mo (by decide) k_244 rfl d_Mo_mostOf_23 ?_
      refine nv_bipush hC (z := 12) d_Mo_mostOf_26 rfl ?_
      refine nv_iload_n hC d_Mo_mostOf_28 rfl 1 rfl ?_
      refine nv_imul hC d_Mo_mostOf_29 ?_
      refine nv_iload_n hC d_Mo_mostOf_30 rfl 3 rfl ?_
      refine nv_iadd hC d_Mo_mostOf_31 ?_
      obtain ⟨hc5, hm⟩ := ck_s hm
      refine nv_iald hC (isM_8 hp0) (by decide) hc5 d_Mo_mostOf_32 ?_
      refine nv_iload_n hC d_Mo_mostOf_33 rfl 2 rfl ?_
      obtain ⟨hr6, hm⟩ := ck_s hm
      refine nv_icmp_le hC hr6 hx2 d_Mo_mostOf_34 (tgt := 51) (by decide) (fun c7 => ?_) (fun c7 => ?_)
      · have hm := if_t c7 hm
        refine nv_iload_n hC d_Mo_mostOf_51 rfl 2 rfl ?_
        refine nv_istore_n (lv' := [(2, .int (iI x2)), (0, .ref (ad k0)), (1, .int (iI x1)), (3, .int (iI x3))]) hC d_Mo_mostOf_52 rfl (by decide) rfl ?_
        refine nv_iinc (lv' := [(3, .int (iI (x3 + 1))), (2, .int (iI x2)), (0, .ref (ad k0)), (1, .int (iI x1))]) hC d_Mo_mostOf_53 3 rfl (by decide) rfl ?_
        refine nv_goto hC d_Mo_mostOf_56 (tgt := 12) (by decide) ?_
        obtain ⟨hr8, hm⟩ := ck_s hm
        refine nv_sub (lv' := [(0, .ref (ad k0)), (1, .int (iI x1)), (2, .int (iI x2)), (3, .int (iI (x3 + 1)))]) [2, 3, 1, 0] rfl ?_
        exact ih x2 (x3 + 1) N q No hm hx2 hr8 kx
      · have hm := if_f c7 hm
        refine nv_aload_n hC d_Mo_mostOf_37 rfl 0 rfl ?_
        refine nv_getR hC (j := 12) hp0.1 rfl in_Mo (by decide) k_244 rfl d_Mo_mostOf_38 ?_
        refine nv_bipush hC (z := 12) d_Mo_mostOf_41 rfl ?_
        refine nv_iload_n hC d_Mo_mostOf_43 rfl 1 rfl ?_
        refine nv_imul hC d_Mo_mostOf_44 ?_
        refine nv_iload_n hC d_Mo_mostOf_45 rfl 3 rfl ?_
        refine nv_iadd hC d_Mo_mostOf_46 ?_
        refine nv_iald hC (isM_8 hp0) (by decide) hc5 d_Mo_mostOf_47 ?_
        refine nv_goto hC d_Mo_mostOf_48 (tgt := 52) (by decide) ?_
        refine nv_istore_n (lv' := [(2, .int (iI (N (k0 + 8) (Int.toNat ((12 * x1) + x3))))), (0, .ref (ad k0)), (1, .int (iI x1)), (3, .int (iI x3))]) hC d_Mo_mostOf_52 rfl (by decide) rfl ?_
        refine nv_iinc (lv' := [(3, .int (iI (x3 + 1))), (2, .int (iI (N (k0 + 8) (Int.toNat ((12 * x1) + x3))))), (0, .ref (ad k0)), (1, .int (iI x1))]) hC d_Mo_mostOf_53 3 rfl (by decide) rfl ?_
        refine nv_goto hC d_Mo_mostOf_56 (tgt := 12) (by decide) ?_
        obtain ⟨hr9, hm⟩ := ck_s hm
        refine nv_sub (lv' := [(0, .ref (ad k0)), (1, .int (iI x1)), (2, .int (iI (N (k0 + 8) (Int.toNat ((12 * x1) + x3))))), (3, .int (iI (x3 + 1)))]) [2, 3, 1, 0] rfl ?_
        exact ih (N (k0 + 8) (Int.toNat ((12 * x1) + x3))) (x3 + 1) N q No hm hr6 hr9 kx
set_option maxRecDepth 100000 in
set_option maxHeartbeats 4000000 in
theorem c_Mo_mostOf (l : Launch) {D : va_G} {ct : Nat → ClassId} {A : Nat → Prop} {ad : Nat → Nat} {S : nH} (hD : nD ad A S.length) (k0 : Nat) (hp0 : isM S k0) (x1 : Int) (hx1 : rg x1) (N : nS) (r : Int) (No : nS) (hm : m_Mo_mostOf k0 x1 N = some (r, No)) : nM l y_Mo_mostOf (Cond.code y_Mo_mostOf b_Mo_mostOf 4 (some .int) :: TT) rm_Mo_mostOf D vwCl ct A ad S N [.ref (ad k0), .int (iI x1)] (nQi D vwCl ct A ad S r No) := by
  refine nM_of (cc := b_Mo_mostOf) (maxL := 4) (ret := (some .int)) (by decide) rfl (Nat.le_of_ble_eq_true rfl) hD ?_
  intro p e s m below meth c hC hr hlk
  refine nv_lv (lv' := [(0, .ref (ad k0)), (1, .int (iI x1))]) rfl ?_
  rw [m_Mo_mostOf] at hm
  refine nv_aload_n hC d_Mo_mostOf_0 rfl 0 rfl ?_
  refine nv_getR hC (j := 12) hp0.1 rfl in_Mo (by decide) k_244 rfl d_Mo_mostOf_1 ?_
  refine nv_bipush hC (z := 12) d_Mo_mostOf_4 rfl ?_
  refine nv_iload_n hC d_Mo_mostOf_6 rfl 1 rfl ?_
  refine nv_imul hC d_Mo_mostOf_7 ?_
  obtain ⟨hc1, hm⟩ := ck_s hm
  refine nv_iald hC (isM_8 hp0) (by decide) hc1 d_Mo_mostOf_8 ?_
  refine nv_istore_n (lv' := [(2, .int (iI (N (k0 + 8) (Int.toNat (12 * x1))))), (0, .ref (ad k0)), (1, .int (iI x1))]) hC d_Mo_mostOf_9 rfl (by decide) rfl ?_
  refine nv_iconst hC d_Mo_mostOf_10 ?_
  refine nv_istore_n (lv' := [(3, .int (iI 1)), (2, .int (iI (N (k0 + 8) (Int.toNat (12 * x1))))), (0, .ref (ad k0)), (1, .int (iI x1))]) hC d_Mo_mostOf_11 rfl (by decide) rfl ?_
  obtain ⟨hr10, hm⟩ := ck_s hm
  obtain ⟨q11, N12, hq13, hm⟩ := nbd_s hm
  refine nv_sub (lv' := [(0, .ref (ad k0)), (1, .int (iI x1)), (2, .int (iI (N (k0 + 8) (Int.toNat (12 * x1))))), (3, .int (iI 1))]) [2, 3, 1, 0] rfl ?_
  refine w_Mo_mostOf_12 hC k0 hp0 x1 hx1 FU (N (k0 + 8) (Int.toNat (12 * x1))) 1 N q11 N12 hq13 hr10 ⟨by decide, by decide⟩ ?_
  refine nv_iload_n hC d_Mo_mostOf_59 rfl 2 rfl ?_
  obtain ⟨rfl, rfl⟩ := ret_s hm
  exact nv_iret hC hr hlk d_Mo_mostOf_60
def m_Mo_rest_2 (k0 : Nat) : Nat → Int → nS → Option ((Int) × nS)
  | 0, _, _ => none
  | f + 1, x1, N =>
    if rg (N k0 1) then
    if (N k0 1) ≤ x1 then
    some (x1, N)
    else
    if 0 ≤ x1 ∧ x1 < ((10 : Nat) : Int) then
    if rg (N (k0 + 5) (Int.toNat x1)) then
    if (N (k0 + 5) (Int.toNat x1)) ≤ 0 then
    if rg (x1 + 1) then
    m_Mo_rest_2 k0 f (x1 + 1) N
    else none
    else
    nbd (m_Mo_take k0 x1 (N (k0 + 5) (Int.toNat x1)) N) (fun r7 N8 =>
    if rg (x1 + 1) then
    m_Mo_rest_2 k0 f (x1 + 1) N8
    else none)
    else none
    else none
    else none
def m_Mo_rest_53 (k0 : Nat) (x1 : Int) : Nat → Int → nS → Option ((Int) × nS)
  | 0, _, _ => none
  | f + 1, x2, N =>
    if 0 ≤ x1 ∧ x1 < ((10 : Nat) : Int) then
    if rg (N (k0 + 6) (Int.toNat x1)) then
    if (N (k0 + 6) (Int.toNat x1)) ≤ x2 then
    some (x2, N)
    else
    if 0 ≤ ((12 * x1) + x2) ∧ ((12 * x1) + x2) < ((120 : Nat) : Int) then
    if rg ((N (k0 + 8) (Int.toNat ((12 * x1) + x2))) - (N k0 8)) then
    if rg (N (k0 + 3) (Int.toNat x1)) then
    if ¬ (N (k0 + 3) (Int.toNat x1)) = 0 then
    if rg (N (k0 + 7) (Int.toNat ((12 * x1) + x2))) then
    if rg (Int.tdiv ((N (k0 + 8) (Int.toNat ((12 * x1) + x2))) - (N k0 8)) (N (k0 + 3) (Int.toNat x1))) then
    nlt (up2 N k0 24 ((N k0 24) + ((N (k0 + 7) (Int.toNat ((12 * x1) + x2))) * (Int.tdiv ((N (k0 + 8) (Int.toNat ((12 * x1) + x2))) - (N k0 8)) (N (k0 + 3) (Int.toNat x1)))))) (fun N27 =>
    if rg ((N27 (k0 + 8) (Int.toNat ((12 * x1) + x2))) - (Int.tdiv ((N (k0 + 8) (Int.toNat ((12 * x1) + x2))) - (N k0 8)) (N (k0 + 3) (Int.toNat x1)))) then
    nbd (m_Mo_lay k0 (N (k0 + 7) (Int.toNat ((12 * x1) + x2))) ((N27 (k0 + 8) (Int.toNat ((12 * x1) + x2))) - (Int.tdiv ((N (k0 + 8) (Int.toNat ((12 * x1) + x2))) - (N k0 8)) (N (k0 + 3) (Int.toNat x1)))) N27) (fun r30 N31 =>
    if rg (x2 + 1) then
    m_Mo_rest_53 k0 x1 f (x2 + 1) N31
    else none)
    else none)
    else none
    else none
    else none
    else none
    else none
    else none
    else none
    else none
def m_Mo_rest_38 (k0 : Nat) : Nat → Int → nS → Option ((Int) × nS)
  | 0, _, _ => none
  | f + 1, x1, N =>
    if rg (N k0 1) then
    if (N k0 1) ≤ x1 then
    some (x1, N)
    else
    nlt (up2 N k0 28 0) (fun N16 =>
    nbd (m_Mo_rest_53 k0 x1 FU 0 N16) (fun q34 N35 =>
    nbd (m_Mo_putBack k0 x1 N35) (fun r37 N38 =>
    if 0 ≤ x1 ∧ x1 < ((10 : Nat) : Int) then
    nbd (m_Mo_leastOf k0 x1 N38) (fun r41 N42 =>
    if rg r41 then
    nbd (m_Mo_in r41 2500 4500 N42) (fun r45 N46 =>
    if rg r45 then
    if r45 = 0 then
    nlt (up2 N46 (k0 + 10) (Int.toNat x1) ((N38 (k0 + 10) (Int.toNat x1)) + 0)) (fun N50 =>
    if rg (x1 + 1) then
    m_Mo_rest_38 k0 f (x1 + 1) N50
    else none)
    else
    nlt (up2 N46 (k0 + 10) (Int.toNat x1) ((N38 (k0 + 10) (Int.toNat x1)) + 1)) (fun N53 =>
    if rg (x1 + 1) then
    m_Mo_rest_38 k0 f (x1 + 1) N53
    else none)
    else none)
    else none)
    else none)))
    else none
def m_Mo_rest (k0 : Nat) (N : nS) : Option (Int × nS) :=
  nbd (m_Mo_rest_2 k0 FU 0 N) (fun q11 N12 =>
  nbd (m_Mo_rest_38 k0 FU 0 N12) (fun q56 N57 =>
  some (0, N57)))
set_option maxRecDepth 20000 in
theorem k_271 : Cond.fieldLink R_Mo 23 (T_Mo 6).1 (T_Mo 6).2.1 (T_Mo 6).2.2.1 ∈ TT := tt_i 552 (by decide +kernel) (by decide +kernel)
set_option maxRecDepth 20000 in
theorem k_272 : Cond.methodLink R_Mo 154 y_Mo_take ∈ TT := tt_i 709 (by decide +kernel) (by decide +kernel)
set_option maxRecDepth 20000 in
theorem k_273 : Cond.code y_Mo_take b_Mo_take 5 none ∈ TT := tt_i 712 (by decide +kernel) (by decide +kernel)
set_option maxRecDepth 20000 in
theorem k_274 : Cond.instanceMethod y_Mo_take ∈ TT := tt_i 711 (by decide +kernel) (by decide +kernel)
set_option maxRecDepth 20000 in
theorem k_275 : Cond.selects R_Mo y_Mo_take y_Mo_take ∈ TT := tt_i 12 (by decide +kernel) (by decide +kernel)
set_option maxRecDepth 20000 in
theorem k_276 : Cond.fieldLink R_Mo 30 (T_Mo 8).1 (T_Mo 8).2.1 (T_Mo 8).2.2.1 ∈ TT := tt_i 554 (by decide +kernel) (by decide +kernel)
set_option maxRecDepth 20000 in
theorem k_277 : Cond.fieldLink R_Mo 16 (T_Mo 4).1 (T_Mo 4).2.1 (T_Mo 4).2.2.1 ∈ TT := tt_i 550 (by decide +kernel) (by decide +kernel)
set_option maxRecDepth 20000 in
theorem k_278 : Cond.fieldLink R_Mo 45 (T_Mo 14).1 (T_Mo 14).2.1 (T_Mo 14).2.2.1 ∈ TT := tt_i 560 (by decide +kernel) (by decide +kernel)
set_option maxRecDepth 20000 in
theorem k_279 : Cond.methodLink R_Mo 157 y_Mo_leastOf ∈ TT := tt_i 737 (by decide +kernel) (by decide +kernel)
set_option maxRecDepth 20000 in
theorem k_280 : Cond.code y_Mo_leastOf b_Mo_leastOf 4 (some .int) ∈ TT := tt_i 740 (by decide +kernel) (by decide +kernel)
set_option maxRecDepth 20000 in
theorem k_281 : Cond.instanceMethod y_Mo_leastOf ∈ TT := tt_i 739 (by decide +kernel) (by decide +kernel)
set_option maxRecDepth 20000 in
theorem k_282 : Cond.selects R_Mo y_Mo_leastOf y_Mo_leastOf ∈ TT := tt_i 19 (by decide +kernel) (by decide +kernel)
abbrev rm_Mo_rest : Room := { frames := 5, cells := 0, slots := 0, locals := 124 }
set_option maxRecDepth 100000 in
set_option maxHeartbeats 4000000 in
theorem w_Mo_rest_2 {p : Program} {l : Launch} {e : Env} {s : State} {m : MethodId} {args : Array Value} {below : List Frame} {meth : Method} {c : Code} {Q : State → Prop} {D : va_G} {ct : Nat → ClassId} {A : Nat → Prop} {ad : Nat → Nat} {S : nH} (hC : nC p s m args c D vwCl ct A ad S 5 b_Mo_rest R_Mo TT) (k0 : Nat) (hp0 : isM S k0) : ∀ (f : Nat) (x1 : Int) (N : nS) (q : Int) (No : nS), m_Mo_rest_2 k0 f x1 N = some (q, No) → rg x1 → nV p l e rm_Mo_rest s m args below meth c 0 0 Q D vwCl ct A ad S 5 No 36 [(0, .ref (ad k0)), (1, .int (iI q))] [] → nV p l e rm_Mo_rest s m args below meth c 0 0 Q D vwCl ct A ad S 5 N 2 [(0, .ref (ad k0)), (1, .int (iI x1))] [] := by
  intro f
  induction f with
  | zero =>
    intro x1 N q No hm
    rw [m_Mo_rest_2] at hm
    cases hm
  | succ f ih =>
    intro x1 N q No hm hx1 kx
    rw [m_Mo_rest_2] at hm
    refine nv_iload_n hC d_Mo_rest_2 rfl 1 rfl ?_
    refine nv_aload_n hC d_Mo_rest_3 rfl 0 rfl ?_
    refine nv_getI hC (j := 1) hp0.1 rfl in_Mo (by decide) k_225 rfl d_Mo_rest_4 ?_
    obtain ⟨hr1, hm⟩ := ck_s hm
    refine nv_icmp_ge hC hx1 hr1 d_Mo_rest_7 (tgt := 36) (by decide) (fun c2 => ?_) (fun c2 => ?_)
    · have hm := if_t c2 hm
      obtain ⟨rfl, rfl⟩ := ret_s hm
      refine nv_sub (lv' := [(0, .ref (ad k0)), (1, .int (iI x1))]) [0, 1] rfl ?_
      exact kx
    · have hm := if_f c2 hm
      refine nv_aload_n hC d_Mo_rest_10 rfl 0 rfl ?_
      refine nv_getR hC (j := 6) hp0.1 rfl in_Mo (by decide) k_271 rfl d_Mo_rest_11 ?_
      refine nv_iload_n hC d_Mo_rest_14 rfl 1 rfl ?_
      obtain ⟨hc3, hm⟩ := ck_s hm
      refine nv_iald hC (isM_5 hp0) (by decide) hc3 d_Mo_rest_15 ?_
      obtain ⟨hr4, hm⟩ := ck_s hm
      refine nv_if_le hC hr4 d_Mo_rest_16 (tgt := 30) (by decide) (fun c5 => ?_) (fun c5 => ?_)
      · have hm := if_t c5 hm
        refine nv_iinc (lv' := [(1, .int (iI (x1 + 1))), (0, .ref (ad k0))]) hC d_Mo_rest_30 1 rfl (by decide) rfl ?_
        refine nv_goto hC d_Mo_rest_33 (tgt := 2) (by decide) ?_
        obtain ⟨hr6, hm⟩ := ck_s hm
        refine nv_sub (lv' := [(0, .ref (ad k0)), (1, .int (iI (x1 + 1)))]) [1, 0] rfl ?_
        exact ih (x1 + 1) N q No hm hr6 kx
      · have hm := if_f c5 hm
        refine nv_aload_n hC d_Mo_rest_19 rfl 0 rfl ?_
        refine nv_iload_n hC d_Mo_rest_20 rfl 1 rfl ?_
        refine nv_aload_n hC d_Mo_rest_21 rfl 0 rfl ?_
        refine nv_getR hC (j := 6) hp0.1 rfl in_Mo (by decide) k_271 rfl d_Mo_rest_22 ?_
        refine nv_iload_n hC d_Mo_rest_25 rfl 1 rfl ?_
        refine nv_iald hC (isM_5 hp0) (by decide) hc3 d_Mo_rest_26 ?_
        obtain ⟨r7, N8, hq9, hm⟩ := nbd_s hm
        refine nv_callv (N' := N8) (nr_V hC (As := [.int (iI x1), .int (iI (N (k0 + 5) (Int.toNat x1)))]) (st := []) hp0.1 rfl (c_Mo_take l hC.2.2.1 k0 hp0 x1 hx1 (N (k0 + 5) (Int.toNat x1)) hr4 N r7 N8 hq9) (cwV 2 hC.1.2.2.2.2 (tt_V k_272 k_274 k_275 k_229 k_273) rfl rfl rfl (by decide +kernel) ⟨Nat.le_of_ble_eq_true rfl, Nat.le_of_ble_eq_true rfl⟩) rfl rfl (Nat.le_of_ble_eq_true rfl) ⟨(Nat.le_of_ble_eq_true rfl), (Nat.le_of_ble_eq_true rfl)⟩ d_Mo_rest_27) ?_
        refine nv_iinc (lv' := [(1, .int (iI (x1 + 1))), (0, .ref (ad k0))]) hC d_Mo_rest_30 1 rfl (by decide) rfl ?_
        refine nv_goto hC d_Mo_rest_33 (tgt := 2) (by decide) ?_
        obtain ⟨hr10, hm⟩ := ck_s hm
        refine nv_sub (lv' := [(0, .ref (ad k0)), (1, .int (iI (x1 + 1)))]) [1, 0] rfl ?_
        exact ih (x1 + 1) N8 q No hm hr10 kx
set_option maxRecDepth 100000 in
set_option maxHeartbeats 4000000 in
theorem w_Mo_rest_53 {p : Program} {l : Launch} {e : Env} {s : State} {m : MethodId} {args : Array Value} {below : List Frame} {meth : Method} {c : Code} {Q : State → Prop} {D : va_G} {ct : Nat → ClassId} {A : Nat → Prop} {ad : Nat → Nat} {S : nH} (hC : nC p s m args c D vwCl ct A ad S 5 b_Mo_rest R_Mo TT) (k0 : Nat) (hp0 : isM S k0) (x1 : Int) (hx1 : rg x1) : ∀ (f : Nat) (x2 : Int) (N : nS) (q : Int) (No : nS), m_Mo_rest_53 k0 x1 f x2 N = some (q, No) → rg x2 → nV p l e rm_Mo_rest s m args below meth c 0 0 Q D vwCl ct A ad S 5 No 140 [(0, .ref (ad k0)), (1, .int (iI x1)), (2, .int (iI q))] [] → nV p l e rm_Mo_rest s m args below meth c 0 0 Q D vwCl ct A ad S 5 N 53 [(0, .ref (ad k0)), (1, .int (iI x1)), (2, .int (iI x2))] [] := by
  intro f
  induction f with
  | zero =>
    intro x2 N q No hm
    rw [m_Mo_rest_53] at hm
    cases hm
  | succ f ih =>
    intro x2 N q No hm hx2 kx
    rw [m_Mo_rest_53] at hm
    refine nv_iload_n hC d_Mo_rest_53 rfl 2 rfl ?_
    refine nv_aload_n hC d_Mo_rest_54 rfl 0 rfl ?_
    refine nv_getR hC (j := 10) hp0.1 rfl in_Mo (by decide) k_242 rfl d_Mo_rest_55 ?_
    refine nv_iload_n hC d_Mo_rest_58 rfl 1 rfl ?_
    obtain ⟨hc18, hm⟩ := ck_s hm
    refine nv_iald hC (isM_6 hp0) (by decide) hc18 d_Mo_rest_59 ?_
    obtain ⟨hr19, hm⟩ := ck_s hm
    refine nv_icmp_ge hC hx2 hr19 d_Mo_rest_60 (tgt := 140) (by decide) (fun c20 => ?_) (fun c20 => ?_)
    · have hm := if_t c20 hm
      obtain ⟨rfl, rfl⟩ := ret_s hm
      refine nv_sub (lv' := [(0, .ref (ad k0)), (1, .int (iI x1)), (2, .int (iI x2))]) [0, 1, 2] rfl ?_
      exact kx
    · have hm := if_f c20 hm
      refine nv_aload_n hC d_Mo_rest_63 rfl 0 rfl ?_
      refine nv_getR hC (j := 11) hp0.1 rfl in_Mo (by decide) k_243 rfl d_Mo_rest_64 ?_
      refine nv_bipush hC (z := 12) d_Mo_rest_67 rfl ?_
      refine nv_iload_n hC d_Mo_rest_69 rfl 1 rfl ?_
      refine nv_imul hC d_Mo_rest_70 ?_
      refine nv_iload_n hC d_Mo_rest_71 rfl 2 rfl ?_
      refine nv_iadd hC d_Mo_rest_72 ?_
      obtain ⟨hc21, hm⟩ := ck_s hm
      refine nv_iald hC (isM_7 hp0) (by decide) hc21 d_Mo_rest_73 ?_
      refine nv_istore_n (lv' := [(3, .int (iI (N (k0 + 7) (Int.toNat ((12 * x1) + x2))))), (0, .ref (ad k0)), (1, .int (iI x1)), (2, .int (iI x2))]) hC d_Mo_rest_74 rfl (by decide) rfl ?_
      refine nv_aload_n hC d_Mo_rest_75 rfl 1 rfl ?_
      refine nv_getR hC (j := 12) hp0.1 rfl in_Mo (by decide) k_244 rfl d_Mo_rest_76 ?_
      refine nv_bipush hC (z := 12) d_Mo_rest_79 rfl ?_
      refine nv_iload_n hC d_Mo_rest_81 rfl 2 rfl ?_
      refine nv_imul hC d_Mo_rest_82 ?_
      refine nv_iload_n hC d_Mo_rest_83 rfl 3 rfl ?_
      refine nv_iadd hC d_Mo_rest_84 ?_
      refine nv_iald hC (isM_8 hp0) (by decide) hc21 d_Mo_rest_85 ?_
      refine nv_aload_n hC d_Mo_rest_86 rfl 1 rfl ?_
      refine nv_getI hC (j := 8) hp0.1 rfl in_Mo (by decide) k_276 rfl d_Mo_rest_87 ?_
      refine nv_isub hC d_Mo_rest_90 ?_
      refine nv_aload_n hC d_Mo_rest_91 rfl 1 rfl ?_
      refine nv_getR hC (j := 4) hp0.1 rfl in_Mo (by decide) k_277 rfl d_Mo_rest_92 ?_
      refine nv_iload_n hC d_Mo_rest_95 rfl 2 rfl ?_
      refine nv_iald hC (isM_3 hp0) (by decide) hc18 d_Mo_rest_96 ?_
      obtain ⟨hr22, hm⟩ := ck_s hm
      obtain ⟨hr23, hm⟩ := ck_s hm
      obtain ⟨hc24, hm⟩ := ck_s hm
      refine nv_idiv hC d_Mo_rest_97 hr22 hr23 hc24 ?_
      refine nv_istore (lv' := [(4, .int (iI (Int.tdiv ((N (k0 + 8) (Int.toNat ((12 * x1) + x2))) - (N k0 8)) (N (k0 + 3) (Int.toNat x1))))), (3, .int (iI (N (k0 + 7) (Int.toNat ((12 * x1) + x2))))), (0, .ref (ad k0)), (1, .int (iI x1)), (2, .int (iI x2))]) hC d_Mo_rest_98 (by decide) rfl ?_
      refine nv_aload_n hC d_Mo_rest_100 rfl 2 rfl ?_
      refine nv_dup hC d_Mo_rest_101 rfl ?_
      refine nv_getJ hC (j := 24) hp0.1 rfl in_Mo (by decide) k_233 rfl d_Mo_rest_102 ?_
      refine nv_iload_n hC d_Mo_rest_105 rfl 1 rfl ?_
      obtain ⟨hr25, hm⟩ := ck_s hm
      refine nv_i2l hC d_Mo_rest_106 hr25 ?_
      refine nv_iload hC d_Mo_rest_107 0 rfl ?_
      obtain ⟨hr26, hm⟩ := ck_s hm
      refine nv_i2l hC d_Mo_rest_109 hr26 ?_
      refine nv_lmul hC d_Mo_rest_110 ?_
      refine nv_ladd hC d_Mo_rest_111 ?_
      obtain ⟨N27, e28, hm⟩ := nlt_s hm
      refine nv_putJ hC (j := 24) hp0.1 rfl in_Mo (by decide) ty_Mo tyok_Mo nm_Mo k_233 rfl rfl (by decide +kernel) e28 d_Mo_rest_112 ?_
      refine nv_aload_n hC d_Mo_rest_115 rfl 2 rfl ?_
      refine nv_iload_n hC d_Mo_rest_116 rfl 1 rfl ?_
      refine nv_aload_n hC d_Mo_rest_117 rfl 2 rfl ?_
      refine nv_getR hC (j := 12) hp0.1 rfl in_Mo (by decide) k_244 rfl d_Mo_rest_118 ?_
      refine nv_bipush hC (z := 12) d_Mo_rest_121 rfl ?_
      refine nv_iload_n hC d_Mo_rest_123 rfl 3 rfl ?_
      refine nv_imul hC d_Mo_rest_124 ?_
      refine nv_iload_n hC d_Mo_rest_125 rfl 4 rfl ?_
      refine nv_iadd hC d_Mo_rest_126 ?_
      refine nv_iald hC (isM_8 hp0) (by decide) hc21 d_Mo_rest_127 ?_
      refine nv_iload hC d_Mo_rest_128 0 rfl ?_
      refine nv_isub hC d_Mo_rest_130 ?_
      obtain ⟨hr29, hm⟩ := ck_s hm
      obtain ⟨r30, N31, hq32, hm⟩ := nbd_s hm
      refine nv_callv (N' := N31) (nr_V hC (As := [.int (iI (N (k0 + 7) (Int.toNat ((12 * x1) + x2)))), .int (iI ((N27 (k0 + 8) (Int.toNat ((12 * x1) + x2))) - (Int.tdiv ((N (k0 + 8) (Int.toNat ((12 * x1) + x2))) - (N k0 8)) (N (k0 + 3) (Int.toNat x1)))))]) (st := []) hp0.1 rfl (c_Mo_lay l hC.2.2.1 k0 hp0 (N (k0 + 7) (Int.toNat ((12 * x1) + x2))) hr25 ((N27 (k0 + 8) (Int.toNat ((12 * x1) + x2))) - (Int.tdiv ((N (k0 + 8) (Int.toNat ((12 * x1) + x2))) - (N k0 8)) (N (k0 + 3) (Int.toNat x1)))) hr29 N27 r30 N31 hq32) (cwV 2 hC.1.2.2.2.2 (tt_V k_234 k_236 k_237 k_229 k_235) rfl rfl rfl (by decide +kernel) ⟨Nat.le_of_ble_eq_true rfl, Nat.le_of_ble_eq_true rfl⟩) rfl rfl (Nat.le_of_ble_eq_true rfl) ⟨(Nat.le_of_ble_eq_true rfl), (Nat.le_of_ble_eq_true rfl)⟩ d_Mo_rest_131) ?_
      refine nv_iinc (lv' := [(2, .int (iI (x2 + 1))), (4, .int (iI (Int.tdiv ((N (k0 + 8) (Int.toNat ((12 * x1) + x2))) - (N k0 8)) (N (k0 + 3) (Int.toNat x1))))), (3, .int (iI (N (k0 + 7) (Int.toNat ((12 * x1) + x2))))), (0, .ref (ad k0)), (1, .int (iI x1))]) hC d_Mo_rest_134 4 rfl (by decide) rfl ?_
      refine nv_goto hC d_Mo_rest_137 (tgt := 53) (by decide) ?_
      obtain ⟨hr33, hm⟩ := ck_s hm
      refine nv_sub (lv' := [(0, .ref (ad k0)), (1, .int (iI x1)), (2, .int (iI (x2 + 1)))]) [3, 4, 0] rfl ?_
      exact ih (x2 + 1) N31 q No hm hr33 kx
set_option maxRecDepth 100000 in
set_option maxHeartbeats 4000000 in
theorem w_Mo_rest_38 {p : Program} {l : Launch} {e : Env} {s : State} {m : MethodId} {args : Array Value} {below : List Frame} {meth : Method} {c : Code} {Q : State → Prop} {D : va_G} {ct : Nat → ClassId} {A : Nat → Prop} {ad : Nat → Nat} {S : nH} (hC : nC p s m args c D vwCl ct A ad S 5 b_Mo_rest R_Mo TT) (k0 : Nat) (hp0 : isM S k0) : ∀ (f : Nat) (x1 : Int) (N : nS) (q : Int) (No : nS), m_Mo_rest_38 k0 f x1 N = some (q, No) → rg x1 → nV p l e rm_Mo_rest s m args below meth c 0 0 Q D vwCl ct A ad S 5 No 182 [(0, .ref (ad k0)), (1, .int (iI q))] [] → nV p l e rm_Mo_rest s m args below meth c 0 0 Q D vwCl ct A ad S 5 N 38 [(0, .ref (ad k0)), (1, .int (iI x1))] [] := by
  intro f
  induction f with
  | zero =>
    intro x1 N q No hm
    rw [m_Mo_rest_38] at hm
    cases hm
  | succ f ih =>
    intro x1 N q No hm hx1 kx
    rw [m_Mo_rest_38] at hm
    refine nv_iload_n hC d_Mo_rest_38 rfl 1 rfl ?_
    refine nv_aload_n hC d_Mo_rest_39 rfl 0 rfl ?_
    refine nv_getI hC (j := 1) hp0.1 rfl in_Mo (by decide) k_225 rfl d_Mo_rest_40 ?_
    obtain ⟨hr14, hm⟩ := ck_s hm
    refine nv_icmp_ge hC hx1 hr14 d_Mo_rest_43 (tgt := 182) (by decide) (fun c15 => ?_) (fun c15 => ?_)
    · have hm := if_t c15 hm
      obtain ⟨rfl, rfl⟩ := ret_s hm
      refine nv_sub (lv' := [(0, .ref (ad k0)), (1, .int (iI x1))]) [0, 1] rfl ?_
      exact kx
    · have hm := if_f c15 hm
      refine nv_aload_n hC d_Mo_rest_46 rfl 0 rfl ?_
      refine nv_iconst hC d_Mo_rest_47 ?_
      obtain ⟨N16, e17, hm⟩ := nlt_s hm
      refine nv_putI hC (j := 28) hp0.1 rfl in_Mo (by decide) ty_Mo tyok_Mo nm_Mo k_230 rfl rfl (by decide +kernel) e17 d_Mo_rest_48 ?_
      refine nv_iconst hC d_Mo_rest_51 ?_
      refine nv_istore_n (lv' := [(2, .int (iI 0)), (0, .ref (ad k0)), (1, .int (iI x1))]) hC d_Mo_rest_52 rfl (by decide) rfl ?_
      obtain ⟨q34, N35, hq36, hm⟩ := nbd_s hm
      refine nv_sub (lv' := [(0, .ref (ad k0)), (1, .int (iI x1)), (2, .int (iI 0))]) [1, 2, 0] rfl ?_
      refine w_Mo_rest_53 hC k0 hp0 x1 hx1 FU 0 N16 q34 N35 hq36 ⟨by decide, by decide⟩ ?_
      refine nv_aload_n hC d_Mo_rest_140 rfl 0 rfl ?_
      refine nv_iload_n hC d_Mo_rest_141 rfl 1 rfl ?_
      obtain ⟨r37, N38, hq39, hm⟩ := nbd_s hm
      refine nv_callv (N' := N38) (nr_V hC (As := [.int (iI x1)]) (st := []) hp0.1 rfl (c_Mo_putBack l hC.2.2.1 k0 hp0 x1 hx1 N35 r37 N38 hq39) (cwV 1 hC.1.2.2.2.2 (tt_V k_253 k_255 k_256 k_229 k_254) rfl rfl rfl (by decide +kernel) ⟨Nat.le_of_ble_eq_true rfl, Nat.le_of_ble_eq_true rfl⟩) rfl rfl (Nat.le_of_ble_eq_true rfl) ⟨(Nat.le_of_ble_eq_true rfl), (Nat.le_of_ble_eq_true rfl)⟩ d_Mo_rest_142) ?_
      refine nv_aload_n hC d_Mo_rest_145 rfl 0 rfl ?_
      refine nv_getR hC (j := 14) hp0.1 rfl in_Mo (by decide) k_278 rfl d_Mo_rest_146 ?_
      refine nv_iload_n hC d_Mo_rest_149 rfl 1 rfl ?_
      refine nv_dup2_11 hC d_Mo_rest_150 rfl rfl ?_
      obtain ⟨hc40, hm⟩ := ck_s hm
      refine nv_iald hC (isM_10 hp0) (by decide) hc40 d_Mo_rest_151 ?_
      refine nv_aload_n hC d_Mo_rest_152 rfl 0 rfl ?_
      refine nv_iload_n hC d_Mo_rest_153 rfl 1 rfl ?_
      obtain ⟨r41, N42, hq43, hm⟩ := nbd_s hm
      refine nv_calli (x := r41) (N' := N42) (nr_V hC (As := [.int (iI x1)]) (st := [.int (iI (N38 (k0 + 10) (Int.toNat x1))), .int (iI x1), .ref (ad (k0 + 10))]) hp0.1 rfl (c_Mo_leastOf l hC.2.2.1 k0 hp0 x1 hx1 N38 r41 N42 hq43) (cwV 1 hC.1.2.2.2.2 (tt_V k_279 k_281 k_282 k_229 k_280) rfl rfl rfl (by decide +kernel) ⟨Nat.le_of_ble_eq_true rfl, Nat.le_of_ble_eq_true rfl⟩) rfl rfl (Nat.le_of_ble_eq_true rfl) ⟨(Nat.le_of_ble_eq_true rfl), (Nat.le_of_ble_eq_true rfl)⟩ d_Mo_rest_154) ?_
      refine nv_sipush hC (z := 2500) d_Mo_rest_157 rfl ?_
      refine nv_sipush hC (z := 4500) d_Mo_rest_160 rfl ?_
      obtain ⟨hr44, hm⟩ := ck_s hm
      obtain ⟨r45, N46, hq47, hm⟩ := nbd_s hm
      refine nv_calli (x := r45) (N' := N46) (nr_S hC (As := [.int (iI r41), .int (iI 2500), .int (iI 4500)]) (st := [.int (iI (N38 (k0 + 10) (Int.toNat x1))), .int (iI x1), .ref (ad (k0 + 10))]) (c_Mo_in l hC.2.2.1 r41 hr44 2500 ⟨by decide, by decide⟩ 4500 ⟨by decide, by decide⟩ N42 r45 N46 hq47) (cwS 3 hC.1.2.2.2.2 (tt_S k_226 k_228 k_229 k_227) rfl rfl rfl (by decide +kernel) ⟨Nat.le_of_ble_eq_true rfl, Nat.le_of_ble_eq_true rfl⟩) rfl rfl (Nat.le_of_ble_eq_true rfl) ⟨(Nat.le_of_ble_eq_true rfl), (Nat.le_of_ble_eq_true rfl)⟩ d_Mo_rest_163) ?_
      obtain ⟨hr48, hm⟩ := ck_s hm
      refine nv_if_eq hC hr48 d_Mo_rest_166 (tgt := 173) (by decide) (fun c49 => ?_) (fun c49 => ?_)
      · have hm := if_t c49 hm
        refine nv_iconst hC d_Mo_rest_173 ?_
        refine nv_iadd hC d_Mo_rest_174 ?_
        obtain ⟨N50, e51, hm⟩ := nlt_s hm
        refine nv_iast hC (isM_10 hp0) (by decide) hc40 e51 d_Mo_rest_175 ?_
        refine nv_iinc (lv' := [(1, .int (iI (x1 + 1))), (0, .ref (ad k0)), (2, .int (iI q34))]) hC d_Mo_rest_176 1 rfl (by decide) rfl ?_
        refine nv_goto hC d_Mo_rest_179 (tgt := 38) (by decide) ?_
        obtain ⟨hr52, hm⟩ := ck_s hm
        refine nv_sub (lv' := [(0, .ref (ad k0)), (1, .int (iI (x1 + 1)))]) [1, 0] rfl ?_
        exact ih (x1 + 1) N50 q No hm hr52 kx
      · have hm := if_f c49 hm
        refine nv_iconst hC d_Mo_rest_169 ?_
        refine nv_goto hC d_Mo_rest_170 (tgt := 174) (by decide) ?_
        refine nv_iadd hC d_Mo_rest_174 ?_
        obtain ⟨N53, e54, hm⟩ := nlt_s hm
        refine nv_iast hC (isM_10 hp0) (by decide) hc40 e54 d_Mo_rest_175 ?_
        refine nv_iinc (lv' := [(1, .int (iI (x1 + 1))), (0, .ref (ad k0)), (2, .int (iI q34))]) hC d_Mo_rest_176 1 rfl (by decide) rfl ?_
        refine nv_goto hC d_Mo_rest_179 (tgt := 38) (by decide) ?_
        obtain ⟨hr55, hm⟩ := ck_s hm
        refine nv_sub (lv' := [(0, .ref (ad k0)), (1, .int (iI (x1 + 1)))]) [1, 0] rfl ?_
        exact ih (x1 + 1) N53 q No hm hr55 kx
set_option maxRecDepth 100000 in
set_option maxHeartbeats 4000000 in
theorem c_Mo_rest (l : Launch) {D : va_G} {ct : Nat → ClassId} {A : Nat → Prop} {ad : Nat → Nat} {S : nH} (hD : nD ad A S.length) (k0 : Nat) (hp0 : isM S k0) (N : nS) (r : Int) (No : nS) (hm : m_Mo_rest k0 N = some (r, No)) : nM l y_Mo_rest (Cond.code y_Mo_rest b_Mo_rest 5 none :: TT) rm_Mo_rest D vwCl ct A ad S N [.ref (ad k0)] (nQv D vwCl ct A ad S No) := by
  refine nM_of (cc := b_Mo_rest) (maxL := 5) (ret := none) (by decide) rfl (Nat.le_of_ble_eq_true rfl) hD ?_
  intro p e s m below meth c hC hr hlk
  refine nv_lv (lv' := [(0, .ref (ad k0))]) rfl ?_
  rw [m_Mo_rest] at hm
  refine nv_iconst hC d_Mo_rest_0 ?_
  refine nv_istore_n (lv' := [(1, .int (iI 0)), (0, .ref (ad k0))]) hC d_Mo_rest_1 rfl (by decide) rfl ?_
  obtain ⟨q11, N12, hq13, hm⟩ := nbd_s hm
  refine nv_sub (lv' := [(0, .ref (ad k0)), (1, .int (iI 0))]) [1, 0] rfl ?_
  refine w_Mo_rest_2 hC k0 hp0 FU 0 N q11 N12 hq13 ⟨by decide, by decide⟩ ?_
  refine nv_iconst hC d_Mo_rest_36 ?_
  refine nv_istore_n (lv' := [(1, .int (iI 0)), (0, .ref (ad k0))]) hC d_Mo_rest_37 rfl (by decide) rfl ?_
  obtain ⟨q56, N57, hq58, hm⟩ := nbd_s hm
  refine nv_sub (lv' := [(0, .ref (ad k0)), (1, .int (iI 0))]) [1, 0] rfl ?_
  refine w_Mo_rest_38 hC k0 hp0 FU 0 N12 q56 N57 hq58 ⟨by decide, by decide⟩ ?_
  obtain ⟨rfl, rfl⟩ := ret_s hm
  exact nv_vret hC hr hlk d_Mo_rest_182
def m_Mo_fill (k0 : Nat) (x1 : Int) (N : nS) : Option (Int × nS) :=
  if 0 ≤ x1 ∧ x1 < ((10 : Nat) : Int) then
  nlt (up2 N (k0 + 6) (Int.toNat x1) 1) (fun N2 =>
  if 0 ≤ (12 * x1) ∧ (12 * x1) < ((120 : Nat) : Int) then
  nlt (up2 N2 (k0 + 7) (Int.toNat (12 * x1)) (N2 (k0 + 2) (Int.toNat x1))) (fun N5 =>
  nlt (up2 N5 (k0 + 8) (Int.toNat (12 * x1)) (N5 k0 8)) (fun N7 =>
  some (0, N7)))
  else none)
  else none
abbrev rm_Mo_fill : Room := { frames := 0, cells := 0, slots := 0, locals := 0 }
set_option maxRecDepth 100000 in
set_option maxHeartbeats 4000000 in
theorem c_Mo_fill (l : Launch) {D : va_G} {ct : Nat → ClassId} {A : Nat → Prop} {ad : Nat → Nat} {S : nH} (hD : nD ad A S.length) (k0 : Nat) (hp0 : isM S k0) (x1 : Int) (hx1 : rg x1) (N : nS) (r : Int) (No : nS) (hm : m_Mo_fill k0 x1 N = some (r, No)) : nM l y_Mo_fill (Cond.code y_Mo_fill b_Mo_fill 2 none :: TT) rm_Mo_fill D vwCl ct A ad S N [.ref (ad k0), .int (iI x1)] (nQv D vwCl ct A ad S No) := by
  refine nM_of (cc := b_Mo_fill) (maxL := 2) (ret := none) (by decide) rfl (Nat.le_of_ble_eq_true rfl) hD ?_
  intro p e s m below meth c hC hr hlk
  refine nv_lv (lv' := [(0, .ref (ad k0)), (1, .int (iI x1))]) rfl ?_
  rw [m_Mo_fill] at hm
  refine nv_aload_n hC d_Mo_fill_0 rfl 0 rfl ?_
  refine nv_getR hC (j := 10) hp0.1 rfl in_Mo (by decide) k_242 rfl d_Mo_fill_1 ?_
  refine nv_iload_n hC d_Mo_fill_4 rfl 1 rfl ?_
  refine nv_iconst hC d_Mo_fill_5 ?_
  obtain ⟨hc1, hm⟩ := ck_s hm
  obtain ⟨N2, e3, hm⟩ := nlt_s hm
  refine nv_iast hC (isM_6 hp0) (by decide) hc1 e3 d_Mo_fill_6 ?_
  refine nv_aload_n hC d_Mo_fill_7 rfl 0 rfl ?_
  refine nv_getR hC (j := 11) hp0.1 rfl in_Mo (by decide) k_243 rfl d_Mo_fill_8 ?_
  refine nv_bipush hC (z := 12) d_Mo_fill_11 rfl ?_
  refine nv_iload_n hC d_Mo_fill_13 rfl 1 rfl ?_
  refine nv_imul hC d_Mo_fill_14 ?_
  refine nv_aload_n hC d_Mo_fill_15 rfl 0 rfl ?_
  refine nv_getR hC (j := 3) hp0.1 rfl in_Mo (by decide) k_248 rfl d_Mo_fill_16 ?_
  refine nv_iload_n hC d_Mo_fill_19 rfl 1 rfl ?_
  refine nv_iald hC (isM_2 hp0) (by decide) hc1 d_Mo_fill_20 ?_
  obtain ⟨hc4, hm⟩ := ck_s hm
  obtain ⟨N5, e6, hm⟩ := nlt_s hm
  refine nv_iast hC (isM_7 hp0) (by decide) hc4 e6 d_Mo_fill_21 ?_
  refine nv_aload_n hC d_Mo_fill_22 rfl 0 rfl ?_
  refine nv_getR hC (j := 12) hp0.1 rfl in_Mo (by decide) k_244 rfl d_Mo_fill_23 ?_
  refine nv_bipush hC (z := 12) d_Mo_fill_26 rfl ?_
  refine nv_iload_n hC d_Mo_fill_28 rfl 1 rfl ?_
  refine nv_imul hC d_Mo_fill_29 ?_
  refine nv_aload_n hC d_Mo_fill_30 rfl 0 rfl ?_
  refine nv_getI hC (j := 8) hp0.1 rfl in_Mo (by decide) k_276 rfl d_Mo_fill_31 ?_
  obtain ⟨N7, e8, hm⟩ := nlt_s hm
  refine nv_iast hC (isM_8 hp0) (by decide) hc4 e8 d_Mo_fill_34 ?_
  obtain ⟨rfl, rfl⟩ := ret_s hm
  exact nv_vret hC hr hlk d_Mo_fill_35
def m_Mo_pipe (k0 : Nat) (x1 : Int) (x2 : Int) (x3 : Int) (N : nS) : Option (Int × nS) :=
  if rg ((N k0 1) - 1) then
  nbd (m_Mo_in x1 (-1) ((N k0 1) - 1) N) (fun r2 N3 =>
  if rg r2 then
  if r2 = 0 then
  nlt (up2 N3 k0 0 1) (fun N7 =>
  some (0, N7))
  else
  nbd (m_Mo_in x2 1 1000 N3) (fun r10 N11 =>
  if rg r10 then
  if r10 = 0 then
  nlt (up2 N11 k0 0 1) (fun N15 =>
  some (0, N15))
  else
  nbd (m_Mo_in x3 1 1000 N11) (fun r18 N19 =>
  if rg r18 then
  if r18 = 0 then
  nlt (up2 N19 k0 0 1) (fun N54 =>
  some (0, N54))
  else
  if rg (N19 k0 1) then
  if (N19 k0 1) = 10 then
  nlt (up2 N19 k0 0 2) (fun N25 =>
  some (0, N25))
  else
  if rg (N19 k0 9) then
  if (N19 k0 9) ≤ 0 then
  nlt (up2 N19 k0 0 0) (fun N30 =>
  if 0 ≤ (N30 k0 1) ∧ (N30 k0 1) < ((10 : Nat) : Int) then
  nlt (up2 N30 (k0 + 1) (Int.toNat (N30 k0 1)) x1) (fun N34 =>
  if 0 ≤ (N34 k0 1) ∧ (N34 k0 1) < ((10 : Nat) : Int) then
  nlt (up2 N34 (k0 + 2) (Int.toNat (N34 k0 1)) x2) (fun N37 =>
  if 0 ≤ (N37 k0 1) ∧ (N37 k0 1) < ((10 : Nat) : Int) then
  nlt (up2 N37 (k0 + 3) (Int.toNat (N37 k0 1)) x3) (fun N40 =>
  if 0 ≤ (N40 k0 1) ∧ (N40 k0 1) < ((10 : Nat) : Int) then
  nlt (up2 N40 (k0 + 9) (Int.toNat (N40 k0 1)) (-1)) (fun N43 =>
  if rg (N43 k0 1) then
  nbd (m_Mo_fill k0 (N43 k0 1) N43) (fun r46 N47 =>
  nlt (up2 N47 k0 1 ((N47 k0 1) + 1)) (fun N49 =>
  some ((((N47 k0 1) + 1) - 1), N49)))
  else none)
  else none)
  else none)
  else none)
  else none)
  else
  nlt (up2 N19 k0 0 2) (fun N51 =>
  some (0, N51))
  else none
  else none
  else none)
  else none)
  else none)
  else none
set_option maxRecDepth 20000 in
theorem k_283 : Cond.methodLink R_Mo 161 y_Mo_fill ∈ TT := tt_i 681 (by decide +kernel) (by decide +kernel)
set_option maxRecDepth 20000 in
theorem k_284 : Cond.code y_Mo_fill b_Mo_fill 2 none ∈ TT := tt_i 684 (by decide +kernel) (by decide +kernel)
set_option maxRecDepth 20000 in
theorem k_285 : Cond.instanceMethod y_Mo_fill ∈ TT := tt_i 683 (by decide +kernel) (by decide +kernel)
set_option maxRecDepth 20000 in
theorem k_286 : Cond.selects R_Mo y_Mo_fill y_Mo_fill ∈ TT := tt_i 10 (by decide +kernel) (by decide +kernel)
abbrev rm_Mo_pipe : Room := { frames := 1, cells := 0, slots := 0, locals := 22 }
set_option maxRecDepth 100000 in
set_option maxHeartbeats 4000000 in
theorem c_Mo_pipe (l : Launch) {D : va_G} {ct : Nat → ClassId} {A : Nat → Prop} {ad : Nat → Nat} {S : nH} (hD : nD ad A S.length) (k0 : Nat) (hp0 : isM S k0) (x1 : Int) (hx1 : rg x1) (x2 : Int) (hx2 : rg x2) (x3 : Int) (hx3 : rg x3) (N : nS) (r : Int) (No : nS) (hm : m_Mo_pipe k0 x1 x2 x3 N = some (r, No)) : nM l y_Mo_pipe (Cond.code y_Mo_pipe b_Mo_pipe 4 (some .int) :: TT) rm_Mo_pipe D vwCl ct A ad S N [.ref (ad k0), .int (iI x1), .int (iI x2), .int (iI x3)] (nQi D vwCl ct A ad S r No) := by
  refine nM_of (cc := b_Mo_pipe) (maxL := 4) (ret := (some .int)) (by decide) rfl (Nat.le_of_ble_eq_true rfl) hD ?_
  intro p e s m below meth c hC hr hlk
  refine nv_lv (lv' := [(0, .ref (ad k0)), (1, .int (iI x1)), (2, .int (iI x2)), (3, .int (iI x3))]) rfl ?_
  rw [m_Mo_pipe] at hm
  refine nv_aload_n hC d_Mo_pipe_0 rfl 0 rfl ?_
  refine nv_iload_n hC d_Mo_pipe_1 rfl 1 rfl ?_
  refine nv_iconst hC d_Mo_pipe_2 ?_
  refine nv_aload_n hC d_Mo_pipe_3 rfl 0 rfl ?_
  refine nv_getI hC (j := 1) hp0.1 rfl in_Mo (by decide) k_225 rfl d_Mo_pipe_4 ?_
  refine nv_iconst hC d_Mo_pipe_7 ?_
  refine nv_isub hC d_Mo_pipe_8 ?_
  obtain ⟨hr1, hm⟩ := ck_s hm
  obtain ⟨r2, N3, hq4, hm⟩ := nbd_s hm
  refine nv_calli (x := r2) (N' := N3) (nr_S hC (As := [.int (iI x1), .int (iI (-1)), .int (iI ((N k0 1) - 1))]) (st := [.ref (ad k0)]) (c_Mo_in l hC.2.2.1 x1 hx1 (-1) ⟨by decide, by decide⟩ ((N k0 1) - 1) hr1 N r2 N3 hq4) (cwS 3 hC.1.2.2.2.2 (tt_S k_226 k_228 k_229 k_227) rfl rfl rfl (by decide +kernel) ⟨Nat.le_of_ble_eq_true rfl, Nat.le_of_ble_eq_true rfl⟩) rfl rfl (Nat.le_of_ble_eq_true rfl) ⟨(Nat.le_of_ble_eq_true rfl), (Nat.le_of_ble_eq_true rfl)⟩ d_Mo_pipe_9) ?_
  obtain ⟨hr5, hm⟩ := ck_s hm
  refine nv_if_eq hC hr5 d_Mo_pipe_12 (tgt := 37) (by decide) (fun c6 => ?_) (fun c6 => ?_)
  · have hm := if_t c6 hm
    refine nv_iconst hC d_Mo_pipe_37 ?_
    refine nv_goto hC d_Mo_pipe_38 (tgt := 62) (by decide) ?_
    obtain ⟨N7, e8, hm⟩ := nlt_s hm
    refine nv_putI hC (j := 0) hp0.1 rfl in_Mo (by decide) ty_Mo tyok_Mo nm_Mo k_224 rfl rfl (by decide +kernel) e8 d_Mo_pipe_62 ?_
    refine nv_aload_n hC d_Mo_pipe_65 rfl 0 rfl ?_
    refine nv_getIe (v := 1) hC (j := 0) hp0.1 rfl in_Mo (by decide) k_224 rfl d_Mo_pipe_66 (up2_v e8) ?_
    refine nv_if_le hC ⟨by decide, by decide⟩ d_Mo_pipe_69 (tgt := 74) (by decide) (fun h9 => absurd h9 (by decide)) (fun _ => ?_)
    refine nv_iconst hC d_Mo_pipe_72 ?_
    obtain ⟨rfl, rfl⟩ := ret_s hm
    exact nv_iret hC hr hlk d_Mo_pipe_73
  · have hm := if_f c6 hm
    refine nv_iload_n hC d_Mo_pipe_15 rfl 2 rfl ?_
    refine nv_iconst hC d_Mo_pipe_16 ?_
    refine nv_sipush hC (z := 1000) d_Mo_pipe_17 rfl ?_
    obtain ⟨r10, N11, hq12, hm⟩ := nbd_s hm
    refine nv_calli (x := r10) (N' := N11) (nr_S hC (As := [.int (iI x2), .int (iI 1), .int (iI 1000)]) (st := [.ref (ad k0)]) (c_Mo_in l hC.2.2.1 x2 hx2 1 ⟨by decide, by decide⟩ 1000 ⟨by decide, by decide⟩ N3 r10 N11 hq12) (cwS 3 hC.1.2.2.2.2 (tt_S k_226 k_228 k_229 k_227) rfl rfl rfl (by decide +kernel) ⟨Nat.le_of_ble_eq_true rfl, Nat.le_of_ble_eq_true rfl⟩) rfl rfl (Nat.le_of_ble_eq_true rfl) ⟨(Nat.le_of_ble_eq_true rfl), (Nat.le_of_ble_eq_true rfl)⟩ d_Mo_pipe_20) ?_
    obtain ⟨hr13, hm⟩ := ck_s hm
    refine nv_if_eq hC hr13 d_Mo_pipe_23 (tgt := 37) (by decide) (fun c14 => ?_) (fun c14 => ?_)
    · have hm := if_t c14 hm
      refine nv_iconst hC d_Mo_pipe_37 ?_
      refine nv_goto hC d_Mo_pipe_38 (tgt := 62) (by decide) ?_
      obtain ⟨N15, e16, hm⟩ := nlt_s hm
      refine nv_putI hC (j := 0) hp0.1 rfl in_Mo (by decide) ty_Mo tyok_Mo nm_Mo k_224 rfl rfl (by decide +kernel) e16 d_Mo_pipe_62 ?_
      refine nv_aload_n hC d_Mo_pipe_65 rfl 0 rfl ?_
      refine nv_getIe (v := 1) hC (j := 0) hp0.1 rfl in_Mo (by decide) k_224 rfl d_Mo_pipe_66 (up2_v e16) ?_
      refine nv_if_le hC ⟨by decide, by decide⟩ d_Mo_pipe_69 (tgt := 74) (by decide) (fun h9 => absurd h9 (by decide)) (fun _ => ?_)
      refine nv_iconst hC d_Mo_pipe_72 ?_
      obtain ⟨rfl, rfl⟩ := ret_s hm
      exact nv_iret hC hr hlk d_Mo_pipe_73
    · have hm := if_f c14 hm
      refine nv_iload_n hC d_Mo_pipe_26 rfl 3 rfl ?_
      refine nv_iconst hC d_Mo_pipe_27 ?_
      refine nv_sipush hC (z := 1000) d_Mo_pipe_28 rfl ?_
      obtain ⟨r18, N19, hq20, hm⟩ := nbd_s hm
      refine nv_calli (x := r18) (N' := N19) (nr_S hC (As := [.int (iI x3), .int (iI 1), .int (iI 1000)]) (st := [.ref (ad k0)]) (c_Mo_in l hC.2.2.1 x3 hx3 1 ⟨by decide, by decide⟩ 1000 ⟨by decide, by decide⟩ N11 r18 N19 hq20) (cwS 3 hC.1.2.2.2.2 (tt_S k_226 k_228 k_229 k_227) rfl rfl rfl (by decide +kernel) ⟨Nat.le_of_ble_eq_true rfl, Nat.le_of_ble_eq_true rfl⟩) rfl rfl (Nat.le_of_ble_eq_true rfl) ⟨(Nat.le_of_ble_eq_true rfl), (Nat.le_of_ble_eq_true rfl)⟩ d_Mo_pipe_31) ?_
      obtain ⟨hr21, hm⟩ := ck_s hm
      refine nv_if_ne hC hr21 d_Mo_pipe_34 (tgt := 41) (by decide) (fun c22 => ?_) (fun c22 => ?_)
      · have hm := if_f c22 hm
        refine nv_aload_n hC d_Mo_pipe_41 rfl 0 rfl ?_
        refine nv_getI hC (j := 1) hp0.1 rfl in_Mo (by decide) k_225 rfl d_Mo_pipe_42 ?_
        refine nv_bipush hC (z := 10) d_Mo_pipe_45 rfl ?_
        obtain ⟨hr23, hm⟩ := ck_s hm
        refine nv_icmp_eq hC hr23 ⟨by decide, by decide⟩ d_Mo_pipe_47 (tgt := 57) (by decide) (fun c24 => ?_) (fun c24 => ?_)
        · have hm := if_t c24 hm
          refine nv_iconst hC d_Mo_pipe_57 ?_
          refine nv_goto hC d_Mo_pipe_58 (tgt := 62) (by decide) ?_
          obtain ⟨N25, e26, hm⟩ := nlt_s hm
          refine nv_putI hC (j := 0) hp0.1 rfl in_Mo (by decide) ty_Mo tyok_Mo nm_Mo k_224 rfl rfl (by decide +kernel) e26 d_Mo_pipe_62 ?_
          refine nv_aload_n hC d_Mo_pipe_65 rfl 0 rfl ?_
          refine nv_getIe (v := 2) hC (j := 0) hp0.1 rfl in_Mo (by decide) k_224 rfl d_Mo_pipe_66 (up2_v e26) ?_
          refine nv_if_le hC ⟨by decide, by decide⟩ d_Mo_pipe_69 (tgt := 74) (by decide) (fun h9 => absurd h9 (by decide)) (fun _ => ?_)
          refine nv_iconst hC d_Mo_pipe_72 ?_
          obtain ⟨rfl, rfl⟩ := ret_s hm
          exact nv_iret hC hr hlk d_Mo_pipe_73
        · have hm := if_f c24 hm
          refine nv_aload_n hC d_Mo_pipe_50 rfl 0 rfl ?_
          refine nv_getI hC (j := 9) hp0.1 rfl in_Mo (by decide) k_258 rfl d_Mo_pipe_51 ?_
          obtain ⟨hr28, hm⟩ := ck_s hm
          refine nv_if_le hC hr28 d_Mo_pipe_54 (tgt := 61) (by decide) (fun c29 => ?_) (fun c29 => ?_)
          · have hm := if_t c29 hm
            refine nv_iconst hC d_Mo_pipe_61 ?_
            obtain ⟨N30, e31, hm⟩ := nlt_s hm
            refine nv_putI hC (j := 0) hp0.1 rfl in_Mo (by decide) ty_Mo tyok_Mo nm_Mo k_224 rfl rfl (by decide +kernel) e31 d_Mo_pipe_62 ?_
            refine nv_aload_n hC d_Mo_pipe_65 rfl 0 rfl ?_
            refine nv_getIe (v := 0) hC (j := 0) hp0.1 rfl in_Mo (by decide) k_224 rfl d_Mo_pipe_66 (up2_v e31) ?_
            refine nv_if_le hC ⟨by decide, by decide⟩ d_Mo_pipe_69 (tgt := 74) (by decide) (fun _ => ?_) (fun h9 => absurd (by decide) h9)
            refine nv_aload_n hC d_Mo_pipe_74 rfl 0 rfl ?_
            refine nv_getR hC (j := 2) hp0.1 rfl in_Mo (by decide) k_260 rfl d_Mo_pipe_75 ?_
            refine nv_aload_n hC d_Mo_pipe_78 rfl 0 rfl ?_
            refine nv_getI hC (j := 1) hp0.1 rfl in_Mo (by decide) k_225 rfl d_Mo_pipe_79 ?_
            refine nv_iload_n hC d_Mo_pipe_82 rfl 1 rfl ?_
            obtain ⟨hc33, hm⟩ := ck_s hm
            obtain ⟨N34, e35, hm⟩ := nlt_s hm
            refine nv_iast hC (isM_1 hp0) (by decide) hc33 e35 d_Mo_pipe_83 ?_
            refine nv_aload_n hC d_Mo_pipe_84 rfl 0 rfl ?_
            refine nv_getR hC (j := 3) hp0.1 rfl in_Mo (by decide) k_248 rfl d_Mo_pipe_85 ?_
            refine nv_aload_n hC d_Mo_pipe_88 rfl 0 rfl ?_
            refine nv_getI hC (j := 1) hp0.1 rfl in_Mo (by decide) k_225 rfl d_Mo_pipe_89 ?_
            refine nv_iload_n hC d_Mo_pipe_92 rfl 2 rfl ?_
            obtain ⟨hc36, hm⟩ := ck_s hm
            obtain ⟨N37, e38, hm⟩ := nlt_s hm
            refine nv_iast hC (isM_2 hp0) (by decide) hc36 e38 d_Mo_pipe_93 ?_
            refine nv_aload_n hC d_Mo_pipe_94 rfl 0 rfl ?_
            refine nv_getR hC (j := 4) hp0.1 rfl in_Mo (by decide) k_277 rfl d_Mo_pipe_95 ?_
            refine nv_aload_n hC d_Mo_pipe_98 rfl 0 rfl ?_
            refine nv_getI hC (j := 1) hp0.1 rfl in_Mo (by decide) k_225 rfl d_Mo_pipe_99 ?_
            refine nv_iload_n hC d_Mo_pipe_102 rfl 3 rfl ?_
            obtain ⟨hc39, hm⟩ := ck_s hm
            obtain ⟨N40, e41, hm⟩ := nlt_s hm
            refine nv_iast hC (isM_3 hp0) (by decide) hc39 e41 d_Mo_pipe_103 ?_
            refine nv_aload_n hC d_Mo_pipe_104 rfl 0 rfl ?_
            refine nv_getR hC (j := 13) hp0.1 rfl in_Mo (by decide) k_257 rfl d_Mo_pipe_105 ?_
            refine nv_aload_n hC d_Mo_pipe_108 rfl 0 rfl ?_
            refine nv_getI hC (j := 1) hp0.1 rfl in_Mo (by decide) k_225 rfl d_Mo_pipe_109 ?_
            refine nv_iconst hC d_Mo_pipe_112 ?_
            obtain ⟨hc42, hm⟩ := ck_s hm
            obtain ⟨N43, e44, hm⟩ := nlt_s hm
            refine nv_iast hC (isM_9 hp0) (by decide) hc42 e44 d_Mo_pipe_113 ?_
            refine nv_aload_n hC d_Mo_pipe_114 rfl 0 rfl ?_
            refine nv_aload_n hC d_Mo_pipe_115 rfl 0 rfl ?_
            refine nv_getI hC (j := 1) hp0.1 rfl in_Mo (by decide) k_225 rfl d_Mo_pipe_116 ?_
            obtain ⟨hr45, hm⟩ := ck_s hm
            obtain ⟨r46, N47, hq48, hm⟩ := nbd_s hm
            refine nv_callv (N' := N47) (nr_V hC (As := [.int (iI (N43 k0 1))]) (st := []) hp0.1 rfl (c_Mo_fill l hC.2.2.1 k0 hp0 (N43 k0 1) hr45 N43 r46 N47 hq48) (cwV 1 hC.1.2.2.2.2 (tt_V k_283 k_285 k_286 k_229 k_284) rfl rfl rfl (by decide +kernel) ⟨Nat.le_of_ble_eq_true rfl, Nat.le_of_ble_eq_true rfl⟩) rfl rfl (Nat.le_of_ble_eq_true rfl) ⟨(Nat.le_of_ble_eq_true rfl), (Nat.le_of_ble_eq_true rfl)⟩ d_Mo_pipe_119) ?_
            refine nv_aload_n hC d_Mo_pipe_122 rfl 0 rfl ?_
            refine nv_dup hC d_Mo_pipe_123 rfl ?_
            refine nv_getI hC (j := 1) hp0.1 rfl in_Mo (by decide) k_225 rfl d_Mo_pipe_124 ?_
            refine nv_iconst hC d_Mo_pipe_127 ?_
            refine nv_iadd hC d_Mo_pipe_128 ?_
            obtain ⟨N49, e50, hm⟩ := nlt_s hm
            refine nv_putI hC (j := 1) hp0.1 rfl in_Mo (by decide) ty_Mo tyok_Mo nm_Mo k_225 rfl rfl (by decide +kernel) e50 d_Mo_pipe_129 ?_
            refine nv_aload_n hC d_Mo_pipe_132 rfl 0 rfl ?_
            refine nv_getIe (v := ((N47 k0 1) + 1)) hC (j := 1) hp0.1 rfl in_Mo (by decide) k_225 rfl d_Mo_pipe_133 (up2_v e50) ?_
            refine nv_iconst hC d_Mo_pipe_136 ?_
            refine nv_isub hC d_Mo_pipe_137 ?_
            obtain ⟨rfl, rfl⟩ := ret_s hm
            exact nv_iret hC hr hlk d_Mo_pipe_138
          · have hm := if_f c29 hm
            refine nv_iconst hC d_Mo_pipe_57 ?_
            refine nv_goto hC d_Mo_pipe_58 (tgt := 62) (by decide) ?_
            obtain ⟨N51, e52, hm⟩ := nlt_s hm
            refine nv_putI hC (j := 0) hp0.1 rfl in_Mo (by decide) ty_Mo tyok_Mo nm_Mo k_224 rfl rfl (by decide +kernel) e52 d_Mo_pipe_62 ?_
            refine nv_aload_n hC d_Mo_pipe_65 rfl 0 rfl ?_
            refine nv_getIe (v := 2) hC (j := 0) hp0.1 rfl in_Mo (by decide) k_224 rfl d_Mo_pipe_66 (up2_v e52) ?_
            refine nv_if_le hC ⟨by decide, by decide⟩ d_Mo_pipe_69 (tgt := 74) (by decide) (fun h9 => absurd h9 (by decide)) (fun _ => ?_)
            refine nv_iconst hC d_Mo_pipe_72 ?_
            obtain ⟨rfl, rfl⟩ := ret_s hm
            exact nv_iret hC hr hlk d_Mo_pipe_73
      · have hm := if_t c22 hm
        refine nv_iconst hC d_Mo_pipe_37 ?_
        refine nv_goto hC d_Mo_pipe_38 (tgt := 62) (by decide) ?_
        obtain ⟨N54, e55, hm⟩ := nlt_s hm
        refine nv_putI hC (j := 0) hp0.1 rfl in_Mo (by decide) ty_Mo tyok_Mo nm_Mo k_224 rfl rfl (by decide +kernel) e55 d_Mo_pipe_62 ?_
        refine nv_aload_n hC d_Mo_pipe_65 rfl 0 rfl ?_
        refine nv_getIe (v := 1) hC (j := 0) hp0.1 rfl in_Mo (by decide) k_224 rfl d_Mo_pipe_66 (up2_v e55) ?_
        refine nv_if_le hC ⟨by decide, by decide⟩ d_Mo_pipe_69 (tgt := 74) (by decide) (fun h9 => absurd h9 (by decide)) (fun _ => ?_)
        refine nv_iconst hC d_Mo_pipe_72 ?_
        obtain ⟨rfl, rfl⟩ := ret_s hm
        exact nv_iret hC hr hlk d_Mo_pipe_73
def m_Mo_tap (k0 : Nat) (x1 : Int) (N : nS) : Option (Int × nS) :=
  nbd (m_Mo_isPipe k0 x1 N) (fun r1 N2 =>
  if rg r1 then
  if r1 = 0 then
  nlt (up2 N2 k0 0 1) (fun N6 =>
  some (0, N6))
  else
  nlt (up2 N2 k0 0 0) (fun N9 =>
  if 0 ≤ x1 ∧ x1 < ((10 : Nat) : Int) then
  if rg (N9 (k0 + 4) (Int.toNat x1)) then
  if (N9 (k0 + 4) (Int.toNat x1)) = 0 then
  nlt (up2 N9 (k0 + 4) (Int.toNat x1) 1) (fun N17 =>
  some (1, N17))
  else
  nlt (up2 N9 (k0 + 4) (Int.toNat x1) 1) (fun N15 =>
  some (0, N15))
  else none
  else none)
  else none)
set_option maxRecDepth 20000 in
theorem k_287 : Cond.methodLink R_Mo 164 y_Mo_isPipe ∈ TT := tt_i 689 (by decide +kernel) (by decide +kernel)
set_option maxRecDepth 20000 in
theorem k_288 : Cond.code y_Mo_isPipe b_Mo_isPipe 2 (some .boolean) ∈ TT := tt_i 692 (by decide +kernel) (by decide +kernel)
set_option maxRecDepth 20000 in
theorem k_289 : Cond.instanceMethod y_Mo_isPipe ∈ TT := tt_i 691 (by decide +kernel) (by decide +kernel)
set_option maxRecDepth 20000 in
theorem k_290 : Cond.selects R_Mo y_Mo_isPipe y_Mo_isPipe ∈ TT := tt_i 11 (by decide +kernel) (by decide +kernel)
set_option maxRecDepth 20000 in
theorem k_291 : Cond.fieldLink R_Mo 19 (T_Mo 5).1 (T_Mo 5).2.1 (T_Mo 5).2.2.1 ∈ TT := tt_i 551 (by decide +kernel) (by decide +kernel)
abbrev rm_Mo_tap : Room := { frames := 2, cells := 0, slots := 0, locals := 43 }
set_option maxRecDepth 100000 in
set_option maxHeartbeats 4000000 in
theorem c_Mo_tap (l : Launch) {D : va_G} {ct : Nat → ClassId} {A : Nat → Prop} {ad : Nat → Nat} {S : nH} (hD : nD ad A S.length) (k0 : Nat) (hp0 : isM S k0) (x1 : Int) (hx1 : rg x1) (N : nS) (r : Int) (No : nS) (hm : m_Mo_tap k0 x1 N = some (r, No)) : nM l y_Mo_tap (Cond.code y_Mo_tap b_Mo_tap 3 (some .boolean) :: TT) rm_Mo_tap D vwCl ct A ad S N [.ref (ad k0), .int (iI x1)] (nQi D vwCl ct A ad S r No) := by
  refine nM_of (cc := b_Mo_tap) (maxL := 3) (ret := (some .boolean)) (by decide) rfl (Nat.le_of_ble_eq_true rfl) hD ?_
  intro p e s m below meth c hC hr hlk
  refine nv_lv (lv' := [(0, .ref (ad k0)), (1, .int (iI x1))]) rfl ?_
  rw [m_Mo_tap] at hm
  refine nv_aload_n hC d_Mo_tap_0 rfl 0 rfl ?_
  refine nv_aload_n hC d_Mo_tap_1 rfl 0 rfl ?_
  refine nv_iload_n hC d_Mo_tap_2 rfl 1 rfl ?_
  obtain ⟨r1, N2, hq3, hm⟩ := nbd_s hm
  refine nv_calli (x := r1) (N' := N2) (nr_V hC (As := [.int (iI x1)]) (st := [.ref (ad k0)]) hp0.1 rfl (c_Mo_isPipe l hC.2.2.1 k0 hp0 x1 hx1 N r1 N2 hq3) (cwV 1 hC.1.2.2.2.2 (tt_V k_287 k_289 k_290 k_229 k_288) rfl rfl rfl (by decide +kernel) ⟨Nat.le_of_ble_eq_true rfl, Nat.le_of_ble_eq_true rfl⟩) rfl rfl (Nat.le_of_ble_eq_true rfl) ⟨(Nat.le_of_ble_eq_true rfl), (Nat.le_of_ble_eq_true rfl)⟩ d_Mo_tap_3) ?_
  obtain ⟨hr4, hm⟩ := ck_s hm
  refine nv_if_eq hC hr4 d_Mo_tap_6 (tgt := 13) (by decide) (fun c5 => ?_) (fun c5 => ?_)
  · have hm := if_t c5 hm
    refine nv_iconst hC d_Mo_tap_13 ?_
    obtain ⟨N6, e7, hm⟩ := nlt_s hm
    refine nv_putI hC (j := 0) hp0.1 rfl in_Mo (by decide) ty_Mo tyok_Mo nm_Mo k_224 rfl rfl (by decide +kernel) e7 d_Mo_tap_14 ?_
    refine nv_aload_n hC d_Mo_tap_17 rfl 0 rfl ?_
    refine nv_getIe (v := 1) hC (j := 0) hp0.1 rfl in_Mo (by decide) k_224 rfl d_Mo_tap_18 (up2_v e7) ?_
    refine nv_if_le hC ⟨by decide, by decide⟩ d_Mo_tap_21 (tgt := 26) (by decide) (fun h9 => absurd h9 (by decide)) (fun _ => ?_)
    refine nv_iconst hC d_Mo_tap_24 ?_
    obtain ⟨rfl, rfl⟩ := ret_s hm
    exact nv_zret hC hr hlk (Or.inl rfl) d_Mo_tap_25
  · have hm := if_f c5 hm
    refine nv_iconst hC d_Mo_tap_9 ?_
    refine nv_goto hC d_Mo_tap_10 (tgt := 14) (by decide) ?_
    obtain ⟨N9, e10, hm⟩ := nlt_s hm
    refine nv_putI hC (j := 0) hp0.1 rfl in_Mo (by decide) ty_Mo tyok_Mo nm_Mo k_224 rfl rfl (by decide +kernel) e10 d_Mo_tap_14 ?_
    refine nv_aload_n hC d_Mo_tap_17 rfl 0 rfl ?_
    refine nv_getIe (v := 0) hC (j := 0) hp0.1 rfl in_Mo (by decide) k_224 rfl d_Mo_tap_18 (up2_v e10) ?_
    refine nv_if_le hC ⟨by decide, by decide⟩ d_Mo_tap_21 (tgt := 26) (by decide) (fun _ => ?_) (fun h9 => absurd (by decide) h9)
    refine nv_aload_n hC d_Mo_tap_26 rfl 0 rfl ?_
    refine nv_getR hC (j := 5) hp0.1 rfl in_Mo (by decide) k_291 rfl d_Mo_tap_27 ?_
    refine nv_iload_n hC d_Mo_tap_30 rfl 1 rfl ?_
    obtain ⟨hc12, hm⟩ := ck_s hm
    refine nv_zald hC (isM_4 hp0) (by decide) hc12 d_Mo_tap_31 ?_
    obtain ⟨hr13, hm⟩ := ck_s hm
    refine nv_if_ne hC hr13 d_Mo_tap_32 (tgt := 39) (by decide) (fun c14 => ?_) (fun c14 => ?_)
    · have hm := if_f c14 hm
      refine nv_iconst hC d_Mo_tap_39 ?_
      refine nv_istore_n (lv' := [(2, .int (iI 0)), (0, .ref (ad k0)), (1, .int (iI x1))]) hC d_Mo_tap_40 rfl (by decide) rfl ?_
      refine nv_aload_n hC d_Mo_tap_41 rfl 1 rfl ?_
      refine nv_getR hC (j := 5) hp0.1 rfl in_Mo (by decide) k_291 rfl d_Mo_tap_42 ?_
      refine nv_iload_n hC d_Mo_tap_45 rfl 2 rfl ?_
      refine nv_iconst hC d_Mo_tap_46 ?_
      obtain ⟨N15, e16, hm⟩ := nlt_s hm
      refine nv_zast hC (isM_4 hp0) (by decide) hc12 (Or.inr rfl) e16 d_Mo_tap_47 ?_
      refine nv_iload_n hC d_Mo_tap_48 rfl 0 rfl ?_
      obtain ⟨rfl, rfl⟩ := ret_s hm
      exact nv_zret hC hr hlk (Or.inl rfl) d_Mo_tap_49
    · have hm := if_t c14 hm
      refine nv_iconst hC d_Mo_tap_35 ?_
      refine nv_goto hC d_Mo_tap_36 (tgt := 40) (by decide) ?_
      refine nv_istore_n (lv' := [(2, .int (iI 1)), (0, .ref (ad k0)), (1, .int (iI x1))]) hC d_Mo_tap_40 rfl (by decide) rfl ?_
      refine nv_aload_n hC d_Mo_tap_41 rfl 1 rfl ?_
      refine nv_getR hC (j := 5) hp0.1 rfl in_Mo (by decide) k_291 rfl d_Mo_tap_42 ?_
      refine nv_iload_n hC d_Mo_tap_45 rfl 2 rfl ?_
      refine nv_iconst hC d_Mo_tap_46 ?_
      obtain ⟨N17, e18, hm⟩ := nlt_s hm
      refine nv_zast hC (isM_4 hp0) (by decide) hc12 (Or.inr rfl) e18 d_Mo_tap_47 ?_
      refine nv_iload_n hC d_Mo_tap_48 rfl 0 rfl ?_
      obtain ⟨rfl, rfl⟩ := ret_s hm
      exact nv_zret hC hr hlk (Or.inr rfl) d_Mo_tap_49
def m_Mo_set_90 (k0 : Nat) (x1 : Int) (x2 : Int) (x3 : Int) : Nat → Int → nS → Option ((Int) × nS)
  | 0, _, _ => none
  | f + 1, x4, N =>
    if rg (N k0 1) then
    if (N k0 1) ≤ x4 then
    some (x4, N)
    else
    if x1 = 1 then
    if rg (N k0 9) then
    if (N k0 9) = 0 then
    nbd (m_Mo_fill k0 x4 N) (fun r32 N33 =>
    if rg (x4 + 1) then
    m_Mo_set_90 k0 x1 x2 x3 f (x4 + 1) N33
    else none)
    else
    some (x4, N)
    else none
    else
    some (x4, N)
    else none
def m_Mo_set (k0 : Nat) (x1 : Int) (x2 : Int) (N : nS) : Option (Int × nS) :=
  nbd (m_Mo_in x1 0 1 N) (fun r1 N2 =>
  if rg r1 then
  if r1 = 0 then
  nlt (up2 N2 k0 0 1) (fun N6 =>
  some (0, N6))
  else
  nbd (m_Mo_in x2 0 10000 N2) (fun r9 N10 =>
  if rg r9 then
  if r9 = 0 then
  nlt (up2 N10 k0 0 1) (fun N14 =>
  some (0, N14))
  else
  nlt (up2 N10 k0 0 0) (fun N17 =>
  if x1 = 0 then
  nlt (up2 N17 k0 7 x2) (fun N47 =>
  if x1 = 1 then
  nlt (up2 N47 k0 8 x2) (fun N56 =>
  if rg (N17 k0 7) then
  nbd (m_Mo_set_90 k0 x1 x2 (N17 k0 7) FU 0 N56) (fun q59 N60 =>
  some ((N17 k0 7), N60))
  else none)
  else
  nlt (up2 N47 k0 8 (N47 k0 8)) (fun N50 =>
  if rg (N17 k0 7) then
  nbd (m_Mo_set_90 k0 x1 x2 (N17 k0 7) FU 0 N50) (fun q53 N54 =>
  some ((N17 k0 7), N54))
  else none))
  else
  nlt (up2 N17 k0 7 (N17 k0 7)) (fun N22 =>
  if x1 = 1 then
  nlt (up2 N22 k0 8 x2) (fun N40 =>
  if rg (N17 k0 8) then
  nbd (m_Mo_set_90 k0 x1 x2 (N17 k0 8) FU 0 N40) (fun q43 N44 =>
  some ((N17 k0 8), N44))
  else none)
  else
  nlt (up2 N22 k0 8 (N22 k0 8)) (fun N25 =>
  if rg (N17 k0 8) then
  nbd (m_Mo_set_90 k0 x1 x2 (N17 k0 8) FU 0 N25) (fun q37 N38 =>
  some ((N17 k0 8), N38))
  else none)))
  else none)
  else none)
abbrev rm_Mo_set : Room := { frames := 1, cells := 0, slots := 0, locals := 22 }
set_option maxRecDepth 100000 in
set_option maxHeartbeats 4000000 in
theorem w_Mo_set_90 {p : Program} {l : Launch} {e : Env} {s : State} {m : MethodId} {args : Array Value} {below : List Frame} {meth : Method} {c : Code} {Q : State → Prop} {D : va_G} {ct : Nat → ClassId} {A : Nat → Prop} {ad : Nat → Nat} {S : nH} (hC : nC p s m args c D vwCl ct A ad S 5 b_Mo_set R_Mo TT) (k0 : Nat) (hp0 : isM S k0) (x1 : Int) (hx1 : rg x1) (x2 : Int) (hx2 : rg x2) (x3 : Int) (hx3 : rg x3) : ∀ (f : Nat) (x4 : Int) (N : nS) (q : Int) (No : nS), m_Mo_set_90 k0 x1 x2 x3 f x4 N = some (q, No) → rg x4 → nV p l e rm_Mo_set s m args below meth c 0 0 Q D vwCl ct A ad S 5 No 123 [(0, .ref (ad k0)), (1, .int (iI x1)), (2, .int (iI x2)), (3, .int (iI x3)), (4, .int (iI q))] [] → nV p l e rm_Mo_set s m args below meth c 0 0 Q D vwCl ct A ad S 5 N 90 [(0, .ref (ad k0)), (1, .int (iI x1)), (2, .int (iI x2)), (3, .int (iI x3)), (4, .int (iI x4))] [] := by
  intro f
  induction f with
  | zero =>
    intro x4 N q No hm
    rw [m_Mo_set_90] at hm
    cases hm
  | succ f ih =>
    intro x4 N q No hm hx4 kx
    rw [m_Mo_set_90] at hm
    refine nv_iload hC d_Mo_set_90 4 rfl ?_
    refine nv_aload_n hC d_Mo_set_92 rfl 0 rfl ?_
    refine nv_getI hC (j := 1) hp0.1 rfl in_Mo (by decide) k_225 rfl d_Mo_set_93 ?_
    obtain ⟨hr27, hm⟩ := ck_s hm
    refine nv_icmp_ge hC hx4 hr27 d_Mo_set_96 (tgt := 123) (by decide) (fun c28 => ?_) (fun c28 => ?_)
    · have hm := if_t c28 hm
      obtain ⟨rfl, rfl⟩ := ret_s hm
      refine nv_sub (lv' := [(0, .ref (ad k0)), (1, .int (iI x1)), (2, .int (iI x2)), (3, .int (iI x3)), (4, .int (iI x4))]) [0, 1, 2, 3, 4] rfl ?_
      exact kx
    · have hm := if_f c28 hm
      refine nv_iload_n hC d_Mo_set_99 rfl 1 rfl ?_
      refine nv_iconst hC d_Mo_set_100 ?_
      refine nv_icmp_ne hC hx1 ⟨by decide, by decide⟩ d_Mo_set_101 (tgt := 123) (by decide) (fun c29 => ?_) (fun c29 => ?_)
      · have hm := if_f c29 hm
        obtain ⟨rfl, rfl⟩ := ret_s hm
        refine nv_sub (lv' := [(0, .ref (ad k0)), (1, .int (iI x1)), (2, .int (iI x2)), (3, .int (iI x3)), (4, .int (iI x4))]) [0, 1, 2, 3, 4] rfl ?_
        exact kx
      · have hm := if_t c29 hm
        refine nv_aload_n hC d_Mo_set_104 rfl 0 rfl ?_
        refine nv_getI hC (j := 9) hp0.1 rfl in_Mo (by decide) k_258 rfl d_Mo_set_105 ?_
        obtain ⟨hr30, hm⟩ := ck_s hm
        refine nv_if_ne hC hr30 d_Mo_set_108 (tgt := 123) (by decide) (fun c31 => ?_) (fun c31 => ?_)
        · have hm := if_f c31 hm
          obtain ⟨rfl, rfl⟩ := ret_s hm
          refine nv_sub (lv' := [(0, .ref (ad k0)), (1, .int (iI x1)), (2, .int (iI x2)), (3, .int (iI x3)), (4, .int (iI x4))]) [0, 1, 2, 3, 4] rfl ?_
          exact kx
        · have hm := if_t c31 hm
          refine nv_aload_n hC d_Mo_set_111 rfl 0 rfl ?_
          refine nv_iload hC d_Mo_set_112 4 rfl ?_
          obtain ⟨r32, N33, hq34, hm⟩ := nbd_s hm
          refine nv_callv (N' := N33) (nr_V hC (As := [.int (iI x4)]) (st := []) hp0.1 rfl (c_Mo_fill l hC.2.2.1 k0 hp0 x4 hx4 N r32 N33 hq34) (cwV 1 hC.1.2.2.2.2 (tt_V k_283 k_285 k_286 k_229 k_284) rfl rfl rfl (by decide +kernel) ⟨Nat.le_of_ble_eq_true rfl, Nat.le_of_ble_eq_true rfl⟩) rfl rfl (Nat.le_of_ble_eq_true rfl) ⟨(Nat.le_of_ble_eq_true rfl), (Nat.le_of_ble_eq_true rfl)⟩ d_Mo_set_114) ?_
          refine nv_iinc (lv' := [(4, .int (iI (x4 + 1))), (0, .ref (ad k0)), (1, .int (iI x1)), (2, .int (iI x2)), (3, .int (iI x3))]) hC d_Mo_set_117 4 rfl (by decide) rfl ?_
          refine nv_goto hC d_Mo_set_120 (tgt := 90) (by decide) ?_
          obtain ⟨hr35, hm⟩ := ck_s hm
          refine nv_sub (lv' := [(0, .ref (ad k0)), (1, .int (iI x1)), (2, .int (iI x2)), (3, .int (iI x3)), (4, .int (iI (x4 + 1)))]) [1, 2, 3, 4, 0] rfl ?_
          exact ih (x4 + 1) N33 q No hm hr35 kx
set_option maxRecDepth 100000 in
set_option maxHeartbeats 4000000 in
theorem c_Mo_set (l : Launch) {D : va_G} {ct : Nat → ClassId} {A : Nat → Prop} {ad : Nat → Nat} {S : nH} (hD : nD ad A S.length) (k0 : Nat) (hp0 : isM S k0) (x1 : Int) (hx1 : rg x1) (x2 : Int) (hx2 : rg x2) (N : nS) (r : Int) (No : nS) (hm : m_Mo_set k0 x1 x2 N = some (r, No)) : nM l y_Mo_set (Cond.code y_Mo_set b_Mo_set 5 (some .int) :: TT) rm_Mo_set D vwCl ct A ad S N [.ref (ad k0), .int (iI x1), .int (iI x2)] (nQi D vwCl ct A ad S r No) := by
  refine nM_of (cc := b_Mo_set) (maxL := 5) (ret := (some .int)) (by decide) rfl (Nat.le_of_ble_eq_true rfl) hD ?_
  intro p e s m below meth c hC hr hlk
  refine nv_lv (lv' := [(0, .ref (ad k0)), (1, .int (iI x1)), (2, .int (iI x2))]) rfl ?_
  rw [m_Mo_set] at hm
  refine nv_aload_n hC d_Mo_set_0 rfl 0 rfl ?_
  refine nv_iload_n hC d_Mo_set_1 rfl 1 rfl ?_
  refine nv_iconst hC d_Mo_set_2 ?_
  refine nv_iconst hC d_Mo_set_3 ?_
  obtain ⟨r1, N2, hq3, hm⟩ := nbd_s hm
  refine nv_calli (x := r1) (N' := N2) (nr_S hC (As := [.int (iI x1), .int (iI 0), .int (iI 1)]) (st := [.ref (ad k0)]) (c_Mo_in l hC.2.2.1 x1 hx1 0 ⟨by decide, by decide⟩ 1 ⟨by decide, by decide⟩ N r1 N2 hq3) (cwS 3 hC.1.2.2.2.2 (tt_S k_226 k_228 k_229 k_227) rfl rfl rfl (by decide +kernel) ⟨Nat.le_of_ble_eq_true rfl, Nat.le_of_ble_eq_true rfl⟩) rfl rfl (Nat.le_of_ble_eq_true rfl) ⟨(Nat.le_of_ble_eq_true rfl), (Nat.le_of_ble_eq_true rfl)⟩ d_Mo_set_4) ?_
  obtain ⟨hr4, hm⟩ := ck_s hm
  refine nv_if_eq hC hr4 d_Mo_set_7 (tgt := 25) (by decide) (fun c5 => ?_) (fun c5 => ?_)
  · have hm := if_t c5 hm
    refine nv_iconst hC d_Mo_set_25 ?_
    obtain ⟨N6, e7, hm⟩ := nlt_s hm
    refine nv_putI hC (j := 0) hp0.1 rfl in_Mo (by decide) ty_Mo tyok_Mo nm_Mo k_224 rfl rfl (by decide +kernel) e7 d_Mo_set_26 ?_
    refine nv_aload_n hC d_Mo_set_29 rfl 0 rfl ?_
    refine nv_getIe (v := 1) hC (j := 0) hp0.1 rfl in_Mo (by decide) k_224 rfl d_Mo_set_30 (up2_v e7) ?_
    refine nv_if_le hC ⟨by decide, by decide⟩ d_Mo_set_33 (tgt := 38) (by decide) (fun h9 => absurd h9 (by decide)) (fun _ => ?_)
    refine nv_iconst hC d_Mo_set_36 ?_
    obtain ⟨rfl, rfl⟩ := ret_s hm
    exact nv_iret hC hr hlk d_Mo_set_37
  · have hm := if_f c5 hm
    refine nv_iload_n hC d_Mo_set_10 rfl 2 rfl ?_
    refine nv_iconst hC d_Mo_set_11 ?_
    refine nv_sipush hC (z := 10000) d_Mo_set_12 rfl ?_
    obtain ⟨r9, N10, hq11, hm⟩ := nbd_s hm
    refine nv_calli (x := r9) (N' := N10) (nr_S hC (As := [.int (iI x2), .int (iI 0), .int (iI 10000)]) (st := [.ref (ad k0)]) (c_Mo_in l hC.2.2.1 x2 hx2 0 ⟨by decide, by decide⟩ 10000 ⟨by decide, by decide⟩ N2 r9 N10 hq11) (cwS 3 hC.1.2.2.2.2 (tt_S k_226 k_228 k_229 k_227) rfl rfl rfl (by decide +kernel) ⟨Nat.le_of_ble_eq_true rfl, Nat.le_of_ble_eq_true rfl⟩) rfl rfl (Nat.le_of_ble_eq_true rfl) ⟨(Nat.le_of_ble_eq_true rfl), (Nat.le_of_ble_eq_true rfl)⟩ d_Mo_set_15) ?_
    obtain ⟨hr12, hm⟩ := ck_s hm
    refine nv_if_eq hC hr12 d_Mo_set_18 (tgt := 25) (by decide) (fun c13 => ?_) (fun c13 => ?_)
    · have hm := if_t c13 hm
      refine nv_iconst hC d_Mo_set_25 ?_
      obtain ⟨N14, e15, hm⟩ := nlt_s hm
      refine nv_putI hC (j := 0) hp0.1 rfl in_Mo (by decide) ty_Mo tyok_Mo nm_Mo k_224 rfl rfl (by decide +kernel) e15 d_Mo_set_26 ?_
      refine nv_aload_n hC d_Mo_set_29 rfl 0 rfl ?_
      refine nv_getIe (v := 1) hC (j := 0) hp0.1 rfl in_Mo (by decide) k_224 rfl d_Mo_set_30 (up2_v e15) ?_
      refine nv_if_le hC ⟨by decide, by decide⟩ d_Mo_set_33 (tgt := 38) (by decide) (fun h9 => absurd h9 (by decide)) (fun _ => ?_)
      refine nv_iconst hC d_Mo_set_36 ?_
      obtain ⟨rfl, rfl⟩ := ret_s hm
      exact nv_iret hC hr hlk d_Mo_set_37
    · have hm := if_f c13 hm
      refine nv_iconst hC d_Mo_set_21 ?_
      refine nv_goto hC d_Mo_set_22 (tgt := 26) (by decide) ?_
      obtain ⟨N17, e18, hm⟩ := nlt_s hm
      refine nv_putI hC (j := 0) hp0.1 rfl in_Mo (by decide) ty_Mo tyok_Mo nm_Mo k_224 rfl rfl (by decide +kernel) e18 d_Mo_set_26 ?_
      refine nv_aload_n hC d_Mo_set_29 rfl 0 rfl ?_
      refine nv_getIe (v := 0) hC (j := 0) hp0.1 rfl in_Mo (by decide) k_224 rfl d_Mo_set_30 (up2_v e18) ?_
      refine nv_if_le hC ⟨by decide, by decide⟩ d_Mo_set_33 (tgt := 38) (by decide) (fun _ => ?_) (fun h9 => absurd (by decide) h9)
      refine nv_iload_n hC d_Mo_set_38 rfl 1 rfl ?_
      refine nv_if_ne hC hx1 d_Mo_set_39 (tgt := 49) (by decide) (fun c20 => ?_) (fun c20 => ?_)
      · have hm := if_f c20 hm
        refine nv_aload_n hC d_Mo_set_49 rfl 0 rfl ?_
        refine nv_getI hC (j := 8) hp0.1 rfl in_Mo (by decide) k_276 rfl d_Mo_set_50 ?_
        refine nv_istore_n (lv' := [(3, .int (iI (N17 k0 8))), (0, .ref (ad k0)), (1, .int (iI x1)), (2, .int (iI x2))]) hC d_Mo_set_53 rfl (by decide) rfl ?_
        refine nv_aload_n hC d_Mo_set_54 rfl 1 rfl ?_
        refine nv_iload_n hC d_Mo_set_55 rfl 2 rfl ?_
        refine nv_if_ne hC hx1 d_Mo_set_56 (tgt := 63) (by decide) (fun _ => ?_) (fun h9 => absurd h9 c20)
        refine nv_aload_n hC d_Mo_set_63 rfl 1 rfl ?_
        refine nv_getI hC (j := 7) hp0.1 rfl in_Mo (by decide) k_261 rfl d_Mo_set_64 ?_
        obtain ⟨N22, e23, hm⟩ := nlt_s hm
        refine nv_putI hC (j := 7) hp0.1 rfl in_Mo (by decide) ty_Mo tyok_Mo nm_Mo k_261 rfl rfl (by decide +kernel) e23 d_Mo_set_67 ?_
        refine nv_aload_n hC d_Mo_set_70 rfl 1 rfl ?_
        refine nv_iload_n hC d_Mo_set_71 rfl 2 rfl ?_
        refine nv_iconst hC d_Mo_set_72 ?_
        refine nv_icmp_ne hC hx1 ⟨by decide, by decide⟩ d_Mo_set_73 (tgt := 80) (by decide) (fun c24 => ?_) (fun c24 => ?_)
        · have hm := if_f c24 hm
          refine nv_aload_n hC d_Mo_set_80 rfl 1 rfl ?_
          refine nv_getI hC (j := 8) hp0.1 rfl in_Mo (by decide) k_276 rfl d_Mo_set_81 ?_
          obtain ⟨N25, e26, hm⟩ := nlt_s hm
          refine nv_putI hC (j := 8) hp0.1 rfl in_Mo (by decide) ty_Mo tyok_Mo nm_Mo k_276 rfl rfl (by decide +kernel) e26 d_Mo_set_84 ?_
          refine nv_iconst hC d_Mo_set_87 ?_
          refine nv_istore (lv' := [(4, .int (iI 0)), (3, .int (iI (N17 k0 8))), (0, .ref (ad k0)), (1, .int (iI x1)), (2, .int (iI x2))]) hC d_Mo_set_88 (by decide) rfl ?_
          obtain ⟨hr36, hm⟩ := ck_s hm
          obtain ⟨q37, N38, hq39, hm⟩ := nbd_s hm
          refine nv_sub (lv' := [(0, .ref (ad k0)), (1, .int (iI x1)), (2, .int (iI x2)), (3, .int (iI (N17 k0 8))), (4, .int (iI 0))]) [2, 3, 4, 1, 0] rfl ?_
          refine w_Mo_set_90 hC k0 hp0 x1 hx1 x2 hx2 (N17 k0 8) hr36 FU 0 N25 q37 N38 hq39 ⟨by decide, by decide⟩ ?_
          refine nv_iload_n hC d_Mo_set_123 rfl 3 rfl ?_
          obtain ⟨rfl, rfl⟩ := ret_s hm
          exact nv_iret hC hr hlk d_Mo_set_124
        · have hm := if_t c24 hm
          refine nv_iload_n hC d_Mo_set_76 rfl 3 rfl ?_
          refine nv_goto hC d_Mo_set_77 (tgt := 84) (by decide) ?_
          obtain ⟨N40, e41, hm⟩ := nlt_s hm
          refine nv_putI hC (j := 8) hp0.1 rfl in_Mo (by decide) ty_Mo tyok_Mo nm_Mo k_276 rfl rfl (by decide +kernel) e41 d_Mo_set_84 ?_
          refine nv_iconst hC d_Mo_set_87 ?_
          refine nv_istore (lv' := [(4, .int (iI 0)), (3, .int (iI (N17 k0 8))), (0, .ref (ad k0)), (1, .int (iI x1)), (2, .int (iI x2))]) hC d_Mo_set_88 (by decide) rfl ?_
          obtain ⟨hr42, hm⟩ := ck_s hm
          obtain ⟨q43, N44, hq45, hm⟩ := nbd_s hm
          refine nv_sub (lv' := [(0, .ref (ad k0)), (1, .int (iI x1)), (2, .int (iI x2)), (3, .int (iI (N17 k0 8))), (4, .int (iI 0))]) [2, 3, 4, 1, 0] rfl ?_
          refine w_Mo_set_90 hC k0 hp0 x1 hx1 x2 hx2 (N17 k0 8) hr42 FU 0 N40 q43 N44 hq45 ⟨by decide, by decide⟩ ?_
          refine nv_iload_n hC d_Mo_set_123 rfl 3 rfl ?_
          obtain ⟨rfl, rfl⟩ := ret_s hm
          exact nv_iret hC hr hlk d_Mo_set_124
      · have hm := if_t c20 hm
        refine nv_aload_n hC d_Mo_set_42 rfl 0 rfl ?_
        refine nv_getI hC (j := 7) hp0.1 rfl in_Mo (by decide) k_261 rfl d_Mo_set_43 ?_
        refine nv_goto hC d_Mo_set_46 (tgt := 53) (by decide) ?_
        refine nv_istore_n (lv' := [(3, .int (iI (N17 k0 7))), (0, .ref (ad k0)), (1, .int (iI x1)), (2, .int (iI x2))]) hC d_Mo_set_53 rfl (by decide) rfl ?_
        refine nv_aload_n hC d_Mo_set_54 rfl 1 rfl ?_
        refine nv_iload_n hC d_Mo_set_55 rfl 2 rfl ?_
        refine nv_if_ne hC hx1 d_Mo_set_56 (tgt := 63) (by decide) (fun h9 => absurd c20 h9) (fun _ => ?_)
        refine nv_iload_n hC d_Mo_set_59 rfl 3 rfl ?_
        refine nv_goto hC d_Mo_set_60 (tgt := 67) (by decide) ?_
        obtain ⟨N47, e48, hm⟩ := nlt_s hm
        refine nv_putI hC (j := 7) hp0.1 rfl in_Mo (by decide) ty_Mo tyok_Mo nm_Mo k_261 rfl rfl (by decide +kernel) e48 d_Mo_set_67 ?_
        refine nv_aload_n hC d_Mo_set_70 rfl 1 rfl ?_
        refine nv_iload_n hC d_Mo_set_71 rfl 2 rfl ?_
        refine nv_iconst hC d_Mo_set_72 ?_
        refine nv_icmp_ne hC hx1 ⟨by decide, by decide⟩ d_Mo_set_73 (tgt := 80) (by decide) (fun c49 => ?_) (fun c49 => ?_)
        · have hm := if_f c49 hm
          refine nv_aload_n hC d_Mo_set_80 rfl 1 rfl ?_
          refine nv_getI hC (j := 8) hp0.1 rfl in_Mo (by decide) k_276 rfl d_Mo_set_81 ?_
          obtain ⟨N50, e51, hm⟩ := nlt_s hm
          refine nv_putI hC (j := 8) hp0.1 rfl in_Mo (by decide) ty_Mo tyok_Mo nm_Mo k_276 rfl rfl (by decide +kernel) e51 d_Mo_set_84 ?_
          refine nv_iconst hC d_Mo_set_87 ?_
          refine nv_istore (lv' := [(4, .int (iI 0)), (3, .int (iI (N17 k0 7))), (0, .ref (ad k0)), (1, .int (iI x1)), (2, .int (iI x2))]) hC d_Mo_set_88 (by decide) rfl ?_
          obtain ⟨hr52, hm⟩ := ck_s hm
          obtain ⟨q53, N54, hq55, hm⟩ := nbd_s hm
          refine nv_sub (lv' := [(0, .ref (ad k0)), (1, .int (iI x1)), (2, .int (iI x2)), (3, .int (iI (N17 k0 7))), (4, .int (iI 0))]) [2, 3, 4, 1, 0] rfl ?_
          refine w_Mo_set_90 hC k0 hp0 x1 hx1 x2 hx2 (N17 k0 7) hr52 FU 0 N50 q53 N54 hq55 ⟨by decide, by decide⟩ ?_
          refine nv_iload_n hC d_Mo_set_123 rfl 3 rfl ?_
          obtain ⟨rfl, rfl⟩ := ret_s hm
          exact nv_iret hC hr hlk d_Mo_set_124
        · have hm := if_t c49 hm
          refine nv_iload_n hC d_Mo_set_76 rfl 3 rfl ?_
          refine nv_goto hC d_Mo_set_77 (tgt := 84) (by decide) ?_
          obtain ⟨N56, e57, hm⟩ := nlt_s hm
          refine nv_putI hC (j := 8) hp0.1 rfl in_Mo (by decide) ty_Mo tyok_Mo nm_Mo k_276 rfl rfl (by decide +kernel) e57 d_Mo_set_84 ?_
          refine nv_iconst hC d_Mo_set_87 ?_
          refine nv_istore (lv' := [(4, .int (iI 0)), (3, .int (iI (N17 k0 7))), (0, .ref (ad k0)), (1, .int (iI x1)), (2, .int (iI x2))]) hC d_Mo_set_88 (by decide) rfl ?_
          obtain ⟨hr58, hm⟩ := ck_s hm
          obtain ⟨q59, N60, hq61, hm⟩ := nbd_s hm
          refine nv_sub (lv' := [(0, .ref (ad k0)), (1, .int (iI x1)), (2, .int (iI x2)), (3, .int (iI (N17 k0 7))), (4, .int (iI 0))]) [2, 3, 4, 1, 0] rfl ?_
          refine w_Mo_set_90 hC k0 hp0 x1 hx1 x2 hx2 (N17 k0 7) hr58 FU 0 N56 q59 N60 hq61 ⟨by decide, by decide⟩ ?_
          refine nv_iload_n hC d_Mo_set_123 rfl 3 rfl ?_
          obtain ⟨rfl, rfl⟩ := ret_s hm
          exact nv_iret hC hr hlk d_Mo_set_124
def m_Mo_loop (k0 : Nat) (x1 : Int) (x2 : Int) (N : nS) : Option (Int × nS) :=
  nbd (m_Mo_isPipe k0 x1 N) (fun r1 N2 =>
  if rg r1 then
  if r1 = 0 then
  nlt (up2 N2 k0 0 1) (fun N6 =>
  some (0, N6))
  else
  nbd (m_Mo_in x2 0 500 N2) (fun r9 N10 =>
  if rg r9 then
  if r9 = 0 then
  nlt (up2 N10 k0 0 1) (fun N14 =>
  some (0, N14))
  else
  nlt (up2 N10 k0 0 0) (fun N17 =>
  if 0 ≤ x1 ∧ x1 < ((10 : Nat) : Int) then
  nlt (up2 N17 (k0 + 5) (Int.toNat x1) x2) (fun N21 =>
  some ((N17 (k0 + 5) (Int.toNat x1)), N21))
  else none)
  else none)
  else none)
abbrev rm_Mo_loop : Room := { frames := 2, cells := 0, slots := 0, locals := 43 }
set_option maxRecDepth 100000 in
set_option maxHeartbeats 4000000 in
theorem c_Mo_loop (l : Launch) {D : va_G} {ct : Nat → ClassId} {A : Nat → Prop} {ad : Nat → Nat} {S : nH} (hD : nD ad A S.length) (k0 : Nat) (hp0 : isM S k0) (x1 : Int) (hx1 : rg x1) (x2 : Int) (hx2 : rg x2) (N : nS) (r : Int) (No : nS) (hm : m_Mo_loop k0 x1 x2 N = some (r, No)) : nM l y_Mo_loop (Cond.code y_Mo_loop b_Mo_loop 4 (some .int) :: TT) rm_Mo_loop D vwCl ct A ad S N [.ref (ad k0), .int (iI x1), .int (iI x2)] (nQi D vwCl ct A ad S r No) := by
  refine nM_of (cc := b_Mo_loop) (maxL := 4) (ret := (some .int)) (by decide) rfl (Nat.le_of_ble_eq_true rfl) hD ?_
  intro p e s m below meth c hC hr hlk
  refine nv_lv (lv' := [(0, .ref (ad k0)), (1, .int (iI x1)), (2, .int (iI x2))]) rfl ?_
  rw [m_Mo_loop] at hm
  refine nv_aload_n hC d_Mo_loop_0 rfl 0 rfl ?_
  refine nv_aload_n hC d_Mo_loop_1 rfl 0 rfl ?_
  refine nv_iload_n hC d_Mo_loop_2 rfl 1 rfl ?_
  obtain ⟨r1, N2, hq3, hm⟩ := nbd_s hm
  refine nv_calli (x := r1) (N' := N2) (nr_V hC (As := [.int (iI x1)]) (st := [.ref (ad k0)]) hp0.1 rfl (c_Mo_isPipe l hC.2.2.1 k0 hp0 x1 hx1 N r1 N2 hq3) (cwV 1 hC.1.2.2.2.2 (tt_V k_287 k_289 k_290 k_229 k_288) rfl rfl rfl (by decide +kernel) ⟨Nat.le_of_ble_eq_true rfl, Nat.le_of_ble_eq_true rfl⟩) rfl rfl (Nat.le_of_ble_eq_true rfl) ⟨(Nat.le_of_ble_eq_true rfl), (Nat.le_of_ble_eq_true rfl)⟩ d_Mo_loop_3) ?_
  obtain ⟨hr4, hm⟩ := ck_s hm
  refine nv_if_eq hC hr4 d_Mo_loop_6 (tgt := 24) (by decide) (fun c5 => ?_) (fun c5 => ?_)
  · have hm := if_t c5 hm
    refine nv_iconst hC d_Mo_loop_24 ?_
    obtain ⟨N6, e7, hm⟩ := nlt_s hm
    refine nv_putI hC (j := 0) hp0.1 rfl in_Mo (by decide) ty_Mo tyok_Mo nm_Mo k_224 rfl rfl (by decide +kernel) e7 d_Mo_loop_25 ?_
    refine nv_aload_n hC d_Mo_loop_28 rfl 0 rfl ?_
    refine nv_getIe (v := 1) hC (j := 0) hp0.1 rfl in_Mo (by decide) k_224 rfl d_Mo_loop_29 (up2_v e7) ?_
    refine nv_if_le hC ⟨by decide, by decide⟩ d_Mo_loop_32 (tgt := 37) (by decide) (fun h9 => absurd h9 (by decide)) (fun _ => ?_)
    refine nv_iconst hC d_Mo_loop_35 ?_
    obtain ⟨rfl, rfl⟩ := ret_s hm
    exact nv_iret hC hr hlk d_Mo_loop_36
  · have hm := if_f c5 hm
    refine nv_iload_n hC d_Mo_loop_9 rfl 2 rfl ?_
    refine nv_iconst hC d_Mo_loop_10 ?_
    refine nv_sipush hC (z := 500) d_Mo_loop_11 rfl ?_
    obtain ⟨r9, N10, hq11, hm⟩ := nbd_s hm
    refine nv_calli (x := r9) (N' := N10) (nr_S hC (As := [.int (iI x2), .int (iI 0), .int (iI 500)]) (st := [.ref (ad k0)]) (c_Mo_in l hC.2.2.1 x2 hx2 0 ⟨by decide, by decide⟩ 500 ⟨by decide, by decide⟩ N2 r9 N10 hq11) (cwS 3 hC.1.2.2.2.2 (tt_S k_226 k_228 k_229 k_227) rfl rfl rfl (by decide +kernel) ⟨Nat.le_of_ble_eq_true rfl, Nat.le_of_ble_eq_true rfl⟩) rfl rfl (Nat.le_of_ble_eq_true rfl) ⟨(Nat.le_of_ble_eq_true rfl), (Nat.le_of_ble_eq_true rfl)⟩ d_Mo_loop_14) ?_
    obtain ⟨hr12, hm⟩ := ck_s hm
    refine nv_if_eq hC hr12 d_Mo_loop_17 (tgt := 24) (by decide) (fun c13 => ?_) (fun c13 => ?_)
    · have hm := if_t c13 hm
      refine nv_iconst hC d_Mo_loop_24 ?_
      obtain ⟨N14, e15, hm⟩ := nlt_s hm
      refine nv_putI hC (j := 0) hp0.1 rfl in_Mo (by decide) ty_Mo tyok_Mo nm_Mo k_224 rfl rfl (by decide +kernel) e15 d_Mo_loop_25 ?_
      refine nv_aload_n hC d_Mo_loop_28 rfl 0 rfl ?_
      refine nv_getIe (v := 1) hC (j := 0) hp0.1 rfl in_Mo (by decide) k_224 rfl d_Mo_loop_29 (up2_v e15) ?_
      refine nv_if_le hC ⟨by decide, by decide⟩ d_Mo_loop_32 (tgt := 37) (by decide) (fun h9 => absurd h9 (by decide)) (fun _ => ?_)
      refine nv_iconst hC d_Mo_loop_35 ?_
      obtain ⟨rfl, rfl⟩ := ret_s hm
      exact nv_iret hC hr hlk d_Mo_loop_36
    · have hm := if_f c13 hm
      refine nv_iconst hC d_Mo_loop_20 ?_
      refine nv_goto hC d_Mo_loop_21 (tgt := 25) (by decide) ?_
      obtain ⟨N17, e18, hm⟩ := nlt_s hm
      refine nv_putI hC (j := 0) hp0.1 rfl in_Mo (by decide) ty_Mo tyok_Mo nm_Mo k_224 rfl rfl (by decide +kernel) e18 d_Mo_loop_25 ?_
      refine nv_aload_n hC d_Mo_loop_28 rfl 0 rfl ?_
      refine nv_getIe (v := 0) hC (j := 0) hp0.1 rfl in_Mo (by decide) k_224 rfl d_Mo_loop_29 (up2_v e18) ?_
      refine nv_if_le hC ⟨by decide, by decide⟩ d_Mo_loop_32 (tgt := 37) (by decide) (fun _ => ?_) (fun h9 => absurd (by decide) h9)
      refine nv_aload_n hC d_Mo_loop_37 rfl 0 rfl ?_
      refine nv_getR hC (j := 6) hp0.1 rfl in_Mo (by decide) k_271 rfl d_Mo_loop_38 ?_
      refine nv_iload_n hC d_Mo_loop_41 rfl 1 rfl ?_
      obtain ⟨hc20, hm⟩ := ck_s hm
      refine nv_iald hC (isM_5 hp0) (by decide) hc20 d_Mo_loop_42 ?_
      refine nv_istore_n (lv' := [(3, .int (iI (N17 (k0 + 5) (Int.toNat x1)))), (0, .ref (ad k0)), (1, .int (iI x1)), (2, .int (iI x2))]) hC d_Mo_loop_43 rfl (by decide) rfl ?_
      refine nv_aload_n hC d_Mo_loop_44 rfl 1 rfl ?_
      refine nv_getR hC (j := 6) hp0.1 rfl in_Mo (by decide) k_271 rfl d_Mo_loop_45 ?_
      refine nv_iload_n hC d_Mo_loop_48 rfl 2 rfl ?_
      refine nv_iload_n hC d_Mo_loop_49 rfl 3 rfl ?_
      obtain ⟨N21, e22, hm⟩ := nlt_s hm
      refine nv_iast hC (isM_5 hp0) (by decide) hc20 e22 d_Mo_loop_50 ?_
      refine nv_iload_n hC d_Mo_loop_51 rfl 0 rfl ?_
      obtain ⟨rfl, rfl⟩ := ret_s hm
      exact nv_iret hC hr hlk d_Mo_loop_52
def m_Mo_draw (k0 : Nat) (x1 : Int) (x2 : Int) (x3 : Int) (N : nS) : Option (Int × nS) :=
  nbd (m_Mo_isPipe k0 x1 N) (fun r1 N2 =>
  if rg r1 then
  if r1 = 0 then
  nlt (up2 N2 k0 0 1) (fun N6 =>
  some (0, N6))
  else
  nbd (m_Mo_in x2 0 2999 N2) (fun r9 N10 =>
  if rg r9 then
  if r9 = 0 then
  nlt (up2 N10 k0 0 1) (fun N14 =>
  some (0, N14))
  else
  nbd (m_Mo_in x3 1 1000 N10) (fun r17 N18 =>
  if rg r17 then
  if r17 = 0 then
  nlt (up2 N18 k0 0 1) (fun N52 =>
  some (0, N52))
  else
  if 0 ≤ x1 ∧ x1 < ((10 : Nat) : Int) then
  if rg (N18 (k0 + 4) (Int.toNat x1)) then
  if (N18 (k0 + 4) (Int.toNat x1)) = 0 then
  nlt (up2 N18 k0 0 2) (fun N25 =>
  some (0, N25))
  else
  if rg (N18 k0 9) then
  if x2 < (N18 k0 9) then
  nlt (up2 N18 k0 0 2) (fun N30 =>
  some (0, N30))
  else
  if rg (N18 k0 15) then
  if (N18 k0 15) = 60 then
  nlt (up2 N18 k0 0 2) (fun N49 =>
  some (0, N49))
  else
  nlt (up2 N18 k0 0 0) (fun N35 =>
  if 0 ≤ (N35 k0 15) ∧ (N35 k0 15) < ((60 : Nat) : Int) then
  nlt (up2 N35 (k0 + 11) (Int.toNat (N35 k0 15)) x1) (fun N39 =>
  if 0 ≤ (N39 k0 15) ∧ (N39 k0 15) < ((60 : Nat) : Int) then
  nlt (up2 N39 (k0 + 12) (Int.toNat (N39 k0 15)) x2) (fun N42 =>
  if 0 ≤ (N42 k0 15) ∧ (N42 k0 15) < ((60 : Nat) : Int) then
  nlt (up2 N42 (k0 + 13) (Int.toNat (N42 k0 15)) x3) (fun N45 =>
  nlt (up2 N45 k0 15 ((N45 k0 15) + 1)) (fun N47 =>
  some ((((N45 k0 15) + 1) - 1), N47)))
  else none)
  else none)
  else none)
  else none
  else none
  else none
  else none
  else none)
  else none)
  else none)
set_option maxRecDepth 20000 in
theorem k_292 : Cond.fieldLink R_Mo 168 (T_Mo 15).1 (T_Mo 15).2.1 (T_Mo 15).2.2.1 ∈ TT := tt_i 561 (by decide +kernel) (by decide +kernel)
set_option maxRecDepth 20000 in
theorem k_293 : Cond.fieldLink R_Mo 48 (T_Mo 16).1 (T_Mo 16).2.1 (T_Mo 16).2.2.1 ∈ TT := tt_i 562 (by decide +kernel) (by decide +kernel)
set_option maxRecDepth 20000 in
theorem k_294 : Cond.fieldLink R_Mo 51 (T_Mo 17).1 (T_Mo 17).2.1 (T_Mo 17).2.2.1 ∈ TT := tt_i 563 (by decide +kernel) (by decide +kernel)
set_option maxRecDepth 20000 in
theorem k_295 : Cond.fieldLink R_Mo 54 (T_Mo 18).1 (T_Mo 18).2.1 (T_Mo 18).2.2.1 ∈ TT := tt_i 564 (by decide +kernel) (by decide +kernel)
abbrev rm_Mo_draw : Room := { frames := 2, cells := 0, slots := 0, locals := 43 }
set_option maxRecDepth 100000 in
set_option maxHeartbeats 4000000 in
theorem c_Mo_draw (l : Launch) {D : va_G} {ct : Nat → ClassId} {A : Nat → Prop} {ad : Nat → Nat} {S : nH} (hD : nD ad A S.length) (k0 : Nat) (hp0 : isM S k0) (x1 : Int) (hx1 : rg x1) (x2 : Int) (hx2 : rg x2) (x3 : Int) (hx3 : rg x3) (N : nS) (r : Int) (No : nS) (hm : m_Mo_draw k0 x1 x2 x3 N = some (r, No)) : nM l y_Mo_draw (Cond.code y_Mo_draw b_Mo_draw 4 (some .int) :: TT) rm_Mo_draw D vwCl ct A ad S N [.ref (ad k0), .int (iI x1), .int (iI x2), .int (iI x3)] (nQi D vwCl ct A ad S r No) := by
  refine nM_of (cc := b_Mo_draw) (maxL := 4) (ret := (some .int)) (by decide) rfl (Nat.le_of_ble_eq_true rfl) hD ?_
  intro p e s m below meth c hC hr hlk
  refine nv_lv (lv' := [(0, .ref (ad k0)), (1, .int (iI x1)), (2, .int (iI x2)), (3, .int (iI x3))]) rfl ?_
  rw [m_Mo_draw] at hm
  refine nv_aload_n hC d_Mo_draw_0 rfl 0 rfl ?_
  refine nv_aload_n hC d_Mo_draw_1 rfl 0 rfl ?_
  refine nv_iload_n hC d_Mo_draw_2 rfl 1 rfl ?_
  obtain ⟨r1, N2, hq3, hm⟩ := nbd_s hm
  refine nv_calli (x := r1) (N' := N2) (nr_V hC (As := [.int (iI x1)]) (st := [.ref (ad k0)]) hp0.1 rfl (c_Mo_isPipe l hC.2.2.1 k0 hp0 x1 hx1 N r1 N2 hq3) (cwV 1 hC.1.2.2.2.2 (tt_V k_287 k_289 k_290 k_229 k_288) rfl rfl rfl (by decide +kernel) ⟨Nat.le_of_ble_eq_true rfl, Nat.le_of_ble_eq_true rfl⟩) rfl rfl (Nat.le_of_ble_eq_true rfl) ⟨(Nat.le_of_ble_eq_true rfl), (Nat.le_of_ble_eq_true rfl)⟩ d_Mo_draw_3) ?_
  obtain ⟨hr4, hm⟩ := ck_s hm
  refine nv_if_eq hC hr4 d_Mo_draw_6 (tgt := 31) (by decide) (fun c5 => ?_) (fun c5 => ?_)
  · have hm := if_t c5 hm
    refine nv_iconst hC d_Mo_draw_31 ?_
    refine nv_goto hC d_Mo_draw_32 (tgt := 66) (by decide) ?_
    obtain ⟨N6, e7, hm⟩ := nlt_s hm
    refine nv_putI hC (j := 0) hp0.1 rfl in_Mo (by decide) ty_Mo tyok_Mo nm_Mo k_224 rfl rfl (by decide +kernel) e7 d_Mo_draw_66 ?_
    refine nv_aload_n hC d_Mo_draw_69 rfl 0 rfl ?_
    refine nv_getIe (v := 1) hC (j := 0) hp0.1 rfl in_Mo (by decide) k_224 rfl d_Mo_draw_70 (up2_v e7) ?_
    refine nv_if_le hC ⟨by decide, by decide⟩ d_Mo_draw_73 (tgt := 78) (by decide) (fun h9 => absurd h9 (by decide)) (fun _ => ?_)
    refine nv_iconst hC d_Mo_draw_76 ?_
    obtain ⟨rfl, rfl⟩ := ret_s hm
    exact nv_iret hC hr hlk d_Mo_draw_77
  · have hm := if_f c5 hm
    refine nv_iload_n hC d_Mo_draw_9 rfl 2 rfl ?_
    refine nv_iconst hC d_Mo_draw_10 ?_
    refine nv_sipush hC (z := 2999) d_Mo_draw_11 rfl ?_
    obtain ⟨r9, N10, hq11, hm⟩ := nbd_s hm
    refine nv_calli (x := r9) (N' := N10) (nr_S hC (As := [.int (iI x2), .int (iI 0), .int (iI 2999)]) (st := [.ref (ad k0)]) (c_Mo_in l hC.2.2.1 x2 hx2 0 ⟨by decide, by decide⟩ 2999 ⟨by decide, by decide⟩ N2 r9 N10 hq11) (cwS 3 hC.1.2.2.2.2 (tt_S k_226 k_228 k_229 k_227) rfl rfl rfl (by decide +kernel) ⟨Nat.le_of_ble_eq_true rfl, Nat.le_of_ble_eq_true rfl⟩) rfl rfl (Nat.le_of_ble_eq_true rfl) ⟨(Nat.le_of_ble_eq_true rfl), (Nat.le_of_ble_eq_true rfl)⟩ d_Mo_draw_14) ?_
    obtain ⟨hr12, hm⟩ := ck_s hm
    refine nv_if_eq hC hr12 d_Mo_draw_17 (tgt := 31) (by decide) (fun c13 => ?_) (fun c13 => ?_)
    · have hm := if_t c13 hm
      refine nv_iconst hC d_Mo_draw_31 ?_
      refine nv_goto hC d_Mo_draw_32 (tgt := 66) (by decide) ?_
      obtain ⟨N14, e15, hm⟩ := nlt_s hm
      refine nv_putI hC (j := 0) hp0.1 rfl in_Mo (by decide) ty_Mo tyok_Mo nm_Mo k_224 rfl rfl (by decide +kernel) e15 d_Mo_draw_66 ?_
      refine nv_aload_n hC d_Mo_draw_69 rfl 0 rfl ?_
      refine nv_getIe (v := 1) hC (j := 0) hp0.1 rfl in_Mo (by decide) k_224 rfl d_Mo_draw_70 (up2_v e15) ?_
      refine nv_if_le hC ⟨by decide, by decide⟩ d_Mo_draw_73 (tgt := 78) (by decide) (fun h9 => absurd h9 (by decide)) (fun _ => ?_)
      refine nv_iconst hC d_Mo_draw_76 ?_
      obtain ⟨rfl, rfl⟩ := ret_s hm
      exact nv_iret hC hr hlk d_Mo_draw_77
    · have hm := if_f c13 hm
      refine nv_iload_n hC d_Mo_draw_20 rfl 3 rfl ?_
      refine nv_iconst hC d_Mo_draw_21 ?_
      refine nv_sipush hC (z := 1000) d_Mo_draw_22 rfl ?_
      obtain ⟨r17, N18, hq19, hm⟩ := nbd_s hm
      refine nv_calli (x := r17) (N' := N18) (nr_S hC (As := [.int (iI x3), .int (iI 1), .int (iI 1000)]) (st := [.ref (ad k0)]) (c_Mo_in l hC.2.2.1 x3 hx3 1 ⟨by decide, by decide⟩ 1000 ⟨by decide, by decide⟩ N10 r17 N18 hq19) (cwS 3 hC.1.2.2.2.2 (tt_S k_226 k_228 k_229 k_227) rfl rfl rfl (by decide +kernel) ⟨Nat.le_of_ble_eq_true rfl, Nat.le_of_ble_eq_true rfl⟩) rfl rfl (Nat.le_of_ble_eq_true rfl) ⟨(Nat.le_of_ble_eq_true rfl), (Nat.le_of_ble_eq_true rfl)⟩ d_Mo_draw_25) ?_
      obtain ⟨hr20, hm⟩ := ck_s hm
      refine nv_if_ne hC hr20 d_Mo_draw_28 (tgt := 35) (by decide) (fun c21 => ?_) (fun c21 => ?_)
      · have hm := if_f c21 hm
        refine nv_aload_n hC d_Mo_draw_35 rfl 0 rfl ?_
        refine nv_getR hC (j := 5) hp0.1 rfl in_Mo (by decide) k_291 rfl d_Mo_draw_36 ?_
        refine nv_iload_n hC d_Mo_draw_39 rfl 1 rfl ?_
        obtain ⟨hc22, hm⟩ := ck_s hm
        refine nv_zald hC (isM_4 hp0) (by decide) hc22 d_Mo_draw_40 ?_
        obtain ⟨hr23, hm⟩ := ck_s hm
        refine nv_if_eq hC hr23 d_Mo_draw_41 (tgt := 61) (by decide) (fun c24 => ?_) (fun c24 => ?_)
        · have hm := if_t c24 hm
          refine nv_iconst hC d_Mo_draw_61 ?_
          refine nv_goto hC d_Mo_draw_62 (tgt := 66) (by decide) ?_
          obtain ⟨N25, e26, hm⟩ := nlt_s hm
          refine nv_putI hC (j := 0) hp0.1 rfl in_Mo (by decide) ty_Mo tyok_Mo nm_Mo k_224 rfl rfl (by decide +kernel) e26 d_Mo_draw_66 ?_
          refine nv_aload_n hC d_Mo_draw_69 rfl 0 rfl ?_
          refine nv_getIe (v := 2) hC (j := 0) hp0.1 rfl in_Mo (by decide) k_224 rfl d_Mo_draw_70 (up2_v e26) ?_
          refine nv_if_le hC ⟨by decide, by decide⟩ d_Mo_draw_73 (tgt := 78) (by decide) (fun h9 => absurd h9 (by decide)) (fun _ => ?_)
          refine nv_iconst hC d_Mo_draw_76 ?_
          obtain ⟨rfl, rfl⟩ := ret_s hm
          exact nv_iret hC hr hlk d_Mo_draw_77
        · have hm := if_f c24 hm
          refine nv_iload_n hC d_Mo_draw_44 rfl 2 rfl ?_
          refine nv_aload_n hC d_Mo_draw_45 rfl 0 rfl ?_
          refine nv_getI hC (j := 9) hp0.1 rfl in_Mo (by decide) k_258 rfl d_Mo_draw_46 ?_
          obtain ⟨hr28, hm⟩ := ck_s hm
          refine nv_icmp_lt hC hx2 hr28 d_Mo_draw_49 (tgt := 61) (by decide) (fun c29 => ?_) (fun c29 => ?_)
          · have hm := if_t c29 hm
            refine nv_iconst hC d_Mo_draw_61 ?_
            refine nv_goto hC d_Mo_draw_62 (tgt := 66) (by decide) ?_
            obtain ⟨N30, e31, hm⟩ := nlt_s hm
            refine nv_putI hC (j := 0) hp0.1 rfl in_Mo (by decide) ty_Mo tyok_Mo nm_Mo k_224 rfl rfl (by decide +kernel) e31 d_Mo_draw_66 ?_
            refine nv_aload_n hC d_Mo_draw_69 rfl 0 rfl ?_
            refine nv_getIe (v := 2) hC (j := 0) hp0.1 rfl in_Mo (by decide) k_224 rfl d_Mo_draw_70 (up2_v e31) ?_
            refine nv_if_le hC ⟨by decide, by decide⟩ d_Mo_draw_73 (tgt := 78) (by decide) (fun h9 => absurd h9 (by decide)) (fun _ => ?_)
            refine nv_iconst hC d_Mo_draw_76 ?_
            obtain ⟨rfl, rfl⟩ := ret_s hm
            exact nv_iret hC hr hlk d_Mo_draw_77
          · have hm := if_f c29 hm
            refine nv_aload_n hC d_Mo_draw_52 rfl 0 rfl ?_
            refine nv_getI hC (j := 15) hp0.1 rfl in_Mo (by decide) k_292 rfl d_Mo_draw_53 ?_
            refine nv_bipush hC (z := 60) d_Mo_draw_56 rfl ?_
            obtain ⟨hr33, hm⟩ := ck_s hm
            refine nv_icmp_ne hC hr33 ⟨by decide, by decide⟩ d_Mo_draw_58 (tgt := 65) (by decide) (fun c34 => ?_) (fun c34 => ?_)
            · have hm := if_f c34 hm
              refine nv_iconst hC d_Mo_draw_65 ?_
              obtain ⟨N35, e36, hm⟩ := nlt_s hm
              refine nv_putI hC (j := 0) hp0.1 rfl in_Mo (by decide) ty_Mo tyok_Mo nm_Mo k_224 rfl rfl (by decide +kernel) e36 d_Mo_draw_66 ?_
              refine nv_aload_n hC d_Mo_draw_69 rfl 0 rfl ?_
              refine nv_getIe (v := 0) hC (j := 0) hp0.1 rfl in_Mo (by decide) k_224 rfl d_Mo_draw_70 (up2_v e36) ?_
              refine nv_if_le hC ⟨by decide, by decide⟩ d_Mo_draw_73 (tgt := 78) (by decide) (fun _ => ?_) (fun h9 => absurd (by decide) h9)
              refine nv_aload_n hC d_Mo_draw_78 rfl 0 rfl ?_
              refine nv_getR hC (j := 16) hp0.1 rfl in_Mo (by decide) k_293 rfl d_Mo_draw_79 ?_
              refine nv_aload_n hC d_Mo_draw_82 rfl 0 rfl ?_
              refine nv_getI hC (j := 15) hp0.1 rfl in_Mo (by decide) k_292 rfl d_Mo_draw_83 ?_
              refine nv_iload_n hC d_Mo_draw_86 rfl 1 rfl ?_
              obtain ⟨hc38, hm⟩ := ck_s hm
              obtain ⟨N39, e40, hm⟩ := nlt_s hm
              refine nv_iast hC (isM_11 hp0) (by decide) hc38 e40 d_Mo_draw_87 ?_
              refine nv_aload_n hC d_Mo_draw_88 rfl 0 rfl ?_
              refine nv_getR hC (j := 17) hp0.1 rfl in_Mo (by decide) k_294 rfl d_Mo_draw_89 ?_
              refine nv_aload_n hC d_Mo_draw_92 rfl 0 rfl ?_
              refine nv_getI hC (j := 15) hp0.1 rfl in_Mo (by decide) k_292 rfl d_Mo_draw_93 ?_
              refine nv_iload_n hC d_Mo_draw_96 rfl 2 rfl ?_
              obtain ⟨hc41, hm⟩ := ck_s hm
              obtain ⟨N42, e43, hm⟩ := nlt_s hm
              refine nv_iast hC (isM_12 hp0) (by decide) hc41 e43 d_Mo_draw_97 ?_
              refine nv_aload_n hC d_Mo_draw_98 rfl 0 rfl ?_
              refine nv_getR hC (j := 18) hp0.1 rfl in_Mo (by decide) k_295 rfl d_Mo_draw_99 ?_
              refine nv_aload_n hC d_Mo_draw_102 rfl 0 rfl ?_
              refine nv_getI hC (j := 15) hp0.1 rfl in_Mo (by decide) k_292 rfl d_Mo_draw_103 ?_
              refine nv_iload_n hC d_Mo_draw_106 rfl 3 rfl ?_
              obtain ⟨hc44, hm⟩ := ck_s hm
              obtain ⟨N45, e46, hm⟩ := nlt_s hm
              refine nv_iast hC (isM_13 hp0) (by decide) hc44 e46 d_Mo_draw_107 ?_
              refine nv_aload_n hC d_Mo_draw_108 rfl 0 rfl ?_
              refine nv_dup hC d_Mo_draw_109 rfl ?_
              refine nv_getI hC (j := 15) hp0.1 rfl in_Mo (by decide) k_292 rfl d_Mo_draw_110 ?_
              refine nv_iconst hC d_Mo_draw_113 ?_
              refine nv_iadd hC d_Mo_draw_114 ?_
              obtain ⟨N47, e48, hm⟩ := nlt_s hm
              refine nv_putI hC (j := 15) hp0.1 rfl in_Mo (by decide) ty_Mo tyok_Mo nm_Mo k_292 rfl rfl (by decide +kernel) e48 d_Mo_draw_115 ?_
              refine nv_aload_n hC d_Mo_draw_118 rfl 0 rfl ?_
              refine nv_getIe (v := ((N45 k0 15) + 1)) hC (j := 15) hp0.1 rfl in_Mo (by decide) k_292 rfl d_Mo_draw_119 (up2_v e48) ?_
              refine nv_iconst hC d_Mo_draw_122 ?_
              refine nv_isub hC d_Mo_draw_123 ?_
              obtain ⟨rfl, rfl⟩ := ret_s hm
              exact nv_iret hC hr hlk d_Mo_draw_124
            · have hm := if_t c34 hm
              refine nv_iconst hC d_Mo_draw_61 ?_
              refine nv_goto hC d_Mo_draw_62 (tgt := 66) (by decide) ?_
              obtain ⟨N49, e50, hm⟩ := nlt_s hm
              refine nv_putI hC (j := 0) hp0.1 rfl in_Mo (by decide) ty_Mo tyok_Mo nm_Mo k_224 rfl rfl (by decide +kernel) e50 d_Mo_draw_66 ?_
              refine nv_aload_n hC d_Mo_draw_69 rfl 0 rfl ?_
              refine nv_getIe (v := 2) hC (j := 0) hp0.1 rfl in_Mo (by decide) k_224 rfl d_Mo_draw_70 (up2_v e50) ?_
              refine nv_if_le hC ⟨by decide, by decide⟩ d_Mo_draw_73 (tgt := 78) (by decide) (fun h9 => absurd h9 (by decide)) (fun _ => ?_)
              refine nv_iconst hC d_Mo_draw_76 ?_
              obtain ⟨rfl, rfl⟩ := ret_s hm
              exact nv_iret hC hr hlk d_Mo_draw_77
      · have hm := if_t c21 hm
        refine nv_iconst hC d_Mo_draw_31 ?_
        refine nv_goto hC d_Mo_draw_32 (tgt := 66) (by decide) ?_
        obtain ⟨N52, e53, hm⟩ := nlt_s hm
        refine nv_putI hC (j := 0) hp0.1 rfl in_Mo (by decide) ty_Mo tyok_Mo nm_Mo k_224 rfl rfl (by decide +kernel) e53 d_Mo_draw_66 ?_
        refine nv_aload_n hC d_Mo_draw_69 rfl 0 rfl ?_
        refine nv_getIe (v := 1) hC (j := 0) hp0.1 rfl in_Mo (by decide) k_224 rfl d_Mo_draw_70 (up2_v e53) ?_
        refine nv_if_le hC ⟨by decide, by decide⟩ d_Mo_draw_73 (tgt := 78) (by decide) (fun h9 => absurd h9 (by decide)) (fun _ => ?_)
        refine nv_iconst hC d_Mo_draw_76 ?_
        obtain ⟨rfl, rfl⟩ := ret_s hm
        exact nv_iret hC hr hlk d_Mo_draw_77
