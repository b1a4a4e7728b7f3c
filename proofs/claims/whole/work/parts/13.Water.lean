def m_Water_copyFrom_2 (w0 nn0 : Nat) (w1 nn1 : Nat) : Nat → Int → nS → Option ((Int) × nS)
  | 0, _, _ => none
  | f + 1, x2, N =>
    if rg (N nn0 5) then
    if (N nn0 5) ≤ x2 then
    some (x2, N)
    else
    if 0 ≤ x2 ∧ x2 < ((10 : Nat) : Int) then
    nbd (m_Plugs_clear (w0 + 1 + 13 + 3 * (Int.toNat x2)) 12 N) (fun r4 N5 =>
    nbd (m_Plugs_addAll (w0 + 1 + 13 + 3 * (Int.toNat x2)) 12 (w1 + 1 + 13 + 3 * (Int.toNat x2)) 12 N5) (fun r7 N8 =>
    if rg (x2 + 1) then
    m_Water_copyFrom_2 w0 nn0 w1 nn1 f (x2 + 1) N8
    else none))
    else none
    else none
def m_Water_copyFrom (w0 nn0 : Nat) (w1 nn1 : Nat) (N : nS) : Option (Int × nS) :=
  nbd (m_Water_copyFrom_2 w0 nn0 w1 nn1 FU 0 N) (fun q11 N12 =>
  nlt (up2 N12 w0 10 (N12 w1 10)) (fun N14 =>
  some (0, N14)))
set_option maxRecDepth 20000 in
theorem k_54 : Cond.fieldLink R_Water 47 (T_Water 0).1 (T_Water 0).2.1 (T_Water 0).2.2.1 ∈ TT := tt_i 110 (by decide +kernel) (by decide +kernel)
set_option maxRecDepth 20000 in
theorem k_55 : Cond.fieldLink R_Water 51 (T_Net 5).1 (T_Net 5).2.1 (T_Net 5).2.2.1 ∈ TT := tt_i 61 (by decide +kernel) (by decide +kernel)
set_option maxRecDepth 20000 in
theorem k_56 : Cond.fieldLink R_Water 11 (T_Water 1).1 (T_Water 1).2.1 (T_Water 1).2.2.1 ∈ TT := tt_i 111 (by decide +kernel) (by decide +kernel)
set_option maxRecDepth 20000 in
theorem k_57 : Cond.methodLink R_Water 56 y_Plugs_clear ∈ TT := tt_i 320 (by decide +kernel) (by decide +kernel)
set_option maxRecDepth 20000 in
theorem k_58 : Cond.methodLink R_Water 59 y_Plugs_addAll ∈ TT := tt_i 400 (by decide +kernel) (by decide +kernel)
set_option maxRecDepth 20000 in
theorem k_59 : Cond.code y_Plugs_addAll b_Plugs_addAll 3 none ∈ TT := tt_i 403 (by decide +kernel) (by decide +kernel)
set_option maxRecDepth 20000 in
theorem k_60 : Cond.instanceMethod y_Plugs_addAll ∈ TT := tt_i 401 (by decide +kernel) (by decide +kernel)
set_option maxRecDepth 20000 in
theorem k_61 : Cond.selects R_Plugs y_Plugs_addAll y_Plugs_addAll ∈ TT := tt_i 402 (by decide +kernel) (by decide +kernel)
set_option maxRecDepth 20000 in
theorem k_62 : Cond.fieldLink R_Water 44 (T_Water 10).1 (T_Water 10).2.1 (T_Water 10).2.2.1 ∈ TT := tt_i 124 (by decide +kernel) (by decide +kernel)
abbrev rm_Water_copyFrom : Room := { frames := 2, cells := 0, slots := 0, locals := 44 }
set_option maxRecDepth 100000 in
set_option maxHeartbeats 4000000 in
theorem w_Water_copyFrom_2 {p : Program} {l : Launch} {e : Env} {s : State} {m : MethodId} {args : Array Value} {below : List Frame} {meth : Method} {c : Code} {Q : State → Prop} {D : va_G} {ct : Nat → ClassId} {A : Nat → Prop} {ad : Nat → Nat} {S : nH} (hC : nC p s m args c D vwCl ct A ad S 3 b_Water_copyFrom R_Water TT) (w0 nn0 : Nat) (hp0 : isW S w0 nn0) (w1 nn1 : Nat) (hp1 : isW S w1 nn1) : ∀ (f : Nat) (x2 : Int) (N : nS) (q : Int) (No : nS), m_Water_copyFrom_2 w0 nn0 w1 nn1 f x2 N = some (q, No) → rg x2 → nV p l e rm_Water_copyFrom s m args below meth c 0 0 Q D vwCl ct A ad S 3 No 43 [(0, .ref (ad w0)), (1, .ref (ad w1)), (2, .int (iI q))] [] → nV p l e rm_Water_copyFrom s m args below meth c 0 0 Q D vwCl ct A ad S 3 N 2 [(0, .ref (ad w0)), (1, .ref (ad w1)), (2, .int (iI x2))] [] := by
  intro f
  induction f with
  | zero =>
    intro x2 N q No hm
    rw [m_Water_copyFrom_2] at hm
    cases hm
  | succ f ih =>
    intro x2 N q No hm hx2 kx
    rw [m_Water_copyFrom_2] at hm
    refine nv_iload_n hC d_Water_copyFrom_2 rfl 2 rfl ?_
    refine nv_aload_n hC d_Water_copyFrom_3 rfl 0 rfl ?_
    refine nv_getA hC (j := 0) hp0.1 rfl in_Water (by decide) k_54 rfl d_Water_copyFrom_4 ?_
    refine nv_getI hC (j := 5) (isW_net hp0).1 rfl in_Net (by decide) k_55 rfl d_Water_copyFrom_7 ?_
    obtain ⟨hr1, hm⟩ := ck_s hm
    refine nv_icmp_ge hC hx2 hr1 d_Water_copyFrom_10 (tgt := 43) (by decide) (fun c2 => ?_) (fun c2 => ?_)
    · have hm := if_t c2 hm
      obtain ⟨rfl, rfl⟩ := ret_s hm
      refine nv_sub (lv' := [(0, .ref (ad w0)), (1, .ref (ad w1)), (2, .int (iI x2))]) [0, 1, 2] rfl ?_
      exact kx
    · have hm := if_f c2 hm
      refine nv_aload_n hC d_Water_copyFrom_13 rfl 0 rfl ?_
      refine nv_getR hC (j := 1) hp0.1 rfl in_Water (by decide) k_56 rfl d_Water_copyFrom_14 ?_
      refine nv_iload_n hC d_Water_copyFrom_17 rfl 2 rfl ?_
      obtain ⟨hc3, hm⟩ := ck_s hm
      refine nv_aald hC (isW_rows hp0) (by decide) hc3 rfl d_Water_copyFrom_18 ?_
      obtain ⟨r4, N5, hq6, hm⟩ := nbd_s hm
      refine nv_callv (N' := N5) (nr_V hC (As := []) (st := []) (isW_row hp0 (tn_lt hc3)).1 rfl (c_Plugs_clear l hC.2.2.1 (w0 + 1 + 13 + 3 * (Int.toNat x2)) 12 (isW_row hp0 (tn_lt hc3)) N r4 N5 hq6) (cwV 0 hC.1.2.2.2.2 (tt_V k_57 k_10 k_11 k_7 k_9) rfl rfl rfl (by decide +kernel) ⟨Nat.le_of_ble_eq_true rfl, Nat.le_of_ble_eq_true rfl⟩) rfl rfl (Nat.le_of_ble_eq_true rfl) ⟨(Nat.le_of_ble_eq_true rfl), (Nat.le_of_ble_eq_true rfl)⟩ d_Water_copyFrom_19) ?_
      refine nv_aload_n hC d_Water_copyFrom_22 rfl 0 rfl ?_
      refine nv_getR hC (j := 1) hp0.1 rfl in_Water (by decide) k_56 rfl d_Water_copyFrom_23 ?_
      refine nv_iload_n hC d_Water_copyFrom_26 rfl 2 rfl ?_
      refine nv_aald hC (isW_rows hp0) (by decide) hc3 rfl d_Water_copyFrom_27 ?_
      refine nv_aload_n hC d_Water_copyFrom_28 rfl 1 rfl ?_
      refine nv_getR hC (j := 1) hp1.1 rfl in_Water (by decide) k_56 rfl d_Water_copyFrom_29 ?_
      refine nv_iload_n hC d_Water_copyFrom_32 rfl 2 rfl ?_
      refine nv_aald hC (isW_rows hp1) (by decide) hc3 rfl d_Water_copyFrom_33 ?_
      obtain ⟨r7, N8, hq9, hm⟩ := nbd_s hm
      refine nv_callv (N' := N8) (nr_V hC (As := [.ref (ad (w1 + 1 + 13 + 3 * (Int.toNat x2)))]) (st := []) (isW_row hp0 (tn_lt hc3)).1 rfl (c_Plugs_addAll l hC.2.2.1 (w0 + 1 + 13 + 3 * (Int.toNat x2)) 12 (isW_row hp0 (tn_lt hc3)) (w1 + 1 + 13 + 3 * (Int.toNat x2)) 12 (isW_row hp1 (tn_lt hc3)) N5 r7 N8 hq9) (cwV 1 hC.1.2.2.2.2 (tt_V k_58 k_60 k_61 k_7 k_59) rfl rfl rfl (by decide +kernel) ⟨Nat.le_of_ble_eq_true rfl, Nat.le_of_ble_eq_true rfl⟩) rfl rfl (Nat.le_of_ble_eq_true rfl) ⟨(Nat.le_of_ble_eq_true rfl), (Nat.le_of_ble_eq_true rfl)⟩ d_Water_copyFrom_34) ?_
      refine nv_iinc (lv' := [(2, .int (iI (x2 + 1))), (0, .ref (ad w0)), (1, .ref (ad w1))]) hC d_Water_copyFrom_37 2 rfl (by decide) rfl ?_
      refine nv_goto hC d_Water_copyFrom_40 (tgt := 2) (by decide) ?_
      obtain ⟨hr10, hm⟩ := ck_s hm
      refine nv_sub (lv' := [(0, .ref (ad w0)), (1, .ref (ad w1)), (2, .int (iI (x2 + 1)))]) [1, 2, 0] rfl ?_
      exact ih (x2 + 1) N8 q No hm hr10 kx
set_option maxRecDepth 100000 in
set_option maxHeartbeats 4000000 in
theorem c_Water_copyFrom (l : Launch) {D : va_G} {ct : Nat → ClassId} {A : Nat → Prop} {ad : Nat → Nat} {S : nH} (hD : nD ad A S.length) (w0 nn0 : Nat) (hp0 : isW S w0 nn0) (w1 nn1 : Nat) (hp1 : isW S w1 nn1) (N : nS) (r : Int) (No : nS) (hm : m_Water_copyFrom w0 nn0 w1 nn1 N = some (r, No)) : nM l y_Water_copyFrom (Cond.code y_Water_copyFrom b_Water_copyFrom 3 none :: TT) rm_Water_copyFrom D vwCl ct A ad S N [.ref (ad w0), .ref (ad w1)] (nQv D vwCl ct A ad S No) := by
  refine nM_of (cc := b_Water_copyFrom) (maxL := 3) (ret := none) (by decide) rfl (Nat.le_of_ble_eq_true rfl) hD ?_
  intro p e s m below meth c hC hr hlk
  refine nv_lv (lv' := [(0, .ref (ad w0)), (1, .ref (ad w1))]) rfl ?_
  rw [m_Water_copyFrom] at hm
  refine nv_iconst hC d_Water_copyFrom_0 ?_
  refine nv_istore_n (lv' := [(2, .int (iI 0)), (0, .ref (ad w0)), (1, .ref (ad w1))]) hC d_Water_copyFrom_1 rfl (by decide) rfl ?_
  obtain ⟨q11, N12, hq13, hm⟩ := nbd_s hm
  refine nv_sub (lv' := [(0, .ref (ad w0)), (1, .ref (ad w1)), (2, .int (iI 0))]) [1, 2, 0] rfl ?_
  refine w_Water_copyFrom_2 hC w0 nn0 hp0 w1 nn1 hp1 FU 0 N q11 N12 hq13 ⟨by decide, by decide⟩ ?_
  refine nv_aload_n hC d_Water_copyFrom_43 rfl 0 rfl ?_
  refine nv_aload_n hC d_Water_copyFrom_44 rfl 1 rfl ?_
  refine nv_getI hC (j := 10) hp1.1 rfl in_Water (by decide) k_62 rfl d_Water_copyFrom_45 ?_
  obtain ⟨N14, e15, hm⟩ := nlt_s hm
  refine nv_putI hC (j := 10) hp0.1 rfl in_Water (by decide) ty_Water tyok_Water nm_Water k_62 rfl rfl (by decide +kernel) e15 d_Water_copyFrom_48 ?_
  obtain ⟨rfl, rfl⟩ := ret_s hm
  exact nv_vret hC hr hlk d_Water_copyFrom_51
def m_Water_changeHeat (w0 nn0 : Nat) (x1 : Int) (N : nS) : Option (Int × nS) :=
  nlt (up2 N w0 9 x1) (fun N1 =>
  some ((N w0 9), N1))
set_option maxRecDepth 20000 in
theorem k_63 : Cond.fieldLink R_Water 40 (T_Water 9).1 (T_Water 9).2.1 (T_Water 9).2.2.1 ∈ TT := tt_i 123 (by decide +kernel) (by decide +kernel)
abbrev rm_Water_changeHeat : Room := { frames := 0, cells := 0, slots := 0, locals := 0 }
set_option maxRecDepth 100000 in
set_option maxHeartbeats 4000000 in
theorem c_Water_changeHeat (l : Launch) {D : va_G} {ct : Nat → ClassId} {A : Nat → Prop} {ad : Nat → Nat} {S : nH} (hD : nD ad A S.length) (w0 nn0 : Nat) (hp0 : isW S w0 nn0) (x1 : Int) (hx1 : rg x1) (N : nS) (r : Int) (No : nS) (hm : m_Water_changeHeat w0 nn0 x1 N = some (r, No)) : nM l y_Water_changeHeat (Cond.code y_Water_changeHeat b_Water_changeHeat 3 (some .int) :: TT) rm_Water_changeHeat D vwCl ct A ad S N [.ref (ad w0), .int (iI x1)] (nQi D vwCl ct A ad S r No) := by
  refine nM_of (cc := b_Water_changeHeat) (maxL := 3) (ret := (some .int)) (by decide) rfl (Nat.le_of_ble_eq_true rfl) hD ?_
  intro p e s m below meth c hC hr hlk
  refine nv_lv (lv' := [(0, .ref (ad w0)), (1, .int (iI x1))]) rfl ?_
  rw [m_Water_changeHeat] at hm
  refine nv_aload_n hC d_Water_changeHeat_0 rfl 0 rfl ?_
  refine nv_getI hC (j := 9) hp0.1 rfl in_Water (by decide) k_63 rfl d_Water_changeHeat_1 ?_
  refine nv_istore_n (lv' := [(2, .int (iI (N w0 9))), (0, .ref (ad w0)), (1, .int (iI x1))]) hC d_Water_changeHeat_4 rfl (by decide) rfl ?_
  refine nv_aload_n hC d_Water_changeHeat_5 rfl 1 rfl ?_
  refine nv_iload_n hC d_Water_changeHeat_6 rfl 2 rfl ?_
  obtain ⟨N1, e2, hm⟩ := nlt_s hm
  refine nv_putI hC (j := 9) hp0.1 rfl in_Water (by decide) ty_Water tyok_Water nm_Water k_63 rfl rfl (by decide +kernel) e2 d_Water_changeHeat_7 ?_
  refine nv_iload_n hC d_Water_changeHeat_10 rfl 0 rfl ?_
  obtain ⟨rfl, rfl⟩ := ret_s hm
  exact nv_iret hC hr hlk d_Water_changeHeat_11
def m_Water_fillWithAir (w0 nn0 : Nat) (x1 : Int) (N : nS) : Option (Int × nS) :=
  if x1 < 0 then
  some (0, N)
  else
  if rg (N nn0 5) then
  if (N nn0 5) ≤ x1 then
  some (0, N)
  else
  if 0 ≤ x1 ∧ x1 < ((10 : Nat) : Int) then
  nbd (m_Plugs_clear (w0 + 1 + 13 + 3 * (Int.toNat x1)) 12 N) (fun r5 N6 =>
  if rg (N6 (nn0 + 2) (Int.toNat x1)) then
  if rg (N6 w0 10) then
  nbd (m_Plugs_add (w0 + 1 + 13 + 3 * (Int.toNat x1)) 12 (N6 (nn0 + 2) (Int.toNat x1)) (N6 w0 10) N6) (fun r10 N11 =>
  some (0, N11))
  else none
  else none)
  else none
  else none
set_option maxRecDepth 20000 in
theorem k_64 : Cond.fieldLink R_Water 69 (T_Net 1).1 (T_Net 1).2.1 (T_Net 1).2.2.1 ∈ TT := tt_i 52 (by decide +kernel) (by decide +kernel)
set_option maxRecDepth 20000 in
theorem k_65 : Cond.methodLink R_Water 72 y_Plugs_add ∈ TT := tt_i 324 (by decide +kernel) (by decide +kernel)
abbrev rm_Water_fillWithAir : Room := { frames := 1, cells := 0, slots := 0, locals := 22 }
set_option maxRecDepth 100000 in
set_option maxHeartbeats 4000000 in
theorem c_Water_fillWithAir (l : Launch) {D : va_G} {ct : Nat → ClassId} {A : Nat → Prop} {ad : Nat → Nat} {S : nH} (hD : nD ad A S.length) (w0 nn0 : Nat) (hp0 : isW S w0 nn0) (x1 : Int) (hx1 : rg x1) (N : nS) (r : Int) (No : nS) (hm : m_Water_fillWithAir w0 nn0 x1 N = some (r, No)) : nM l y_Water_fillWithAir (Cond.code y_Water_fillWithAir b_Water_fillWithAir 2 none :: TT) rm_Water_fillWithAir D vwCl ct A ad S N [.ref (ad w0), .int (iI x1)] (nQv D vwCl ct A ad S No) := by
  refine nM_of (cc := b_Water_fillWithAir) (maxL := 2) (ret := none) (by decide) rfl (Nat.le_of_ble_eq_true rfl) hD ?_
  intro p e s m below meth c hC hr hlk
  refine nv_lv (lv' := [(0, .ref (ad w0)), (1, .int (iI x1))]) rfl ?_
  rw [m_Water_fillWithAir] at hm
  refine nv_iload_n hC d_Water_fillWithAir_0 rfl 1 rfl ?_
  refine nv_if_lt hC hx1 d_Water_fillWithAir_1 (tgt := 46) (by decide) (fun c1 => ?_) (fun c1 => ?_)
  · have hm := if_t c1 hm
    obtain ⟨rfl, rfl⟩ := ret_s hm
    exact nv_vret hC hr hlk d_Water_fillWithAir_46
  · have hm := if_f c1 hm
    refine nv_iload_n hC d_Water_fillWithAir_4 rfl 1 rfl ?_
    refine nv_aload_n hC d_Water_fillWithAir_5 rfl 0 rfl ?_
    refine nv_getA hC (j := 0) hp0.1 rfl in_Water (by decide) k_54 rfl d_Water_fillWithAir_6 ?_
    refine nv_getI hC (j := 5) (isW_net hp0).1 rfl in_Net (by decide) k_55 rfl d_Water_fillWithAir_9 ?_
    obtain ⟨hr2, hm⟩ := ck_s hm
    refine nv_icmp_ge hC hx1 hr2 d_Water_fillWithAir_12 (tgt := 46) (by decide) (fun c3 => ?_) (fun c3 => ?_)
    · have hm := if_t c3 hm
      obtain ⟨rfl, rfl⟩ := ret_s hm
      exact nv_vret hC hr hlk d_Water_fillWithAir_46
    · have hm := if_f c3 hm
      refine nv_aload_n hC d_Water_fillWithAir_15 rfl 0 rfl ?_
      refine nv_getR hC (j := 1) hp0.1 rfl in_Water (by decide) k_56 rfl d_Water_fillWithAir_16 ?_
      refine nv_iload_n hC d_Water_fillWithAir_19 rfl 1 rfl ?_
      obtain ⟨hc4, hm⟩ := ck_s hm
      refine nv_aald hC (isW_rows hp0) (by decide) hc4 rfl d_Water_fillWithAir_20 ?_
      obtain ⟨r5, N6, hq7, hm⟩ := nbd_s hm
      refine nv_callv (N' := N6) (nr_V hC (As := []) (st := []) (isW_row hp0 (tn_lt hc4)).1 rfl (c_Plugs_clear l hC.2.2.1 (w0 + 1 + 13 + 3 * (Int.toNat x1)) 12 (isW_row hp0 (tn_lt hc4)) N r5 N6 hq7) (cwV 0 hC.1.2.2.2.2 (tt_V k_57 k_10 k_11 k_7 k_9) rfl rfl rfl (by decide +kernel) ⟨Nat.le_of_ble_eq_true rfl, Nat.le_of_ble_eq_true rfl⟩) rfl rfl (Nat.le_of_ble_eq_true rfl) ⟨(Nat.le_of_ble_eq_true rfl), (Nat.le_of_ble_eq_true rfl)⟩ d_Water_fillWithAir_21) ?_
      refine nv_aload_n hC d_Water_fillWithAir_24 rfl 0 rfl ?_
      refine nv_getR hC (j := 1) hp0.1 rfl in_Water (by decide) k_56 rfl d_Water_fillWithAir_25 ?_
      refine nv_iload_n hC d_Water_fillWithAir_28 rfl 1 rfl ?_
      refine nv_aald hC (isW_rows hp0) (by decide) hc4 rfl d_Water_fillWithAir_29 ?_
      refine nv_aload_n hC d_Water_fillWithAir_30 rfl 0 rfl ?_
      refine nv_getA hC (j := 0) hp0.1 rfl in_Water (by decide) k_54 rfl d_Water_fillWithAir_31 ?_
      refine nv_getR hC (j := 1) (isW_net hp0).1 rfl in_Net (by decide) k_64 rfl d_Water_fillWithAir_34 ?_
      refine nv_iload_n hC d_Water_fillWithAir_37 rfl 1 rfl ?_
      refine nv_iald hC (isW_net hp0).2.2.1 (by decide) hc4 d_Water_fillWithAir_38 ?_
      refine nv_aload_n hC d_Water_fillWithAir_39 rfl 0 rfl ?_
      refine nv_getI hC (j := 10) hp0.1 rfl in_Water (by decide) k_62 rfl d_Water_fillWithAir_40 ?_
      obtain ⟨hr8, hm⟩ := ck_s hm
      obtain ⟨hr9, hm⟩ := ck_s hm
      obtain ⟨r10, N11, hq12, hm⟩ := nbd_s hm
      refine nv_callv (N' := N11) (nr_V hC (As := [.int (iI (N6 (nn0 + 2) (Int.toNat x1))), .int (iI (N6 w0 10))]) (st := []) (isW_row hp0 (tn_lt hc4)).1 rfl (c_Plugs_add l hC.2.2.1 (w0 + 1 + 13 + 3 * (Int.toNat x1)) 12 (isW_row hp0 (tn_lt hc4)) (N6 (nn0 + 2) (Int.toNat x1)) hr8 (N6 w0 10) hr9 N6 r10 N11 hq12) (cwV 2 hC.1.2.2.2.2 (tt_V k_65 k_5 k_6 k_7 k_4) rfl rfl rfl (by decide +kernel) ⟨Nat.le_of_ble_eq_true rfl, Nat.le_of_ble_eq_true rfl⟩) rfl rfl (Nat.le_of_ble_eq_true rfl) ⟨(Nat.le_of_ble_eq_true rfl), (Nat.le_of_ble_eq_true rfl)⟩ d_Water_fillWithAir_43) ?_
      obtain ⟨rfl, rfl⟩ := ret_s hm
      exact nv_vret hC hr hlk d_Water_fillWithAir_46
def m_Water_changeAir_19 (w0 nn0 : Nat) (x1 : Int) (x2 : Int) : Nat → Int → nS → Option ((Int) × nS)
  | 0, _, _ => none
  | f + 1, x3, N =>
    if rg (N nn0 5) then
    if (N nn0 5) ≤ x3 then
    some (x3, N)
    else
    nbd (m_Water_fillWithAir w0 nn0 x3 N) (fun r7 N8 =>
    if rg (x3 + 1) then
    m_Water_changeAir_19 w0 nn0 x1 x2 f (x3 + 1) N8
    else none)
    else none
def m_Water_changeAir (w0 nn0 : Nat) (x1 : Int) (N : nS) : Option (Int × nS) :=
  nlt (up2 N w0 10 x1) (fun N1 =>
  if rg (N1 w0 8) then
  if (N1 w0 8) = 0 then
  if rg (N w0 10) then
  nbd (m_Water_changeAir_19 w0 nn0 x1 (N w0 10) FU 0 N1) (fun q12 N13 =>
  some ((N w0 10), N13))
  else none
  else
  some ((N w0 10), N1)
  else none)
set_option maxRecDepth 20000 in
theorem k_66 : Cond.fieldLink R_Water 63 (T_Water 8).1 (T_Water 8).2.1 (T_Water 8).2.2.1 ∈ TT := tt_i 122 (by decide +kernel) (by decide +kernel)
set_option maxRecDepth 20000 in
theorem k_67 : Cond.methodLink R_Water 66 y_Water_fillWithAir ∈ TT := tt_i 350 (by decide +kernel) (by decide +kernel)
set_option maxRecDepth 20000 in
theorem k_68 : Cond.code y_Water_fillWithAir b_Water_fillWithAir 2 none ∈ TT := tt_i 319 (by decide +kernel) (by decide +kernel)
set_option maxRecDepth 20000 in
theorem k_69 : Cond.instanceMethod y_Water_fillWithAir ∈ TT := tt_i 317 (by decide +kernel) (by decide +kernel)
set_option maxRecDepth 20000 in
theorem k_70 : Cond.selects R_Water y_Water_fillWithAir y_Water_fillWithAir ∈ TT := tt_i 318 (by decide +kernel) (by decide +kernel)
set_option maxRecDepth 20000 in
theorem k_71 : Cond.initialized R_Water ∈ TT := tt_i 25 (by decide +kernel) (by decide +kernel)
abbrev rm_Water_changeAir : Room := { frames := 2, cells := 0, slots := 0, locals := 43 }
set_option maxRecDepth 100000 in
set_option maxHeartbeats 4000000 in
theorem w_Water_changeAir_19 {p : Program} {l : Launch} {e : Env} {s : State} {m : MethodId} {args : Array Value} {below : List Frame} {meth : Method} {c : Code} {Q : State → Prop} {D : va_G} {ct : Nat → ClassId} {A : Nat → Prop} {ad : Nat → Nat} {S : nH} (hC : nC p s m args c D vwCl ct A ad S 4 b_Water_changeAir R_Water TT) (w0 nn0 : Nat) (hp0 : isW S w0 nn0) (x1 : Int) (hx1 : rg x1) (x2 : Int) (hx2 : rg x2) : ∀ (f : Nat) (x3 : Int) (N : nS) (q : Int) (No : nS), m_Water_changeAir_19 w0 nn0 x1 x2 f x3 N = some (q, No) → rg x3 → nV p l e rm_Water_changeAir s m args below meth c 0 0 Q D vwCl ct A ad S 4 No 41 [(0, .ref (ad w0)), (1, .int (iI x1)), (2, .int (iI x2)), (3, .int (iI q))] [] → nV p l e rm_Water_changeAir s m args below meth c 0 0 Q D vwCl ct A ad S 4 N 19 [(0, .ref (ad w0)), (1, .int (iI x1)), (2, .int (iI x2)), (3, .int (iI x3))] [] := by
  intro f
  induction f with
  | zero =>
    intro x3 N q No hm
    rw [m_Water_changeAir_19] at hm
    cases hm
  | succ f ih =>
    intro x3 N q No hm hx3 kx
    rw [m_Water_changeAir_19] at hm
    refine nv_iload_n hC d_Water_changeAir_19 rfl 3 rfl ?_
    refine nv_aload_n hC d_Water_changeAir_20 rfl 0 rfl ?_
    refine nv_getA hC (j := 0) hp0.1 rfl in_Water (by decide) k_54 rfl d_Water_changeAir_21 ?_
    refine nv_getI hC (j := 5) (isW_net hp0).1 rfl in_Net (by decide) k_55 rfl d_Water_changeAir_24 ?_
    obtain ⟨hr5, hm⟩ := ck_s hm
    refine nv_icmp_ge hC hx3 hr5 d_Water_changeAir_27 (tgt := 41) (by decide) (fun c6 => ?_) (fun c6 => ?_)
    · have hm := if_t c6 hm
      obtain ⟨rfl, rfl⟩ := ret_s hm
      refine nv_sub (lv' := [(0, .ref (ad w0)), (1, .int (iI x1)), (2, .int (iI x2)), (3, .int (iI x3))]) [0, 1, 2, 3] rfl ?_
      exact kx
    · have hm := if_f c6 hm
      refine nv_aload_n hC d_Water_changeAir_30 rfl 0 rfl ?_
      refine nv_iload_n hC d_Water_changeAir_31 rfl 3 rfl ?_
      obtain ⟨r7, N8, hq9, hm⟩ := nbd_s hm
      refine nv_callv (N' := N8) (nr_V hC (As := [.int (iI x3)]) (st := []) hp0.1 rfl (c_Water_fillWithAir l hC.2.2.1 w0 nn0 hp0 x3 hx3 N r7 N8 hq9) (cwV 1 hC.1.2.2.2.2 (tt_V k_67 k_69 k_70 k_71 k_68) rfl rfl rfl (by decide +kernel) ⟨Nat.le_of_ble_eq_true rfl, Nat.le_of_ble_eq_true rfl⟩) rfl rfl (Nat.le_of_ble_eq_true rfl) ⟨(Nat.le_of_ble_eq_true rfl), (Nat.le_of_ble_eq_true rfl)⟩ d_Water_changeAir_32) ?_
      refine nv_iinc (lv' := [(3, .int (iI (x3 + 1))), (0, .ref (ad w0)), (1, .int (iI x1)), (2, .int (iI x2))]) hC d_Water_changeAir_35 3 rfl (by decide) rfl ?_
      refine nv_goto hC d_Water_changeAir_38 (tgt := 19) (by decide) ?_
      obtain ⟨hr10, hm⟩ := ck_s hm
      refine nv_sub (lv' := [(0, .ref (ad w0)), (1, .int (iI x1)), (2, .int (iI x2)), (3, .int (iI (x3 + 1)))]) [1, 2, 3, 0] rfl ?_
      exact ih (x3 + 1) N8 q No hm hr10 kx
set_option maxRecDepth 100000 in
set_option maxHeartbeats 4000000 in
theorem c_Water_changeAir (l : Launch) {D : va_G} {ct : Nat → ClassId} {A : Nat → Prop} {ad : Nat → Nat} {S : nH} (hD : nD ad A S.length) (w0 nn0 : Nat) (hp0 : isW S w0 nn0) (x1 : Int) (hx1 : rg x1) (N : nS) (r : Int) (No : nS) (hm : m_Water_changeAir w0 nn0 x1 N = some (r, No)) : nM l y_Water_changeAir (Cond.code y_Water_changeAir b_Water_changeAir 4 (some .int) :: TT) rm_Water_changeAir D vwCl ct A ad S N [.ref (ad w0), .int (iI x1)] (nQi D vwCl ct A ad S r No) := by
  refine nM_of (cc := b_Water_changeAir) (maxL := 4) (ret := (some .int)) (by decide) rfl (Nat.le_of_ble_eq_true rfl) hD ?_
  intro p e s m below meth c hC hr hlk
  refine nv_lv (lv' := [(0, .ref (ad w0)), (1, .int (iI x1))]) rfl ?_
  rw [m_Water_changeAir] at hm
  refine nv_aload_n hC d_Water_changeAir_0 rfl 0 rfl ?_
  refine nv_getI hC (j := 10) hp0.1 rfl in_Water (by decide) k_62 rfl d_Water_changeAir_1 ?_
  refine nv_istore_n (lv' := [(2, .int (iI (N w0 10))), (0, .ref (ad w0)), (1, .int (iI x1))]) hC d_Water_changeAir_4 rfl (by decide) rfl ?_
  refine nv_aload_n hC d_Water_changeAir_5 rfl 1 rfl ?_
  refine nv_iload_n hC d_Water_changeAir_6 rfl 2 rfl ?_
  obtain ⟨N1, e2, hm⟩ := nlt_s hm
  refine nv_putI hC (j := 10) hp0.1 rfl in_Water (by decide) ty_Water tyok_Water nm_Water k_62 rfl rfl (by decide +kernel) e2 d_Water_changeAir_7 ?_
  refine nv_aload_n hC d_Water_changeAir_10 rfl 1 rfl ?_
  refine nv_getI hC (j := 8) hp0.1 rfl in_Water (by decide) k_66 rfl d_Water_changeAir_11 ?_
  obtain ⟨hr3, hm⟩ := ck_s hm
  refine nv_if_ne hC hr3 d_Water_changeAir_14 (tgt := 41) (by decide) (fun c4 => ?_) (fun c4 => ?_)
  · have hm := if_f c4 hm
    refine nv_iload_n hC d_Water_changeAir_41 rfl 0 rfl ?_
    obtain ⟨rfl, rfl⟩ := ret_s hm
    exact nv_iret hC hr hlk d_Water_changeAir_42
  · have hm := if_t c4 hm
    refine nv_iconst hC d_Water_changeAir_17 ?_
    refine nv_istore_n (lv' := [(3, .int (iI 0)), (2, .int (iI (N w0 10))), (0, .ref (ad w0)), (1, .int (iI x1))]) hC d_Water_changeAir_18 rfl (by decide) rfl ?_
    obtain ⟨hr11, hm⟩ := ck_s hm
    obtain ⟨q12, N13, hq14, hm⟩ := nbd_s hm
    refine nv_sub (lv' := [(0, .ref (ad w0)), (1, .int (iI x1)), (2, .int (iI (N w0 10))), (3, .int (iI 0))]) [2, 3, 1, 0] rfl ?_
    refine w_Water_changeAir_19 hC w0 nn0 hp0 x1 hx1 (N w0 10) hr11 FU 0 N1 q12 N13 hq14 ⟨by decide, by decide⟩ ?_
    refine nv_iload_n hC d_Water_changeAir_41 rfl 2 rfl ?_
    obtain ⟨rfl, rfl⟩ := ret_s hm
    exact nv_iret hC hr hlk d_Water_changeAir_42
def m_Water_findWay_4 (w0 nn0 : Nat) (x1 : Int) : Nat → Int → Int → nS → Option ((Int × Int) × nS)
  | 0, _, _, _ => none
  | f + 1, x2, x3, N =>
    if 10 ≤ x2 then
    some ((x2, x3), N)
    else
    if x3 < 0 then
    some ((x2, x3), N)
    else
    if rg (N nn0 5) then
    if (N nn0 5) ≤ x3 then
    some ((x2, x3), N)
    else
    if 0 ≤ x2 ∧ x2 < ((10 : Nat) : Int) then
    nlt (up2 N (w0 + 11) (Int.toNat x2) x3) (fun N6 =>
    if 0 ≤ x3 ∧ x3 < ((10 : Nat) : Int) then
    if rg (x2 + 1) then
    if rg (N6 (nn0 + 1) (Int.toNat x3)) then
    m_Water_findWay_4 w0 nn0 x1 f (x2 + 1) (N6 (nn0 + 1) (Int.toNat x3)) N6
    else none
    else none
    else none)
    else none
    else none
def m_Water_findWay (w0 nn0 : Nat) (x1 : Int) (N : nS) : Option (Int × nS) :=
  nbd (m_Water_findWay_4 w0 nn0 x1 FU 0 x1 N) (fun q11 N12 =>
  some (q11.1, N12))
set_option maxRecDepth 20000 in
theorem k_72 : Cond.fieldLink R_Water 30 (T_Water 5).1 (T_Water 5).2.1 (T_Water 5).2.2.1 ∈ TT := tt_i 117 (by decide +kernel) (by decide +kernel)
set_option maxRecDepth 20000 in
theorem k_73 : Cond.fieldLink R_Water 94 (T_Net 0).1 (T_Net 0).2.1 (T_Net 0).2.2.1 ∈ TT := tt_i 50 (by decide +kernel) (by decide +kernel)
abbrev rm_Water_findWay : Room := { frames := 0, cells := 0, slots := 0, locals := 0 }
set_option maxRecDepth 100000 in
set_option maxHeartbeats 4000000 in
theorem w_Water_findWay_4 {p : Program} {l : Launch} {e : Env} {s : State} {m : MethodId} {args : Array Value} {below : List Frame} {meth : Method} {c : Code} {Q : State → Prop} {D : va_G} {ct : Nat → ClassId} {A : Nat → Prop} {ad : Nat → Nat} {S : nH} (hC : nC p s m args c D vwCl ct A ad S 4 b_Water_findWay R_Water TT) (w0 nn0 : Nat) (hp0 : isW S w0 nn0) (x1 : Int) (hx1 : rg x1) : ∀ (f : Nat) (x2 x3 : Int) (N : nS) (q : Int × Int) (No : nS), m_Water_findWay_4 w0 nn0 x1 f x2 x3 N = some (q, No) → rg x2 → rg x3 → nV p l e rm_Water_findWay s m args below meth c 0 0 Q D vwCl ct A ad S 4 No 48 [(0, .ref (ad w0)), (1, .int (iI x1)), (2, .int (iI q.1)), (3, .int (iI q.2))] [] → nV p l e rm_Water_findWay s m args below meth c 0 0 Q D vwCl ct A ad S 4 N 4 [(0, .ref (ad w0)), (1, .int (iI x1)), (2, .int (iI x2)), (3, .int (iI x3))] [] := by
  intro f
  induction f with
  | zero =>
    intro x2 x3 N q No hm
    rw [m_Water_findWay_4] at hm
    cases hm
  | succ f ih =>
    intro x2 x3 N q No hm hx2 hx3 kx
    rw [m_Water_findWay_4] at hm
    refine nv_iload_n hC d_Water_findWay_4 rfl 2 rfl ?_
    refine nv_bipush hC (z := 10) d_Water_findWay_5 rfl ?_
    refine nv_icmp_ge hC hx2 ⟨by decide, by decide⟩ d_Water_findWay_7 (tgt := 48) (by decide) (fun c1 => ?_) (fun c1 => ?_)
    · have hm := if_t c1 hm
      obtain ⟨rfl, rfl⟩ := ret_s hm
      refine nv_sub (lv' := [(0, .ref (ad w0)), (1, .int (iI x1)), (2, .int (iI x2)), (3, .int (iI x3))]) [0, 1, 2, 3] rfl ?_
      exact kx
    · have hm := if_f c1 hm
      refine nv_iload_n hC d_Water_findWay_10 rfl 3 rfl ?_
      refine nv_if_lt hC hx3 d_Water_findWay_11 (tgt := 48) (by decide) (fun c2 => ?_) (fun c2 => ?_)
      · have hm := if_t c2 hm
        obtain ⟨rfl, rfl⟩ := ret_s hm
        refine nv_sub (lv' := [(0, .ref (ad w0)), (1, .int (iI x1)), (2, .int (iI x2)), (3, .int (iI x3))]) [0, 1, 2, 3] rfl ?_
        exact kx
      · have hm := if_f c2 hm
        refine nv_iload_n hC d_Water_findWay_14 rfl 3 rfl ?_
        refine nv_aload_n hC d_Water_findWay_15 rfl 0 rfl ?_
        refine nv_getA hC (j := 0) hp0.1 rfl in_Water (by decide) k_54 rfl d_Water_findWay_16 ?_
        refine nv_getI hC (j := 5) (isW_net hp0).1 rfl in_Net (by decide) k_55 rfl d_Water_findWay_19 ?_
        obtain ⟨hr3, hm⟩ := ck_s hm
        refine nv_icmp_ge hC hx3 hr3 d_Water_findWay_22 (tgt := 48) (by decide) (fun c4 => ?_) (fun c4 => ?_)
        · have hm := if_t c4 hm
          obtain ⟨rfl, rfl⟩ := ret_s hm
          refine nv_sub (lv' := [(0, .ref (ad w0)), (1, .int (iI x1)), (2, .int (iI x2)), (3, .int (iI x3))]) [0, 1, 2, 3] rfl ?_
          exact kx
        · have hm := if_f c4 hm
          refine nv_aload_n hC d_Water_findWay_25 rfl 0 rfl ?_
          refine nv_getR hC (j := 5) hp0.1 rfl in_Water (by decide) k_72 rfl d_Water_findWay_26 ?_
          refine nv_iload_n hC d_Water_findWay_29 rfl 2 rfl ?_
          refine nv_iload_n hC d_Water_findWay_30 rfl 3 rfl ?_
          obtain ⟨hc5, hm⟩ := ck_s hm
          obtain ⟨N6, e7, hm⟩ := nlt_s hm
          refine nv_iast hC (isW_way hp0) (by decide) hc5 e7 d_Water_findWay_31 ?_
          refine nv_iinc (lv' := [(2, .int (iI (x2 + 1))), (0, .ref (ad w0)), (1, .int (iI x1)), (3, .int (iI x3))]) hC d_Water_findWay_32 2 rfl (by decide) rfl ?_
          refine nv_aload_n hC d_Water_findWay_35 rfl 1 rfl ?_
          refine nv_getA hC (j := 0) hp0.1 rfl in_Water (by decide) k_54 rfl d_Water_findWay_36 ?_
          refine nv_getR hC (j := 0) (isW_net hp0).1 rfl in_Net (by decide) k_73 rfl d_Water_findWay_39 ?_
          refine nv_iload_n hC d_Water_findWay_42 rfl 3 rfl ?_
          obtain ⟨hc8, hm⟩ := ck_s hm
          refine nv_iald hC (isW_net hp0).2.1 (by decide) hc8 d_Water_findWay_43 ?_
          refine nv_istore_n (lv' := [(3, .int (iI (N6 (nn0 + 1) (Int.toNat x3)))), (2, .int (iI (x2 + 1))), (0, .ref (ad w0)), (1, .int (iI x1))]) hC d_Water_findWay_44 rfl (by decide) rfl ?_
          refine nv_goto hC d_Water_findWay_45 (tgt := 4) (by decide) ?_
          obtain ⟨hr9, hm⟩ := ck_s hm
          obtain ⟨hr10, hm⟩ := ck_s hm
          refine nv_sub (lv' := [(0, .ref (ad w0)), (1, .int (iI x1)), (2, .int (iI (x2 + 1))), (3, .int (iI (N6 (nn0 + 1) (Int.toNat x3))))]) [2, 3, 1, 0] rfl ?_
          exact ih (x2 + 1) (N6 (nn0 + 1) (Int.toNat x3)) N6 q No hm hr9 hr10 kx
set_option maxRecDepth 100000 in
set_option maxHeartbeats 4000000 in
theorem c_Water_findWay (l : Launch) {D : va_G} {ct : Nat → ClassId} {A : Nat → Prop} {ad : Nat → Nat} {S : nH} (hD : nD ad A S.length) (w0 nn0 : Nat) (hp0 : isW S w0 nn0) (x1 : Int) (hx1 : rg x1) (N : nS) (r : Int) (No : nS) (hm : m_Water_findWay w0 nn0 x1 N = some (r, No)) : nM l y_Water_findWay (Cond.code y_Water_findWay b_Water_findWay 4 (some .int) :: TT) rm_Water_findWay D vwCl ct A ad S N [.ref (ad w0), .int (iI x1)] (nQi D vwCl ct A ad S r No) := by
  refine nM_of (cc := b_Water_findWay) (maxL := 4) (ret := (some .int)) (by decide) rfl (Nat.le_of_ble_eq_true rfl) hD ?_
  intro p e s m below meth c hC hr hlk
  refine nv_lv (lv' := [(0, .ref (ad w0)), (1, .int (iI x1))]) rfl ?_
  rw [m_Water_findWay] at hm
  refine nv_iconst hC d_Water_findWay_0 ?_
  refine nv_istore_n (lv' := [(2, .int (iI 0)), (0, .ref (ad w0)), (1, .int (iI x1))]) hC d_Water_findWay_1 rfl (by decide) rfl ?_
  refine nv_iload_n hC d_Water_findWay_2 rfl 2 rfl ?_
  refine nv_istore_n (lv' := [(3, .int (iI x1)), (2, .int (iI 0)), (0, .ref (ad w0)), (1, .int (iI x1))]) hC d_Water_findWay_3 rfl (by decide) rfl ?_
  obtain ⟨q11, N12, hq13, hm⟩ := nbd_s hm
  refine nv_sub (lv' := [(0, .ref (ad w0)), (1, .int (iI x1)), (2, .int (iI 0)), (3, .int (iI x1))]) [2, 3, 1, 0] rfl ?_
  refine w_Water_findWay_4 hC w0 nn0 hp0 x1 hx1 FU 0 x1 N q11 N12 hq13 ⟨by decide, by decide⟩ hx1 ?_
  refine nv_iload_n hC d_Water_findWay_48 rfl 2 rfl ?_
  obtain ⟨rfl, rfl⟩ := ret_s hm
  exact nv_iret hC hr hlk d_Water_findWay_49
def m_Water_pushThrough (w0 nn0 : Nat) (x1 : Int) (N : nS) : Option (Int × nS) :=
  if 0 ≤ x1 ∧ x1 < ((10 : Nat) : Int) then
  nbd (m_Plugs_clear (w0 + 5) 121 N) (fun r2 N3 =>
  nbd (m_Plugs_addAll (w0 + 5) 121 (w0 + 2) 121 N3) (fun r5 N6 =>
  nbd (m_Plugs_addAll (w0 + 5) 121 (w0 + 1 + 13 + 3 * (Int.toNat x1)) 12 N6) (fun r8 N9 =>
  if rg (N9 (nn0 + 2) (Int.toNat x1)) then
  nbd (m_Plugs_split (w0 + 5) 121 (N9 (nn0 + 2) (Int.toNat x1)) (w0 + 8) 121 (w0 + 2) 121 N9) (fun r12 N13 =>
  nbd (m_Plugs_thin (w0 + 8) 121 N13) (fun r15 N16 =>
  if rg r15 then
  nlt (up2 N16 w0 13 ((N13 w0 13) + r15)) (fun N19 =>
  nbd (m_Plugs_clear (w0 + 1 + 13 + 3 * (Int.toNat x1)) 12 N19) (fun r21 N22 =>
  nbd (m_Plugs_addAll (w0 + 1 + 13 + 3 * (Int.toNat x1)) 12 (w0 + 8) 121 N22) (fun r24 N25 =>
  nlt (up2 N25 (w0 + 12) (Int.toNat x1) (N25 w0 8)) (fun N27 =>
  some (0, N27)))))
  else none))
  else none)))
  else none
set_option maxRecDepth 20000 in
theorem k_74 : Cond.fieldLink R_Water 24 (T_Water 3).1 (T_Water 3).2.1 (T_Water 3).2.2.1 ∈ TT := tt_i 115 (by decide +kernel) (by decide +kernel)
set_option maxRecDepth 20000 in
theorem k_75 : Cond.fieldLink R_Water 20 (T_Water 2).1 (T_Water 2).2.1 (T_Water 2).2.2.1 ∈ TT := tt_i 113 (by decide +kernel) (by decide +kernel)
set_option maxRecDepth 20000 in
theorem k_76 : Cond.fieldLink R_Water 27 (T_Water 4).1 (T_Water 4).2.1 (T_Water 4).2.2.1 ∈ TT := tt_i 116 (by decide +kernel) (by decide +kernel)
set_option maxRecDepth 20000 in
theorem k_77 : Cond.methodLink R_Water 97 y_Plugs_split ∈ TT := tt_i 405 (by decide +kernel) (by decide +kernel)
set_option maxRecDepth 20000 in
theorem k_78 : Cond.code y_Plugs_split b_Plugs_split 7 none ∈ TT := tt_i 408 (by decide +kernel) (by decide +kernel)
set_option maxRecDepth 20000 in
theorem k_79 : Cond.instanceMethod y_Plugs_split ∈ TT := tt_i 406 (by decide +kernel) (by decide +kernel)
set_option maxRecDepth 20000 in
theorem k_80 : Cond.selects R_Plugs y_Plugs_split y_Plugs_split ∈ TT := tt_i 407 (by decide +kernel) (by decide +kernel)
set_option maxRecDepth 20000 in
theorem k_81 : Cond.fieldLink R_Water 101 (T_Water 13).1 (T_Water 13).2.1 (T_Water 13).2.2.1 ∈ TT := tt_i 129 (by decide +kernel) (by decide +kernel)
set_option maxRecDepth 20000 in
theorem k_82 : Cond.methodLink R_Water 104 y_Plugs_thin ∈ TT := tt_i 413 (by decide +kernel) (by decide +kernel)
set_option maxRecDepth 20000 in
theorem k_83 : Cond.code y_Plugs_thin b_Plugs_thin 3 (some .int) ∈ TT := tt_i 416 (by decide +kernel) (by decide +kernel)
set_option maxRecDepth 20000 in
theorem k_84 : Cond.instanceMethod y_Plugs_thin ∈ TT := tt_i 414 (by decide +kernel) (by decide +kernel)
set_option maxRecDepth 20000 in
theorem k_85 : Cond.selects R_Plugs y_Plugs_thin y_Plugs_thin ∈ TT := tt_i 415 (by decide +kernel) (by decide +kernel)
set_option maxRecDepth 20000 in
theorem k_86 : Cond.fieldLink R_Water 34 (T_Water 6).1 (T_Water 6).2.1 (T_Water 6).2.2.1 ∈ TT := tt_i 118 (by decide +kernel) (by decide +kernel)
abbrev rm_Water_pushThrough : Room := { frames := 3, cells := 0, slots := 0, locals := 70 }
set_option maxRecDepth 100000 in
set_option maxHeartbeats 4000000 in
theorem c_Water_pushThrough (l : Launch) {D : va_G} {ct : Nat → ClassId} {A : Nat → Prop} {ad : Nat → Nat} {S : nH} (hD : nD ad A S.length) (w0 nn0 : Nat) (hp0 : isW S w0 nn0) (x1 : Int) (hx1 : rg x1) (N : nS) (r : Int) (No : nS) (hm : m_Water_pushThrough w0 nn0 x1 N = some (r, No)) : nM l y_Water_pushThrough (Cond.code y_Water_pushThrough b_Water_pushThrough 3 none :: TT) rm_Water_pushThrough D vwCl ct A ad S N [.ref (ad w0), .int (iI x1)] (nQv D vwCl ct A ad S No) := by
  refine nM_of (cc := b_Water_pushThrough) (maxL := 3) (ret := none) (by decide) rfl (Nat.le_of_ble_eq_true rfl) hD ?_
  intro p e s m below meth c hC hr hlk
  refine nv_lv (lv' := [(0, .ref (ad w0)), (1, .int (iI x1))]) rfl ?_
  rw [m_Water_pushThrough] at hm
  refine nv_aload_n hC d_Water_pushThrough_0 rfl 0 rfl ?_
  refine nv_getR hC (j := 1) hp0.1 rfl in_Water (by decide) k_56 rfl d_Water_pushThrough_1 ?_
  refine nv_iload_n hC d_Water_pushThrough_4 rfl 1 rfl ?_
  obtain ⟨hc1, hm⟩ := ck_s hm
  refine nv_aald hC (isW_rows hp0) (by decide) hc1 rfl d_Water_pushThrough_5 ?_
  refine nv_astore_n (lv' := [(2, .ref (ad (w0 + 1 + 13 + 3 * (Int.toNat x1)))), (0, .ref (ad w0)), (1, .int (iI x1))]) hC d_Water_pushThrough_6 rfl (by decide) rfl ?_
  refine nv_aload_n hC d_Water_pushThrough_7 rfl 1 rfl ?_
  refine nv_getR hC (j := 3) hp0.1 rfl in_Water (by decide) k_74 rfl d_Water_pushThrough_8 ?_
  obtain ⟨r2, N3, hq4, hm⟩ := nbd_s hm
  refine nv_callv (N' := N3) (nr_V hC (As := []) (st := []) (isW_pushed hp0).1 rfl (c_Plugs_clear l hC.2.2.1 (w0 + 5) 121 (isW_pushed hp0) N r2 N3 hq4) (cwV 0 hC.1.2.2.2.2 (tt_V k_57 k_10 k_11 k_7 k_9) rfl rfl rfl (by decide +kernel) ⟨Nat.le_of_ble_eq_true rfl, Nat.le_of_ble_eq_true rfl⟩) rfl rfl (Nat.le_of_ble_eq_true rfl) ⟨(Nat.le_of_ble_eq_true rfl), (Nat.le_of_ble_eq_true rfl)⟩ d_Water_pushThrough_11) ?_
  refine nv_aload_n hC d_Water_pushThrough_14 rfl 1 rfl ?_
  refine nv_getR hC (j := 3) hp0.1 rfl in_Water (by decide) k_74 rfl d_Water_pushThrough_15 ?_
  refine nv_aload_n hC d_Water_pushThrough_18 rfl 1 rfl ?_
  refine nv_getR hC (j := 2) hp0.1 rfl in_Water (by decide) k_75 rfl d_Water_pushThrough_19 ?_
  obtain ⟨r5, N6, hq7, hm⟩ := nbd_s hm
  refine nv_callv (N' := N6) (nr_V hC (As := [.ref (ad (w0 + 2))]) (st := []) (isW_pushed hp0).1 rfl (c_Plugs_addAll l hC.2.2.1 (w0 + 5) 121 (isW_pushed hp0) (w0 + 2) 121 (isW_taken hp0) N3 r5 N6 hq7) (cwV 1 hC.1.2.2.2.2 (tt_V k_58 k_60 k_61 k_7 k_59) rfl rfl rfl (by decide +kernel) ⟨Nat.le_of_ble_eq_true rfl, Nat.le_of_ble_eq_true rfl⟩) rfl rfl (Nat.le_of_ble_eq_true rfl) ⟨(Nat.le_of_ble_eq_true rfl), (Nat.le_of_ble_eq_true rfl)⟩ d_Water_pushThrough_22) ?_
  refine nv_aload_n hC d_Water_pushThrough_25 rfl 1 rfl ?_
  refine nv_getR hC (j := 3) hp0.1 rfl in_Water (by decide) k_74 rfl d_Water_pushThrough_26 ?_
  refine nv_aload_n hC d_Water_pushThrough_29 rfl 0 rfl ?_
  obtain ⟨r8, N9, hq10, hm⟩ := nbd_s hm
  refine nv_callv (N' := N9) (nr_V hC (As := [.ref (ad (w0 + 1 + 13 + 3 * (Int.toNat x1)))]) (st := []) (isW_pushed hp0).1 rfl (c_Plugs_addAll l hC.2.2.1 (w0 + 5) 121 (isW_pushed hp0) (w0 + 1 + 13 + 3 * (Int.toNat x1)) 12 (isW_row hp0 (tn_lt hc1)) N6 r8 N9 hq10) (cwV 1 hC.1.2.2.2.2 (tt_V k_58 k_60 k_61 k_7 k_59) rfl rfl rfl (by decide +kernel) ⟨Nat.le_of_ble_eq_true rfl, Nat.le_of_ble_eq_true rfl⟩) rfl rfl (Nat.le_of_ble_eq_true rfl) ⟨(Nat.le_of_ble_eq_true rfl), (Nat.le_of_ble_eq_true rfl)⟩ d_Water_pushThrough_30) ?_
  refine nv_aload_n hC d_Water_pushThrough_33 rfl 1 rfl ?_
  refine nv_getR hC (j := 3) hp0.1 rfl in_Water (by decide) k_74 rfl d_Water_pushThrough_34 ?_
  refine nv_aload_n hC d_Water_pushThrough_37 rfl 1 rfl ?_
  refine nv_getA hC (j := 0) hp0.1 rfl in_Water (by decide) k_54 rfl d_Water_pushThrough_38 ?_
  refine nv_getR hC (j := 1) (isW_net hp0).1 rfl in_Net (by decide) k_64 rfl d_Water_pushThrough_41 ?_
  refine nv_iload_n hC d_Water_pushThrough_44 rfl 2 rfl ?_
  refine nv_iald hC (isW_net hp0).2.2.1 (by decide) hc1 d_Water_pushThrough_45 ?_
  refine nv_aload_n hC d_Water_pushThrough_46 rfl 1 rfl ?_
  refine nv_getR hC (j := 4) hp0.1 rfl in_Water (by decide) k_76 rfl d_Water_pushThrough_47 ?_
  refine nv_aload_n hC d_Water_pushThrough_50 rfl 1 rfl ?_
  refine nv_getR hC (j := 2) hp0.1 rfl in_Water (by decide) k_75 rfl d_Water_pushThrough_51 ?_
  obtain ⟨hr11, hm⟩ := ck_s hm
  obtain ⟨r12, N13, hq14, hm⟩ := nbd_s hm
  refine nv_callv (N' := N13) (nr_V hC (As := [.int (iI (N9 (nn0 + 2) (Int.toNat x1))), .ref (ad (w0 + 8)), .ref (ad (w0 + 2))]) (st := []) (isW_pushed hp0).1 rfl (c_Plugs_split l hC.2.2.1 (w0 + 5) 121 (isW_pushed hp0) (N9 (nn0 + 2) (Int.toNat x1)) hr11 (w0 + 8) 121 (isW_rest hp0) (w0 + 2) 121 (isW_taken hp0) N9 r12 N13 hq14) (cwV 3 hC.1.2.2.2.2 (tt_V k_77 k_79 k_80 k_7 k_78) rfl rfl rfl (by decide +kernel) ⟨Nat.le_of_ble_eq_true rfl, Nat.le_of_ble_eq_true rfl⟩) rfl rfl (Nat.le_of_ble_eq_true rfl) ⟨(Nat.le_of_ble_eq_true rfl), (Nat.le_of_ble_eq_true rfl)⟩ d_Water_pushThrough_54) ?_
  refine nv_aload_n hC d_Water_pushThrough_57 rfl 1 rfl ?_
  refine nv_dup hC d_Water_pushThrough_58 rfl ?_
  refine nv_getJ hC (j := 13) hp0.1 rfl in_Water (by decide) k_81 rfl d_Water_pushThrough_59 ?_
  refine nv_aload_n hC d_Water_pushThrough_62 rfl 1 rfl ?_
  refine nv_getR hC (j := 4) hp0.1 rfl in_Water (by decide) k_76 rfl d_Water_pushThrough_63 ?_
  obtain ⟨r15, N16, hq17, hm⟩ := nbd_s hm
  refine nv_calli (x := r15) (N' := N16) (nr_V hC (As := []) (st := [.long (lI (N13 w0 13)), .ref (ad w0)]) (isW_rest hp0).1 rfl (c_Plugs_thin l hC.2.2.1 (w0 + 8) 121 (isW_rest hp0) N13 r15 N16 hq17) (cwV 0 hC.1.2.2.2.2 (tt_V k_82 k_84 k_85 k_7 k_83) rfl rfl rfl (by decide +kernel) ⟨Nat.le_of_ble_eq_true rfl, Nat.le_of_ble_eq_true rfl⟩) rfl rfl (Nat.le_of_ble_eq_true rfl) ⟨(Nat.le_of_ble_eq_true rfl), (Nat.le_of_ble_eq_true rfl)⟩ d_Water_pushThrough_66) ?_
  obtain ⟨hr18, hm⟩ := ck_s hm
  refine nv_i2l hC d_Water_pushThrough_69 hr18 ?_
  refine nv_ladd hC d_Water_pushThrough_70 ?_
  obtain ⟨N19, e20, hm⟩ := nlt_s hm
  refine nv_putJ hC (j := 13) hp0.1 rfl in_Water (by decide) ty_Water tyok_Water nm_Water k_81 rfl rfl (by decide +kernel) e20 d_Water_pushThrough_71 ?_
  refine nv_aload_n hC d_Water_pushThrough_74 rfl 0 rfl ?_
  obtain ⟨r21, N22, hq23, hm⟩ := nbd_s hm
  refine nv_callv (N' := N22) (nr_V hC (As := []) (st := []) (isW_row hp0 (tn_lt hc1)).1 rfl (c_Plugs_clear l hC.2.2.1 (w0 + 1 + 13 + 3 * (Int.toNat x1)) 12 (isW_row hp0 (tn_lt hc1)) N19 r21 N22 hq23) (cwV 0 hC.1.2.2.2.2 (tt_V k_57 k_10 k_11 k_7 k_9) rfl rfl rfl (by decide +kernel) ⟨Nat.le_of_ble_eq_true rfl, Nat.le_of_ble_eq_true rfl⟩) rfl rfl (Nat.le_of_ble_eq_true rfl) ⟨(Nat.le_of_ble_eq_true rfl), (Nat.le_of_ble_eq_true rfl)⟩ d_Water_pushThrough_75) ?_
  refine nv_aload_n hC d_Water_pushThrough_78 rfl 0 rfl ?_
  refine nv_aload_n hC d_Water_pushThrough_79 rfl 1 rfl ?_
  refine nv_getR hC (j := 4) hp0.1 rfl in_Water (by decide) k_76 rfl d_Water_pushThrough_80 ?_
  obtain ⟨r24, N25, hq26, hm⟩ := nbd_s hm
  refine nv_callv (N' := N25) (nr_V hC (As := [.ref (ad (w0 + 8))]) (st := []) (isW_row hp0 (tn_lt hc1)).1 rfl (c_Plugs_addAll l hC.2.2.1 (w0 + 1 + 13 + 3 * (Int.toNat x1)) 12 (isW_row hp0 (tn_lt hc1)) (w0 + 8) 121 (isW_rest hp0) N22 r24 N25 hq26) (cwV 1 hC.1.2.2.2.2 (tt_V k_58 k_60 k_61 k_7 k_59) rfl rfl rfl (by decide +kernel) ⟨Nat.le_of_ble_eq_true rfl, Nat.le_of_ble_eq_true rfl⟩) rfl rfl (Nat.le_of_ble_eq_true rfl) ⟨(Nat.le_of_ble_eq_true rfl), (Nat.le_of_ble_eq_true rfl)⟩ d_Water_pushThrough_83) ?_
  refine nv_aload_n hC d_Water_pushThrough_86 rfl 1 rfl ?_
  refine nv_getR hC (j := 6) hp0.1 rfl in_Water (by decide) k_86 rfl d_Water_pushThrough_87 ?_
  refine nv_iload_n hC d_Water_pushThrough_90 rfl 2 rfl ?_
  refine nv_aload_n hC d_Water_pushThrough_91 rfl 1 rfl ?_
  refine nv_getI hC (j := 8) hp0.1 rfl in_Water (by decide) k_66 rfl d_Water_pushThrough_92 ?_
  obtain ⟨N27, e28, hm⟩ := nlt_s hm
  refine nv_iast hC (isW_flow hp0) (by decide) hc1 e28 d_Water_pushThrough_95 ?_
  obtain ⟨rfl, rfl⟩ := ret_s hm
  exact nv_vret hC hr hlk d_Water_pushThrough_96
def m_Water_takeOut_43 (w0 nn0 : Nat) (x1 : Int) (x2 : Int) : Nat → Int → nS → Option ((Int) × nS)
  | 0, _, _ => none
  | f + 1, x3, N =>
    if x3 < 0 then
    some (x3, N)
    else
    if 0 ≤ x3 ∧ x3 < ((10 : Nat) : Int) then
    if rg (N (w0 + 11) (Int.toNat x3)) then
    nbd (m_Water_pushThrough w0 nn0 (N (w0 + 11) (Int.toNat x3)) N) (fun r19 N20 =>
    if rg (x3 + (-1)) then
    m_Water_takeOut_43 w0 nn0 x1 x2 f (x3 + (-1)) N20
    else none)
    else none
    else none
def m_Water_takeOut (w0 nn0 : Nat) (x1 : Int) (x2 : Int) (N : nS) : Option (Int × nS) :=
  nbd (m_Plugs_clear (w0 + 2) 121 N) (fun r1 N2 =>
  if rg (N2 w0 9) then
  nbd (m_Plugs_add (w0 + 2) 121 x2 (N2 w0 9) N2) (fun r5 N6 =>
  nbd (m_Plugs_volumeTimesWarmth (w0 + 2) 121 N6) (fun r8 N9 =>
  nlt (up2 N9 w0 11 ((N6 w0 11) + r8)) (fun N11 =>
  nbd (m_Water_findWay w0 nn0 x1 N11) (fun r13 N14 =>
  if rg (r13 - 1) then
  nbd (m_Water_takeOut_43 w0 nn0 x1 x2 FU (r13 - 1) N14) (fun q24 N25 =>
  nbd (m_Plugs_volumeTimesWarmth (w0 + 2) 121 N25) (fun r27 N28 =>
  nlt (up2 N28 w0 12 ((N25 w0 12) + r27)) (fun N30 =>
  some (0, N30))))
  else none))))
  else none)
set_option maxRecDepth 20000 in
theorem k_87 : Cond.fieldLink R_Water 76 (T_Water 11).1 (T_Water 11).2.1 (T_Water 11).2.2.1 ∈ TT := tt_i 125 (by decide +kernel) (by decide +kernel)
set_option maxRecDepth 20000 in
theorem k_88 : Cond.methodLink R_Water 80 y_Plugs_volumeTimesWarmth ∈ TT := tt_i 388 (by decide +kernel) (by decide +kernel)
set_option maxRecDepth 20000 in
theorem k_89 : Cond.methodLink R_Water 84 y_Water_findWay ∈ TT := tt_i 392 (by decide +kernel) (by decide +kernel)
set_option maxRecDepth 20000 in
theorem k_90 : Cond.code y_Water_findWay b_Water_findWay 4 (some .int) ∈ TT := tt_i 395 (by decide +kernel) (by decide +kernel)
set_option maxRecDepth 20000 in
theorem k_91 : Cond.instanceMethod y_Water_findWay ∈ TT := tt_i 394 (by decide +kernel) (by decide +kernel)
set_option maxRecDepth 20000 in
theorem k_92 : Cond.selects R_Water y_Water_findWay y_Water_findWay ∈ TT := tt_i 3 (by decide +kernel) (by decide +kernel)
set_option maxRecDepth 20000 in
theorem k_93 : Cond.methodLink R_Water 88 y_Water_pushThrough ∈ TT := tt_i 396 (by decide +kernel) (by decide +kernel)
set_option maxRecDepth 20000 in
theorem k_94 : Cond.code y_Water_pushThrough b_Water_pushThrough 3 none ∈ TT := tt_i 399 (by decide +kernel) (by decide +kernel)
set_option maxRecDepth 20000 in
theorem k_95 : Cond.instanceMethod y_Water_pushThrough ∈ TT := tt_i 398 (by decide +kernel) (by decide +kernel)
set_option maxRecDepth 20000 in
theorem k_96 : Cond.selects R_Water y_Water_pushThrough y_Water_pushThrough ∈ TT := tt_i 4 (by decide +kernel) (by decide +kernel)
set_option maxRecDepth 20000 in
theorem k_97 : Cond.fieldLink R_Water 91 (T_Water 12).1 (T_Water 12).2.1 (T_Water 12).2.2.1 ∈ TT := tt_i 127 (by decide +kernel) (by decide +kernel)
abbrev rm_Water_takeOut : Room := { frames := 4, cells := 0, slots := 0, locals := 92 }
set_option maxRecDepth 100000 in
set_option maxHeartbeats 4000000 in
theorem w_Water_takeOut_43 {p : Program} {l : Launch} {e : Env} {s : State} {m : MethodId} {args : Array Value} {below : List Frame} {meth : Method} {c : Code} {Q : State → Prop} {D : va_G} {ct : Nat → ClassId} {A : Nat → Prop} {ad : Nat → Nat} {S : nH} (hC : nC p s m args c D vwCl ct A ad S 4 b_Water_takeOut R_Water TT) (w0 nn0 : Nat) (hp0 : isW S w0 nn0) (x1 : Int) (hx1 : rg x1) (x2 : Int) (hx2 : rg x2) : ∀ (f : Nat) (x3 : Int) (N : nS) (q : Int) (No : nS), m_Water_takeOut_43 w0 nn0 x1 x2 f x3 N = some (q, No) → rg x3 → nV p l e rm_Water_takeOut s m args below meth c 0 0 Q D vwCl ct A ad S 4 No 63 [(0, .ref (ad w0)), (1, .int (iI x1)), (2, .int (iI x2)), (3, .int (iI q))] [] → nV p l e rm_Water_takeOut s m args below meth c 0 0 Q D vwCl ct A ad S 4 N 43 [(0, .ref (ad w0)), (1, .int (iI x1)), (2, .int (iI x2)), (3, .int (iI x3))] [] := by
  intro f
  induction f with
  | zero =>
    intro x3 N q No hm
    rw [m_Water_takeOut_43] at hm
    cases hm
  | succ f ih =>
    intro x3 N q No hm hx3 kx
    rw [m_Water_takeOut_43] at hm
    refine nv_iload_n hC d_Water_takeOut_43 rfl 3 rfl ?_
    refine nv_if_lt hC hx3 d_Water_takeOut_44 (tgt := 63) (by decide) (fun c16 => ?_) (fun c16 => ?_)
    · have hm := if_t c16 hm
      obtain ⟨rfl, rfl⟩ := ret_s hm
      refine nv_sub (lv' := [(0, .ref (ad w0)), (1, .int (iI x1)), (2, .int (iI x2)), (3, .int (iI x3))]) [0, 1, 2, 3] rfl ?_
      exact kx
    · have hm := if_f c16 hm
      refine nv_aload_n hC d_Water_takeOut_47 rfl 0 rfl ?_
      refine nv_aload_n hC d_Water_takeOut_48 rfl 0 rfl ?_
      refine nv_getR hC (j := 5) hp0.1 rfl in_Water (by decide) k_72 rfl d_Water_takeOut_49 ?_
      refine nv_iload_n hC d_Water_takeOut_52 rfl 3 rfl ?_
      obtain ⟨hc17, hm⟩ := ck_s hm
      refine nv_iald hC (isW_way hp0) (by decide) hc17 d_Water_takeOut_53 ?_
      obtain ⟨hr18, hm⟩ := ck_s hm
      obtain ⟨r19, N20, hq21, hm⟩ := nbd_s hm
      refine nv_callv (N' := N20) (nr_V hC (As := [.int (iI (N (w0 + 11) (Int.toNat x3)))]) (st := []) hp0.1 rfl (c_Water_pushThrough l hC.2.2.1 w0 nn0 hp0 (N (w0 + 11) (Int.toNat x3)) hr18 N r19 N20 hq21) (cwV 1 hC.1.2.2.2.2 (tt_V k_93 k_95 k_96 k_71 k_94) rfl rfl rfl (by decide +kernel) ⟨Nat.le_of_ble_eq_true rfl, Nat.le_of_ble_eq_true rfl⟩) rfl rfl (Nat.le_of_ble_eq_true rfl) ⟨(Nat.le_of_ble_eq_true rfl), (Nat.le_of_ble_eq_true rfl)⟩ d_Water_takeOut_54) ?_
      refine nv_iinc (lv' := [(3, .int (iI (x3 + (-1)))), (0, .ref (ad w0)), (1, .int (iI x1)), (2, .int (iI x2))]) hC d_Water_takeOut_57 3 rfl (by decide) rfl ?_
      refine nv_goto hC d_Water_takeOut_60 (tgt := 43) (by decide) ?_
      obtain ⟨hr22, hm⟩ := ck_s hm
      refine nv_sub (lv' := [(0, .ref (ad w0)), (1, .int (iI x1)), (2, .int (iI x2)), (3, .int (iI (x3 + (-1))))]) [1, 2, 3, 0] rfl ?_
      exact ih (x3 + (-1)) N20 q No hm hr22 kx
set_option maxRecDepth 100000 in
set_option maxHeartbeats 4000000 in
theorem c_Water_takeOut (l : Launch) {D : va_G} {ct : Nat → ClassId} {A : Nat → Prop} {ad : Nat → Nat} {S : nH} (hD : nD ad A S.length) (w0 nn0 : Nat) (hp0 : isW S w0 nn0) (x1 : Int) (hx1 : rg x1) (x2 : Int) (hx2 : rg x2) (N : nS) (r : Int) (No : nS) (hm : m_Water_takeOut w0 nn0 x1 x2 N = some (r, No)) : nM l y_Water_takeOut (Cond.code y_Water_takeOut b_Water_takeOut 4 none :: TT) rm_Water_takeOut D vwCl ct A ad S N [.ref (ad w0), .int (iI x1), .int (iI x2)] (nQv D vwCl ct A ad S No) := by
  refine nM_of (cc := b_Water_takeOut) (maxL := 4) (ret := none) (by decide) rfl (Nat.le_of_ble_eq_true rfl) hD ?_
  intro p e s m below meth c hC hr hlk
  refine nv_lv (lv' := [(0, .ref (ad w0)), (1, .int (iI x1)), (2, .int (iI x2))]) rfl ?_
  rw [m_Water_takeOut] at hm
  refine nv_aload_n hC d_Water_takeOut_0 rfl 0 rfl ?_
  refine nv_getR hC (j := 2) hp0.1 rfl in_Water (by decide) k_75 rfl d_Water_takeOut_1 ?_
  obtain ⟨r1, N2, hq3, hm⟩ := nbd_s hm
  refine nv_callv (N' := N2) (nr_V hC (As := []) (st := []) (isW_taken hp0).1 rfl (c_Plugs_clear l hC.2.2.1 (w0 + 2) 121 (isW_taken hp0) N r1 N2 hq3) (cwV 0 hC.1.2.2.2.2 (tt_V k_57 k_10 k_11 k_7 k_9) rfl rfl rfl (by decide +kernel) ⟨Nat.le_of_ble_eq_true rfl, Nat.le_of_ble_eq_true rfl⟩) rfl rfl (Nat.le_of_ble_eq_true rfl) ⟨(Nat.le_of_ble_eq_true rfl), (Nat.le_of_ble_eq_true rfl)⟩ d_Water_takeOut_4) ?_
  refine nv_aload_n hC d_Water_takeOut_7 rfl 0 rfl ?_
  refine nv_getR hC (j := 2) hp0.1 rfl in_Water (by decide) k_75 rfl d_Water_takeOut_8 ?_
  refine nv_iload_n hC d_Water_takeOut_11 rfl 2 rfl ?_
  refine nv_aload_n hC d_Water_takeOut_12 rfl 0 rfl ?_
  refine nv_getI hC (j := 9) hp0.1 rfl in_Water (by decide) k_63 rfl d_Water_takeOut_13 ?_
  obtain ⟨hr4, hm⟩ := ck_s hm
  obtain ⟨r5, N6, hq7, hm⟩ := nbd_s hm
  refine nv_callv (N' := N6) (nr_V hC (As := [.int (iI x2), .int (iI (N2 w0 9))]) (st := []) (isW_taken hp0).1 rfl (c_Plugs_add l hC.2.2.1 (w0 + 2) 121 (isW_taken hp0) x2 hx2 (N2 w0 9) hr4 N2 r5 N6 hq7) (cwV 2 hC.1.2.2.2.2 (tt_V k_65 k_5 k_6 k_7 k_4) rfl rfl rfl (by decide +kernel) ⟨Nat.le_of_ble_eq_true rfl, Nat.le_of_ble_eq_true rfl⟩) rfl rfl (Nat.le_of_ble_eq_true rfl) ⟨(Nat.le_of_ble_eq_true rfl), (Nat.le_of_ble_eq_true rfl)⟩ d_Water_takeOut_16) ?_
  refine nv_aload_n hC d_Water_takeOut_19 rfl 0 rfl ?_
  refine nv_dup hC d_Water_takeOut_20 rfl ?_
  refine nv_getJ hC (j := 11) hp0.1 rfl in_Water (by decide) k_87 rfl d_Water_takeOut_21 ?_
  refine nv_aload_n hC d_Water_takeOut_24 rfl 0 rfl ?_
  refine nv_getR hC (j := 2) hp0.1 rfl in_Water (by decide) k_75 rfl d_Water_takeOut_25 ?_
  obtain ⟨r8, N9, hq10, hm⟩ := nbd_s hm
  refine nv_calll (x := r8) (N' := N9) (nr_V hC (As := []) (st := [.long (lI (N6 w0 11)), .ref (ad w0)]) (isW_taken hp0).1 rfl (c_Plugs_volumeTimesWarmth l hC.2.2.1 (w0 + 2) 121 (isW_taken hp0) N6 r8 N9 hq10) (cwV 0 hC.1.2.2.2.2 (tt_V k_88 k_41 k_42 k_7 k_40) rfl rfl rfl (by decide +kernel) ⟨Nat.le_of_ble_eq_true rfl, Nat.le_of_ble_eq_true rfl⟩) rfl rfl (Nat.le_of_ble_eq_true rfl) ⟨(Nat.le_of_ble_eq_true rfl), (Nat.le_of_ble_eq_true rfl)⟩ d_Water_takeOut_28) ?_
  refine nv_ladd hC d_Water_takeOut_31 ?_
  obtain ⟨N11, e12, hm⟩ := nlt_s hm
  refine nv_putJ hC (j := 11) hp0.1 rfl in_Water (by decide) ty_Water tyok_Water nm_Water k_87 rfl rfl (by decide +kernel) e12 d_Water_takeOut_32 ?_
  refine nv_aload_n hC d_Water_takeOut_35 rfl 0 rfl ?_
  refine nv_iload_n hC d_Water_takeOut_36 rfl 1 rfl ?_
  obtain ⟨r13, N14, hq15, hm⟩ := nbd_s hm
  refine nv_calli (x := r13) (N' := N14) (nr_V hC (As := [.int (iI x1)]) (st := []) hp0.1 rfl (c_Water_findWay l hC.2.2.1 w0 nn0 hp0 x1 hx1 N11 r13 N14 hq15) (cwV 1 hC.1.2.2.2.2 (tt_V k_89 k_91 k_92 k_71 k_90) rfl rfl rfl (by decide +kernel) ⟨Nat.le_of_ble_eq_true rfl, Nat.le_of_ble_eq_true rfl⟩) rfl rfl (Nat.le_of_ble_eq_true rfl) ⟨(Nat.le_of_ble_eq_true rfl), (Nat.le_of_ble_eq_true rfl)⟩ d_Water_takeOut_37) ?_
  refine nv_iconst hC d_Water_takeOut_40 ?_
  refine nv_isub hC d_Water_takeOut_41 ?_
  refine nv_istore_n (lv' := [(3, .int (iI (r13 - 1))), (0, .ref (ad w0)), (1, .int (iI x1)), (2, .int (iI x2))]) hC d_Water_takeOut_42 rfl (by decide) rfl ?_
  obtain ⟨hr23, hm⟩ := ck_s hm
  obtain ⟨q24, N25, hq26, hm⟩ := nbd_s hm
  refine nv_sub (lv' := [(0, .ref (ad w0)), (1, .int (iI x1)), (2, .int (iI x2)), (3, .int (iI (r13 - 1)))]) [1, 2, 3, 0] rfl ?_
  refine w_Water_takeOut_43 hC w0 nn0 hp0 x1 hx1 x2 hx2 FU (r13 - 1) N14 q24 N25 hq26 hr23 ?_
  refine nv_aload_n hC d_Water_takeOut_63 rfl 0 rfl ?_
  refine nv_dup hC d_Water_takeOut_64 rfl ?_
  refine nv_getJ hC (j := 12) hp0.1 rfl in_Water (by decide) k_97 rfl d_Water_takeOut_65 ?_
  refine nv_aload_n hC d_Water_takeOut_68 rfl 0 rfl ?_
  refine nv_getR hC (j := 2) hp0.1 rfl in_Water (by decide) k_75 rfl d_Water_takeOut_69 ?_
  obtain ⟨r27, N28, hq29, hm⟩ := nbd_s hm
  refine nv_calll (x := r27) (N' := N28) (nr_V hC (As := []) (st := [.long (lI (N25 w0 12)), .ref (ad w0)]) (isW_taken hp0).1 rfl (c_Plugs_volumeTimesWarmth l hC.2.2.1 (w0 + 2) 121 (isW_taken hp0) N25 r27 N28 hq29) (cwV 0 hC.1.2.2.2.2 (tt_V k_88 k_41 k_42 k_7 k_40) rfl rfl rfl (by decide +kernel) ⟨Nat.le_of_ble_eq_true rfl, Nat.le_of_ble_eq_true rfl⟩) rfl rfl (Nat.le_of_ble_eq_true rfl) ⟨(Nat.le_of_ble_eq_true rfl), (Nat.le_of_ble_eq_true rfl)⟩ d_Water_takeOut_72) ?_
  refine nv_ladd hC d_Water_takeOut_75 ?_
  obtain ⟨N30, e31, hm⟩ := nlt_s hm
  refine nv_putJ hC (j := 12) hp0.1 rfl in_Water (by decide) ty_Water tyok_Water nm_Water k_97 rfl rfl (by decide +kernel) e31 d_Water_takeOut_76 ?_
  obtain ⟨rfl, rfl⟩ := ret_s hm
  exact nv_vret hC hr hlk d_Water_takeOut_79
def m_Water_endMinute_2 (w0 nn0 : Nat) : Nat → Int → nS → Option ((Int) × nS)
  | 0, _, _ => none
  | f + 1, x1, N =>
    if rg (N nn0 5) then
    if (N nn0 5) ≤ x1 then
    some (x1, N)
    else
    if 0 ≤ x1 ∧ x1 < ((10 : Nat) : Int) then
    if rg (N (nn0 + 4) (Int.toNat x1)) then
    if (N (nn0 + 4) (Int.toNat x1)) ≤ 0 then
    if rg (x1 + 1) then
    m_Water_endMinute_2 w0 nn0 f (x1 + 1) N
    else none
    else
    nbd (m_Water_takeOut w0 nn0 x1 (N (nn0 + 4) (Int.toNat x1)) N) (fun r7 N8 =>
    if rg (x1 + 1) then
    m_Water_endMinute_2 w0 nn0 f (x1 + 1) N8
    else none)
    else none
    else none
    else none
def m_Water_endMinute_47 (w0 nn0 : Nat) : Nat → Int → nS → Option ((Int) × nS)
  | 0, _, _ => none
  | f + 1, x1, N =>
    if rg (N nn0 5) then
    if (N nn0 5) ≤ x1 then
    some (x1, N)
    else
    if 0 ≤ x1 ∧ x1 < ((10 : Nat) : Int) then
    if rg (N w0 10) then
    if rg (N (nn0 + 3) (Int.toNat x1)) then
    nbd (m_Plugs_cool (w0 + 1 + 13 + 3 * (Int.toNat x1)) 12 (N w0 10) (N (nn0 + 3) (Int.toNat x1)) N) (fun r19 N20 =>
    nlt (up2 N20 w0 13 ((N w0 13) + r19)) (fun N22 =>
    nbd (m_Plugs_least (w0 + 1 + 13 + 3 * (Int.toNat x1)) 12 N22) (fun r24 N25 =>
    if rg r24 then
    if r24 < 2500 then
    if rg (x1 + 1) then
    m_Water_endMinute_47 w0 nn0 f (x1 + 1) N25
    else none
    else
    if 4500 < r24 then
    if rg (x1 + 1) then
    m_Water_endMinute_47 w0 nn0 f (x1 + 1) N25
    else none
    else
    nlt (up2 N25 (w0 + 13) (Int.toNat x1) ((N25 (w0 + 13) (Int.toNat x1)) + 1)) (fun N32 =>
    if rg (x1 + 1) then
    m_Water_endMinute_47 w0 nn0 f (x1 + 1) N32
    else none)
    else none)))
    else none
    else none
    else none
    else none
def m_Water_endMinute (w0 nn0 : Nat) (N : nS) : Option (Int × nS) :=
  nbd (m_Water_endMinute_2 w0 nn0 FU 0 N) (fun q11 N12 =>
  nbd (m_Water_endMinute_47 w0 nn0 FU 0 N12) (fun q35 N36 =>
  nlt (up2 N36 w0 8 ((N36 w0 8) + 1)) (fun N38 =>
  some (0, N38))))
set_option maxRecDepth 20000 in
theorem k_98 : Cond.fieldLink R_Water 108 (T_Net 3).1 (T_Net 3).2.1 (T_Net 3).2.2.1 ∈ TT := tt_i 57 (by decide +kernel) (by decide +kernel)
set_option maxRecDepth 20000 in
theorem k_99 : Cond.methodLink R_Water 111 y_Water_takeOut ∈ TT := tt_i 446 (by decide +kernel) (by decide +kernel)
set_option maxRecDepth 20000 in
theorem k_100 : Cond.code y_Water_takeOut b_Water_takeOut 4 none ∈ TT := tt_i 387 (by decide +kernel) (by decide +kernel)
set_option maxRecDepth 20000 in
theorem k_101 : Cond.instanceMethod y_Water_takeOut ∈ TT := tt_i 385 (by decide +kernel) (by decide +kernel)
set_option maxRecDepth 20000 in
theorem k_102 : Cond.selects R_Water y_Water_takeOut y_Water_takeOut ∈ TT := tt_i 386 (by decide +kernel) (by decide +kernel)
set_option maxRecDepth 20000 in
theorem k_103 : Cond.fieldLink R_Water 114 (T_Net 2).1 (T_Net 2).2.1 (T_Net 2).2.2.1 ∈ TT := tt_i 54 (by decide +kernel) (by decide +kernel)
set_option maxRecDepth 20000 in
theorem k_104 : Cond.methodLink R_Water 117 y_Plugs_cool ∈ TT := tt_i 447 (by decide +kernel) (by decide +kernel)
set_option maxRecDepth 20000 in
theorem k_105 : Cond.code y_Plugs_cool b_Plugs_cool 9 (some .long) ∈ TT := tt_i 450 (by decide +kernel) (by decide +kernel)
set_option maxRecDepth 20000 in
theorem k_106 : Cond.instanceMethod y_Plugs_cool ∈ TT := tt_i 448 (by decide +kernel) (by decide +kernel)
set_option maxRecDepth 20000 in
theorem k_107 : Cond.selects R_Plugs y_Plugs_cool y_Plugs_cool ∈ TT := tt_i 449 (by decide +kernel) (by decide +kernel)
set_option maxRecDepth 20000 in
theorem k_108 : Cond.methodLink R_Water 121 y_Plugs_least ∈ TT := tt_i 451 (by decide +kernel) (by decide +kernel)
set_option maxRecDepth 20000 in
theorem k_109 : Cond.fieldLink R_Water 37 (T_Water 7).1 (T_Water 7).2.1 (T_Water 7).2.2.1 ∈ TT := tt_i 119 (by decide +kernel) (by decide +kernel)
abbrev rm_Water_endMinute : Room := { frames := 5, cells := 0, slots := 0, locals := 115 }
set_option maxRecDepth 100000 in
set_option maxHeartbeats 4000000 in
theorem w_Water_endMinute_2 {p : Program} {l : Launch} {e : Env} {s : State} {m : MethodId} {args : Array Value} {below : List Frame} {meth : Method} {c : Code} {Q : State → Prop} {D : va_G} {ct : Nat → ClassId} {A : Nat → Prop} {ad : Nat → Nat} {S : nH} (hC : nC p s m args c D vwCl ct A ad S 3 b_Water_endMinute R_Water TT) (w0 nn0 : Nat) (hp0 : isW S w0 nn0) : ∀ (f : Nat) (x1 : Int) (N : nS) (q : Int) (No : nS), m_Water_endMinute_2 w0 nn0 f x1 N = some (q, No) → rg x1 → nV p l e rm_Water_endMinute s m args below meth c 0 0 Q D vwCl ct A ad S 3 No 45 [(0, .ref (ad w0)), (1, .int (iI q))] [] → nV p l e rm_Water_endMinute s m args below meth c 0 0 Q D vwCl ct A ad S 3 N 2 [(0, .ref (ad w0)), (1, .int (iI x1))] [] := by
  intro f
  induction f with
  | zero =>
    intro x1 N q No hm
    rw [m_Water_endMinute_2] at hm
    cases hm
  | succ f ih =>
    intro x1 N q No hm hx1 kx
    rw [m_Water_endMinute_2] at hm
    refine nv_iload_n hC d_Water_endMinute_2 rfl 1 rfl ?_
    refine nv_aload_n hC d_Water_endMinute_3 rfl 0 rfl ?_
    refine nv_getA hC (j := 0) hp0.1 rfl in_Water (by decide) k_54 rfl d_Water_endMinute_4 ?_
    refine nv_getI hC (j := 5) (isW_net hp0).1 rfl in_Net (by decide) k_55 rfl d_Water_endMinute_7 ?_
    obtain ⟨hr1, hm⟩ := ck_s hm
    refine nv_icmp_ge hC hx1 hr1 d_Water_endMinute_10 (tgt := 45) (by decide) (fun c2 => ?_) (fun c2 => ?_)
    · have hm := if_t c2 hm
      obtain ⟨rfl, rfl⟩ := ret_s hm
      refine nv_sub (lv' := [(0, .ref (ad w0)), (1, .int (iI x1))]) [0, 1] rfl ?_
      exact kx
    · have hm := if_f c2 hm
      refine nv_aload_n hC d_Water_endMinute_13 rfl 0 rfl ?_
      refine nv_getA hC (j := 0) hp0.1 rfl in_Water (by decide) k_54 rfl d_Water_endMinute_14 ?_
      refine nv_getR hC (j := 3) (isW_net hp0).1 rfl in_Net (by decide) k_98 rfl d_Water_endMinute_17 ?_
      refine nv_iload_n hC d_Water_endMinute_20 rfl 1 rfl ?_
      obtain ⟨hc3, hm⟩ := ck_s hm
      refine nv_iald hC (isW_net hp0).2.2.2.2.1 (by decide) hc3 d_Water_endMinute_21 ?_
      obtain ⟨hr4, hm⟩ := ck_s hm
      refine nv_if_le hC hr4 d_Water_endMinute_22 (tgt := 39) (by decide) (fun c5 => ?_) (fun c5 => ?_)
      · have hm := if_t c5 hm
        refine nv_iinc (lv' := [(1, .int (iI (x1 + 1))), (0, .ref (ad w0))]) hC d_Water_endMinute_39 1 rfl (by decide) rfl ?_
        refine nv_goto hC d_Water_endMinute_42 (tgt := 2) (by decide) ?_
        obtain ⟨hr6, hm⟩ := ck_s hm
        refine nv_sub (lv' := [(0, .ref (ad w0)), (1, .int (iI (x1 + 1)))]) [1, 0] rfl ?_
        exact ih (x1 + 1) N q No hm hr6 kx
      · have hm := if_f c5 hm
        refine nv_aload_n hC d_Water_endMinute_25 rfl 0 rfl ?_
        refine nv_iload_n hC d_Water_endMinute_26 rfl 1 rfl ?_
        refine nv_aload_n hC d_Water_endMinute_27 rfl 0 rfl ?_
        refine nv_getA hC (j := 0) hp0.1 rfl in_Water (by decide) k_54 rfl d_Water_endMinute_28 ?_
        refine nv_getR hC (j := 3) (isW_net hp0).1 rfl in_Net (by decide) k_98 rfl d_Water_endMinute_31 ?_
        refine nv_iload_n hC d_Water_endMinute_34 rfl 1 rfl ?_
        refine nv_iald hC (isW_net hp0).2.2.2.2.1 (by decide) hc3 d_Water_endMinute_35 ?_
        obtain ⟨r7, N8, hq9, hm⟩ := nbd_s hm
        refine nv_callv (N' := N8) (nr_V hC (As := [.int (iI x1), .int (iI (N (nn0 + 4) (Int.toNat x1)))]) (st := []) hp0.1 rfl (c_Water_takeOut l hC.2.2.1 w0 nn0 hp0 x1 hx1 (N (nn0 + 4) (Int.toNat x1)) hr4 N r7 N8 hq9) (cwV 2 hC.1.2.2.2.2 (tt_V k_99 k_101 k_102 k_71 k_100) rfl rfl rfl (by decide +kernel) ⟨Nat.le_of_ble_eq_true rfl, Nat.le_of_ble_eq_true rfl⟩) rfl rfl (Nat.le_of_ble_eq_true rfl) ⟨(Nat.le_of_ble_eq_true rfl), (Nat.le_of_ble_eq_true rfl)⟩ d_Water_endMinute_36) ?_
        refine nv_iinc (lv' := [(1, .int (iI (x1 + 1))), (0, .ref (ad w0))]) hC d_Water_endMinute_39 1 rfl (by decide) rfl ?_
        refine nv_goto hC d_Water_endMinute_42 (tgt := 2) (by decide) ?_
        obtain ⟨hr10, hm⟩ := ck_s hm
        refine nv_sub (lv' := [(0, .ref (ad w0)), (1, .int (iI (x1 + 1)))]) [1, 0] rfl ?_
        exact ih (x1 + 1) N8 q No hm hr10 kx
set_option maxRecDepth 100000 in
set_option maxHeartbeats 4000000 in
theorem w_Water_endMinute_47 {p : Program} {l : Launch} {e : Env} {s : State} {m : MethodId} {args : Array Value} {below : List Frame} {meth : Method} {c : Code} {Q : State → Prop} {D : va_G} {ct : Nat → ClassId} {A : Nat → Prop} {ad : Nat → Nat} {S : nH} (hC : nC p s m args c D vwCl ct A ad S 3 b_Water_endMinute R_Water TT) (w0 nn0 : Nat) (hp0 : isW S w0 nn0) : ∀ (f : Nat) (x1 : Int) (N : nS) (q : Int) (No : nS), m_Water_endMinute_47 w0 nn0 f x1 N = some (q, No) → rg x1 → nV p l e rm_Water_endMinute s m args below meth c 0 0 Q D vwCl ct A ad S 3 No 129 [(0, .ref (ad w0)), (1, .int (iI q))] [] → nV p l e rm_Water_endMinute s m args below meth c 0 0 Q D vwCl ct A ad S 3 N 47 [(0, .ref (ad w0)), (1, .int (iI x1))] [] := by
  intro f
  induction f with
  | zero =>
    intro x1 N q No hm
    rw [m_Water_endMinute_47] at hm
    cases hm
  | succ f ih =>
    intro x1 N q No hm hx1 kx
    rw [m_Water_endMinute_47] at hm
    refine nv_iload_n hC d_Water_endMinute_47 rfl 1 rfl ?_
    refine nv_aload_n hC d_Water_endMinute_48 rfl 0 rfl ?_
    refine nv_getA hC (j := 0) hp0.1 rfl in_Water (by decide) k_54 rfl d_Water_endMinute_49 ?_
    refine nv_getI hC (j := 5) (isW_net hp0).1 rfl in_Net (by decide) k_55 rfl d_Water_endMinute_52 ?_
    obtain ⟨hr14, hm⟩ := ck_s hm
    refine nv_icmp_ge hC hx1 hr14 d_Water_endMinute_55 (tgt := 129) (by decide) (fun c15 => ?_) (fun c15 => ?_)
    · have hm := if_t c15 hm
      obtain ⟨rfl, rfl⟩ := ret_s hm
      refine nv_sub (lv' := [(0, .ref (ad w0)), (1, .int (iI x1))]) [0, 1] rfl ?_
      exact kx
    · have hm := if_f c15 hm
      refine nv_aload_n hC d_Water_endMinute_58 rfl 0 rfl ?_
      refine nv_dup hC d_Water_endMinute_59 rfl ?_
      refine nv_getJ hC (j := 13) hp0.1 rfl in_Water (by decide) k_81 rfl d_Water_endMinute_60 ?_
      refine nv_aload_n hC d_Water_endMinute_63 rfl 0 rfl ?_
      refine nv_getR hC (j := 1) hp0.1 rfl in_Water (by decide) k_56 rfl d_Water_endMinute_64 ?_
      refine nv_iload_n hC d_Water_endMinute_67 rfl 1 rfl ?_
      obtain ⟨hc16, hm⟩ := ck_s hm
      refine nv_aald hC (isW_rows hp0) (by decide) hc16 rfl d_Water_endMinute_68 ?_
      refine nv_aload_n hC d_Water_endMinute_69 rfl 0 rfl ?_
      refine nv_getI hC (j := 10) hp0.1 rfl in_Water (by decide) k_62 rfl d_Water_endMinute_70 ?_
      refine nv_aload_n hC d_Water_endMinute_73 rfl 0 rfl ?_
      refine nv_getA hC (j := 0) hp0.1 rfl in_Water (by decide) k_54 rfl d_Water_endMinute_74 ?_
      refine nv_getR hC (j := 2) (isW_net hp0).1 rfl in_Net (by decide) k_103 rfl d_Water_endMinute_77 ?_
      refine nv_iload_n hC d_Water_endMinute_80 rfl 1 rfl ?_
      refine nv_iald hC (isW_net hp0).2.2.2.1 (by decide) hc16 d_Water_endMinute_81 ?_
      obtain ⟨hr17, hm⟩ := ck_s hm
      obtain ⟨hr18, hm⟩ := ck_s hm
      obtain ⟨r19, N20, hq21, hm⟩ := nbd_s hm
      refine nv_calll (x := r19) (N' := N20) (nr_V hC (As := [.int (iI (N w0 10)), .int (iI (N (nn0 + 3) (Int.toNat x1)))]) (st := [.long (lI (N w0 13)), .ref (ad w0)]) (isW_row hp0 (tn_lt hc16)).1 rfl (c_Plugs_cool l hC.2.2.1 (w0 + 1 + 13 + 3 * (Int.toNat x1)) 12 (isW_row hp0 (tn_lt hc16)) (N w0 10) hr17 (N (nn0 + 3) (Int.toNat x1)) hr18 N r19 N20 hq21) (cwV 2 hC.1.2.2.2.2 (tt_V k_104 k_106 k_107 k_7 k_105) rfl rfl rfl (by decide +kernel) ⟨Nat.le_of_ble_eq_true rfl, Nat.le_of_ble_eq_true rfl⟩) rfl rfl (Nat.le_of_ble_eq_true rfl) ⟨(Nat.le_of_ble_eq_true rfl), (Nat.le_of_ble_eq_true rfl)⟩ d_Water_endMinute_82) ?_
      refine nv_ladd hC d_Water_endMinute_85 ?_
      obtain ⟨N22, e23, hm⟩ := nlt_s hm
      refine nv_putJ hC (j := 13) hp0.1 rfl in_Water (by decide) ty_Water tyok_Water nm_Water k_81 rfl rfl (by decide +kernel) e23 d_Water_endMinute_86 ?_
      refine nv_aload_n hC d_Water_endMinute_89 rfl 0 rfl ?_
      refine nv_getR hC (j := 1) hp0.1 rfl in_Water (by decide) k_56 rfl d_Water_endMinute_90 ?_
      refine nv_iload_n hC d_Water_endMinute_93 rfl 1 rfl ?_
      refine nv_aald hC (isW_rows hp0) (by decide) hc16 rfl d_Water_endMinute_94 ?_
      obtain ⟨r24, N25, hq26, hm⟩ := nbd_s hm
      refine nv_calli (x := r24) (N' := N25) (nr_V hC (As := []) (st := []) (isW_row hp0 (tn_lt hc16)).1 rfl (c_Plugs_least l hC.2.2.1 (w0 + 1 + 13 + 3 * (Int.toNat x1)) 12 (isW_row hp0 (tn_lt hc16)) N22 r24 N25 hq26) (cwV 0 hC.1.2.2.2.2 (tt_V k_108 k_47 k_48 k_7 k_46) rfl rfl rfl (by decide +kernel) ⟨Nat.le_of_ble_eq_true rfl, Nat.le_of_ble_eq_true rfl⟩) rfl rfl (Nat.le_of_ble_eq_true rfl) ⟨(Nat.le_of_ble_eq_true rfl), (Nat.le_of_ble_eq_true rfl)⟩ d_Water_endMinute_95) ?_
      refine nv_istore_n (lv' := [(2, .int (iI r24)), (0, .ref (ad w0)), (1, .int (iI x1))]) hC d_Water_endMinute_98 rfl (by decide) rfl ?_
      refine nv_iload_n hC d_Water_endMinute_99 rfl 0 rfl ?_
      refine nv_sipush hC (z := 2500) d_Water_endMinute_100 rfl ?_
      obtain ⟨hr27, hm⟩ := ck_s hm
      refine nv_icmp_lt hC hr27 ⟨by decide, by decide⟩ d_Water_endMinute_103 (tgt := 123) (by decide) (fun c28 => ?_) (fun c28 => ?_)
      · have hm := if_t c28 hm
        refine nv_iinc (lv' := [(1, .int (iI (x1 + 1))), (2, .int (iI r24)), (0, .ref (ad w0))]) hC d_Water_endMinute_123 2 rfl (by decide) rfl ?_
        refine nv_goto hC d_Water_endMinute_126 (tgt := 47) (by decide) ?_
        obtain ⟨hr29, hm⟩ := ck_s hm
        refine nv_sub (lv' := [(0, .ref (ad w0)), (1, .int (iI (x1 + 1)))]) [2, 0] rfl ?_
        exact ih (x1 + 1) N25 q No hm hr29 kx
      · have hm := if_f c28 hm
        refine nv_iload_n hC d_Water_endMinute_106 rfl 0 rfl ?_
        refine nv_sipush hC (z := 4500) d_Water_endMinute_107 rfl ?_
        refine nv_icmp_gt hC hr27 ⟨by decide, by decide⟩ d_Water_endMinute_110 (tgt := 123) (by decide) (fun c30 => ?_) (fun c30 => ?_)
        · have hm := if_t c30 hm
          refine nv_iinc (lv' := [(1, .int (iI (x1 + 1))), (2, .int (iI r24)), (0, .ref (ad w0))]) hC d_Water_endMinute_123 2 rfl (by decide) rfl ?_
          refine nv_goto hC d_Water_endMinute_126 (tgt := 47) (by decide) ?_
          obtain ⟨hr31, hm⟩ := ck_s hm
          refine nv_sub (lv' := [(0, .ref (ad w0)), (1, .int (iI (x1 + 1)))]) [2, 0] rfl ?_
          exact ih (x1 + 1) N25 q No hm hr31 kx
        · have hm := if_f c30 hm
          refine nv_aload_n hC d_Water_endMinute_113 rfl 1 rfl ?_
          refine nv_getR hC (j := 7) hp0.1 rfl in_Water (by decide) k_109 rfl d_Water_endMinute_114 ?_
          refine nv_iload_n hC d_Water_endMinute_117 rfl 2 rfl ?_
          refine nv_dup2_11 hC d_Water_endMinute_118 rfl rfl ?_
          refine nv_iald hC (isW_tepid hp0) (by decide) hc16 d_Water_endMinute_119 ?_
          refine nv_iconst hC d_Water_endMinute_120 ?_
          refine nv_iadd hC d_Water_endMinute_121 ?_
          obtain ⟨N32, e33, hm⟩ := nlt_s hm
          refine nv_iast hC (isW_tepid hp0) (by decide) hc16 e33 d_Water_endMinute_122 ?_
          refine nv_iinc (lv' := [(1, .int (iI (x1 + 1))), (2, .int (iI r24)), (0, .ref (ad w0))]) hC d_Water_endMinute_123 2 rfl (by decide) rfl ?_
          refine nv_goto hC d_Water_endMinute_126 (tgt := 47) (by decide) ?_
          obtain ⟨hr34, hm⟩ := ck_s hm
          refine nv_sub (lv' := [(0, .ref (ad w0)), (1, .int (iI (x1 + 1)))]) [2, 0] rfl ?_
          exact ih (x1 + 1) N32 q No hm hr34 kx
set_option maxRecDepth 100000 in
set_option maxHeartbeats 4000000 in
theorem c_Water_endMinute (l : Launch) {D : va_G} {ct : Nat → ClassId} {A : Nat → Prop} {ad : Nat → Nat} {S : nH} (hD : nD ad A S.length) (w0 nn0 : Nat) (hp0 : isW S w0 nn0) (N : nS) (r : Int) (No : nS) (hm : m_Water_endMinute w0 nn0 N = some (r, No)) : nM l y_Water_endMinute (Cond.code y_Water_endMinute b_Water_endMinute 3 none :: TT) rm_Water_endMinute D vwCl ct A ad S N [.ref (ad w0)] (nQv D vwCl ct A ad S No) := by
  refine nM_of (cc := b_Water_endMinute) (maxL := 3) (ret := none) (by decide) rfl (Nat.le_of_ble_eq_true rfl) hD ?_
  intro p e s m below meth c hC hr hlk
  refine nv_lv (lv' := [(0, .ref (ad w0))]) rfl ?_
  rw [m_Water_endMinute] at hm
  refine nv_iconst hC d_Water_endMinute_0 ?_
  refine nv_istore_n (lv' := [(1, .int (iI 0)), (0, .ref (ad w0))]) hC d_Water_endMinute_1 rfl (by decide) rfl ?_
  obtain ⟨q11, N12, hq13, hm⟩ := nbd_s hm
  refine nv_sub (lv' := [(0, .ref (ad w0)), (1, .int (iI 0))]) [1, 0] rfl ?_
  refine w_Water_endMinute_2 hC w0 nn0 hp0 FU 0 N q11 N12 hq13 ⟨by decide, by decide⟩ ?_
  refine nv_iconst hC d_Water_endMinute_45 ?_
  refine nv_istore_n (lv' := [(1, .int (iI 0)), (0, .ref (ad w0))]) hC d_Water_endMinute_46 rfl (by decide) rfl ?_
  obtain ⟨q35, N36, hq37, hm⟩ := nbd_s hm
  refine nv_sub (lv' := [(0, .ref (ad w0)), (1, .int (iI 0))]) [1, 0] rfl ?_
  refine w_Water_endMinute_47 hC w0 nn0 hp0 FU 0 N12 q35 N36 hq37 ⟨by decide, by decide⟩ ?_
  refine nv_aload_n hC d_Water_endMinute_129 rfl 0 rfl ?_
  refine nv_dup hC d_Water_endMinute_130 rfl ?_
  refine nv_getI hC (j := 8) hp0.1 rfl in_Water (by decide) k_66 rfl d_Water_endMinute_131 ?_
  refine nv_iconst hC d_Water_endMinute_134 ?_
  refine nv_iadd hC d_Water_endMinute_135 ?_
  obtain ⟨N38, e39, hm⟩ := nlt_s hm
  refine nv_putI hC (j := 8) hp0.1 rfl in_Water (by decide) ty_Water tyok_Water nm_Water k_66 rfl rfl (by decide +kernel) e39 d_Water_endMinute_136 ?_
  obtain ⟨rfl, rfl⟩ := ret_s hm
  exact nv_vret hC hr hlk d_Water_endMinute_139
def m_Water_minutesSinceFlow (w0 nn0 : Nat) (x1 : Int) (N : nS) : Option (Int × nS) :=
  if 0 ≤ x1 ∧ x1 < ((10 : Nat) : Int) then
  some ((((N w0 8) - 1) - (N (w0 + 12) (Int.toNat x1))), N)
  else none
abbrev rm_Water_minutesSinceFlow : Room := { frames := 0, cells := 0, slots := 0, locals := 0 }
set_option maxRecDepth 100000 in
set_option maxHeartbeats 4000000 in
theorem c_Water_minutesSinceFlow (l : Launch) {D : va_G} {ct : Nat → ClassId} {A : Nat → Prop} {ad : Nat → Nat} {S : nH} (hD : nD ad A S.length) (w0 nn0 : Nat) (hp0 : isW S w0 nn0) (x1 : Int) (hx1 : rg x1) (N : nS) (r : Int) (No : nS) (hm : m_Water_minutesSinceFlow w0 nn0 x1 N = some (r, No)) : nM l y_Water_minutesSinceFlow (Cond.code y_Water_minutesSinceFlow b_Water_minutesSinceFlow 2 (some .int) :: TT) rm_Water_minutesSinceFlow D vwCl ct A ad S N [.ref (ad w0), .int (iI x1)] (nQi D vwCl ct A ad S r No) := by
  refine nM_of (cc := b_Water_minutesSinceFlow) (maxL := 2) (ret := (some .int)) (by decide) rfl (Nat.le_of_ble_eq_true rfl) hD ?_
  intro p e s m below meth c hC hr hlk
  refine nv_lv (lv' := [(0, .ref (ad w0)), (1, .int (iI x1))]) rfl ?_
  rw [m_Water_minutesSinceFlow] at hm
  refine nv_aload_n hC d_Water_minutesSinceFlow_0 rfl 0 rfl ?_
  refine nv_getI hC (j := 8) hp0.1 rfl in_Water (by decide) k_66 rfl d_Water_minutesSinceFlow_1 ?_
  refine nv_iconst hC d_Water_minutesSinceFlow_4 ?_
  refine nv_isub hC d_Water_minutesSinceFlow_5 ?_
  refine nv_aload_n hC d_Water_minutesSinceFlow_6 rfl 0 rfl ?_
  refine nv_getR hC (j := 6) hp0.1 rfl in_Water (by decide) k_86 rfl d_Water_minutesSinceFlow_7 ?_
  refine nv_iload_n hC d_Water_minutesSinceFlow_10 rfl 1 rfl ?_
  obtain ⟨hc1, hm⟩ := ck_s hm
  refine nv_iald hC (isW_flow hp0) (by decide) hc1 d_Water_minutesSinceFlow_11 ?_
  refine nv_isub hC d_Water_minutesSinceFlow_12 ?_
  obtain ⟨rfl, rfl⟩ := ret_s hm
  exact nv_iret hC hr hlk d_Water_minutesSinceFlow_13
def m_Water_stoodStill (w0 nn0 : Nat) (x1 : Int) (x2 : Int) (N : nS) : Option (Int × nS) :=
  if 0 ≤ x1 ∧ x1 < ((10 : Nat) : Int) then
  if rg (N (w0 + 12) (Int.toNat x1)) then
  if (N (w0 + 12) (Int.toNat x1)) = (-1) then
  some (1, N)
  else
  nbd (m_Water_minutesSinceFlow w0 nn0 x1 N) (fun r4 N5 =>
  if rg r4 then
  if r4 < x2 then
  some (0, N5)
  else
  some (1, N5)
  else none)
  else none
  else none
set_option maxRecDepth 20000 in
theorem k_110 : Cond.methodLink R_Water 124 y_Water_minutesSinceFlow ∈ TT := tt_i 487 (by decide +kernel) (by decide +kernel)
set_option maxRecDepth 20000 in
theorem k_111 : Cond.code y_Water_minutesSinceFlow b_Water_minutesSinceFlow 2 (some .int) ∈ TT := tt_i 475 (by decide +kernel) (by decide +kernel)
set_option maxRecDepth 20000 in
theorem k_112 : Cond.instanceMethod y_Water_minutesSinceFlow ∈ TT := tt_i 473 (by decide +kernel) (by decide +kernel)
set_option maxRecDepth 20000 in
theorem k_113 : Cond.selects R_Water y_Water_minutesSinceFlow y_Water_minutesSinceFlow ∈ TT := tt_i 474 (by decide +kernel) (by decide +kernel)
abbrev rm_Water_stoodStill : Room := { frames := 1, cells := 0, slots := 0, locals := 21 }
set_option maxRecDepth 100000 in
set_option maxHeartbeats 4000000 in
theorem c_Water_stoodStill (l : Launch) {D : va_G} {ct : Nat → ClassId} {A : Nat → Prop} {ad : Nat → Nat} {S : nH} (hD : nD ad A S.length) (w0 nn0 : Nat) (hp0 : isW S w0 nn0) (x1 : Int) (hx1 : rg x1) (x2 : Int) (hx2 : rg x2) (N : nS) (r : Int) (No : nS) (hm : m_Water_stoodStill w0 nn0 x1 x2 N = some (r, No)) : nM l y_Water_stoodStill (Cond.code y_Water_stoodStill b_Water_stoodStill 3 (some .boolean) :: TT) rm_Water_stoodStill D vwCl ct A ad S N [.ref (ad w0), .int (iI x1), .int (iI x2)] (nQi D vwCl ct A ad S r No) := by
  refine nM_of (cc := b_Water_stoodStill) (maxL := 3) (ret := (some .boolean)) (by decide) rfl (Nat.le_of_ble_eq_true rfl) hD ?_
  intro p e s m below meth c hC hr hlk
  refine nv_lv (lv' := [(0, .ref (ad w0)), (1, .int (iI x1)), (2, .int (iI x2))]) rfl ?_
  rw [m_Water_stoodStill] at hm
  refine nv_aload_n hC d_Water_stoodStill_0 rfl 0 rfl ?_
  refine nv_getR hC (j := 6) hp0.1 rfl in_Water (by decide) k_86 rfl d_Water_stoodStill_1 ?_
  refine nv_iload_n hC d_Water_stoodStill_4 rfl 1 rfl ?_
  obtain ⟨hc1, hm⟩ := ck_s hm
  refine nv_iald hC (isW_flow hp0) (by decide) hc1 d_Water_stoodStill_5 ?_
  refine nv_iconst hC d_Water_stoodStill_6 ?_
  obtain ⟨hr2, hm⟩ := ck_s hm
  refine nv_icmp_eq hC hr2 ⟨by decide, by decide⟩ d_Water_stoodStill_7 (tgt := 19) (by decide) (fun c3 => ?_) (fun c3 => ?_)
  · have hm := if_t c3 hm
    refine nv_iconst hC d_Water_stoodStill_19 ?_
    refine nv_goto hC d_Water_stoodStill_20 (tgt := 24) (by decide) ?_
    obtain ⟨rfl, rfl⟩ := ret_s hm
    exact nv_zret hC hr hlk (Or.inr rfl) d_Water_stoodStill_24
  · have hm := if_f c3 hm
    refine nv_aload_n hC d_Water_stoodStill_10 rfl 0 rfl ?_
    refine nv_iload_n hC d_Water_stoodStill_11 rfl 1 rfl ?_
    obtain ⟨r4, N5, hq6, hm⟩ := nbd_s hm
    refine nv_calli (x := r4) (N' := N5) (nr_V hC (As := [.int (iI x1)]) (st := []) hp0.1 rfl (c_Water_minutesSinceFlow l hC.2.2.1 w0 nn0 hp0 x1 hx1 N r4 N5 hq6) (cwV 1 hC.1.2.2.2.2 (tt_V k_110 k_112 k_113 k_71 k_111) rfl rfl rfl (by decide +kernel) ⟨Nat.le_of_ble_eq_true rfl, Nat.le_of_ble_eq_true rfl⟩) rfl rfl (Nat.le_of_ble_eq_true rfl) ⟨(Nat.le_of_ble_eq_true rfl), (Nat.le_of_ble_eq_true rfl)⟩ d_Water_stoodStill_12) ?_
    refine nv_iload_n hC d_Water_stoodStill_15 rfl 2 rfl ?_
    obtain ⟨hr7, hm⟩ := ck_s hm
    refine nv_icmp_lt hC hr7 hx2 d_Water_stoodStill_16 (tgt := 23) (by decide) (fun c8 => ?_) (fun c8 => ?_)
    · have hm := if_t c8 hm
      refine nv_iconst hC d_Water_stoodStill_23 ?_
      obtain ⟨rfl, rfl⟩ := ret_s hm
      exact nv_zret hC hr hlk (Or.inl rfl) d_Water_stoodStill_24
    · have hm := if_f c8 hm
      refine nv_iconst hC d_Water_stoodStill_19 ?_
      refine nv_goto hC d_Water_stoodStill_20 (tgt := 24) (by decide) ?_
      obtain ⟨rfl, rfl⟩ := ret_s hm
      exact nv_zret hC hr hlk (Or.inr rfl) d_Water_stoodStill_24
def m_Water_volumeBefore_42 (w0 nn0 : Nat) (x1 : Int) (x2 : Int) (x4 : Int) (x5 : Int) (o6 cap6 : Nat) : Nat → Int → Int → nS → Option ((Int × Int × Int × Int) × nS)
  | 0, _, _, _ => none
  | f + 1, x3, x7, N =>
    if x7 < 0 then
    some ((0, 0, x3, x7), N)
    else
    if 0 ≤ x7 ∧ x7 < ((cap6 : Nat) : Int) then
    if rg (N (o6 + 2) (Int.toNat x7)) then
    if (N (o6 + 2) (Int.toNat x7)) < x2 then
    if rg (x3 + (N (o6 + 1) (Int.toNat x7))) then
    if rg (x7 + (-1)) then
    m_Water_volumeBefore_42 w0 nn0 x1 x2 x4 x5 o6 cap6 f (x3 + (N (o6 + 1) (Int.toNat x7))) (x7 + (-1)) N
    else none
    else none
    else
    some ((1, x3, x3, x7), N)
    else none
    else none
def m_Water_volumeBefore_12 (w0 nn0 : Nat) (x1 : Int) (x2 : Int) (x4 : Int) : Nat → Int → Int → nS → Option ((Int × Int × Int × Int) × nS)
  | 0, _, _, _ => none
  | f + 1, x3, x5, N =>
    if x4 ≤ x5 then
    some ((0, 0, x3, x5), N)
    else
    if 0 ≤ x5 ∧ x5 < ((10 : Nat) : Int) then
    if 0 ≤ (N (w0 + 11) (Int.toNat x5)) ∧ (N (w0 + 11) (Int.toNat x5)) < ((10 : Nat) : Int) then
    if rg ((N (w0 + 1 + 13 + 3 * (Int.toNat (N (w0 + 11) (Int.toNat x5)))) 2) - 1) then
    nbd (m_Water_volumeBefore_42 w0 nn0 x1 x2 x4 x5 (w0 + 1 + 13 + 3 * (Int.toNat (N (w0 + 11) (Int.toNat x5)))) 12 FU x3 ((N (w0 + 1 + 13 + 3 * (Int.toNat (N (w0 + 11) (Int.toNat x5)))) 2) - 1) N) (fun q14 N15 =>
    if q14.1 = 0 then
    if rg q14.2.2.1 then
    if rg (x5 + 1) then
    m_Water_volumeBefore_12 w0 nn0 x1 x2 x4 f q14.2.2.1 (x5 + 1) N15
    else none
    else none
    else
    some ((1, q14.2.1, 0, 0), N15))
    else none
    else none
    else none
def m_Water_volumeBefore (w0 nn0 : Nat) (x1 : Int) (x2 : Int) (N : nS) : Option (Int × nS) :=
  nbd (m_Water_findWay w0 nn0 x1 N) (fun r1 N2 =>
  if rg r1 then
  nbd (m_Water_volumeBefore_12 w0 nn0 x1 x2 r1 FU 0 0 N2) (fun q21 N22 =>
  if q21.1 = 0 then
  if rg (N22 w0 9) then
  if (N22 w0 9) < x2 then
  some ((-1), N22)
  else
  some (q21.2.2.1, N22)
  else none
  else
  some (q21.2.1, N22))
  else none)
set_option maxRecDepth 20000 in
theorem k_114 : Cond.fieldLink R_Water 127 (T_Plugs 2).1 (T_Plugs 2).2.1 (T_Plugs 2).2.2.1 ∈ TT := tt_i 102 (by decide +kernel) (by decide +kernel)
set_option maxRecDepth 20000 in
theorem k_115 : Cond.fieldLink R_Water 128 (T_Plugs 1).1 (T_Plugs 1).2.1 (T_Plugs 1).2.2.1 ∈ TT := tt_i 99 (by decide +kernel) (by decide +kernel)
set_option maxRecDepth 20000 in
theorem k_116 : Cond.fieldLink R_Water 131 (T_Plugs 0).1 (T_Plugs 0).2.1 (T_Plugs 0).2.2.1 ∈ TT := tt_i 96 (by decide +kernel) (by decide +kernel)
abbrev rm_Water_volumeBefore : Room := { frames := 1, cells := 0, slots := 0, locals := 23 }
set_option maxRecDepth 100000 in
set_option maxHeartbeats 4000000 in
theorem w_Water_volumeBefore_42 {p : Program} {l : Launch} {e : Env} {s : State} {m : MethodId} {args : Array Value} {below : List Frame} {meth : Method} {c : Code} {Q : State → Prop} {D : va_G} {ct : Nat → ClassId} {A : Nat → Prop} {ad : Nat → Nat} {S : nH} (hC : nC p s m args c D vwCl ct A ad S 8 b_Water_volumeBefore R_Water TT) (w0 nn0 : Nat) (hp0 : isW S w0 nn0) (x1 : Int) (hx1 : rg x1) (x2 : Int) (hx2 : rg x2) (x4 : Int) (hx4 : rg x4) (x5 : Int) (hx5 : rg x5) (o6 cap6 : Nat) (hp6 : isP S o6 cap6) : ∀ (f : Nat) (x3 x7 : Int) (N : nS) (q : Int × Int × Int × Int) (No : nS), m_Water_volumeBefore_42 w0 nn0 x1 x2 x4 x5 o6 cap6 f x3 x7 N = some (q, No) → rg x3 → rg x7 → (q.1 = 0 → nV p l e rm_Water_volumeBefore s m args below meth c 0 0 Q D vwCl ct A ad S 8 No 78 [(0, .ref (ad w0)), (1, .int (iI x1)), (2, .int (iI x2)), (3, .int (iI q.2.2.1)), (4, .int (iI x4)), (5, .int (iI x5)), (6, .ref (ad o6)), (7, .int (iI q.2.2.2))] []) → (q.1 = 1 → nV p l e rm_Water_volumeBefore s m args below meth c 0 0 Q D vwCl ct A ad S 8 No 60 [] [.int (iI q.2.1)]) → nV p l e rm_Water_volumeBefore s m args below meth c 0 0 Q D vwCl ct A ad S 8 N 42 [(0, .ref (ad w0)), (1, .int (iI x1)), (2, .int (iI x2)), (3, .int (iI x3)), (4, .int (iI x4)), (5, .int (iI x5)), (6, .ref (ad o6)), (7, .int (iI x7))] [] := by
  intro f
  induction f with
  | zero =>
    intro x3 x7 N q No hm
    rw [m_Water_volumeBefore_42] at hm
    cases hm
  | succ f ih =>
    intro x3 x7 N q No hm hx3 hx7 kx kr
    rw [m_Water_volumeBefore_42] at hm
    refine nv_iload hC d_Water_volumeBefore_42 7 rfl ?_
    refine nv_if_lt hC hx7 d_Water_volumeBefore_44 (tgt := 78) (by decide) (fun c7 => ?_) (fun c7 => ?_)
    · have hm := if_t c7 hm
      obtain ⟨rfl, rfl⟩ := ret_s hm
      refine nv_sub (lv' := [(0, .ref (ad w0)), (1, .int (iI x1)), (2, .int (iI x2)), (3, .int (iI x3)), (4, .int (iI x4)), (5, .int (iI x5)), (6, .ref (ad o6)), (7, .int (iI x7))]) [0, 1, 2, 3, 4, 5, 6, 7] rfl ?_
      exact kx rfl
    · have hm := if_f c7 hm
      refine nv_aload hC d_Water_volumeBefore_47 6 rfl ?_
      refine nv_getR hC (j := 1) hp6.1 rfl in_Plugs (by decide) k_115 rfl d_Water_volumeBefore_49 ?_
      refine nv_iload hC d_Water_volumeBefore_52 7 rfl ?_
      obtain ⟨hc8, hm⟩ := ck_s hm
      refine nv_iald hC hp6.2.2.1 hp6.2.2.2 hc8 d_Water_volumeBefore_54 ?_
      refine nv_iload_n hC d_Water_volumeBefore_55 rfl 2 rfl ?_
      obtain ⟨hr9, hm⟩ := ck_s hm
      refine nv_icmp_lt hC hr9 hx2 d_Water_volumeBefore_56 (tgt := 61) (by decide) (fun c10 => ?_) (fun c10 => ?_)
      · have hm := if_t c10 hm
        refine nv_iload_n hC d_Water_volumeBefore_61 rfl 3 rfl ?_
        refine nv_aload hC d_Water_volumeBefore_62 6 rfl ?_
        refine nv_getR hC (j := 0) hp6.1 rfl in_Plugs (by decide) k_116 rfl d_Water_volumeBefore_64 ?_
        refine nv_iload hC d_Water_volumeBefore_67 7 rfl ?_
        refine nv_iald hC hp6.2.1 hp6.2.2.2 hc8 d_Water_volumeBefore_69 ?_
        refine nv_iadd hC d_Water_volumeBefore_70 ?_
        refine nv_istore_n (lv' := [(3, .int (iI (x3 + (N (o6 + 1) (Int.toNat x7))))), (0, .ref (ad w0)), (1, .int (iI x1)), (2, .int (iI x2)), (4, .int (iI x4)), (5, .int (iI x5)), (6, .ref (ad o6)), (7, .int (iI x7))]) hC d_Water_volumeBefore_71 rfl (by decide) rfl ?_
        refine nv_iinc (lv' := [(7, .int (iI (x7 + (-1)))), (3, .int (iI (x3 + (N (o6 + 1) (Int.toNat x7))))), (0, .ref (ad w0)), (1, .int (iI x1)), (2, .int (iI x2)), (4, .int (iI x4)), (5, .int (iI x5)), (6, .ref (ad o6))]) hC d_Water_volumeBefore_72 7 rfl (by decide) rfl ?_
        refine nv_goto hC d_Water_volumeBefore_75 (tgt := 42) (by decide) ?_
        obtain ⟨hr11, hm⟩ := ck_s hm
        obtain ⟨hr12, hm⟩ := ck_s hm
        refine nv_sub (lv' := [(0, .ref (ad w0)), (1, .int (iI x1)), (2, .int (iI x2)), (3, .int (iI (x3 + (N (o6 + 1) (Int.toNat x7))))), (4, .int (iI x4)), (5, .int (iI x5)), (6, .ref (ad o6)), (7, .int (iI (x7 + (-1))))]) [2, 3, 4, 1, 5, 6, 7, 0] rfl ?_
        exact ih (x3 + (N (o6 + 1) (Int.toNat x7))) (x7 + (-1)) N q No hm hr11 hr12 kx kr
      · have hm := if_f c10 hm
        refine nv_iload_n hC d_Water_volumeBefore_59 rfl 3 rfl ?_
        obtain ⟨rfl, rfl⟩ := ret_s hm
        refine nv_sub (lv' := []) [] rfl ?_
        exact kr rfl
set_option maxRecDepth 100000 in
set_option maxHeartbeats 4000000 in
theorem w_Water_volumeBefore_12 {p : Program} {l : Launch} {e : Env} {s : State} {m : MethodId} {args : Array Value} {below : List Frame} {meth : Method} {c : Code} {Q : State → Prop} {D : va_G} {ct : Nat → ClassId} {A : Nat → Prop} {ad : Nat → Nat} {S : nH} (hC : nC p s m args c D vwCl ct A ad S 8 b_Water_volumeBefore R_Water TT) (w0 nn0 : Nat) (hp0 : isW S w0 nn0) (x1 : Int) (hx1 : rg x1) (x2 : Int) (hx2 : rg x2) (x4 : Int) (hx4 : rg x4) : ∀ (f : Nat) (x3 x5 : Int) (N : nS) (q : Int × Int × Int × Int) (No : nS), m_Water_volumeBefore_12 w0 nn0 x1 x2 x4 f x3 x5 N = some (q, No) → rg x3 → rg x5 → (q.1 = 0 → nV p l e rm_Water_volumeBefore s m args below meth c 0 0 Q D vwCl ct A ad S 8 No 84 [(0, .ref (ad w0)), (1, .int (iI x1)), (2, .int (iI x2)), (3, .int (iI q.2.2.1)), (4, .int (iI x4)), (5, .int (iI q.2.2.2))] []) → (q.1 = 1 → nV p l e rm_Water_volumeBefore s m args below meth c 0 0 Q D vwCl ct A ad S 8 No 60 [] [.int (iI q.2.1)]) → nV p l e rm_Water_volumeBefore s m args below meth c 0 0 Q D vwCl ct A ad S 8 N 12 [(0, .ref (ad w0)), (1, .int (iI x1)), (2, .int (iI x2)), (3, .int (iI x3)), (4, .int (iI x4)), (5, .int (iI x5))] [] := by
  intro f
  induction f with
  | zero =>
    intro x3 x5 N q No hm
    rw [m_Water_volumeBefore_12] at hm
    cases hm
  | succ f ih =>
    intro x3 x5 N q No hm hx3 hx5 kx kr
    rw [m_Water_volumeBefore_12] at hm
    refine nv_iload hC d_Water_volumeBefore_12 5 rfl ?_
    refine nv_iload hC d_Water_volumeBefore_14 4 rfl ?_
    refine nv_icmp_ge hC hx5 hx4 d_Water_volumeBefore_16 (tgt := 84) (by decide) (fun c4 => ?_) (fun c4 => ?_)
    · have hm := if_t c4 hm
      obtain ⟨rfl, rfl⟩ := ret_s hm
      refine nv_sub (lv' := [(0, .ref (ad w0)), (1, .int (iI x1)), (2, .int (iI x2)), (3, .int (iI x3)), (4, .int (iI x4)), (5, .int (iI x5))]) [0, 1, 2, 3, 4, 5] rfl ?_
      exact kx rfl
    · have hm := if_f c4 hm
      refine nv_aload_n hC d_Water_volumeBefore_19 rfl 0 rfl ?_
      refine nv_getR hC (j := 1) hp0.1 rfl in_Water (by decide) k_56 rfl d_Water_volumeBefore_20 ?_
      refine nv_aload_n hC d_Water_volumeBefore_23 rfl 0 rfl ?_
      refine nv_getR hC (j := 5) hp0.1 rfl in_Water (by decide) k_72 rfl d_Water_volumeBefore_24 ?_
      refine nv_iload hC d_Water_volumeBefore_27 5 rfl ?_
      obtain ⟨hc5, hm⟩ := ck_s hm
      refine nv_iald hC (isW_way hp0) (by decide) hc5 d_Water_volumeBefore_29 ?_
      obtain ⟨hc6, hm⟩ := ck_s hm
      refine nv_aald hC (isW_rows hp0) (by decide) hc6 rfl d_Water_volumeBefore_30 ?_
      refine nv_astore (lv' := [(6, .ref (ad (w0 + 1 + 13 + 3 * (Int.toNat (N (w0 + 11) (Int.toNat x5)))))), (0, .ref (ad w0)), (1, .int (iI x1)), (2, .int (iI x2)), (3, .int (iI x3)), (4, .int (iI x4)), (5, .int (iI x5))]) hC d_Water_volumeBefore_31 (by decide) rfl ?_
      refine nv_aload hC d_Water_volumeBefore_33 0 rfl ?_
      refine nv_getI hC (j := 2) (isW_row hp0 (tn_lt hc6)).1 rfl in_Plugs (by decide) k_114 rfl d_Water_volumeBefore_35 ?_
      refine nv_iconst hC d_Water_volumeBefore_38 ?_
      refine nv_isub hC d_Water_volumeBefore_39 ?_
      refine nv_istore (lv' := [(7, .int (iI ((N (w0 + 1 + 13 + 3 * (Int.toNat (N (w0 + 11) (Int.toNat x5)))) 2) - 1))), (6, .ref (ad (w0 + 1 + 13 + 3 * (Int.toNat (N (w0 + 11) (Int.toNat x5)))))), (0, .ref (ad w0)), (1, .int (iI x1)), (2, .int (iI x2)), (3, .int (iI x3)), (4, .int (iI x4)), (5, .int (iI x5))]) hC d_Water_volumeBefore_40 (by decide) rfl ?_
      obtain ⟨hr13, hm⟩ := ck_s hm
      obtain ⟨q14, N15, hq16, hm⟩ := nbd_s hm
      refine nv_sub (lv' := [(0, .ref (ad w0)), (1, .int (iI x1)), (2, .int (iI x2)), (3, .int (iI x3)), (4, .int (iI x4)), (5, .int (iI x5)), (6, .ref (ad (w0 + 1 + 13 + 3 * (Int.toNat (N (w0 + 11) (Int.toNat x5)))))), (7, .int (iI ((N (w0 + 1 + 13 + 3 * (Int.toNat (N (w0 + 11) (Int.toNat x5)))) 2) - 1)))]) [2, 3, 4, 5, 6, 7, 1, 0] rfl ?_
      by_cases c17 : q14.1 = 0
      · have hm := if_t c17 hm
        refine w_Water_volumeBefore_42 hC w0 nn0 hp0 x1 hx1 x2 hx2 x4 hx4 x5 hx5 (w0 + 1 + 13 + 3 * (Int.toNat (N (w0 + 11) (Int.toNat x5)))) 12 (isW_row hp0 (tn_lt hc6)) FU x3 ((N (w0 + 1 + 13 + 3 * (Int.toNat (N (w0 + 11) (Int.toNat x5)))) 2) - 1) N q14 N15 hq16 hx3 hr13 (fun _ => ?_) (fun h9 => absurd (c17.symm.trans h9) (by decide))
        refine nv_iinc (lv' := [(5, .int (iI (x5 + 1))), (0, .ref (ad w0)), (1, .int (iI x1)), (2, .int (iI x2)), (3, .int (iI q14.2.2.1)), (4, .int (iI x4)), (6, .ref (ad (w0 + 1 + 13 + 3 * (Int.toNat (N (w0 + 11) (Int.toNat x5)))))), (7, .int (iI q14.2.2.2))]) hC d_Water_volumeBefore_78 5 rfl (by decide) rfl ?_
        refine nv_goto hC d_Water_volumeBefore_81 (tgt := 12) (by decide) ?_
        obtain ⟨hr18, hm⟩ := ck_s hm
        obtain ⟨hr19, hm⟩ := ck_s hm
        refine nv_sub (lv' := [(0, .ref (ad w0)), (1, .int (iI x1)), (2, .int (iI x2)), (3, .int (iI q14.2.2.1)), (4, .int (iI x4)), (5, .int (iI (x5 + 1)))]) [1, 2, 3, 4, 5, 0] rfl ?_
        exact ih q14.2.2.1 (x5 + 1) N15 q No hm hr18 hr19 kx kr
      · have hm := if_f c17 hm
        refine w_Water_volumeBefore_42 hC w0 nn0 hp0 x1 hx1 x2 hx2 x4 hx4 x5 hx5 (w0 + 1 + 13 + 3 * (Int.toNat (N (w0 + 11) (Int.toNat x5)))) 12 (isW_row hp0 (tn_lt hc6)) FU x3 ((N (w0 + 1 + 13 + 3 * (Int.toNat (N (w0 + 11) (Int.toNat x5)))) 2) - 1) N q14 N15 hq16 hx3 hr13 (fun h9 => absurd h9 c17) (fun _ => ?_)
        obtain ⟨rfl, rfl⟩ := ret_s hm
        refine nv_sub (lv' := []) [] rfl ?_
        exact kr rfl
set_option maxRecDepth 100000 in
set_option maxHeartbeats 4000000 in
theorem c_Water_volumeBefore (l : Launch) {D : va_G} {ct : Nat → ClassId} {A : Nat → Prop} {ad : Nat → Nat} {S : nH} (hD : nD ad A S.length) (w0 nn0 : Nat) (hp0 : isW S w0 nn0) (x1 : Int) (hx1 : rg x1) (x2 : Int) (hx2 : rg x2) (N : nS) (r : Int) (No : nS) (hm : m_Water_volumeBefore w0 nn0 x1 x2 N = some (r, No)) : nM l y_Water_volumeBefore (Cond.code y_Water_volumeBefore b_Water_volumeBefore 8 (some .int) :: TT) rm_Water_volumeBefore D vwCl ct A ad S N [.ref (ad w0), .int (iI x1), .int (iI x2)] (nQi D vwCl ct A ad S r No) := by
  refine nM_of (cc := b_Water_volumeBefore) (maxL := 8) (ret := (some .int)) (by decide) rfl (Nat.le_of_ble_eq_true rfl) hD ?_
  intro p e s m below meth c hC hr hlk
  refine nv_lv (lv' := [(0, .ref (ad w0)), (1, .int (iI x1)), (2, .int (iI x2))]) rfl ?_
  rw [m_Water_volumeBefore] at hm
  refine nv_iconst hC d_Water_volumeBefore_0 ?_
  refine nv_istore_n (lv' := [(3, .int (iI 0)), (0, .ref (ad w0)), (1, .int (iI x1)), (2, .int (iI x2))]) hC d_Water_volumeBefore_1 rfl (by decide) rfl ?_
  refine nv_aload_n hC d_Water_volumeBefore_2 rfl 1 rfl ?_
  refine nv_iload_n hC d_Water_volumeBefore_3 rfl 2 rfl ?_
  obtain ⟨r1, N2, hq3, hm⟩ := nbd_s hm
  refine nv_calli (x := r1) (N' := N2) (nr_V hC (As := [.int (iI x1)]) (st := []) hp0.1 rfl (c_Water_findWay l hC.2.2.1 w0 nn0 hp0 x1 hx1 N r1 N2 hq3) (cwV 1 hC.1.2.2.2.2 (tt_V k_89 k_91 k_92 k_71 k_90) rfl rfl rfl (by decide +kernel) ⟨Nat.le_of_ble_eq_true rfl, Nat.le_of_ble_eq_true rfl⟩) rfl rfl (Nat.le_of_ble_eq_true rfl) ⟨(Nat.le_of_ble_eq_true rfl), (Nat.le_of_ble_eq_true rfl)⟩ d_Water_volumeBefore_4) ?_
  refine nv_istore (lv' := [(4, .int (iI r1)), (3, .int (iI 0)), (0, .ref (ad w0)), (1, .int (iI x1)), (2, .int (iI x2))]) hC d_Water_volumeBefore_7 (by decide) rfl ?_
  refine nv_iconst hC d_Water_volumeBefore_9 ?_
  refine nv_istore (lv' := [(5, .int (iI 0)), (4, .int (iI r1)), (3, .int (iI 0)), (0, .ref (ad w0)), (1, .int (iI x1)), (2, .int (iI x2))]) hC d_Water_volumeBefore_10 (by decide) rfl ?_
  obtain ⟨hr20, hm⟩ := ck_s hm
  obtain ⟨q21, N22, hq23, hm⟩ := nbd_s hm
  refine nv_sub (lv' := [(0, .ref (ad w0)), (1, .int (iI x1)), (2, .int (iI x2)), (3, .int (iI 0)), (4, .int (iI r1)), (5, .int (iI 0))]) [3, 4, 5, 2, 1, 0] rfl ?_
  by_cases c24 : q21.1 = 0
  · have hm := if_t c24 hm
    refine w_Water_volumeBefore_12 hC w0 nn0 hp0 x1 hx1 x2 hx2 r1 hr20 FU 0 0 N2 q21 N22 hq23 ⟨by decide, by decide⟩ ⟨by decide, by decide⟩ (fun _ => ?_) (fun h9 => absurd (c24.symm.trans h9) (by decide))
    refine nv_aload_n hC d_Water_volumeBefore_84 rfl 0 rfl ?_
    refine nv_getI hC (j := 9) hp0.1 rfl in_Water (by decide) k_63 rfl d_Water_volumeBefore_85 ?_
    refine nv_iload_n hC d_Water_volumeBefore_88 rfl 2 rfl ?_
    obtain ⟨hr25, hm⟩ := ck_s hm
    refine nv_icmp_lt hC hr25 hx2 d_Water_volumeBefore_89 (tgt := 96) (by decide) (fun c26 => ?_) (fun c26 => ?_)
    · have hm := if_t c26 hm
      refine nv_iconst hC d_Water_volumeBefore_96 ?_
      obtain ⟨rfl, rfl⟩ := ret_s hm
      exact nv_iret hC hr hlk d_Water_volumeBefore_97
    · have hm := if_f c26 hm
      refine nv_iload_n hC d_Water_volumeBefore_92 rfl 3 rfl ?_
      refine nv_goto hC d_Water_volumeBefore_93 (tgt := 97) (by decide) ?_
      obtain ⟨rfl, rfl⟩ := ret_s hm
      exact nv_iret hC hr hlk d_Water_volumeBefore_97
  · have hm := if_f c24 hm
    refine w_Water_volumeBefore_12 hC w0 nn0 hp0 x1 hx1 x2 hx2 r1 hr20 FU 0 0 N2 q21 N22 hq23 ⟨by decide, by decide⟩ ⟨by decide, by decide⟩ (fun h9 => absurd h9 c24) (fun _ => ?_)
    obtain ⟨rfl, rfl⟩ := ret_s hm
    exact nv_iret hC hr hlk d_Water_volumeBefore_60
def m_Water_held_4 (w0 nn0 : Nat) : Nat → Int → Int → nS → Option ((Int × Int) × nS)
  | 0, _, _, _ => none
  | f + 1, x1, x3, N =>
    if rg (N nn0 5) then
    if (N nn0 5) ≤ x3 then
    some ((x1, x3), N)
    else
    if 0 ≤ x3 ∧ x3 < ((10 : Nat) : Int) then
    nbd (m_Plugs_volumeTimesWarmth (w0 + 1 + 13 + 3 * (Int.toNat x3)) 12 N) (fun r4 N5 =>
    if rg (x3 + 1) then
    m_Water_held_4 w0 nn0 f (x1 + r4) (x3 + 1) N5
    else none)
    else none
    else none
def m_Water_held (w0 nn0 : Nat) (N : nS) : Option (Int × nS) :=
  nbd (m_Water_held_4 w0 nn0 FU 0 0 N) (fun q8 N9 =>
  some (q8.1, N9))
abbrev rm_Water_held : Room := { frames := 1, cells := 0, slots := 0, locals := 23 }
set_option maxRecDepth 100000 in
set_option maxHeartbeats 4000000 in
theorem w_Water_held_4 {p : Program} {l : Launch} {e : Env} {s : State} {m : MethodId} {args : Array Value} {below : List Frame} {meth : Method} {c : Code} {Q : State → Prop} {D : va_G} {ct : Nat → ClassId} {A : Nat → Prop} {ad : Nat → Nat} {S : nH} (hC : nC p s m args c D vwCl ct A ad S 4 b_Water_held R_Water TT) (w0 nn0 : Nat) (hp0 : isW S w0 nn0) : ∀ (f : Nat) (x1 x3 : Int) (N : nS) (q : Int × Int) (No : nS), m_Water_held_4 w0 nn0 f x1 x3 N = some (q, No) → rg x3 → nV p l e rm_Water_held s m args below meth c 0 0 Q D vwCl ct A ad S 4 No 33 [(0, .ref (ad w0)), (1, .long (lI q.1)), (3, .int (iI q.2))] [] → nV p l e rm_Water_held s m args below meth c 0 0 Q D vwCl ct A ad S 4 N 4 [(0, .ref (ad w0)), (1, .long (lI x1)), (3, .int (iI x3))] [] := by
  intro f
  induction f with
  | zero =>
    intro x1 x3 N q No hm
    rw [m_Water_held_4] at hm
    cases hm
  | succ f ih =>
    intro x1 x3 N q No hm hx3 kx
    rw [m_Water_held_4] at hm
    refine nv_iload_n hC d_Water_held_4 rfl 2 rfl ?_
    refine nv_aload_n hC d_Water_held_5 rfl 0 rfl ?_
    refine nv_getA hC (j := 0) hp0.1 rfl in_Water (by decide) k_54 rfl d_Water_held_6 ?_
    refine nv_getI hC (j := 5) (isW_net hp0).1 rfl in_Net (by decide) k_55 rfl d_Water_held_9 ?_
    obtain ⟨hr1, hm⟩ := ck_s hm
    refine nv_icmp_ge hC hx3 hr1 d_Water_held_12 (tgt := 33) (by decide) (fun c2 => ?_) (fun c2 => ?_)
    · have hm := if_t c2 hm
      obtain ⟨rfl, rfl⟩ := ret_s hm
      refine nv_sub (lv' := [(0, .ref (ad w0)), (1, .long (lI x1)), (3, .int (iI x3))]) [0, 1, 2] rfl ?_
      exact kx
    · have hm := if_f c2 hm
      refine nv_lload_n hC d_Water_held_15 rfl 1 rfl ?_
      refine nv_aload_n hC d_Water_held_16 rfl 0 rfl ?_
      refine nv_getR hC (j := 1) hp0.1 rfl in_Water (by decide) k_56 rfl d_Water_held_17 ?_
      refine nv_iload_n hC d_Water_held_20 rfl 2 rfl ?_
      obtain ⟨hc3, hm⟩ := ck_s hm
      refine nv_aald hC (isW_rows hp0) (by decide) hc3 rfl d_Water_held_21 ?_
      obtain ⟨r4, N5, hq6, hm⟩ := nbd_s hm
      refine nv_calll (x := r4) (N' := N5) (nr_V hC (As := []) (st := [.long (lI x1)]) (isW_row hp0 (tn_lt hc3)).1 rfl (c_Plugs_volumeTimesWarmth l hC.2.2.1 (w0 + 1 + 13 + 3 * (Int.toNat x3)) 12 (isW_row hp0 (tn_lt hc3)) N r4 N5 hq6) (cwV 0 hC.1.2.2.2.2 (tt_V k_88 k_41 k_42 k_7 k_40) rfl rfl rfl (by decide +kernel) ⟨Nat.le_of_ble_eq_true rfl, Nat.le_of_ble_eq_true rfl⟩) rfl rfl (Nat.le_of_ble_eq_true rfl) ⟨(Nat.le_of_ble_eq_true rfl), (Nat.le_of_ble_eq_true rfl)⟩ d_Water_held_22) ?_
      refine nv_ladd hC d_Water_held_25 ?_
      refine nv_lstore_n (lv' := [(1, .long (lI (x1 + r4))), (0, .ref (ad w0)), (3, .int (iI x3))]) hC d_Water_held_26 rfl (by decide) rfl ?_
      refine nv_iinc (lv' := [(3, .int (iI (x3 + 1))), (1, .long (lI (x1 + r4))), (0, .ref (ad w0))]) hC d_Water_held_27 2 rfl (by decide) rfl ?_
      refine nv_goto hC d_Water_held_30 (tgt := 4) (by decide) ?_
      obtain ⟨hr7, hm⟩ := ck_s hm
      refine nv_sub (lv' := [(0, .ref (ad w0)), (1, .long (lI (x1 + r4))), (3, .int (iI (x3 + 1)))]) [2, 1, 0] rfl ?_
      exact ih (x1 + r4) (x3 + 1) N5 q No hm hr7 kx
set_option maxRecDepth 100000 in
set_option maxHeartbeats 4000000 in
theorem c_Water_held (l : Launch) {D : va_G} {ct : Nat → ClassId} {A : Nat → Prop} {ad : Nat → Nat} {S : nH} (hD : nD ad A S.length) (w0 nn0 : Nat) (hp0 : isW S w0 nn0) (N : nS) (r : Int) (No : nS) (hm : m_Water_held w0 nn0 N = some (r, No)) : nM l y_Water_held (Cond.code y_Water_held b_Water_held 4 (some .long) :: TT) rm_Water_held D vwCl ct A ad S N [.ref (ad w0)] (nQl D vwCl ct A ad S r No) := by
  refine nM_of (cc := b_Water_held) (maxL := 4) (ret := (some .long)) (by decide) rfl (Nat.le_of_ble_eq_true rfl) hD ?_
  intro p e s m below meth c hC hr hlk
  refine nv_lv (lv' := [(0, .ref (ad w0))]) rfl ?_
  rw [m_Water_held] at hm
  refine nv_lconst hC (z := 0) d_Water_held_0 rfl ?_
  refine nv_lstore_n (lv' := [(1, .long (lI 0)), (0, .ref (ad w0))]) hC d_Water_held_1 rfl (by decide) rfl ?_
  refine nv_iconst hC d_Water_held_2 ?_
  refine nv_istore_n (lv' := [(3, .int (iI 0)), (1, .long (lI 0)), (0, .ref (ad w0))]) hC d_Water_held_3 rfl (by decide) rfl ?_
  obtain ⟨q8, N9, hq10, hm⟩ := nbd_s hm
  refine nv_sub (lv' := [(0, .ref (ad w0)), (1, .long (lI 0)), (3, .int (iI 0))]) [2, 1, 0] rfl ?_
  refine w_Water_held_4 hC w0 nn0 hp0 FU 0 0 N q8 N9 hq10 ⟨by decide, by decide⟩ ?_
  refine nv_lload_n hC d_Water_held_33 rfl 1 rfl ?_
  obtain ⟨rfl, rfl⟩ := ret_s hm
  exact nv_lret hC hr hlk d_Water_held_34
