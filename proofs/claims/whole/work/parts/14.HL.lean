def m_HL_takeDraws_2 (h0 : Nat) : Nat → Int → nS → Option ((Int) × nS)
  | 0, _, _ => none
  | f + 1, x1, N =>
    if rg (N (h0 + 95) 6) then
    if (N (h0 + 95) 6) ≤ x1 then
    some (x1, N)
    else
    if 0 ≤ x1 ∧ x1 < ((60 : Nat) : Int) then
    if rg (N ((h0 + 95) + 2) (Int.toNat x1)) then
    if rg (N (h0 + 7) 8) then
    if (N ((h0 + 95) + 2) (Int.toNat x1)) = (N (h0 + 7) 8) then
    if rg (N ((h0 + 95) + 1) (Int.toNat x1)) then
    if rg (N ((h0 + 95) + 3) (Int.toNat x1)) then
    nbd (m_Water_takeOut (h0 + 7) (h0 + 1) (N ((h0 + 95) + 1) (Int.toNat x1)) (N ((h0 + 95) + 3) (Int.toNat x1)) N) (fun r10 N11 =>
    nbd (m_Draws_keepAnswer (h0 + 95) x1 ((h0 + 7) + 2) 121 N11) (fun r13 N14 =>
    if rg (x1 + 1) then
    m_HL_takeDraws_2 h0 f (x1 + 1) N14
    else none))
    else none
    else none
    else
    if rg (x1 + 1) then
    m_HL_takeDraws_2 h0 f (x1 + 1) N
    else none
    else none
    else none
    else none
    else none
def m_HL_takeDraws (h0 : Nat) (N : nS) : Option (Int × nS) :=
  nbd (m_HL_takeDraws_2 h0 FU 0 N) (fun q17 N18 =>
  some (0, N18))
set_option maxRecDepth 20000 in
theorem k_117 : Cond.fieldLink R_HL 31 (T_HL 3).1 (T_HL 3).2.1 (T_HL 3).2.2.1 ∈ TT := tt_i 198 (by decide +kernel) (by decide +kernel)
set_option maxRecDepth 20000 in
theorem k_118 : Cond.fieldLink R_HL 88 (T_Draws 6).1 (T_Draws 6).2.1 (T_Draws 6).2.2.1 ∈ TT := tt_i 179 (by decide +kernel) (by decide +kernel)
set_option maxRecDepth 20000 in
theorem k_119 : Cond.fieldLink R_HL 140 (T_Draws 1).1 (T_Draws 1).2.1 (T_Draws 1).2.2.1 ∈ TT := tt_i 169 (by decide +kernel) (by decide +kernel)
set_option maxRecDepth 20000 in
theorem k_120 : Cond.fieldLink R_HL 21 (T_HL 1).1 (T_HL 1).2.1 (T_HL 1).2.2.1 ∈ TT := tt_i 196 (by decide +kernel) (by decide +kernel)
set_option maxRecDepth 20000 in
theorem k_121 : Cond.fieldLink R_HL 58 (T_Water 8).1 (T_Water 8).2.1 (T_Water 8).2.2.1 ∈ TT := tt_i 121 (by decide +kernel) (by decide +kernel)
set_option maxRecDepth 20000 in
theorem k_122 : Cond.fieldLink R_HL 179 (T_Draws 0).1 (T_Draws 0).2.1 (T_Draws 0).2.2.1 ∈ TT := tt_i 167 (by decide +kernel) (by decide +kernel)
set_option maxRecDepth 20000 in
theorem k_123 : Cond.fieldLink R_HL 182 (T_Draws 2).1 (T_Draws 2).2.1 (T_Draws 2).2.2.1 ∈ TT := tt_i 171 (by decide +kernel) (by decide +kernel)
set_option maxRecDepth 20000 in
theorem k_124 : Cond.methodLink R_HL 183 y_Water_takeOut ∈ TT := tt_i 384 (by decide +kernel) (by decide +kernel)
set_option maxRecDepth 20000 in
theorem k_125 : Cond.fieldLink R_HL 187 (T_Water 2).1 (T_Water 2).2.1 (T_Water 2).2.2.1 ∈ TT := tt_i 114 (by decide +kernel) (by decide +kernel)
set_option maxRecDepth 20000 in
theorem k_126 : Cond.methodLink R_HL 191 y_Draws_keepAnswer ∈ TT := tt_i 428 (by decide +kernel) (by decide +kernel)
set_option maxRecDepth 20000 in
theorem k_127 : Cond.code y_Draws_keepAnswer b_Draws_keepAnswer 3 none ∈ TT := tt_i 431 (by decide +kernel) (by decide +kernel)
set_option maxRecDepth 20000 in
theorem k_128 : Cond.instanceMethod y_Draws_keepAnswer ∈ TT := tt_i 429 (by decide +kernel) (by decide +kernel)
set_option maxRecDepth 20000 in
theorem k_129 : Cond.selects R_Draws y_Draws_keepAnswer y_Draws_keepAnswer ∈ TT := tt_i 430 (by decide +kernel) (by decide +kernel)
set_option maxRecDepth 20000 in
theorem k_130 : Cond.initialized R_Draws ∈ TT := tt_i 28 (by decide +kernel) (by decide +kernel)
abbrev rm_HL_takeDraws : Room := { frames := 5, cells := 0, slots := 0, locals := 115 }
set_option maxRecDepth 100000 in
set_option maxHeartbeats 4000000 in
theorem w_HL_takeDraws_2 {p : Program} {l : Launch} {e : Env} {s : State} {m : MethodId} {args : Array Value} {below : List Frame} {meth : Method} {c : Code} {Q : State → Prop} {D : va_G} {ct : Nat → ClassId} {A : Nat → Prop} {ad : Nat → Nat} {S : nH} (hC : nC p s m args c D vwCl ct A ad S 2 b_HL_takeDraws R_HL TT) (h0 : Nat) (hp0 : isH S h0) : ∀ (f : Nat) (x1 : Int) (N : nS) (q : Int) (No : nS), m_HL_takeDraws_2 h0 f x1 N = some (q, No) → rg x1 → nV p l e rm_HL_takeDraws s m args below meth c 0 0 Q D vwCl ct A ad S 2 No 78 [(0, .ref (ad h0)), (1, .int (iI q))] [] → nV p l e rm_HL_takeDraws s m args below meth c 0 0 Q D vwCl ct A ad S 2 N 2 [(0, .ref (ad h0)), (1, .int (iI x1))] [] := by
  intro f
  induction f with
  | zero =>
    intro x1 N q No hm
    rw [m_HL_takeDraws_2] at hm
    cases hm
  | succ f ih =>
    intro x1 N q No hm hx1 kx
    rw [m_HL_takeDraws_2] at hm
    refine nv_iload_n hC d_HL_takeDraws_2 rfl 1 rfl ?_
    refine nv_aload_n hC d_HL_takeDraws_3 rfl 0 rfl ?_
    refine nv_getR hC (j := 3) hp0.1 rfl in_HL (by decide) k_117 rfl d_HL_takeDraws_4 ?_
    refine nv_getI hC (j := 6) (isH_draws hp0).1 rfl in_Draws (by decide) k_118 rfl d_HL_takeDraws_7 ?_
    obtain ⟨hr1, hm⟩ := ck_s hm
    refine nv_icmp_ge hC hx1 hr1 d_HL_takeDraws_10 (tgt := 78) (by decide) (fun c2 => ?_) (fun c2 => ?_)
    · have hm := if_t c2 hm
      obtain ⟨rfl, rfl⟩ := ret_s hm
      refine nv_sub (lv' := [(0, .ref (ad h0)), (1, .int (iI x1))]) [0, 1] rfl ?_
      exact kx
    · have hm := if_f c2 hm
      refine nv_aload_n hC d_HL_takeDraws_13 rfl 0 rfl ?_
      refine nv_getR hC (j := 3) hp0.1 rfl in_HL (by decide) k_117 rfl d_HL_takeDraws_14 ?_
      refine nv_getR hC (j := 1) (isH_draws hp0).1 rfl in_Draws (by decide) k_119 rfl d_HL_takeDraws_17 ?_
      refine nv_iload_n hC d_HL_takeDraws_20 rfl 1 rfl ?_
      obtain ⟨hc3, hm⟩ := ck_s hm
      refine nv_iald hC (isH_draws hp0).2.2.1 (by decide) hc3 d_HL_takeDraws_21 ?_
      refine nv_aload_n hC d_HL_takeDraws_22 rfl 0 rfl ?_
      refine nv_getR hC (j := 1) hp0.1 rfl in_HL (by decide) k_120 rfl d_HL_takeDraws_23 ?_
      refine nv_getI hC (j := 8) (isH_water hp0).1 rfl in_Water (by decide) k_121 rfl d_HL_takeDraws_26 ?_
      obtain ⟨hr4, hm⟩ := ck_s hm
      obtain ⟨hr5, hm⟩ := ck_s hm
      refine nv_icmp_ne hC hr4 hr5 d_HL_takeDraws_29 (tgt := 72) (by decide) (fun c6 => ?_) (fun c6 => ?_)
      · have hm := if_f c6 hm
        refine nv_iinc (lv' := [(1, .int (iI (x1 + 1))), (0, .ref (ad h0))]) hC d_HL_takeDraws_72 1 rfl (by decide) rfl ?_
        refine nv_goto hC d_HL_takeDraws_75 (tgt := 2) (by decide) ?_
        obtain ⟨hr7, hm⟩ := ck_s hm
        refine nv_sub (lv' := [(0, .ref (ad h0)), (1, .int (iI (x1 + 1)))]) [1, 0] rfl ?_
        exact ih (x1 + 1) N q No hm hr7 kx
      · have hm := if_t c6 hm
        refine nv_aload_n hC d_HL_takeDraws_32 rfl 0 rfl ?_
        refine nv_getR hC (j := 1) hp0.1 rfl in_HL (by decide) k_120 rfl d_HL_takeDraws_33 ?_
        refine nv_aload_n hC d_HL_takeDraws_36 rfl 0 rfl ?_
        refine nv_getR hC (j := 3) hp0.1 rfl in_HL (by decide) k_117 rfl d_HL_takeDraws_37 ?_
        refine nv_getR hC (j := 0) (isH_draws hp0).1 rfl in_Draws (by decide) k_122 rfl d_HL_takeDraws_40 ?_
        refine nv_iload_n hC d_HL_takeDraws_43 rfl 1 rfl ?_
        refine nv_iald hC (isH_draws hp0).2.1 (by decide) hc3 d_HL_takeDraws_44 ?_
        refine nv_aload_n hC d_HL_takeDraws_45 rfl 0 rfl ?_
        refine nv_getR hC (j := 3) hp0.1 rfl in_HL (by decide) k_117 rfl d_HL_takeDraws_46 ?_
        refine nv_getR hC (j := 2) (isH_draws hp0).1 rfl in_Draws (by decide) k_123 rfl d_HL_takeDraws_49 ?_
        refine nv_iload_n hC d_HL_takeDraws_52 rfl 1 rfl ?_
        refine nv_iald hC (isH_draws hp0).2.2.2.1 (by decide) hc3 d_HL_takeDraws_53 ?_
        obtain ⟨hr8, hm⟩ := ck_s hm
        obtain ⟨hr9, hm⟩ := ck_s hm
        obtain ⟨r10, N11, hq12, hm⟩ := nbd_s hm
        refine nv_callv (N' := N11) (nr_V hC (As := [.int (iI (N ((h0 + 95) + 1) (Int.toNat x1))), .int (iI (N ((h0 + 95) + 3) (Int.toNat x1)))]) (st := []) (isH_water hp0).1 rfl (c_Water_takeOut l hC.2.2.1 (h0 + 7) (h0 + 1) (isH_water hp0) (N ((h0 + 95) + 1) (Int.toNat x1)) hr8 (N ((h0 + 95) + 3) (Int.toNat x1)) hr9 N r10 N11 hq12) (cwV 2 hC.1.2.2.2.2 (tt_V k_124 k_101 k_102 k_71 k_100) rfl rfl rfl (by decide +kernel) ⟨Nat.le_of_ble_eq_true rfl, Nat.le_of_ble_eq_true rfl⟩) rfl rfl (Nat.le_of_ble_eq_true rfl) ⟨(Nat.le_of_ble_eq_true rfl), (Nat.le_of_ble_eq_true rfl)⟩ d_HL_takeDraws_54) ?_
        refine nv_aload_n hC d_HL_takeDraws_57 rfl 0 rfl ?_
        refine nv_getR hC (j := 3) hp0.1 rfl in_HL (by decide) k_117 rfl d_HL_takeDraws_58 ?_
        refine nv_iload_n hC d_HL_takeDraws_61 rfl 1 rfl ?_
        refine nv_aload_n hC d_HL_takeDraws_62 rfl 0 rfl ?_
        refine nv_getR hC (j := 1) hp0.1 rfl in_HL (by decide) k_120 rfl d_HL_takeDraws_63 ?_
        refine nv_getR hC (j := 2) (isH_water hp0).1 rfl in_Water (by decide) k_125 rfl d_HL_takeDraws_66 ?_
        obtain ⟨r13, N14, hq15, hm⟩ := nbd_s hm
        refine nv_callv (N' := N14) (nr_V hC (As := [.int (iI x1), .ref (ad ((h0 + 7) + 2))]) (st := []) (isH_draws hp0).1 rfl (c_Draws_keepAnswer l hC.2.2.1 (h0 + 95) (isH_draws hp0) x1 hx1 ((h0 + 7) + 2) 121 (isW_taken (isH_water hp0)) N11 r13 N14 hq15) (cwV 2 hC.1.2.2.2.2 (tt_V k_126 k_128 k_129 k_130 k_127) rfl rfl rfl (by decide +kernel) ⟨Nat.le_of_ble_eq_true rfl, Nat.le_of_ble_eq_true rfl⟩) rfl rfl (Nat.le_of_ble_eq_true rfl) ⟨(Nat.le_of_ble_eq_true rfl), (Nat.le_of_ble_eq_true rfl)⟩ d_HL_takeDraws_69) ?_
        refine nv_iinc (lv' := [(1, .int (iI (x1 + 1))), (0, .ref (ad h0))]) hC d_HL_takeDraws_72 1 rfl (by decide) rfl ?_
        refine nv_goto hC d_HL_takeDraws_75 (tgt := 2) (by decide) ?_
        obtain ⟨hr16, hm⟩ := ck_s hm
        refine nv_sub (lv' := [(0, .ref (ad h0)), (1, .int (iI (x1 + 1)))]) [1, 0] rfl ?_
        exact ih (x1 + 1) N14 q No hm hr16 kx
set_option maxRecDepth 100000 in
set_option maxHeartbeats 4000000 in
theorem c_HL_takeDraws (l : Launch) {D : va_G} {ct : Nat → ClassId} {A : Nat → Prop} {ad : Nat → Nat} {S : nH} (hD : nD ad A S.length) (h0 : Nat) (hp0 : isH S h0) (N : nS) (r : Int) (No : nS) (hm : m_HL_takeDraws h0 N = some (r, No)) : nM l y_HL_takeDraws (Cond.code y_HL_takeDraws b_HL_takeDraws 2 none :: TT) rm_HL_takeDraws D vwCl ct A ad S N [.ref (ad h0)] (nQv D vwCl ct A ad S No) := by
  refine nM_of (cc := b_HL_takeDraws) (maxL := 2) (ret := none) (by decide) rfl (Nat.le_of_ble_eq_true rfl) hD ?_
  intro p e s m below meth c hC hr hlk
  refine nv_lv (lv' := [(0, .ref (ad h0))]) rfl ?_
  rw [m_HL_takeDraws] at hm
  refine nv_iconst hC d_HL_takeDraws_0 ?_
  refine nv_istore_n (lv' := [(1, .int (iI 0)), (0, .ref (ad h0))]) hC d_HL_takeDraws_1 rfl (by decide) rfl ?_
  obtain ⟨q17, N18, hq19, hm⟩ := nbd_s hm
  refine nv_sub (lv' := [(0, .ref (ad h0)), (1, .int (iI 0))]) [1, 0] rfl ?_
  refine w_HL_takeDraws_2 hC h0 hp0 FU 0 N q17 N18 hq19 ⟨by decide, by decide⟩ ?_
  obtain ⟨rfl, rfl⟩ := ret_s hm
  exact nv_vret hC hr hlk d_HL_takeDraws_78
def m_HL_takeShock_2 (h0 : Nat) (x1 : Int) (x2 : Int) : Nat → Int → nS → Option ((Int) × nS)
  | 0, _, _ => none
  | f + 1, x3, N =>
    if rg (N (h0 + 1) 5) then
    if (N (h0 + 1) 5) ≤ x3 then
    some (x3, N)
    else
    if 0 ≤ x3 ∧ x3 < ((10 : Nat) : Int) then
    if rg (N ((h0 + 1) + 5) (Int.toNat x3)) then
    if (N ((h0 + 1) + 5) (Int.toNat x3)) = 0 then
    if rg (x3 + 1) then
    m_HL_takeShock_2 h0 x1 x2 f (x3 + 1) N
    else none
    else
    nbd (m_Water_takeOut (h0 + 51) (h0 + 1) x3 x1 N) (fun r7 N8 =>
    nbd (m_Plugs_least ((h0 + 51) + 2) 121 N8) (fun r10 N11 =>
    if rg r10 then
    if r10 < x2 then
    if rg (x3 + 1) then
    m_HL_takeShock_2 h0 x1 x2 f (x3 + 1) N11
    else none
    else
    nlt (up2 N11 (h0 + 102) (Int.toNat x3) 0) (fun N16 =>
    if rg (x3 + 1) then
    m_HL_takeShock_2 h0 x1 x2 f (x3 + 1) N16
    else none)
    else none))
    else none
    else none
    else none
def m_HL_takeShock (h0 : Nat) (x1 : Int) (x2 : Int) (N : nS) : Option (Int × nS) :=
  nbd (m_HL_takeShock_2 h0 x1 x2 FU 0 N) (fun q19 N20 =>
  some (0, N20))
set_option maxRecDepth 20000 in
theorem k_131 : Cond.fieldLink R_HL 12 (T_HL 0).1 (T_HL 0).2.1 (T_HL 0).2.2.1 ∈ TT := tt_i 195 (by decide +kernel) (by decide +kernel)
set_option maxRecDepth 20000 in
theorem k_132 : Cond.fieldLink R_HL 47 (T_Net 5).1 (T_Net 5).2.1 (T_Net 5).2.2.1 ∈ TT := tt_i 62 (by decide +kernel) (by decide +kernel)
set_option maxRecDepth 20000 in
theorem k_133 : Cond.fieldLink R_HL 70 (T_Net 4).1 (T_Net 4).2.1 (T_Net 4).2.2.1 ∈ TT := tt_i 59 (by decide +kernel) (by decide +kernel)
set_option maxRecDepth 20000 in
theorem k_134 : Cond.fieldLink R_HL 25 (T_HL 2).1 (T_HL 2).2.1 (T_HL 2).2.2.1 ∈ TT := tt_i 197 (by decide +kernel) (by decide +kernel)
set_option maxRecDepth 20000 in
theorem k_135 : Cond.methodLink R_HL 116 y_Plugs_least ∈ TT := tt_i 470 (by decide +kernel) (by decide +kernel)
set_option maxRecDepth 20000 in
theorem k_136 : Cond.fieldLink R_HL 35 (T_HL 4).1 (T_HL 4).2.1 (T_HL 4).2.2.1 ∈ TT := tt_i 199 (by decide +kernel) (by decide +kernel)
abbrev rm_HL_takeShock : Room := { frames := 5, cells := 0, slots := 0, locals := 115 }
set_option maxRecDepth 100000 in
set_option maxHeartbeats 4000000 in
theorem w_HL_takeShock_2 {p : Program} {l : Launch} {e : Env} {s : State} {m : MethodId} {args : Array Value} {below : List Frame} {meth : Method} {c : Code} {Q : State → Prop} {D : va_G} {ct : Nat → ClassId} {A : Nat → Prop} {ad : Nat → Nat} {S : nH} (hC : nC p s m args c D vwCl ct A ad S 4 b_HL_takeShock R_HL TT) (h0 : Nat) (hp0 : isH S h0) (x1 : Int) (hx1 : rg x1) (x2 : Int) (hx2 : rg x2) : ∀ (f : Nat) (x3 : Int) (N : nS) (q : Int) (No : nS), m_HL_takeShock_2 h0 x1 x2 f x3 N = some (q, No) → rg x3 → nV p l e rm_HL_takeShock s m args below meth c 0 0 Q D vwCl ct A ad S 4 No 61 [(0, .ref (ad h0)), (1, .int (iI x1)), (2, .int (iI x2)), (3, .int (iI q))] [] → nV p l e rm_HL_takeShock s m args below meth c 0 0 Q D vwCl ct A ad S 4 N 2 [(0, .ref (ad h0)), (1, .int (iI x1)), (2, .int (iI x2)), (3, .int (iI x3))] [] := by
  intro f
  induction f with
  | zero =>
    intro x3 N q No hm
    rw [m_HL_takeShock_2] at hm
    cases hm
  | succ f ih =>
    intro x3 N q No hm hx3 kx
    rw [m_HL_takeShock_2] at hm
    refine nv_iload_n hC d_HL_takeShock_2 rfl 3 rfl ?_
    refine nv_aload_n hC d_HL_takeShock_3 rfl 0 rfl ?_
    refine nv_getR hC (j := 0) hp0.1 rfl in_HL (by decide) k_131 rfl d_HL_takeShock_4 ?_
    refine nv_getI hC (j := 5) (isH_net hp0).1 rfl in_Net (by decide) k_132 rfl d_HL_takeShock_7 ?_
    obtain ⟨hr1, hm⟩ := ck_s hm
    refine nv_icmp_ge hC hx3 hr1 d_HL_takeShock_10 (tgt := 61) (by decide) (fun c2 => ?_) (fun c2 => ?_)
    · have hm := if_t c2 hm
      obtain ⟨rfl, rfl⟩ := ret_s hm
      refine nv_sub (lv' := [(0, .ref (ad h0)), (1, .int (iI x1)), (2, .int (iI x2)), (3, .int (iI x3))]) [0, 1, 2, 3] rfl ?_
      exact kx
    · have hm := if_f c2 hm
      refine nv_aload_n hC d_HL_takeShock_13 rfl 0 rfl ?_
      refine nv_getR hC (j := 0) hp0.1 rfl in_HL (by decide) k_131 rfl d_HL_takeShock_14 ?_
      refine nv_getR hC (j := 4) (isH_net hp0).1 rfl in_Net (by decide) k_133 rfl d_HL_takeShock_17 ?_
      refine nv_iload_n hC d_HL_takeShock_20 rfl 3 rfl ?_
      obtain ⟨hc3, hm⟩ := ck_s hm
      refine nv_zald hC (isH_net hp0).2.2.2.2.2 (by decide) hc3 d_HL_takeShock_21 ?_
      obtain ⟨hr4, hm⟩ := ck_s hm
      refine nv_if_eq hC hr4 d_HL_takeShock_22 (tgt := 55) (by decide) (fun c5 => ?_) (fun c5 => ?_)
      · have hm := if_t c5 hm
        refine nv_iinc (lv' := [(3, .int (iI (x3 + 1))), (0, .ref (ad h0)), (1, .int (iI x1)), (2, .int (iI x2))]) hC d_HL_takeShock_55 3 rfl (by decide) rfl ?_
        refine nv_goto hC d_HL_takeShock_58 (tgt := 2) (by decide) ?_
        obtain ⟨hr6, hm⟩ := ck_s hm
        refine nv_sub (lv' := [(0, .ref (ad h0)), (1, .int (iI x1)), (2, .int (iI x2)), (3, .int (iI (x3 + 1)))]) [1, 2, 3, 0] rfl ?_
        exact ih (x3 + 1) N q No hm hr6 kx
      · have hm := if_f c5 hm
        refine nv_aload_n hC d_HL_takeShock_25 rfl 0 rfl ?_
        refine nv_getR hC (j := 2) hp0.1 rfl in_HL (by decide) k_134 rfl d_HL_takeShock_26 ?_
        refine nv_iload_n hC d_HL_takeShock_29 rfl 3 rfl ?_
        refine nv_iload_n hC d_HL_takeShock_30 rfl 1 rfl ?_
        obtain ⟨r7, N8, hq9, hm⟩ := nbd_s hm
        refine nv_callv (N' := N8) (nr_V hC (As := [.int (iI x3), .int (iI x1)]) (st := []) (isH_trial hp0).1 rfl (c_Water_takeOut l hC.2.2.1 (h0 + 51) (h0 + 1) (isH_trial hp0) x3 hx3 x1 hx1 N r7 N8 hq9) (cwV 2 hC.1.2.2.2.2 (tt_V k_124 k_101 k_102 k_71 k_100) rfl rfl rfl (by decide +kernel) ⟨Nat.le_of_ble_eq_true rfl, Nat.le_of_ble_eq_true rfl⟩) rfl rfl (Nat.le_of_ble_eq_true rfl) ⟨(Nat.le_of_ble_eq_true rfl), (Nat.le_of_ble_eq_true rfl)⟩ d_HL_takeShock_31) ?_
        refine nv_aload_n hC d_HL_takeShock_34 rfl 0 rfl ?_
        refine nv_getR hC (j := 2) hp0.1 rfl in_HL (by decide) k_134 rfl d_HL_takeShock_35 ?_
        refine nv_getR hC (j := 2) (isH_trial hp0).1 rfl in_Water (by decide) k_125 rfl d_HL_takeShock_38 ?_
        obtain ⟨r10, N11, hq12, hm⟩ := nbd_s hm
        refine nv_calli (x := r10) (N' := N11) (nr_V hC (As := []) (st := []) (isW_taken (isH_trial hp0)).1 rfl (c_Plugs_least l hC.2.2.1 ((h0 + 51) + 2) 121 (isW_taken (isH_trial hp0)) N8 r10 N11 hq12) (cwV 0 hC.1.2.2.2.2 (tt_V k_135 k_47 k_48 k_7 k_46) rfl rfl rfl (by decide +kernel) ⟨Nat.le_of_ble_eq_true rfl, Nat.le_of_ble_eq_true rfl⟩) rfl rfl (Nat.le_of_ble_eq_true rfl) ⟨(Nat.le_of_ble_eq_true rfl), (Nat.le_of_ble_eq_true rfl)⟩ d_HL_takeShock_41) ?_
        refine nv_iload_n hC d_HL_takeShock_44 rfl 2 rfl ?_
        obtain ⟨hr13, hm⟩ := ck_s hm
        refine nv_icmp_lt hC hr13 hx2 d_HL_takeShock_45 (tgt := 55) (by decide) (fun c14 => ?_) (fun c14 => ?_)
        · have hm := if_t c14 hm
          refine nv_iinc (lv' := [(3, .int (iI (x3 + 1))), (0, .ref (ad h0)), (1, .int (iI x1)), (2, .int (iI x2))]) hC d_HL_takeShock_55 3 rfl (by decide) rfl ?_
          refine nv_goto hC d_HL_takeShock_58 (tgt := 2) (by decide) ?_
          obtain ⟨hr15, hm⟩ := ck_s hm
          refine nv_sub (lv' := [(0, .ref (ad h0)), (1, .int (iI x1)), (2, .int (iI x2)), (3, .int (iI (x3 + 1)))]) [1, 2, 3, 0] rfl ?_
          exact ih (x3 + 1) N11 q No hm hr15 kx
        · have hm := if_f c14 hm
          refine nv_aload_n hC d_HL_takeShock_48 rfl 0 rfl ?_
          refine nv_getR hC (j := 4) hp0.1 rfl in_HL (by decide) k_136 rfl d_HL_takeShock_49 ?_
          refine nv_iload_n hC d_HL_takeShock_52 rfl 3 rfl ?_
          refine nv_iconst hC d_HL_takeShock_53 ?_
          obtain ⟨N16, e17, hm⟩ := nlt_s hm
          refine nv_zast hC (isH_marked hp0) (by decide) hc3 (Or.inl rfl) e17 d_HL_takeShock_54 ?_
          refine nv_iinc (lv' := [(3, .int (iI (x3 + 1))), (0, .ref (ad h0)), (1, .int (iI x1)), (2, .int (iI x2))]) hC d_HL_takeShock_55 3 rfl (by decide) rfl ?_
          refine nv_goto hC d_HL_takeShock_58 (tgt := 2) (by decide) ?_
          obtain ⟨hr18, hm⟩ := ck_s hm
          refine nv_sub (lv' := [(0, .ref (ad h0)), (1, .int (iI x1)), (2, .int (iI x2)), (3, .int (iI (x3 + 1)))]) [1, 2, 3, 0] rfl ?_
          exact ih (x3 + 1) N16 q No hm hr18 kx
set_option maxRecDepth 100000 in
set_option maxHeartbeats 4000000 in
theorem c_HL_takeShock (l : Launch) {D : va_G} {ct : Nat → ClassId} {A : Nat → Prop} {ad : Nat → Nat} {S : nH} (hD : nD ad A S.length) (h0 : Nat) (hp0 : isH S h0) (x1 : Int) (hx1 : rg x1) (x2 : Int) (hx2 : rg x2) (N : nS) (r : Int) (No : nS) (hm : m_HL_takeShock h0 x1 x2 N = some (r, No)) : nM l y_HL_takeShock (Cond.code y_HL_takeShock b_HL_takeShock 4 none :: TT) rm_HL_takeShock D vwCl ct A ad S N [.ref (ad h0), .int (iI x1), .int (iI x2)] (nQv D vwCl ct A ad S No) := by
  refine nM_of (cc := b_HL_takeShock) (maxL := 4) (ret := none) (by decide) rfl (Nat.le_of_ble_eq_true rfl) hD ?_
  intro p e s m below meth c hC hr hlk
  refine nv_lv (lv' := [(0, .ref (ad h0)), (1, .int (iI x1)), (2, .int (iI x2))]) rfl ?_
  rw [m_HL_takeShock] at hm
  refine nv_iconst hC d_HL_takeShock_0 ?_
  refine nv_istore_n (lv' := [(3, .int (iI 0)), (0, .ref (ad h0)), (1, .int (iI x1)), (2, .int (iI x2))]) hC d_HL_takeShock_1 rfl (by decide) rfl ?_
  obtain ⟨q19, N20, hq21, hm⟩ := nbd_s hm
  refine nv_sub (lv' := [(0, .ref (ad h0)), (1, .int (iI x1)), (2, .int (iI x2)), (3, .int (iI 0))]) [1, 2, 3, 0] rfl ?_
  refine w_HL_takeShock_2 hC h0 hp0 x1 hx1 x2 hx2 FU 0 N q19 N20 hq21 ⟨by decide, by decide⟩ ?_
  obtain ⟨rfl, rfl⟩ := ret_s hm
  exact nv_vret hC hr hlk d_HL_takeShock_61
def m_HL_markMissed_23 (h0 : Nat) (x1 : Int) (x2 : Int) (x3 : Int) (x4 : Int) : Nat → Int → nS → Option ((Int) × nS)
  | 0, _, _ => none
  | f + 1, x5, N =>
    if rg (N (h0 + 1) 5) then
    if (N (h0 + 1) 5) ≤ x5 then
    some (x5, N)
    else
    if 0 ≤ x5 ∧ x5 < ((10 : Nat) : Int) then
    if (N ((h0 + 1) + 5) (Int.toNat x5)) = 0 ∨ (N ((h0 + 1) + 5) (Int.toNat x5)) = 1 then
    nlt (up2 N (h0 + 102) (Int.toNat x5) (N ((h0 + 1) + 5) (Int.toNat x5))) (fun N11 =>
    if rg (x5 + 1) then
    m_HL_markMissed_23 h0 x1 x2 x3 x4 f (x5 + 1) N11
    else none)
    else none
    else none
    else none
def m_HL_markMissed_61 (h0 : Nat) (x1 : Int) (x2 : Int) (x3 : Int) (x4 : Int) : Nat → Int → nS → Option ((Int) × nS)
  | 0, _, _ => none
  | f + 1, x5, N =>
    if x3 ≤ x5 then
    some (x5, N)
    else
    nbd (m_HL_takeShock h0 x2 x4 N) (fun r18 N19 =>
    nbd (m_Water_endMinute (h0 + 51) (h0 + 1) N19) (fun r21 N22 =>
    if rg (x5 + 1) then
    m_HL_markMissed_61 h0 x1 x2 x3 x4 f (x5 + 1) N22
    else none))
def m_HL_markMissed (h0 : Nat) (x1 : Int) (x2 : Int) (x3 : Int) (x4 : Int) (N : nS) : Option (Int × nS) :=
  nbd (m_Water_copyFrom (h0 + 51) (h0 + 1) (h0 + 7) (h0 + 1) N) (fun r1 N2 =>
  nbd (m_Water_changeHeat (h0 + 51) (h0 + 1) x1 N2) (fun r4 N5 =>
  nbd (m_HL_markMissed_23 h0 x1 x2 x3 x4 FU 0 N5) (fun q14 N15 =>
  nbd (m_HL_markMissed_61 h0 x1 x2 x3 x4 FU 0 N15) (fun q25 N26 =>
  some (0, N26)))))
set_option maxRecDepth 20000 in
theorem k_137 : Cond.methodLink R_HL 195 y_Water_copyFrom ∈ TT := tt_i 532 (by decide +kernel) (by decide +kernel)
set_option maxRecDepth 20000 in
theorem k_138 : Cond.code y_Water_copyFrom b_Water_copyFrom 3 none ∈ TT := tt_i 535 (by decide +kernel) (by decide +kernel)
set_option maxRecDepth 20000 in
theorem k_139 : Cond.instanceMethod y_Water_copyFrom ∈ TT := tt_i 533 (by decide +kernel) (by decide +kernel)
set_option maxRecDepth 20000 in
theorem k_140 : Cond.selects R_Water y_Water_copyFrom y_Water_copyFrom ∈ TT := tt_i 534 (by decide +kernel) (by decide +kernel)
set_option maxRecDepth 20000 in
theorem k_141 : Cond.methodLink R_HL 73 y_Water_changeHeat ∈ TT := tt_i 342 (by decide +kernel) (by decide +kernel)
set_option maxRecDepth 20000 in
theorem k_142 : Cond.code y_Water_changeHeat b_Water_changeHeat 3 (some .int) ∈ TT := tt_i 345 (by decide +kernel) (by decide +kernel)
set_option maxRecDepth 20000 in
theorem k_143 : Cond.instanceMethod y_Water_changeHeat ∈ TT := tt_i 343 (by decide +kernel) (by decide +kernel)
set_option maxRecDepth 20000 in
theorem k_144 : Cond.selects R_Water y_Water_changeHeat y_Water_changeHeat ∈ TT := tt_i 344 (by decide +kernel) (by decide +kernel)
set_option maxRecDepth 20000 in
theorem k_145 : Cond.methodLink R_HL 199 y_HL_takeShock ∈ TT := tt_i 536 (by decide +kernel) (by decide +kernel)
set_option maxRecDepth 20000 in
theorem k_146 : Cond.code y_HL_takeShock b_HL_takeShock 4 none ∈ TT := tt_i 539 (by decide +kernel) (by decide +kernel)
set_option maxRecDepth 20000 in
theorem k_147 : Cond.instanceMethod y_HL_takeShock ∈ TT := tt_i 538 (by decide +kernel) (by decide +kernel)
set_option maxRecDepth 20000 in
theorem k_148 : Cond.selects R_HL y_HL_takeShock y_HL_takeShock ∈ TT := tt_i 9 (by decide +kernel) (by decide +kernel)
set_option maxRecDepth 20000 in
theorem k_149 : Cond.initialized R_HL ∈ TT := tt_i 23 (by decide +kernel) (by decide +kernel)
set_option maxRecDepth 20000 in
theorem k_150 : Cond.methodLink R_HL 97 y_Water_endMinute ∈ TT := tt_i 442 (by decide +kernel) (by decide +kernel)
set_option maxRecDepth 20000 in
theorem k_151 : Cond.code y_Water_endMinute b_Water_endMinute 3 none ∈ TT := tt_i 445 (by decide +kernel) (by decide +kernel)
set_option maxRecDepth 20000 in
theorem k_152 : Cond.instanceMethod y_Water_endMinute ∈ TT := tt_i 443 (by decide +kernel) (by decide +kernel)
set_option maxRecDepth 20000 in
theorem k_153 : Cond.selects R_Water y_Water_endMinute y_Water_endMinute ∈ TT := tt_i 444 (by decide +kernel) (by decide +kernel)
abbrev rm_HL_markMissed : Room := { frames := 6, cells := 0, slots := 0, locals := 138 }
set_option maxRecDepth 100000 in
set_option maxHeartbeats 4000000 in
theorem w_HL_markMissed_23 {p : Program} {l : Launch} {e : Env} {s : State} {m : MethodId} {args : Array Value} {below : List Frame} {meth : Method} {c : Code} {Q : State → Prop} {D : va_G} {ct : Nat → ClassId} {A : Nat → Prop} {ad : Nat → Nat} {S : nH} (hC : nC p s m args c D vwCl ct A ad S 6 b_HL_markMissed R_HL TT) (h0 : Nat) (hp0 : isH S h0) (x1 : Int) (hx1 : rg x1) (x2 : Int) (hx2 : rg x2) (x3 : Int) (hx3 : rg x3) (x4 : Int) (hx4 : rg x4) : ∀ (f : Nat) (x5 : Int) (N : nS) (q : Int) (No : nS), m_HL_markMissed_23 h0 x1 x2 x3 x4 f x5 N = some (q, No) → rg x5 → nV p l e rm_HL_markMissed s m args below meth c 0 0 Q D vwCl ct A ad S 6 No 58 [(0, .ref (ad h0)), (1, .int (iI x1)), (2, .int (iI x2)), (3, .int (iI x3)), (4, .int (iI x4)), (5, .int (iI q))] [] → nV p l e rm_HL_markMissed s m args below meth c 0 0 Q D vwCl ct A ad S 6 N 23 [(0, .ref (ad h0)), (1, .int (iI x1)), (2, .int (iI x2)), (3, .int (iI x3)), (4, .int (iI x4)), (5, .int (iI x5))] [] := by
  intro f
  induction f with
  | zero =>
    intro x5 N q No hm
    rw [m_HL_markMissed_23] at hm
    cases hm
  | succ f ih =>
    intro x5 N q No hm hx5 kx
    rw [m_HL_markMissed_23] at hm
    refine nv_iload hC d_HL_markMissed_23 5 rfl ?_
    refine nv_aload_n hC d_HL_markMissed_25 rfl 0 rfl ?_
    refine nv_getR hC (j := 0) hp0.1 rfl in_HL (by decide) k_131 rfl d_HL_markMissed_26 ?_
    refine nv_getI hC (j := 5) (isH_net hp0).1 rfl in_Net (by decide) k_132 rfl d_HL_markMissed_29 ?_
    obtain ⟨hr7, hm⟩ := ck_s hm
    refine nv_icmp_ge hC hx5 hr7 d_HL_markMissed_32 (tgt := 58) (by decide) (fun c8 => ?_) (fun c8 => ?_)
    · have hm := if_t c8 hm
      obtain ⟨rfl, rfl⟩ := ret_s hm
      refine nv_sub (lv' := [(0, .ref (ad h0)), (1, .int (iI x1)), (2, .int (iI x2)), (3, .int (iI x3)), (4, .int (iI x4)), (5, .int (iI x5))]) [0, 1, 2, 3, 4, 5] rfl ?_
      exact kx
    · have hm := if_f c8 hm
      refine nv_aload_n hC d_HL_markMissed_35 rfl 0 rfl ?_
      refine nv_getR hC (j := 4) hp0.1 rfl in_HL (by decide) k_136 rfl d_HL_markMissed_36 ?_
      refine nv_iload hC d_HL_markMissed_39 5 rfl ?_
      refine nv_aload_n hC d_HL_markMissed_41 rfl 0 rfl ?_
      refine nv_getR hC (j := 0) hp0.1 rfl in_HL (by decide) k_131 rfl d_HL_markMissed_42 ?_
      refine nv_getR hC (j := 4) (isH_net hp0).1 rfl in_Net (by decide) k_133 rfl d_HL_markMissed_45 ?_
      refine nv_iload hC d_HL_markMissed_48 5 rfl ?_
      obtain ⟨hc9, hm⟩ := ck_s hm
      refine nv_zald hC (isH_net hp0).2.2.2.2.2 (by decide) hc9 d_HL_markMissed_50 ?_
      obtain ⟨hc10, hm⟩ := ck_s hm
      obtain ⟨N11, e12, hm⟩ := nlt_s hm
      refine nv_zast hC (isH_marked hp0) (by decide) hc9 hc10 e12 d_HL_markMissed_51 ?_
      refine nv_iinc (lv' := [(5, .int (iI (x5 + 1))), (0, .ref (ad h0)), (1, .int (iI x1)), (2, .int (iI x2)), (3, .int (iI x3)), (4, .int (iI x4))]) hC d_HL_markMissed_52 5 rfl (by decide) rfl ?_
      refine nv_goto hC d_HL_markMissed_55 (tgt := 23) (by decide) ?_
      obtain ⟨hr13, hm⟩ := ck_s hm
      refine nv_sub (lv' := [(0, .ref (ad h0)), (1, .int (iI x1)), (2, .int (iI x2)), (3, .int (iI x3)), (4, .int (iI x4)), (5, .int (iI (x5 + 1)))]) [1, 2, 3, 4, 5, 0] rfl ?_
      exact ih (x5 + 1) N11 q No hm hr13 kx
set_option maxRecDepth 100000 in
set_option maxHeartbeats 4000000 in
theorem w_HL_markMissed_61 {p : Program} {l : Launch} {e : Env} {s : State} {m : MethodId} {args : Array Value} {below : List Frame} {meth : Method} {c : Code} {Q : State → Prop} {D : va_G} {ct : Nat → ClassId} {A : Nat → Prop} {ad : Nat → Nat} {S : nH} (hC : nC p s m args c D vwCl ct A ad S 6 b_HL_markMissed R_HL TT) (h0 : Nat) (hp0 : isH S h0) (x1 : Int) (hx1 : rg x1) (x2 : Int) (hx2 : rg x2) (x3 : Int) (hx3 : rg x3) (x4 : Int) (hx4 : rg x4) : ∀ (f : Nat) (x5 : Int) (N : nS) (q : Int) (No : nS), m_HL_markMissed_61 h0 x1 x2 x3 x4 f x5 N = some (q, No) → rg x5 → nV p l e rm_HL_markMissed s m args below meth c 0 0 Q D vwCl ct A ad S 6 No 87 [(0, .ref (ad h0)), (1, .int (iI x1)), (2, .int (iI x2)), (3, .int (iI x3)), (4, .int (iI x4)), (5, .int (iI q))] [] → nV p l e rm_HL_markMissed s m args below meth c 0 0 Q D vwCl ct A ad S 6 N 61 [(0, .ref (ad h0)), (1, .int (iI x1)), (2, .int (iI x2)), (3, .int (iI x3)), (4, .int (iI x4)), (5, .int (iI x5))] [] := by
  intro f
  induction f with
  | zero =>
    intro x5 N q No hm
    rw [m_HL_markMissed_61] at hm
    cases hm
  | succ f ih =>
    intro x5 N q No hm hx5 kx
    rw [m_HL_markMissed_61] at hm
    refine nv_iload hC d_HL_markMissed_61 5 rfl ?_
    refine nv_iload_n hC d_HL_markMissed_63 rfl 3 rfl ?_
    refine nv_icmp_ge hC hx5 hx3 d_HL_markMissed_64 (tgt := 87) (by decide) (fun c17 => ?_) (fun c17 => ?_)
    · have hm := if_t c17 hm
      obtain ⟨rfl, rfl⟩ := ret_s hm
      refine nv_sub (lv' := [(0, .ref (ad h0)), (1, .int (iI x1)), (2, .int (iI x2)), (3, .int (iI x3)), (4, .int (iI x4)), (5, .int (iI x5))]) [0, 1, 2, 3, 4, 5] rfl ?_
      exact kx
    · have hm := if_f c17 hm
      refine nv_aload_n hC d_HL_markMissed_67 rfl 0 rfl ?_
      refine nv_iload_n hC d_HL_markMissed_68 rfl 2 rfl ?_
      refine nv_iload hC d_HL_markMissed_69 4 rfl ?_
      obtain ⟨r18, N19, hq20, hm⟩ := nbd_s hm
      refine nv_callv (N' := N19) (nr_V hC (As := [.int (iI x2), .int (iI x4)]) (st := []) hp0.1 rfl (c_HL_takeShock l hC.2.2.1 h0 hp0 x2 hx2 x4 hx4 N r18 N19 hq20) (cwV 2 hC.1.2.2.2.2 (tt_V k_145 k_147 k_148 k_149 k_146) rfl rfl rfl (by decide +kernel) ⟨Nat.le_of_ble_eq_true rfl, Nat.le_of_ble_eq_true rfl⟩) rfl rfl (Nat.le_of_ble_eq_true rfl) ⟨(Nat.le_of_ble_eq_true rfl), (Nat.le_of_ble_eq_true rfl)⟩ d_HL_markMissed_71) ?_
      refine nv_aload_n hC d_HL_markMissed_74 rfl 0 rfl ?_
      refine nv_getR hC (j := 2) hp0.1 rfl in_HL (by decide) k_134 rfl d_HL_markMissed_75 ?_
      obtain ⟨r21, N22, hq23, hm⟩ := nbd_s hm
      refine nv_callv (N' := N22) (nr_V hC (As := []) (st := []) (isH_trial hp0).1 rfl (c_Water_endMinute l hC.2.2.1 (h0 + 51) (h0 + 1) (isH_trial hp0) N19 r21 N22 hq23) (cwV 0 hC.1.2.2.2.2 (tt_V k_150 k_152 k_153 k_71 k_151) rfl rfl rfl (by decide +kernel) ⟨Nat.le_of_ble_eq_true rfl, Nat.le_of_ble_eq_true rfl⟩) rfl rfl (Nat.le_of_ble_eq_true rfl) ⟨(Nat.le_of_ble_eq_true rfl), (Nat.le_of_ble_eq_true rfl)⟩ d_HL_markMissed_78) ?_
      refine nv_iinc (lv' := [(5, .int (iI (x5 + 1))), (0, .ref (ad h0)), (1, .int (iI x1)), (2, .int (iI x2)), (3, .int (iI x3)), (4, .int (iI x4))]) hC d_HL_markMissed_81 5 rfl (by decide) rfl ?_
      refine nv_goto hC d_HL_markMissed_84 (tgt := 61) (by decide) ?_
      obtain ⟨hr24, hm⟩ := ck_s hm
      refine nv_sub (lv' := [(0, .ref (ad h0)), (1, .int (iI x1)), (2, .int (iI x2)), (3, .int (iI x3)), (4, .int (iI x4)), (5, .int (iI (x5 + 1)))]) [1, 2, 3, 4, 5, 0] rfl ?_
      exact ih (x5 + 1) N22 q No hm hr24 kx
set_option maxRecDepth 100000 in
set_option maxHeartbeats 4000000 in
theorem c_HL_markMissed (l : Launch) {D : va_G} {ct : Nat → ClassId} {A : Nat → Prop} {ad : Nat → Nat} {S : nH} (hD : nD ad A S.length) (h0 : Nat) (hp0 : isH S h0) (x1 : Int) (hx1 : rg x1) (x2 : Int) (hx2 : rg x2) (x3 : Int) (hx3 : rg x3) (x4 : Int) (hx4 : rg x4) (N : nS) (r : Int) (No : nS) (hm : m_HL_markMissed h0 x1 x2 x3 x4 N = some (r, No)) : nM l y_HL_markMissed (Cond.code y_HL_markMissed b_HL_markMissed 6 none :: TT) rm_HL_markMissed D vwCl ct A ad S N [.ref (ad h0), .int (iI x1), .int (iI x2), .int (iI x3), .int (iI x4)] (nQv D vwCl ct A ad S No) := by
  refine nM_of (cc := b_HL_markMissed) (maxL := 6) (ret := none) (by decide) rfl (Nat.le_of_ble_eq_true rfl) hD ?_
  intro p e s m below meth c hC hr hlk
  refine nv_lv (lv' := [(0, .ref (ad h0)), (1, .int (iI x1)), (2, .int (iI x2)), (3, .int (iI x3)), (4, .int (iI x4))]) rfl ?_
  rw [m_HL_markMissed] at hm
  refine nv_aload_n hC d_HL_markMissed_0 rfl 0 rfl ?_
  refine nv_getR hC (j := 2) hp0.1 rfl in_HL (by decide) k_134 rfl d_HL_markMissed_1 ?_
  refine nv_aload_n hC d_HL_markMissed_4 rfl 0 rfl ?_
  refine nv_getR hC (j := 1) hp0.1 rfl in_HL (by decide) k_120 rfl d_HL_markMissed_5 ?_
  obtain ⟨r1, N2, hq3, hm⟩ := nbd_s hm
  refine nv_callv (N' := N2) (nr_V hC (As := [.ref (ad (h0 + 7))]) (st := []) (isH_trial hp0).1 rfl (c_Water_copyFrom l hC.2.2.1 (h0 + 51) (h0 + 1) (isH_trial hp0) (h0 + 7) (h0 + 1) (isH_water hp0) N r1 N2 hq3) (cwV 1 hC.1.2.2.2.2 (tt_V k_137 k_139 k_140 k_71 k_138) rfl rfl rfl (by decide +kernel) ⟨Nat.le_of_ble_eq_true rfl, Nat.le_of_ble_eq_true rfl⟩) rfl rfl (Nat.le_of_ble_eq_true rfl) ⟨(Nat.le_of_ble_eq_true rfl), (Nat.le_of_ble_eq_true rfl)⟩ d_HL_markMissed_8) ?_
  refine nv_aload_n hC d_HL_markMissed_11 rfl 0 rfl ?_
  refine nv_getR hC (j := 2) hp0.1 rfl in_HL (by decide) k_134 rfl d_HL_markMissed_12 ?_
  refine nv_iload_n hC d_HL_markMissed_15 rfl 1 rfl ?_
  obtain ⟨r4, N5, hq6, hm⟩ := nbd_s hm
  refine nv_calli (x := r4) (N' := N5) (nr_V hC (As := [.int (iI x1)]) (st := []) (isH_trial hp0).1 rfl (c_Water_changeHeat l hC.2.2.1 (h0 + 51) (h0 + 1) (isH_trial hp0) x1 hx1 N2 r4 N5 hq6) (cwV 1 hC.1.2.2.2.2 (tt_V k_141 k_143 k_144 k_71 k_142) rfl rfl rfl (by decide +kernel) ⟨Nat.le_of_ble_eq_true rfl, Nat.le_of_ble_eq_true rfl⟩) rfl rfl (Nat.le_of_ble_eq_true rfl) ⟨(Nat.le_of_ble_eq_true rfl), (Nat.le_of_ble_eq_true rfl)⟩ d_HL_markMissed_16) ?_
  refine nv_pop hC d_HL_markMissed_19 rfl ?_
  refine nv_iconst hC d_HL_markMissed_20 ?_
  refine nv_istore (lv' := [(5, .int (iI 0)), (0, .ref (ad h0)), (1, .int (iI x1)), (2, .int (iI x2)), (3, .int (iI x3)), (4, .int (iI x4))]) hC d_HL_markMissed_21 (by decide) rfl ?_
  obtain ⟨q14, N15, hq16, hm⟩ := nbd_s hm
  refine nv_sub (lv' := [(0, .ref (ad h0)), (1, .int (iI x1)), (2, .int (iI x2)), (3, .int (iI x3)), (4, .int (iI x4)), (5, .int (iI 0))]) [1, 2, 3, 4, 5, 0] rfl ?_
  refine w_HL_markMissed_23 hC h0 hp0 x1 hx1 x2 hx2 x3 hx3 x4 hx4 FU 0 N5 q14 N15 hq16 ⟨by decide, by decide⟩ ?_
  refine nv_iconst hC d_HL_markMissed_58 ?_
  refine nv_istore (lv' := [(5, .int (iI 0)), (0, .ref (ad h0)), (1, .int (iI x1)), (2, .int (iI x2)), (3, .int (iI x3)), (4, .int (iI x4))]) hC d_HL_markMissed_59 (by decide) rfl ?_
  obtain ⟨q25, N26, hq27, hm⟩ := nbd_s hm
  refine nv_sub (lv' := [(0, .ref (ad h0)), (1, .int (iI x1)), (2, .int (iI x2)), (3, .int (iI x3)), (4, .int (iI x4)), (5, .int (iI 0))]) [1, 2, 3, 4, 5, 0] rfl ?_
  refine w_HL_markMissed_61 hC h0 hp0 x1 hx1 x2 hx2 x3 hx3 x4 hx4 FU 0 N15 q25 N26 hq27 ⟨by decide, by decide⟩ ?_
  obtain ⟨rfl, rfl⟩ := ret_s hm
  exact nv_vret hC hr hlk d_HL_markMissed_87
def m_HL_markedPipe_4 (h0 : Nat) (x1 : Int) : Nat → Int → Int → nS → Option ((Int × Int × Int × Int) × nS)
  | 0, _, _, _ => none
  | f + 1, x2, x3, N =>
    if rg (N (h0 + 1) 5) then
    if (N (h0 + 1) 5) ≤ x3 then
    some ((0, 0, x2, x3), N)
    else
    if 0 ≤ x3 ∧ x3 < ((10 : Nat) : Int) then
    if rg (N (h0 + 102) (Int.toNat x3)) then
    if (N (h0 + 102) (Int.toNat x3)) = 0 then
    if rg (x3 + 1) then
    m_HL_markedPipe_4 h0 x1 f x2 (x3 + 1) N
    else none
    else
    if x2 = x1 then
    some ((1, x3, x2, x3), N)
    else
    if rg (x2 + 1) then
    if rg (x3 + 1) then
    m_HL_markedPipe_4 h0 x1 f (x2 + 1) (x3 + 1) N
    else none
    else none
    else none
    else none
    else none
def m_HL_markedPipe (h0 : Nat) (x1 : Int) (N : nS) : Option (Int × nS) :=
  nbd (m_HL_markedPipe_4 h0 x1 FU 0 0 N) (fun q10 N11 =>
  if q10.1 = 0 then
  some ((-1), N11)
  else
  some (q10.2.1, N11))
abbrev rm_HL_markedPipe : Room := { frames := 0, cells := 0, slots := 0, locals := 0 }
set_option maxRecDepth 100000 in
set_option maxHeartbeats 4000000 in
theorem w_HL_markedPipe_4 {p : Program} {l : Launch} {e : Env} {s : State} {m : MethodId} {args : Array Value} {below : List Frame} {meth : Method} {c : Code} {Q : State → Prop} {D : va_G} {ct : Nat → ClassId} {A : Nat → Prop} {ad : Nat → Nat} {S : nH} (hC : nC p s m args c D vwCl ct A ad S 4 b_HL_markedPipe R_HL TT) (h0 : Nat) (hp0 : isH S h0) (x1 : Int) (hx1 : rg x1) : ∀ (f : Nat) (x2 x3 : Int) (N : nS) (q : Int × Int × Int × Int) (No : nS), m_HL_markedPipe_4 h0 x1 f x2 x3 N = some (q, No) → rg x2 → rg x3 → (q.1 = 0 → nV p l e rm_HL_markedPipe s m args below meth c 0 0 Q D vwCl ct A ad S 4 No 40 [(0, .ref (ad h0)), (1, .int (iI x1)), (2, .int (iI q.2.2.1)), (3, .int (iI q.2.2.2))] []) → (q.1 = 1 → nV p l e rm_HL_markedPipe s m args below meth c 0 0 Q D vwCl ct A ad S 4 No 30 [] [.int (iI q.2.1)]) → nV p l e rm_HL_markedPipe s m args below meth c 0 0 Q D vwCl ct A ad S 4 N 4 [(0, .ref (ad h0)), (1, .int (iI x1)), (2, .int (iI x2)), (3, .int (iI x3))] [] := by
  intro f
  induction f with
  | zero =>
    intro x2 x3 N q No hm
    rw [m_HL_markedPipe_4] at hm
    cases hm
  | succ f ih =>
    intro x2 x3 N q No hm hx2 hx3 kx kr
    rw [m_HL_markedPipe_4] at hm
    refine nv_iload_n hC d_HL_markedPipe_4 rfl 3 rfl ?_
    refine nv_aload_n hC d_HL_markedPipe_5 rfl 0 rfl ?_
    refine nv_getR hC (j := 0) hp0.1 rfl in_HL (by decide) k_131 rfl d_HL_markedPipe_6 ?_
    refine nv_getI hC (j := 5) (isH_net hp0).1 rfl in_Net (by decide) k_132 rfl d_HL_markedPipe_9 ?_
    obtain ⟨hr1, hm⟩ := ck_s hm
    refine nv_icmp_ge hC hx3 hr1 d_HL_markedPipe_12 (tgt := 40) (by decide) (fun c2 => ?_) (fun c2 => ?_)
    · have hm := if_t c2 hm
      obtain ⟨rfl, rfl⟩ := ret_s hm
      refine nv_sub (lv' := [(0, .ref (ad h0)), (1, .int (iI x1)), (2, .int (iI x2)), (3, .int (iI x3))]) [0, 1, 2, 3] rfl ?_
      exact kx rfl
    · have hm := if_f c2 hm
      refine nv_aload_n hC d_HL_markedPipe_15 rfl 0 rfl ?_
      refine nv_getR hC (j := 4) hp0.1 rfl in_HL (by decide) k_136 rfl d_HL_markedPipe_16 ?_
      refine nv_iload_n hC d_HL_markedPipe_19 rfl 3 rfl ?_
      obtain ⟨hc3, hm⟩ := ck_s hm
      refine nv_zald hC (isH_marked hp0) (by decide) hc3 d_HL_markedPipe_20 ?_
      obtain ⟨hr4, hm⟩ := ck_s hm
      refine nv_if_eq hC hr4 d_HL_markedPipe_21 (tgt := 34) (by decide) (fun c5 => ?_) (fun c5 => ?_)
      · have hm := if_t c5 hm
        refine nv_iinc (lv' := [(3, .int (iI (x3 + 1))), (0, .ref (ad h0)), (1, .int (iI x1)), (2, .int (iI x2))]) hC d_HL_markedPipe_34 3 rfl (by decide) rfl ?_
        refine nv_goto hC d_HL_markedPipe_37 (tgt := 4) (by decide) ?_
        obtain ⟨hr6, hm⟩ := ck_s hm
        refine nv_sub (lv' := [(0, .ref (ad h0)), (1, .int (iI x1)), (2, .int (iI x2)), (3, .int (iI (x3 + 1)))]) [1, 2, 3, 0] rfl ?_
        exact ih x2 (x3 + 1) N q No hm hx2 hr6 kx kr
      · have hm := if_f c5 hm
        refine nv_iload_n hC d_HL_markedPipe_24 rfl 2 rfl ?_
        refine nv_iload_n hC d_HL_markedPipe_25 rfl 1 rfl ?_
        refine nv_icmp_ne hC hx2 hx1 d_HL_markedPipe_26 (tgt := 31) (by decide) (fun c7 => ?_) (fun c7 => ?_)
        · have hm := if_f c7 hm
          refine nv_iinc (lv' := [(2, .int (iI (x2 + 1))), (0, .ref (ad h0)), (1, .int (iI x1)), (3, .int (iI x3))]) hC d_HL_markedPipe_31 2 rfl (by decide) rfl ?_
          refine nv_iinc (lv' := [(3, .int (iI (x3 + 1))), (2, .int (iI (x2 + 1))), (0, .ref (ad h0)), (1, .int (iI x1))]) hC d_HL_markedPipe_34 3 rfl (by decide) rfl ?_
          refine nv_goto hC d_HL_markedPipe_37 (tgt := 4) (by decide) ?_
          obtain ⟨hr8, hm⟩ := ck_s hm
          obtain ⟨hr9, hm⟩ := ck_s hm
          refine nv_sub (lv' := [(0, .ref (ad h0)), (1, .int (iI x1)), (2, .int (iI (x2 + 1))), (3, .int (iI (x3 + 1)))]) [2, 3, 1, 0] rfl ?_
          exact ih (x2 + 1) (x3 + 1) N q No hm hr8 hr9 kx kr
        · have hm := if_t c7 hm
          refine nv_iload_n hC d_HL_markedPipe_29 rfl 3 rfl ?_
          obtain ⟨rfl, rfl⟩ := ret_s hm
          refine nv_sub (lv' := []) [] rfl ?_
          exact kr rfl
set_option maxRecDepth 100000 in
set_option maxHeartbeats 4000000 in
theorem c_HL_markedPipe (l : Launch) {D : va_G} {ct : Nat → ClassId} {A : Nat → Prop} {ad : Nat → Nat} {S : nH} (hD : nD ad A S.length) (h0 : Nat) (hp0 : isH S h0) (x1 : Int) (hx1 : rg x1) (N : nS) (r : Int) (No : nS) (hm : m_HL_markedPipe h0 x1 N = some (r, No)) : nM l y_HL_markedPipe (Cond.code y_HL_markedPipe b_HL_markedPipe 4 (some .int) :: TT) rm_HL_markedPipe D vwCl ct A ad S N [.ref (ad h0), .int (iI x1)] (nQi D vwCl ct A ad S r No) := by
  refine nM_of (cc := b_HL_markedPipe) (maxL := 4) (ret := (some .int)) (by decide) rfl (Nat.le_of_ble_eq_true rfl) hD ?_
  intro p e s m below meth c hC hr hlk
  refine nv_lv (lv' := [(0, .ref (ad h0)), (1, .int (iI x1))]) rfl ?_
  rw [m_HL_markedPipe] at hm
  refine nv_iconst hC d_HL_markedPipe_0 ?_
  refine nv_istore_n (lv' := [(2, .int (iI 0)), (0, .ref (ad h0)), (1, .int (iI x1))]) hC d_HL_markedPipe_1 rfl (by decide) rfl ?_
  refine nv_iconst hC d_HL_markedPipe_2 ?_
  refine nv_istore_n (lv' := [(3, .int (iI 0)), (2, .int (iI 0)), (0, .ref (ad h0)), (1, .int (iI x1))]) hC d_HL_markedPipe_3 rfl (by decide) rfl ?_
  obtain ⟨q10, N11, hq12, hm⟩ := nbd_s hm
  refine nv_sub (lv' := [(0, .ref (ad h0)), (1, .int (iI x1)), (2, .int (iI 0)), (3, .int (iI 0))]) [2, 3, 1, 0] rfl ?_
  by_cases c13 : q10.1 = 0
  · have hm := if_t c13 hm
    refine w_HL_markedPipe_4 hC h0 hp0 x1 hx1 FU 0 0 N q10 N11 hq12 ⟨by decide, by decide⟩ ⟨by decide, by decide⟩ (fun _ => ?_) (fun h9 => absurd (c13.symm.trans h9) (by decide))
    refine nv_iconst hC d_HL_markedPipe_40 ?_
    obtain ⟨rfl, rfl⟩ := ret_s hm
    exact nv_iret hC hr hlk d_HL_markedPipe_41
  · have hm := if_f c13 hm
    refine w_HL_markedPipe_4 hC h0 hp0 x1 hx1 FU 0 0 N q10 N11 hq12 ⟨by decide, by decide⟩ ⟨by decide, by decide⟩ (fun h9 => absurd h9 c13) (fun _ => ?_)
    obtain ⟨rfl, rfl⟩ := ret_s hm
    exact nv_iret hC hr hlk d_HL_markedPipe_30
def m_HL_needPipe (h0 : Nat) (x1 : Int) (N : nS) : Option ((Int × Int) × nS) :=
  if x1 < 0 then
  some ((1, 0), N)
  else
  if rg (N (h0 + 1) 5) then
  if x1 < (N (h0 + 1) 5) then
  some ((0, 0), N)
  else
  some ((1, 0), N)
  else none
set_option maxRecDepth 20000 in
theorem k_154 : Cond.classLink R_HL 170 (eN 1) ∈ TT := tt_i 224 (by decide +kernel) (by decide +kernel)
set_option maxRecDepth 20000 in
theorem k_155 : Cond.initialized (eN 1) ∈ TT := tt_i 33 (by decide +kernel) (by decide +kernel)
set_option maxRecDepth 20000 in
theorem th0_a : ∀ w ∈ (vx_atS R_HL 174 (eN 1) ["java/lang/RuntimeException", "java/lang/Exception"]).filter goodWord, w ∈ TT := by decide +kernel
set_option maxRecDepth 20000 in
theorem th0_b : ∀ w ∈ (vx_atS R_HL 174 (eN 1) ["java/lang/RuntimeException", "java/lang/Exception"]).filter (fun w => !goodWord w), w ∈ Cond.castable (eN 1) (eN 1) :: nDec.map Cond.declares := by decide +kernel
set_option maxRecDepth 20000 in
theorem th1_c : ∀ w ∈ Cond.classLink R_HL 170 (eN 1) :: Cond.initialized (eN 1) :: vx_atS R_HL 174 (eN 1) ["java/lang/RuntimeException", "java/lang/Exception"], vx_ot w = true := by decide +kernel
abbrev rm_HL_needPipe : Room := { frames := 6, cells := 1, slots := 6, locals := 120 }
set_option maxRecDepth 100000 in
set_option maxHeartbeats 4000000 in
theorem c_HL_needPipe (l : Launch) {D : va_G} {ct : Nat → ClassId} {A : Nat → Prop} {ad : Nat → Nat} {S : nH} (hl0 : l.stackTraces = false) (hD : nD ad A S.length) (h0 : Nat) (hp0 : isH S h0) (x1 : Int) (hx1 : rg x1) (N : nS) (x r : Int) (No : nS) (hm : m_HL_needPipe h0 x1 N = some ((x, r), No)) : nMx l y_HL_needPipe (Cond.code y_HL_needPipe b_HL_needPipe 2 none :: TT) rm_HL_needPipe 1 6 D vwCl ct A ad S N [.ref (ad h0), .int (iI x1)] (nQxv D vwCl ct A ad S x No) x No := by
  refine nMx_of (cc := b_HL_needPipe) (maxL := 2) (ret := none) (by decide) rfl (Nat.le_of_ble_eq_true rfl) hD hl0 ?_
  intro p e s m below meth c hC hX hr
  refine nv_lv (lv' := [(0, .ref (ad h0)), (1, .int (iI x1))]) rfl ?_
  rw [m_HL_needPipe] at hm
  refine nv_iload_n hC d_HL_needPipe_0 rfl 1 rfl ?_
  refine nv_if_lt hC hx1 d_HL_needPipe_1 (tgt := 15) (by decide) (fun c1 => ?_) (fun c1 => ?_)
  · have hm := if_t c1 hm
    obtain ⟨rfl, rfl, rfl⟩ := retx_s hm
    exact nvx_throw hX (text := "there is no such pipe") (by decide) rfl (by decide) (by decide +kernel) k_154 k_155 th0_a th0_b th1_c d_HL_needPipe_15 d_HL_needPipe_18 d_HL_needPipe_19 d_HL_needPipe_21 d_HL_needPipe_24 (Nat.le_of_ble_eq_true rfl) (Nat.le_of_ble_eq_true rfl) (Nat.le_of_ble_eq_true rfl) (Nat.le_of_ble_eq_true rfl) (Nat.le_of_ble_eq_true rfl) (Nat.le_of_ble_eq_true rfl)
  · have hm := if_f c1 hm
    refine nv_iload_n hC d_HL_needPipe_4 rfl 1 rfl ?_
    refine nv_aload_n hC d_HL_needPipe_5 rfl 0 rfl ?_
    refine nv_getR hC (j := 0) hp0.1 rfl in_HL (by decide) k_131 rfl d_HL_needPipe_6 ?_
    refine nv_getI hC (j := 5) (isH_net hp0).1 rfl in_Net (by decide) k_132 rfl d_HL_needPipe_9 ?_
    obtain ⟨hr2, hm⟩ := ck_s hm
    refine nv_icmp_lt hC hx1 hr2 d_HL_needPipe_12 (tgt := 25) (by decide) (fun c3 => ?_) (fun c3 => ?_)
    · have hm := if_t c3 hm
      obtain ⟨rfl, rfl, rfl⟩ := retx_s hm
      exact nvx_vret hC hr hX.2.2.2.2 (Nat.le_of_ble_eq_true rfl) (Nat.le_of_ble_eq_true rfl) d_HL_needPipe_25
    · have hm := if_f c3 hm
      obtain ⟨rfl, rfl, rfl⟩ := retx_s hm
      exact nvx_throw hX (text := "there is no such pipe") (by decide) rfl (by decide) (by decide +kernel) k_154 k_155 th0_a th0_b th1_c d_HL_needPipe_15 d_HL_needPipe_18 d_HL_needPipe_19 d_HL_needPipe_21 d_HL_needPipe_24 (Nat.le_of_ble_eq_true rfl) (Nat.le_of_ble_eq_true rfl) (Nat.le_of_ble_eq_true rfl) (Nat.le_of_ble_eq_true rfl) (Nat.le_of_ble_eq_true rfl) (Nat.le_of_ble_eq_true rfl)
def m_HL_needWithin (x0 : Int) (x1 : Int) (x2 : Int) (N : nS) : Option ((Int × Int) × nS) :=
  if x0 < x1 then
  some ((1, 0), N)
  else
  if x0 ≤ x2 then
  some ((0, 0), N)
  else
  some ((1, 0), N)
abbrev rm_HL_needWithin : Room := { frames := 6, cells := 1, slots := 6, locals := 120 }
set_option maxRecDepth 100000 in
set_option maxHeartbeats 4000000 in
theorem c_HL_needWithin (l : Launch) {D : va_G} {ct : Nat → ClassId} {A : Nat → Prop} {ad : Nat → Nat} {S : nH} (hl0 : l.stackTraces = false) (hD : nD ad A S.length) (x0 : Int) (hx0 : rg x0) (x1 : Int) (hx1 : rg x1) (x2 : Int) (hx2 : rg x2) (N : nS) (x r : Int) (No : nS) (hm : m_HL_needWithin x0 x1 x2 N = some ((x, r), No)) : nMx l y_HL_needWithin (Cond.code y_HL_needWithin b_HL_needWithin 3 none :: TT) rm_HL_needWithin 1 6 D vwCl ct A ad S N [.int (iI x0), .int (iI x1), .int (iI x2)] (nQxv D vwCl ct A ad S x No) x No := by
  refine nMx_of (cc := b_HL_needWithin) (maxL := 3) (ret := none) (by decide) rfl (Nat.le_of_ble_eq_true rfl) hD hl0 ?_
  intro p e s m below meth c hC hX hr
  refine nv_lv (lv' := [(0, .int (iI x0)), (1, .int (iI x1)), (2, .int (iI x2))]) rfl ?_
  rw [m_HL_needWithin] at hm
  refine nv_iload_n hC d_HL_needWithin_0 rfl 0 rfl ?_
  refine nv_iload_n hC d_HL_needWithin_1 rfl 1 rfl ?_
  refine nv_icmp_lt hC hx0 hx1 d_HL_needWithin_2 (tgt := 10) (by decide) (fun c1 => ?_) (fun c1 => ?_)
  · have hm := if_t c1 hm
    obtain ⟨rfl, rfl, rfl⟩ := retx_s hm
    exact nvx_throw hX (text := "a number is out of its bounds") (by decide) rfl (by decide) (by decide +kernel) k_154 k_155 th0_a th0_b th1_c d_HL_needWithin_10 d_HL_needWithin_13 d_HL_needWithin_14 d_HL_needWithin_16 d_HL_needWithin_19 (Nat.le_of_ble_eq_true rfl) (Nat.le_of_ble_eq_true rfl) (Nat.le_of_ble_eq_true rfl) (Nat.le_of_ble_eq_true rfl) (Nat.le_of_ble_eq_true rfl) (Nat.le_of_ble_eq_true rfl)
  · have hm := if_f c1 hm
    refine nv_iload_n hC d_HL_needWithin_5 rfl 0 rfl ?_
    refine nv_iload_n hC d_HL_needWithin_6 rfl 2 rfl ?_
    refine nv_icmp_le hC hx0 hx2 d_HL_needWithin_7 (tgt := 20) (by decide) (fun c2 => ?_) (fun c2 => ?_)
    · have hm := if_t c2 hm
      obtain ⟨rfl, rfl, rfl⟩ := retx_s hm
      exact nvx_vret hC hr hX.2.2.2.2 (Nat.le_of_ble_eq_true rfl) (Nat.le_of_ble_eq_true rfl) d_HL_needWithin_20
    · have hm := if_f c2 hm
      obtain ⟨rfl, rfl, rfl⟩ := retx_s hm
      exact nvx_throw hX (text := "a number is out of its bounds") (by decide) rfl (by decide) (by decide +kernel) k_154 k_155 th0_a th0_b th1_c d_HL_needWithin_10 d_HL_needWithin_13 d_HL_needWithin_14 d_HL_needWithin_16 d_HL_needWithin_19 (Nat.le_of_ble_eq_true rfl) (Nat.le_of_ble_eq_true rfl) (Nat.le_of_ble_eq_true rfl) (Nat.le_of_ble_eq_true rfl) (Nat.le_of_ble_eq_true rfl) (Nat.le_of_ble_eq_true rfl)
def m_HL_needNotBelowZero (x0 : Int) (N : nS) : Option ((Int × Int) × nS) :=
  if 0 ≤ x0 then
  some ((0, 0), N)
  else
  some ((1, 0), N)
abbrev rm_HL_needNotBelowZero : Room := { frames := 6, cells := 1, slots := 6, locals := 120 }
set_option maxRecDepth 100000 in
set_option maxHeartbeats 4000000 in
theorem c_HL_needNotBelowZero (l : Launch) {D : va_G} {ct : Nat → ClassId} {A : Nat → Prop} {ad : Nat → Nat} {S : nH} (hl0 : l.stackTraces = false) (hD : nD ad A S.length) (x0 : Int) (hx0 : rg x0) (N : nS) (x r : Int) (No : nS) (hm : m_HL_needNotBelowZero x0 N = some ((x, r), No)) : nMx l y_HL_needNotBelowZero (Cond.code y_HL_needNotBelowZero b_HL_needNotBelowZero 1 none :: TT) rm_HL_needNotBelowZero 1 6 D vwCl ct A ad S N [.int (iI x0)] (nQxv D vwCl ct A ad S x No) x No := by
  refine nMx_of (cc := b_HL_needNotBelowZero) (maxL := 1) (ret := none) (by decide) rfl (Nat.le_of_ble_eq_true rfl) hD hl0 ?_
  intro p e s m below meth c hC hX hr
  refine nv_lv (lv' := [(0, .int (iI x0))]) rfl ?_
  rw [m_HL_needNotBelowZero] at hm
  refine nv_iload_n hC d_HL_needNotBelowZero_0 rfl 0 rfl ?_
  refine nv_if_ge hC hx0 d_HL_needNotBelowZero_1 (tgt := 14) (by decide) (fun c1 => ?_) (fun c1 => ?_)
  · have hm := if_t c1 hm
    obtain ⟨rfl, rfl, rfl⟩ := retx_s hm
    exact nvx_vret hC hr hX.2.2.2.2 (Nat.le_of_ble_eq_true rfl) (Nat.le_of_ble_eq_true rfl) d_HL_needNotBelowZero_14
  · have hm := if_f c1 hm
    obtain ⟨rfl, rfl, rfl⟩ := retx_s hm
    exact nvx_throw hX (text := "a number is below 0") (by decide) rfl (by decide) (by decide +kernel) k_154 k_155 th0_a th0_b th1_c d_HL_needNotBelowZero_4 d_HL_needNotBelowZero_7 d_HL_needNotBelowZero_8 d_HL_needNotBelowZero_10 d_HL_needNotBelowZero_13 (Nat.le_of_ble_eq_true rfl) (Nat.le_of_ble_eq_true rfl) (Nat.le_of_ble_eq_true rfl) (Nat.le_of_ble_eq_true rfl) (Nat.le_of_ble_eq_true rfl) (Nat.le_of_ble_eq_true rfl)
def m_HL_pipe (h0 : Nat) (x1 : Int) (x2 : Int) (x3 : Int) (N : nS) : Option ((Int × Int) × nS) :=
  if x1 = (-1) then
  nbd (m_HL_needWithin x2 1 1000 N) (fun q2 N3 =>
  if q2.1 = 0 then
  nbd (m_HL_needWithin x3 1 1000 N3) (fun q6 N7 =>
  if q6.1 = 0 then
  if rg (N7 (h0 + 1) 5) then
  if (N7 (h0 + 1) 5) < 10 then
  if rg (N7 (h0 + 7) 8) then
  if (N7 (h0 + 7) 8) ≤ 0 then
  nbd (m_Net_add (h0 + 1) x1 x2 x3 N7) (fun r14 N15 =>
  if rg r14 then
  nbd (m_Water_fillWithAir (h0 + 7) (h0 + 1) r14 N15) (fun r18 N19 =>
  some ((0, r14), N19))
  else none)
  else
  some ((2, 0), N7)
  else none
  else
  some ((2, 0), N7)
  else none
  else
  some ((q6.1, 0), N7))
  else
  some ((q2.1, 0), N3))
  else
  nbd (m_HL_needPipe h0 x1 N) (fun q21 N22 =>
  if q21.1 = 0 then
  nbd (m_HL_needWithin x2 1 1000 N22) (fun q25 N26 =>
  if q25.1 = 0 then
  nbd (m_HL_needWithin x3 1 1000 N26) (fun q29 N30 =>
  if q29.1 = 0 then
  if rg (N30 (h0 + 1) 5) then
  if (N30 (h0 + 1) 5) < 10 then
  if rg (N30 (h0 + 7) 8) then
  if (N30 (h0 + 7) 8) ≤ 0 then
  nbd (m_Net_add (h0 + 1) x1 x2 x3 N30) (fun r37 N38 =>
  if rg r37 then
  nbd (m_Water_fillWithAir (h0 + 7) (h0 + 1) r37 N38) (fun r41 N42 =>
  some ((0, r37), N42))
  else none)
  else
  some ((2, 0), N30)
  else none
  else
  some ((2, 0), N30)
  else none
  else
  some ((q29.1, 0), N30))
  else
  some ((q25.1, 0), N26))
  else
  some ((q21.1, 0), N22))
set_option maxRecDepth 20000 in
theorem k_158 : Cond.methodLink R_HL 43 y_HL_needWithin ∈ TT := tt_i 291 (by decide +kernel) (by decide +kernel)
set_option maxRecDepth 20000 in
theorem k_159 : Cond.code y_HL_needWithin b_HL_needWithin 3 none ∈ TT := tt_i 293 (by decide +kernel) (by decide +kernel)
set_option maxRecDepth 20000 in
theorem k_160 : Cond.static y_HL_needWithin ∈ TT := tt_i 292 (by decide +kernel) (by decide +kernel)
set_option maxRecDepth 20000 in
theorem k_161 : Cond.methodLink R_HL 63 y_Net_add ∈ TT := tt_i 312 (by decide +kernel) (by decide +kernel)
set_option maxRecDepth 20000 in
theorem k_162 : Cond.code y_Net_add b_Net_add 4 (some .int) ∈ TT := tt_i 315 (by decide +kernel) (by decide +kernel)
set_option maxRecDepth 20000 in
theorem k_163 : Cond.instanceMethod y_Net_add ∈ TT := tt_i 313 (by decide +kernel) (by decide +kernel)
set_option maxRecDepth 20000 in
theorem k_164 : Cond.selects R_Net y_Net_add y_Net_add ∈ TT := tt_i 314 (by decide +kernel) (by decide +kernel)
set_option maxRecDepth 20000 in
theorem k_165 : Cond.initialized R_Net ∈ TT := tt_i 24 (by decide +kernel) (by decide +kernel)
set_option maxRecDepth 20000 in
theorem k_166 : Cond.methodLink R_HL 67 y_Water_fillWithAir ∈ TT := tt_i 316 (by decide +kernel) (by decide +kernel)
set_option maxRecDepth 20000 in
theorem k_167 : Cond.classLink R_HL 51 (eN 2) ∈ TT := tt_i 295 (by decide +kernel) (by decide +kernel)
set_option maxRecDepth 20000 in
theorem k_168 : Cond.initialized (eN 2) ∈ TT := tt_i 34 (by decide +kernel) (by decide +kernel)
set_option maxRecDepth 20000 in
theorem th2_a : ∀ w ∈ (vx_atS R_HL 55 (eN 2) ["java/lang/RuntimeException", "java/lang/Exception"]).filter goodWord, w ∈ TT := by decide +kernel
set_option maxRecDepth 20000 in
theorem th2_b : ∀ w ∈ (vx_atS R_HL 55 (eN 2) ["java/lang/RuntimeException", "java/lang/Exception"]).filter (fun w => !goodWord w), w ∈ Cond.castable (eN 2) (eN 2) :: nDec.map Cond.declares := by decide +kernel
set_option maxRecDepth 20000 in
theorem th3_c : ∀ w ∈ Cond.classLink R_HL 51 (eN 2) :: Cond.initialized (eN 2) :: vx_atS R_HL 55 (eN 2) ["java/lang/RuntimeException", "java/lang/Exception"], vx_ot w = true := by decide +kernel
set_option maxRecDepth 20000 in
theorem k_171 : Cond.methodLink R_HL 39 y_HL_needPipe ∈ TT := tt_i 220 (by decide +kernel) (by decide +kernel)
set_option maxRecDepth 20000 in
theorem k_172 : Cond.code y_HL_needPipe b_HL_needPipe 2 none ∈ TT := tt_i 223 (by decide +kernel) (by decide +kernel)
set_option maxRecDepth 20000 in
theorem k_173 : Cond.instanceMethod y_HL_needPipe ∈ TT := tt_i 222 (by decide +kernel) (by decide +kernel)
set_option maxRecDepth 20000 in
theorem k_174 : Cond.selects R_HL y_HL_needPipe y_HL_needPipe ∈ TT := tt_i 0 (by decide +kernel) (by decide +kernel)
abbrev rm_HL_pipe : Room := { frames := 7, cells := 4, slots := 24, locals := 142 }
set_option maxRecDepth 100000 in
set_option maxHeartbeats 4000000 in
theorem c_HL_pipe (l : Launch) {D : va_G} {ct : Nat → ClassId} {A : Nat → Prop} {ad : Nat → Nat} {S : nH} (hl0 : l.stackTraces = false) (hD : nD ad A S.length) (h0 : Nat) (hp0 : isH S h0) (x1 : Int) (hx1 : rg x1) (x2 : Int) (hx2 : rg x2) (x3 : Int) (hx3 : rg x3) (N : nS) (x r : Int) (No : nS) (hm : m_HL_pipe h0 x1 x2 x3 N = some ((x, r), No)) : nMx l y_HL_pipe (Cond.code y_HL_pipe b_HL_pipe 5 (some .int) :: TT) rm_HL_pipe 4 24 D vwCl ct A ad S N [.ref (ad h0), .int (iI x1), .int (iI x2), .int (iI x3)] (nQxi D vwCl ct A ad S x r No) x No := by
  refine nMx_of (cc := b_HL_pipe) (maxL := 5) (ret := (some .int)) (by decide) rfl (Nat.le_of_ble_eq_true rfl) hD hl0 ?_
  intro p e s m below meth c hC hX hr
  refine nv_lv (lv' := [(0, .ref (ad h0)), (1, .int (iI x1)), (2, .int (iI x2)), (3, .int (iI x3))]) rfl ?_
  rw [m_HL_pipe] at hm
  refine nv_iload_n hC d_HL_pipe_0 rfl 1 rfl ?_
  refine nv_iconst hC d_HL_pipe_1 ?_
  refine nv_icmp_eq hC hx1 ⟨by decide, by decide⟩ d_HL_pipe_2 (tgt := 10) (by decide) (fun c1 => ?_) (fun c1 => ?_)
  · have hm := if_t c1 hm
    refine nv_iload_n hC d_HL_pipe_10 rfl 2 rfl ?_
    refine nv_iconst hC d_HL_pipe_11 ?_
    refine nv_sipush hC (z := 1000) d_HL_pipe_12 rfl ?_
    obtain ⟨q2, N3, hq4, hm⟩ := nbd_s hm
    refine nvx_callv hX (x := q2.1) (N1 := N3) (nrx_S hC hX.2.1 (As := [.int (iI x2), .int (iI 1), .int (iI 1000)]) (st := []) (c_HL_needWithin l hX.2.2.1 hC.2.2.1 x2 hx2 1 ⟨by decide, by decide⟩ 1000 ⟨by decide, by decide⟩ N q2.1 q2.2 N3 hq4) (cwS 3 hC.1.2.2.2.2 (tt_S k_158 k_160 k_149 k_159) rfl rfl rfl (by decide +kernel) ⟨Nat.le_of_ble_eq_true rfl, Nat.le_of_ble_eq_true rfl⟩) rfl rfl (Nat.le_of_ble_eq_true rfl) ⟨(Nat.le_of_ble_eq_true rfl), (Nat.le_of_ble_eq_true rfl)⟩ d_HL_pipe_15) (Nat.le_of_ble_eq_true rfl) (Nat.le_of_ble_eq_true rfl) (fun c5 => ?_) (fun c5 => retx_x (if_f c5 hm))
    have hm := if_t c5 hm
    refine nv_iload_n hC d_HL_pipe_18 rfl 3 rfl ?_
    refine nv_iconst hC d_HL_pipe_19 ?_
    refine nv_sipush hC (z := 1000) d_HL_pipe_20 rfl ?_
    obtain ⟨q6, N7, hq8, hm⟩ := nbd_s hm
    refine nvx_callv hX (x := q6.1) (N1 := N7) (nrx_S hC hX.2.1 (As := [.int (iI x3), .int (iI 1), .int (iI 1000)]) (st := []) (c_HL_needWithin l hX.2.2.1 hC.2.2.1 x3 hx3 1 ⟨by decide, by decide⟩ 1000 ⟨by decide, by decide⟩ N3 q6.1 q6.2 N7 hq8) (cwS 3 hC.1.2.2.2.2 (tt_S k_158 k_160 k_149 k_159) rfl rfl rfl (by decide +kernel) ⟨Nat.le_of_ble_eq_true rfl, Nat.le_of_ble_eq_true rfl⟩) rfl rfl (Nat.le_of_ble_eq_true rfl) ⟨(Nat.le_of_ble_eq_true rfl), (Nat.le_of_ble_eq_true rfl)⟩ d_HL_pipe_23) (Nat.le_of_ble_eq_true rfl) (Nat.le_of_ble_eq_true rfl) (fun c9 => ?_) (fun c9 => retx_x (if_f c9 hm))
    have hm := if_t c9 hm
    refine nv_aload_n hC d_HL_pipe_26 rfl 0 rfl ?_
    refine nv_getR hC (j := 0) hp0.1 rfl in_HL (by decide) k_131 rfl d_HL_pipe_27 ?_
    refine nv_getI hC (j := 5) (isH_net hp0).1 rfl in_Net (by decide) k_132 rfl d_HL_pipe_30 ?_
    refine nv_bipush hC (z := 10) d_HL_pipe_33 rfl ?_
    obtain ⟨hr10, hm⟩ := ck_s hm
    refine nv_icmp_lt hC hr10 ⟨by decide, by decide⟩ d_HL_pipe_35 (tgt := 48) (by decide) (fun c11 => ?_) (fun c11 => ?_)
    · have hm := if_t c11 hm
      refine nv_aload_n hC d_HL_pipe_48 rfl 0 rfl ?_
      refine nv_getR hC (j := 1) hp0.1 rfl in_HL (by decide) k_120 rfl d_HL_pipe_49 ?_
      refine nv_getI hC (j := 8) (isH_water hp0).1 rfl in_Water (by decide) k_121 rfl d_HL_pipe_52 ?_
      obtain ⟨hr12, hm⟩ := ck_s hm
      refine nv_if_le hC hr12 d_HL_pipe_55 (tgt := 68) (by decide) (fun c13 => ?_) (fun c13 => ?_)
      · have hm := if_t c13 hm
        refine nv_aload_n hC d_HL_pipe_68 rfl 0 rfl ?_
        refine nv_getR hC (j := 0) hp0.1 rfl in_HL (by decide) k_131 rfl d_HL_pipe_69 ?_
        refine nv_iload_n hC d_HL_pipe_72 rfl 1 rfl ?_
        refine nv_iload_n hC d_HL_pipe_73 rfl 2 rfl ?_
        refine nv_iload_n hC d_HL_pipe_74 rfl 3 rfl ?_
        obtain ⟨r14, N15, hq16, hm⟩ := nbd_s hm
        refine nv_calli (x := r14) (N' := N15) (nr_V hC (As := [.int (iI x1), .int (iI x2), .int (iI x3)]) (st := []) (isH_net hp0).1 rfl (c_Net_add l hC.2.2.1 (h0 + 1) (isH_net hp0) x1 hx1 x2 hx2 x3 hx3 N7 r14 N15 hq16) (cwV 3 hC.1.2.2.2.2 (tt_V k_161 k_163 k_164 k_165 k_162) rfl rfl rfl (by decide +kernel) ⟨Nat.le_of_ble_eq_true rfl, Nat.le_of_ble_eq_true rfl⟩) rfl rfl (Nat.le_of_ble_eq_true rfl) ⟨(Nat.le_of_ble_eq_true rfl), (Nat.le_of_ble_eq_true rfl)⟩ d_HL_pipe_75) ?_
        refine nv_istore (lv' := [(4, .int (iI r14)), (0, .ref (ad h0)), (1, .int (iI x1)), (2, .int (iI x2)), (3, .int (iI x3))]) hC d_HL_pipe_78 (by decide) rfl ?_
        refine nv_aload_n hC d_HL_pipe_80 rfl 1 rfl ?_
        refine nv_getR hC (j := 1) hp0.1 rfl in_HL (by decide) k_120 rfl d_HL_pipe_81 ?_
        refine nv_iload hC d_HL_pipe_84 0 rfl ?_
        obtain ⟨hr17, hm⟩ := ck_s hm
        obtain ⟨r18, N19, hq20, hm⟩ := nbd_s hm
        refine nv_callv (N' := N19) (nr_V hC (As := [.int (iI r14)]) (st := []) (isH_water hp0).1 rfl (c_Water_fillWithAir l hC.2.2.1 (h0 + 7) (h0 + 1) (isH_water hp0) r14 hr17 N15 r18 N19 hq20) (cwV 1 hC.1.2.2.2.2 (tt_V k_166 k_69 k_70 k_71 k_68) rfl rfl rfl (by decide +kernel) ⟨Nat.le_of_ble_eq_true rfl, Nat.le_of_ble_eq_true rfl⟩) rfl rfl (Nat.le_of_ble_eq_true rfl) ⟨(Nat.le_of_ble_eq_true rfl), (Nat.le_of_ble_eq_true rfl)⟩ d_HL_pipe_86) ?_
        refine nv_iload hC d_HL_pipe_89 0 rfl ?_
        obtain ⟨rfl, rfl, rfl⟩ := retx_s hm
        exact nvx_iret hC hr hX.2.2.2.2 (Nat.le_of_ble_eq_true rfl) (Nat.le_of_ble_eq_true rfl) d_HL_pipe_91
      · have hm := if_f c13 hm
        obtain ⟨rfl, rfl, rfl⟩ := retx_s hm
        exact nvx_throw hX (text := "a minute is over") (by decide) rfl (by decide) (by decide +kernel) k_167 k_168 th2_a th2_b th3_c d_HL_pipe_58 d_HL_pipe_61 d_HL_pipe_62 d_HL_pipe_64 d_HL_pipe_67 (Nat.le_of_ble_eq_true rfl) (Nat.le_of_ble_eq_true rfl) (Nat.le_of_ble_eq_true rfl) (Nat.le_of_ble_eq_true rfl) (Nat.le_of_ble_eq_true rfl) (Nat.le_of_ble_eq_true rfl)
    · have hm := if_f c11 hm
      obtain ⟨rfl, rfl, rfl⟩ := retx_s hm
      exact nvx_throw hX (text := "there are 10 pipes") (by decide) rfl (by decide) (by decide +kernel) k_167 k_168 th2_a th2_b th3_c d_HL_pipe_38 d_HL_pipe_41 d_HL_pipe_42 d_HL_pipe_44 d_HL_pipe_47 (Nat.le_of_ble_eq_true rfl) (Nat.le_of_ble_eq_true rfl) (Nat.le_of_ble_eq_true rfl) (Nat.le_of_ble_eq_true rfl) (Nat.le_of_ble_eq_true rfl) (Nat.le_of_ble_eq_true rfl)
  · have hm := if_f c1 hm
    refine nv_aload_n hC d_HL_pipe_5 rfl 0 rfl ?_
    refine nv_iload_n hC d_HL_pipe_6 rfl 1 rfl ?_
    obtain ⟨q21, N22, hq23, hm⟩ := nbd_s hm
    refine nvx_callv hX (x := q21.1) (N1 := N22) (nrx_V hC hX.2.1 (As := [.int (iI x1)]) (st := []) hp0.1 rfl (c_HL_needPipe l hX.2.2.1 hC.2.2.1 h0 hp0 x1 hx1 N q21.1 q21.2 N22 hq23) (cwV 1 hC.1.2.2.2.2 (tt_V k_171 k_173 k_174 k_149 k_172) rfl rfl rfl (by decide +kernel) ⟨Nat.le_of_ble_eq_true rfl, Nat.le_of_ble_eq_true rfl⟩) rfl rfl (Nat.le_of_ble_eq_true rfl) ⟨(Nat.le_of_ble_eq_true rfl), (Nat.le_of_ble_eq_true rfl)⟩ d_HL_pipe_7) (Nat.le_of_ble_eq_true rfl) (Nat.le_of_ble_eq_true rfl) (fun c24 => ?_) (fun c24 => retx_x (if_f c24 hm))
    have hm := if_t c24 hm
    refine nv_iload_n hC d_HL_pipe_10 rfl 2 rfl ?_
    refine nv_iconst hC d_HL_pipe_11 ?_
    refine nv_sipush hC (z := 1000) d_HL_pipe_12 rfl ?_
    obtain ⟨q25, N26, hq27, hm⟩ := nbd_s hm
    refine nvx_callv hX (x := q25.1) (N1 := N26) (nrx_S hC hX.2.1 (As := [.int (iI x2), .int (iI 1), .int (iI 1000)]) (st := []) (c_HL_needWithin l hX.2.2.1 hC.2.2.1 x2 hx2 1 ⟨by decide, by decide⟩ 1000 ⟨by decide, by decide⟩ N22 q25.1 q25.2 N26 hq27) (cwS 3 hC.1.2.2.2.2 (tt_S k_158 k_160 k_149 k_159) rfl rfl rfl (by decide +kernel) ⟨Nat.le_of_ble_eq_true rfl, Nat.le_of_ble_eq_true rfl⟩) rfl rfl (Nat.le_of_ble_eq_true rfl) ⟨(Nat.le_of_ble_eq_true rfl), (Nat.le_of_ble_eq_true rfl)⟩ d_HL_pipe_15) (Nat.le_of_ble_eq_true rfl) (Nat.le_of_ble_eq_true rfl) (fun c28 => ?_) (fun c28 => retx_x (if_f c28 hm))
    have hm := if_t c28 hm
    refine nv_iload_n hC d_HL_pipe_18 rfl 3 rfl ?_
    refine nv_iconst hC d_HL_pipe_19 ?_
    refine nv_sipush hC (z := 1000) d_HL_pipe_20 rfl ?_
    obtain ⟨q29, N30, hq31, hm⟩ := nbd_s hm
    refine nvx_callv hX (x := q29.1) (N1 := N30) (nrx_S hC hX.2.1 (As := [.int (iI x3), .int (iI 1), .int (iI 1000)]) (st := []) (c_HL_needWithin l hX.2.2.1 hC.2.2.1 x3 hx3 1 ⟨by decide, by decide⟩ 1000 ⟨by decide, by decide⟩ N26 q29.1 q29.2 N30 hq31) (cwS 3 hC.1.2.2.2.2 (tt_S k_158 k_160 k_149 k_159) rfl rfl rfl (by decide +kernel) ⟨Nat.le_of_ble_eq_true rfl, Nat.le_of_ble_eq_true rfl⟩) rfl rfl (Nat.le_of_ble_eq_true rfl) ⟨(Nat.le_of_ble_eq_true rfl), (Nat.le_of_ble_eq_true rfl)⟩ d_HL_pipe_23) (Nat.le_of_ble_eq_true rfl) (Nat.le_of_ble_eq_true rfl) (fun c32 => ?_) (fun c32 => retx_x (if_f c32 hm))
    have hm := if_t c32 hm
    refine nv_aload_n hC d_HL_pipe_26 rfl 0 rfl ?_
    refine nv_getR hC (j := 0) hp0.1 rfl in_HL (by decide) k_131 rfl d_HL_pipe_27 ?_
    refine nv_getI hC (j := 5) (isH_net hp0).1 rfl in_Net (by decide) k_132 rfl d_HL_pipe_30 ?_
    refine nv_bipush hC (z := 10) d_HL_pipe_33 rfl ?_
    obtain ⟨hr33, hm⟩ := ck_s hm
    refine nv_icmp_lt hC hr33 ⟨by decide, by decide⟩ d_HL_pipe_35 (tgt := 48) (by decide) (fun c34 => ?_) (fun c34 => ?_)
    · have hm := if_t c34 hm
      refine nv_aload_n hC d_HL_pipe_48 rfl 0 rfl ?_
      refine nv_getR hC (j := 1) hp0.1 rfl in_HL (by decide) k_120 rfl d_HL_pipe_49 ?_
      refine nv_getI hC (j := 8) (isH_water hp0).1 rfl in_Water (by decide) k_121 rfl d_HL_pipe_52 ?_
      obtain ⟨hr35, hm⟩ := ck_s hm
      refine nv_if_le hC hr35 d_HL_pipe_55 (tgt := 68) (by decide) (fun c36 => ?_) (fun c36 => ?_)
      · have hm := if_t c36 hm
        refine nv_aload_n hC d_HL_pipe_68 rfl 0 rfl ?_
        refine nv_getR hC (j := 0) hp0.1 rfl in_HL (by decide) k_131 rfl d_HL_pipe_69 ?_
        refine nv_iload_n hC d_HL_pipe_72 rfl 1 rfl ?_
        refine nv_iload_n hC d_HL_pipe_73 rfl 2 rfl ?_
        refine nv_iload_n hC d_HL_pipe_74 rfl 3 rfl ?_
        obtain ⟨r37, N38, hq39, hm⟩ := nbd_s hm
        refine nv_calli (x := r37) (N' := N38) (nr_V hC (As := [.int (iI x1), .int (iI x2), .int (iI x3)]) (st := []) (isH_net hp0).1 rfl (c_Net_add l hC.2.2.1 (h0 + 1) (isH_net hp0) x1 hx1 x2 hx2 x3 hx3 N30 r37 N38 hq39) (cwV 3 hC.1.2.2.2.2 (tt_V k_161 k_163 k_164 k_165 k_162) rfl rfl rfl (by decide +kernel) ⟨Nat.le_of_ble_eq_true rfl, Nat.le_of_ble_eq_true rfl⟩) rfl rfl (Nat.le_of_ble_eq_true rfl) ⟨(Nat.le_of_ble_eq_true rfl), (Nat.le_of_ble_eq_true rfl)⟩ d_HL_pipe_75) ?_
        refine nv_istore (lv' := [(4, .int (iI r37)), (0, .ref (ad h0)), (1, .int (iI x1)), (2, .int (iI x2)), (3, .int (iI x3))]) hC d_HL_pipe_78 (by decide) rfl ?_
        refine nv_aload_n hC d_HL_pipe_80 rfl 1 rfl ?_
        refine nv_getR hC (j := 1) hp0.1 rfl in_HL (by decide) k_120 rfl d_HL_pipe_81 ?_
        refine nv_iload hC d_HL_pipe_84 0 rfl ?_
        obtain ⟨hr40, hm⟩ := ck_s hm
        obtain ⟨r41, N42, hq43, hm⟩ := nbd_s hm
        refine nv_callv (N' := N42) (nr_V hC (As := [.int (iI r37)]) (st := []) (isH_water hp0).1 rfl (c_Water_fillWithAir l hC.2.2.1 (h0 + 7) (h0 + 1) (isH_water hp0) r37 hr40 N38 r41 N42 hq43) (cwV 1 hC.1.2.2.2.2 (tt_V k_166 k_69 k_70 k_71 k_68) rfl rfl rfl (by decide +kernel) ⟨Nat.le_of_ble_eq_true rfl, Nat.le_of_ble_eq_true rfl⟩) rfl rfl (Nat.le_of_ble_eq_true rfl) ⟨(Nat.le_of_ble_eq_true rfl), (Nat.le_of_ble_eq_true rfl)⟩ d_HL_pipe_86) ?_
        refine nv_iload hC d_HL_pipe_89 0 rfl ?_
        obtain ⟨rfl, rfl, rfl⟩ := retx_s hm
        exact nvx_iret hC hr hX.2.2.2.2 (Nat.le_of_ble_eq_true rfl) (Nat.le_of_ble_eq_true rfl) d_HL_pipe_91
      · have hm := if_f c36 hm
        obtain ⟨rfl, rfl, rfl⟩ := retx_s hm
        exact nvx_throw hX (text := "a minute is over") (by decide) rfl (by decide) (by decide +kernel) k_167 k_168 th2_a th2_b th3_c d_HL_pipe_58 d_HL_pipe_61 d_HL_pipe_62 d_HL_pipe_64 d_HL_pipe_67 (Nat.le_of_ble_eq_true rfl) (Nat.le_of_ble_eq_true rfl) (Nat.le_of_ble_eq_true rfl) (Nat.le_of_ble_eq_true rfl) (Nat.le_of_ble_eq_true rfl) (Nat.le_of_ble_eq_true rfl)
    · have hm := if_f c34 hm
      obtain ⟨rfl, rfl, rfl⟩ := retx_s hm
      exact nvx_throw hX (text := "there are 10 pipes") (by decide) rfl (by decide) (by decide +kernel) k_167 k_168 th2_a th2_b th3_c d_HL_pipe_38 d_HL_pipe_41 d_HL_pipe_42 d_HL_pipe_44 d_HL_pipe_47 (Nat.le_of_ble_eq_true rfl) (Nat.le_of_ble_eq_true rfl) (Nat.le_of_ble_eq_true rfl) (Nat.le_of_ble_eq_true rfl) (Nat.le_of_ble_eq_true rfl) (Nat.le_of_ble_eq_true rfl)
def m_HL_tap (h0 : Nat) (x1 : Int) (N : nS) : Option ((Int × Int) × nS) :=
  nbd (m_HL_needPipe h0 x1 N) (fun q1 N2 =>
  if q1.1 = 0 then
  if 0 ≤ x1 ∧ x1 < ((10 : Nat) : Int) then
  if rg (N2 ((h0 + 1) + 5) (Int.toNat x1)) then
  if (N2 ((h0 + 1) + 5) (Int.toNat x1)) = 0 then
  nlt (up2 N2 ((h0 + 1) + 5) (Int.toNat x1) 1) (fun N10 =>
  some ((0, 1), N10))
  else
  nlt (up2 N2 ((h0 + 1) + 5) (Int.toNat x1) 1) (fun N8 =>
  some ((0, 0), N8))
  else none
  else none
  else
  some ((q1.1, 0), N2))
abbrev rm_HL_tap : Room := { frames := 7, cells := 1, slots := 6, locals := 141 }
set_option maxRecDepth 100000 in
set_option maxHeartbeats 4000000 in
theorem c_HL_tap (l : Launch) {D : va_G} {ct : Nat → ClassId} {A : Nat → Prop} {ad : Nat → Nat} {S : nH} (hl0 : l.stackTraces = false) (hD : nD ad A S.length) (h0 : Nat) (hp0 : isH S h0) (x1 : Int) (hx1 : rg x1) (N : nS) (x r : Int) (No : nS) (hm : m_HL_tap h0 x1 N = some ((x, r), No)) : nMx l y_HL_tap (Cond.code y_HL_tap b_HL_tap 3 (some .boolean) :: TT) rm_HL_tap 1 6 D vwCl ct A ad S N [.ref (ad h0), .int (iI x1)] (nQxi D vwCl ct A ad S x r No) x No := by
  refine nMx_of (cc := b_HL_tap) (maxL := 3) (ret := (some .boolean)) (by decide) rfl (Nat.le_of_ble_eq_true rfl) hD hl0 ?_
  intro p e s m below meth c hC hX hr
  refine nv_lv (lv' := [(0, .ref (ad h0)), (1, .int (iI x1))]) rfl ?_
  rw [m_HL_tap] at hm
  refine nv_aload_n hC d_HL_tap_0 rfl 0 rfl ?_
  refine nv_iload_n hC d_HL_tap_1 rfl 1 rfl ?_
  obtain ⟨q1, N2, hq3, hm⟩ := nbd_s hm
  refine nvx_callv hX (x := q1.1) (N1 := N2) (nrx_V hC hX.2.1 (As := [.int (iI x1)]) (st := []) hp0.1 rfl (c_HL_needPipe l hX.2.2.1 hC.2.2.1 h0 hp0 x1 hx1 N q1.1 q1.2 N2 hq3) (cwV 1 hC.1.2.2.2.2 (tt_V k_171 k_173 k_174 k_149 k_172) rfl rfl rfl (by decide +kernel) ⟨Nat.le_of_ble_eq_true rfl, Nat.le_of_ble_eq_true rfl⟩) rfl rfl (Nat.le_of_ble_eq_true rfl) ⟨(Nat.le_of_ble_eq_true rfl), (Nat.le_of_ble_eq_true rfl)⟩ d_HL_tap_2) (Nat.le_of_ble_eq_true rfl) (Nat.le_of_ble_eq_true rfl) (fun c4 => ?_) (fun c4 => retx_x (if_f c4 hm))
  have hm := if_t c4 hm
  refine nv_aload_n hC d_HL_tap_5 rfl 0 rfl ?_
  refine nv_getR hC (j := 0) hp0.1 rfl in_HL (by decide) k_131 rfl d_HL_tap_6 ?_
  refine nv_getR hC (j := 4) (isH_net hp0).1 rfl in_Net (by decide) k_133 rfl d_HL_tap_9 ?_
  refine nv_iload_n hC d_HL_tap_12 rfl 1 rfl ?_
  obtain ⟨hc5, hm⟩ := ck_s hm
  refine nv_zald hC (isH_net hp0).2.2.2.2.2 (by decide) hc5 d_HL_tap_13 ?_
  obtain ⟨hr6, hm⟩ := ck_s hm
  refine nv_if_ne hC hr6 d_HL_tap_14 (tgt := 21) (by decide) (fun c7 => ?_) (fun c7 => ?_)
  · have hm := if_f c7 hm
    refine nv_iconst hC d_HL_tap_21 ?_
    refine nv_istore_n (lv' := [(2, .int (iI 0)), (0, .ref (ad h0)), (1, .int (iI x1))]) hC d_HL_tap_22 rfl (by decide) rfl ?_
    refine nv_aload_n hC d_HL_tap_23 rfl 1 rfl ?_
    refine nv_getR hC (j := 0) hp0.1 rfl in_HL (by decide) k_131 rfl d_HL_tap_24 ?_
    refine nv_getR hC (j := 4) (isH_net hp0).1 rfl in_Net (by decide) k_133 rfl d_HL_tap_27 ?_
    refine nv_iload_n hC d_HL_tap_30 rfl 2 rfl ?_
    refine nv_iconst hC d_HL_tap_31 ?_
    obtain ⟨N8, e9, hm⟩ := nlt_s hm
    refine nv_zast hC (isH_net hp0).2.2.2.2.2 (by decide) hc5 (Or.inr rfl) e9 d_HL_tap_32 ?_
    refine nv_iload_n hC d_HL_tap_33 rfl 0 rfl ?_
    obtain ⟨rfl, rfl, rfl⟩ := retx_s hm
    exact nvx_zret hC hr hX.2.2.2.2 (Or.inl rfl) (Nat.le_of_ble_eq_true rfl) (Nat.le_of_ble_eq_true rfl) d_HL_tap_34
  · have hm := if_t c7 hm
    refine nv_iconst hC d_HL_tap_17 ?_
    refine nv_goto hC d_HL_tap_18 (tgt := 22) (by decide) ?_
    refine nv_istore_n (lv' := [(2, .int (iI 1)), (0, .ref (ad h0)), (1, .int (iI x1))]) hC d_HL_tap_22 rfl (by decide) rfl ?_
    refine nv_aload_n hC d_HL_tap_23 rfl 1 rfl ?_
    refine nv_getR hC (j := 0) hp0.1 rfl in_HL (by decide) k_131 rfl d_HL_tap_24 ?_
    refine nv_getR hC (j := 4) (isH_net hp0).1 rfl in_Net (by decide) k_133 rfl d_HL_tap_27 ?_
    refine nv_iload_n hC d_HL_tap_30 rfl 2 rfl ?_
    refine nv_iconst hC d_HL_tap_31 ?_
    obtain ⟨N10, e11, hm⟩ := nlt_s hm
    refine nv_zast hC (isH_net hp0).2.2.2.2.2 (by decide) hc5 (Or.inr rfl) e11 d_HL_tap_32 ?_
    refine nv_iload_n hC d_HL_tap_33 rfl 0 rfl ?_
    obtain ⟨rfl, rfl, rfl⟩ := retx_s hm
    exact nvx_zret hC hr hX.2.2.2.2 (Or.inr rfl) (Nat.le_of_ble_eq_true rfl) (Nat.le_of_ble_eq_true rfl) d_HL_tap_34
def m_HL_set (h0 : Nat) (x1 : Int) (x2 : Int) (N : nS) : Option ((Int × Int) × nS) :=
  nbd (m_HL_needWithin x1 0 1 N) (fun q1 N2 =>
  if q1.1 = 0 then
  nbd (m_HL_needWithin x2 0 10000 N2) (fun q5 N6 =>
  if q5.1 = 0 then
  if x1 = 0 then
  nbd (m_Water_changeHeat (h0 + 7) (h0 + 1) x2 N6) (fun r13 N14 =>
  some ((0, r13), N14))
  else
  nbd (m_Water_changeAir (h0 + 7) (h0 + 1) x2 N6) (fun r10 N11 =>
  some ((0, r10), N11))
  else
  some ((q5.1, 0), N6))
  else
  some ((q1.1, 0), N2))
set_option maxRecDepth 20000 in
theorem k_175 : Cond.methodLink R_HL 77 y_Water_changeAir ∈ TT := tt_i 346 (by decide +kernel) (by decide +kernel)
set_option maxRecDepth 20000 in
theorem k_176 : Cond.code y_Water_changeAir b_Water_changeAir 4 (some .int) ∈ TT := tt_i 349 (by decide +kernel) (by decide +kernel)
set_option maxRecDepth 20000 in
theorem k_177 : Cond.instanceMethod y_Water_changeAir ∈ TT := tt_i 347 (by decide +kernel) (by decide +kernel)
set_option maxRecDepth 20000 in
theorem k_178 : Cond.selects R_Water y_Water_changeAir y_Water_changeAir ∈ TT := tt_i 348 (by decide +kernel) (by decide +kernel)
abbrev rm_HL_set : Room := { frames := 7, cells := 2, slots := 12, locals := 142 }
set_option maxRecDepth 100000 in
set_option maxHeartbeats 4000000 in
theorem c_HL_set (l : Launch) {D : va_G} {ct : Nat → ClassId} {A : Nat → Prop} {ad : Nat → Nat} {S : nH} (hl0 : l.stackTraces = false) (hD : nD ad A S.length) (h0 : Nat) (hp0 : isH S h0) (x1 : Int) (hx1 : rg x1) (x2 : Int) (hx2 : rg x2) (N : nS) (x r : Int) (No : nS) (hm : m_HL_set h0 x1 x2 N = some ((x, r), No)) : nMx l y_HL_set (Cond.code y_HL_set b_HL_set 3 (some .int) :: TT) rm_HL_set 2 12 D vwCl ct A ad S N [.ref (ad h0), .int (iI x1), .int (iI x2)] (nQxi D vwCl ct A ad S x r No) x No := by
  refine nMx_of (cc := b_HL_set) (maxL := 3) (ret := (some .int)) (by decide) rfl (Nat.le_of_ble_eq_true rfl) hD hl0 ?_
  intro p e s m below meth c hC hX hr
  refine nv_lv (lv' := [(0, .ref (ad h0)), (1, .int (iI x1)), (2, .int (iI x2))]) rfl ?_
  rw [m_HL_set] at hm
  refine nv_iload_n hC d_HL_set_0 rfl 1 rfl ?_
  refine nv_iconst hC d_HL_set_1 ?_
  refine nv_iconst hC d_HL_set_2 ?_
  obtain ⟨q1, N2, hq3, hm⟩ := nbd_s hm
  refine nvx_callv hX (x := q1.1) (N1 := N2) (nrx_S hC hX.2.1 (As := [.int (iI x1), .int (iI 0), .int (iI 1)]) (st := []) (c_HL_needWithin l hX.2.2.1 hC.2.2.1 x1 hx1 0 ⟨by decide, by decide⟩ 1 ⟨by decide, by decide⟩ N q1.1 q1.2 N2 hq3) (cwS 3 hC.1.2.2.2.2 (tt_S k_158 k_160 k_149 k_159) rfl rfl rfl (by decide +kernel) ⟨Nat.le_of_ble_eq_true rfl, Nat.le_of_ble_eq_true rfl⟩) rfl rfl (Nat.le_of_ble_eq_true rfl) ⟨(Nat.le_of_ble_eq_true rfl), (Nat.le_of_ble_eq_true rfl)⟩ d_HL_set_3) (Nat.le_of_ble_eq_true rfl) (Nat.le_of_ble_eq_true rfl) (fun c4 => ?_) (fun c4 => retx_x (if_f c4 hm))
  have hm := if_t c4 hm
  refine nv_iload_n hC d_HL_set_6 rfl 2 rfl ?_
  refine nv_iconst hC d_HL_set_7 ?_
  refine nv_sipush hC (z := 10000) d_HL_set_8 rfl ?_
  obtain ⟨q5, N6, hq7, hm⟩ := nbd_s hm
  refine nvx_callv hX (x := q5.1) (N1 := N6) (nrx_S hC hX.2.1 (As := [.int (iI x2), .int (iI 0), .int (iI 10000)]) (st := []) (c_HL_needWithin l hX.2.2.1 hC.2.2.1 x2 hx2 0 ⟨by decide, by decide⟩ 10000 ⟨by decide, by decide⟩ N2 q5.1 q5.2 N6 hq7) (cwS 3 hC.1.2.2.2.2 (tt_S k_158 k_160 k_149 k_159) rfl rfl rfl (by decide +kernel) ⟨Nat.le_of_ble_eq_true rfl, Nat.le_of_ble_eq_true rfl⟩) rfl rfl (Nat.le_of_ble_eq_true rfl) ⟨(Nat.le_of_ble_eq_true rfl), (Nat.le_of_ble_eq_true rfl)⟩ d_HL_set_11) (Nat.le_of_ble_eq_true rfl) (Nat.le_of_ble_eq_true rfl) (fun c8 => ?_) (fun c8 => retx_x (if_f c8 hm))
  have hm := if_t c8 hm
  refine nv_iload_n hC d_HL_set_14 rfl 1 rfl ?_
  refine nv_if_ne hC hx1 d_HL_set_15 (tgt := 29) (by decide) (fun c9 => ?_) (fun c9 => ?_)
  · have hm := if_f c9 hm
    refine nv_aload_n hC d_HL_set_29 rfl 0 rfl ?_
    refine nv_getR hC (j := 1) hp0.1 rfl in_HL (by decide) k_120 rfl d_HL_set_30 ?_
    refine nv_iload_n hC d_HL_set_33 rfl 2 rfl ?_
    obtain ⟨r10, N11, hq12, hm⟩ := nbd_s hm
    refine nv_calli (x := r10) (N' := N11) (nr_V hC (As := [.int (iI x2)]) (st := []) (isH_water hp0).1 rfl (c_Water_changeAir l hC.2.2.1 (h0 + 7) (h0 + 1) (isH_water hp0) x2 hx2 N6 r10 N11 hq12) (cwV 1 hC.1.2.2.2.2 (tt_V k_175 k_177 k_178 k_71 k_176) rfl rfl rfl (by decide +kernel) ⟨Nat.le_of_ble_eq_true rfl, Nat.le_of_ble_eq_true rfl⟩) rfl rfl (Nat.le_of_ble_eq_true rfl) ⟨(Nat.le_of_ble_eq_true rfl), (Nat.le_of_ble_eq_true rfl)⟩ d_HL_set_34) ?_
    obtain ⟨rfl, rfl, rfl⟩ := retx_s hm
    exact nvx_iret hC hr hX.2.2.2.2 (Nat.le_of_ble_eq_true rfl) (Nat.le_of_ble_eq_true rfl) d_HL_set_37
  · have hm := if_t c9 hm
    refine nv_aload_n hC d_HL_set_18 rfl 0 rfl ?_
    refine nv_getR hC (j := 1) hp0.1 rfl in_HL (by decide) k_120 rfl d_HL_set_19 ?_
    refine nv_iload_n hC d_HL_set_22 rfl 2 rfl ?_
    obtain ⟨r13, N14, hq15, hm⟩ := nbd_s hm
    refine nv_calli (x := r13) (N' := N14) (nr_V hC (As := [.int (iI x2)]) (st := []) (isH_water hp0).1 rfl (c_Water_changeHeat l hC.2.2.1 (h0 + 7) (h0 + 1) (isH_water hp0) x2 hx2 N6 r13 N14 hq15) (cwV 1 hC.1.2.2.2.2 (tt_V k_141 k_143 k_144 k_71 k_142) rfl rfl rfl (by decide +kernel) ⟨Nat.le_of_ble_eq_true rfl, Nat.le_of_ble_eq_true rfl⟩) rfl rfl (Nat.le_of_ble_eq_true rfl) ⟨(Nat.le_of_ble_eq_true rfl), (Nat.le_of_ble_eq_true rfl)⟩ d_HL_set_23) ?_
    refine nv_goto hC d_HL_set_26 (tgt := 37) (by decide) ?_
    obtain ⟨rfl, rfl, rfl⟩ := retx_s hm
    exact nvx_iret hC hr hX.2.2.2.2 (Nat.le_of_ble_eq_true rfl) (Nat.le_of_ble_eq_true rfl) d_HL_set_37
def m_HL_loop (h0 : Nat) (x1 : Int) (x2 : Int) (N : nS) : Option ((Int × Int) × nS) :=
  nbd (m_HL_needPipe h0 x1 N) (fun q1 N2 =>
  if q1.1 = 0 then
  nbd (m_HL_needWithin x2 0 500 N2) (fun q5 N6 =>
  if q5.1 = 0 then
  if 0 ≤ x1 ∧ x1 < ((10 : Nat) : Int) then
  nlt (up2 N6 ((h0 + 1) + 4) (Int.toNat x1) x2) (fun N10 =>
  some ((0, (N6 ((h0 + 1) + 4) (Int.toNat x1))), N10))
  else none
  else
  some ((q5.1, 0), N6))
  else
  some ((q1.1, 0), N2))
set_option maxRecDepth 20000 in
theorem k_179 : Cond.fieldLink R_HL 80 (T_Net 3).1 (T_Net 3).2.1 (T_Net 3).2.2.1 ∈ TT := tt_i 56 (by decide +kernel) (by decide +kernel)
abbrev rm_HL_loop : Room := { frames := 7, cells := 2, slots := 12, locals := 142 }
set_option maxRecDepth 100000 in
set_option maxHeartbeats 4000000 in
theorem c_HL_loop (l : Launch) {D : va_G} {ct : Nat → ClassId} {A : Nat → Prop} {ad : Nat → Nat} {S : nH} (hl0 : l.stackTraces = false) (hD : nD ad A S.length) (h0 : Nat) (hp0 : isH S h0) (x1 : Int) (hx1 : rg x1) (x2 : Int) (hx2 : rg x2) (N : nS) (x r : Int) (No : nS) (hm : m_HL_loop h0 x1 x2 N = some ((x, r), No)) : nMx l y_HL_loop (Cond.code y_HL_loop b_HL_loop 4 (some .int) :: TT) rm_HL_loop 2 12 D vwCl ct A ad S N [.ref (ad h0), .int (iI x1), .int (iI x2)] (nQxi D vwCl ct A ad S x r No) x No := by
  refine nMx_of (cc := b_HL_loop) (maxL := 4) (ret := (some .int)) (by decide) rfl (Nat.le_of_ble_eq_true rfl) hD hl0 ?_
  intro p e s m below meth c hC hX hr
  refine nv_lv (lv' := [(0, .ref (ad h0)), (1, .int (iI x1)), (2, .int (iI x2))]) rfl ?_
  rw [m_HL_loop] at hm
  refine nv_aload_n hC d_HL_loop_0 rfl 0 rfl ?_
  refine nv_iload_n hC d_HL_loop_1 rfl 1 rfl ?_
  obtain ⟨q1, N2, hq3, hm⟩ := nbd_s hm
  refine nvx_callv hX (x := q1.1) (N1 := N2) (nrx_V hC hX.2.1 (As := [.int (iI x1)]) (st := []) hp0.1 rfl (c_HL_needPipe l hX.2.2.1 hC.2.2.1 h0 hp0 x1 hx1 N q1.1 q1.2 N2 hq3) (cwV 1 hC.1.2.2.2.2 (tt_V k_171 k_173 k_174 k_149 k_172) rfl rfl rfl (by decide +kernel) ⟨Nat.le_of_ble_eq_true rfl, Nat.le_of_ble_eq_true rfl⟩) rfl rfl (Nat.le_of_ble_eq_true rfl) ⟨(Nat.le_of_ble_eq_true rfl), (Nat.le_of_ble_eq_true rfl)⟩ d_HL_loop_2) (Nat.le_of_ble_eq_true rfl) (Nat.le_of_ble_eq_true rfl) (fun c4 => ?_) (fun c4 => retx_x (if_f c4 hm))
  have hm := if_t c4 hm
  refine nv_iload_n hC d_HL_loop_5 rfl 2 rfl ?_
  refine nv_iconst hC d_HL_loop_6 ?_
  refine nv_sipush hC (z := 500) d_HL_loop_7 rfl ?_
  obtain ⟨q5, N6, hq7, hm⟩ := nbd_s hm
  refine nvx_callv hX (x := q5.1) (N1 := N6) (nrx_S hC hX.2.1 (As := [.int (iI x2), .int (iI 0), .int (iI 500)]) (st := []) (c_HL_needWithin l hX.2.2.1 hC.2.2.1 x2 hx2 0 ⟨by decide, by decide⟩ 500 ⟨by decide, by decide⟩ N2 q5.1 q5.2 N6 hq7) (cwS 3 hC.1.2.2.2.2 (tt_S k_158 k_160 k_149 k_159) rfl rfl rfl (by decide +kernel) ⟨Nat.le_of_ble_eq_true rfl, Nat.le_of_ble_eq_true rfl⟩) rfl rfl (Nat.le_of_ble_eq_true rfl) ⟨(Nat.le_of_ble_eq_true rfl), (Nat.le_of_ble_eq_true rfl)⟩ d_HL_loop_10) (Nat.le_of_ble_eq_true rfl) (Nat.le_of_ble_eq_true rfl) (fun c8 => ?_) (fun c8 => retx_x (if_f c8 hm))
  have hm := if_t c8 hm
  refine nv_aload_n hC d_HL_loop_13 rfl 0 rfl ?_
  refine nv_getR hC (j := 0) hp0.1 rfl in_HL (by decide) k_131 rfl d_HL_loop_14 ?_
  refine nv_getR hC (j := 3) (isH_net hp0).1 rfl in_Net (by decide) k_179 rfl d_HL_loop_17 ?_
  refine nv_iload_n hC d_HL_loop_20 rfl 1 rfl ?_
  obtain ⟨hc9, hm⟩ := ck_s hm
  refine nv_iald hC (isH_net hp0).2.2.2.2.1 (by decide) hc9 d_HL_loop_21 ?_
  refine nv_istore_n (lv' := [(3, .int (iI (N6 ((h0 + 1) + 4) (Int.toNat x1)))), (0, .ref (ad h0)), (1, .int (iI x1)), (2, .int (iI x2))]) hC d_HL_loop_22 rfl (by decide) rfl ?_
  refine nv_aload_n hC d_HL_loop_23 rfl 1 rfl ?_
  refine nv_getR hC (j := 0) hp0.1 rfl in_HL (by decide) k_131 rfl d_HL_loop_24 ?_
  refine nv_getR hC (j := 3) (isH_net hp0).1 rfl in_Net (by decide) k_179 rfl d_HL_loop_27 ?_
  refine nv_iload_n hC d_HL_loop_30 rfl 2 rfl ?_
  refine nv_iload_n hC d_HL_loop_31 rfl 3 rfl ?_
  obtain ⟨N10, e11, hm⟩ := nlt_s hm
  refine nv_iast hC (isH_net hp0).2.2.2.2.1 (by decide) hc9 e11 d_HL_loop_32 ?_
  refine nv_iload_n hC d_HL_loop_33 rfl 0 rfl ?_
  obtain ⟨rfl, rfl, rfl⟩ := retx_s hm
  exact nvx_iret hC hr hX.2.2.2.2 (Nat.le_of_ble_eq_true rfl) (Nat.le_of_ble_eq_true rfl) d_HL_loop_34
def m_HL_draw (h0 : Nat) (x1 : Int) (x2 : Int) (x3 : Int) (N : nS) : Option ((Int × Int) × nS) :=
  nbd (m_HL_needPipe h0 x1 N) (fun q1 N2 =>
  if q1.1 = 0 then
  nbd (m_HL_needWithin x2 0 2999 N2) (fun q5 N6 =>
  if q5.1 = 0 then
  nbd (m_HL_needWithin x3 1 1000 N6) (fun q9 N10 =>
  if q9.1 = 0 then
  if 0 ≤ x1 ∧ x1 < ((10 : Nat) : Int) then
  if rg (N10 ((h0 + 1) + 5) (Int.toNat x1)) then
  if (N10 ((h0 + 1) + 5) (Int.toNat x1)) = 0 then
  some ((2, 0), N10)
  else
  if rg (N10 (h0 + 7) 8) then
  if (N10 (h0 + 7) 8) ≤ x2 then
  if rg (N10 (h0 + 95) 6) then
  if (N10 (h0 + 95) 6) < 60 then
  nbd (m_Draws_add (h0 + 95) x1 x2 x3 N10) (fun r20 N21 =>
  some ((0, r20), N21))
  else
  some ((2, 0), N10)
  else none
  else
  some ((2, 0), N10)
  else none
  else none
  else none
  else
  some ((q9.1, 0), N10))
  else
  some ((q5.1, 0), N6))
  else
  some ((q1.1, 0), N2))
set_option maxRecDepth 20000 in
theorem k_180 : Cond.methodLink R_HL 91 y_Draws_add ∈ TT := tt_i 368 (by decide +kernel) (by decide +kernel)
set_option maxRecDepth 20000 in
theorem k_181 : Cond.code y_Draws_add b_Draws_add 4 (some .int) ∈ TT := tt_i 371 (by decide +kernel) (by decide +kernel)
set_option maxRecDepth 20000 in
theorem k_182 : Cond.instanceMethod y_Draws_add ∈ TT := tt_i 369 (by decide +kernel) (by decide +kernel)
set_option maxRecDepth 20000 in
theorem k_183 : Cond.selects R_Draws y_Draws_add y_Draws_add ∈ TT := tt_i 370 (by decide +kernel) (by decide +kernel)
abbrev rm_HL_draw : Room := { frames := 7, cells := 4, slots := 24, locals := 142 }
set_option maxRecDepth 100000 in
set_option maxHeartbeats 4000000 in
theorem c_HL_draw (l : Launch) {D : va_G} {ct : Nat → ClassId} {A : Nat → Prop} {ad : Nat → Nat} {S : nH} (hl0 : l.stackTraces = false) (hD : nD ad A S.length) (h0 : Nat) (hp0 : isH S h0) (x1 : Int) (hx1 : rg x1) (x2 : Int) (hx2 : rg x2) (x3 : Int) (hx3 : rg x3) (N : nS) (x r : Int) (No : nS) (hm : m_HL_draw h0 x1 x2 x3 N = some ((x, r), No)) : nMx l y_HL_draw (Cond.code y_HL_draw b_HL_draw 4 (some .int) :: TT) rm_HL_draw 4 24 D vwCl ct A ad S N [.ref (ad h0), .int (iI x1), .int (iI x2), .int (iI x3)] (nQxi D vwCl ct A ad S x r No) x No := by
  refine nMx_of (cc := b_HL_draw) (maxL := 4) (ret := (some .int)) (by decide) rfl (Nat.le_of_ble_eq_true rfl) hD hl0 ?_
  intro p e s m below meth c hC hX hr
  refine nv_lv (lv' := [(0, .ref (ad h0)), (1, .int (iI x1)), (2, .int (iI x2)), (3, .int (iI x3))]) rfl ?_
  rw [m_HL_draw] at hm
  refine nv_aload_n hC d_HL_draw_0 rfl 0 rfl ?_
  refine nv_iload_n hC d_HL_draw_1 rfl 1 rfl ?_
  obtain ⟨q1, N2, hq3, hm⟩ := nbd_s hm
  refine nvx_callv hX (x := q1.1) (N1 := N2) (nrx_V hC hX.2.1 (As := [.int (iI x1)]) (st := []) hp0.1 rfl (c_HL_needPipe l hX.2.2.1 hC.2.2.1 h0 hp0 x1 hx1 N q1.1 q1.2 N2 hq3) (cwV 1 hC.1.2.2.2.2 (tt_V k_171 k_173 k_174 k_149 k_172) rfl rfl rfl (by decide +kernel) ⟨Nat.le_of_ble_eq_true rfl, Nat.le_of_ble_eq_true rfl⟩) rfl rfl (Nat.le_of_ble_eq_true rfl) ⟨(Nat.le_of_ble_eq_true rfl), (Nat.le_of_ble_eq_true rfl)⟩ d_HL_draw_2) (Nat.le_of_ble_eq_true rfl) (Nat.le_of_ble_eq_true rfl) (fun c4 => ?_) (fun c4 => retx_x (if_f c4 hm))
  have hm := if_t c4 hm
  refine nv_iload_n hC d_HL_draw_5 rfl 2 rfl ?_
  refine nv_iconst hC d_HL_draw_6 ?_
  refine nv_sipush hC (z := 2999) d_HL_draw_7 rfl ?_
  obtain ⟨q5, N6, hq7, hm⟩ := nbd_s hm
  refine nvx_callv hX (x := q5.1) (N1 := N6) (nrx_S hC hX.2.1 (As := [.int (iI x2), .int (iI 0), .int (iI 2999)]) (st := []) (c_HL_needWithin l hX.2.2.1 hC.2.2.1 x2 hx2 0 ⟨by decide, by decide⟩ 2999 ⟨by decide, by decide⟩ N2 q5.1 q5.2 N6 hq7) (cwS 3 hC.1.2.2.2.2 (tt_S k_158 k_160 k_149 k_159) rfl rfl rfl (by decide +kernel) ⟨Nat.le_of_ble_eq_true rfl, Nat.le_of_ble_eq_true rfl⟩) rfl rfl (Nat.le_of_ble_eq_true rfl) ⟨(Nat.le_of_ble_eq_true rfl), (Nat.le_of_ble_eq_true rfl)⟩ d_HL_draw_10) (Nat.le_of_ble_eq_true rfl) (Nat.le_of_ble_eq_true rfl) (fun c8 => ?_) (fun c8 => retx_x (if_f c8 hm))
  have hm := if_t c8 hm
  refine nv_iload_n hC d_HL_draw_13 rfl 3 rfl ?_
  refine nv_iconst hC d_HL_draw_14 ?_
  refine nv_sipush hC (z := 1000) d_HL_draw_15 rfl ?_
  obtain ⟨q9, N10, hq11, hm⟩ := nbd_s hm
  refine nvx_callv hX (x := q9.1) (N1 := N10) (nrx_S hC hX.2.1 (As := [.int (iI x3), .int (iI 1), .int (iI 1000)]) (st := []) (c_HL_needWithin l hX.2.2.1 hC.2.2.1 x3 hx3 1 ⟨by decide, by decide⟩ 1000 ⟨by decide, by decide⟩ N6 q9.1 q9.2 N10 hq11) (cwS 3 hC.1.2.2.2.2 (tt_S k_158 k_160 k_149 k_159) rfl rfl rfl (by decide +kernel) ⟨Nat.le_of_ble_eq_true rfl, Nat.le_of_ble_eq_true rfl⟩) rfl rfl (Nat.le_of_ble_eq_true rfl) ⟨(Nat.le_of_ble_eq_true rfl), (Nat.le_of_ble_eq_true rfl)⟩ d_HL_draw_18) (Nat.le_of_ble_eq_true rfl) (Nat.le_of_ble_eq_true rfl) (fun c12 => ?_) (fun c12 => retx_x (if_f c12 hm))
  have hm := if_t c12 hm
  refine nv_aload_n hC d_HL_draw_21 rfl 0 rfl ?_
  refine nv_getR hC (j := 0) hp0.1 rfl in_HL (by decide) k_131 rfl d_HL_draw_22 ?_
  refine nv_getR hC (j := 4) (isH_net hp0).1 rfl in_Net (by decide) k_133 rfl d_HL_draw_25 ?_
  refine nv_iload_n hC d_HL_draw_28 rfl 1 rfl ?_
  obtain ⟨hc13, hm⟩ := ck_s hm
  refine nv_zald hC (isH_net hp0).2.2.2.2.2 (by decide) hc13 d_HL_draw_29 ?_
  obtain ⟨hr14, hm⟩ := ck_s hm
  refine nv_if_ne hC hr14 d_HL_draw_30 (tgt := 43) (by decide) (fun c15 => ?_) (fun c15 => ?_)
  · have hm := if_f c15 hm
    refine nv_iload_n hC d_HL_draw_43 rfl 2 rfl ?_
    refine nv_aload_n hC d_HL_draw_44 rfl 0 rfl ?_
    refine nv_getR hC (j := 1) hp0.1 rfl in_HL (by decide) k_120 rfl d_HL_draw_45 ?_
    refine nv_getI hC (j := 8) (isH_water hp0).1 rfl in_Water (by decide) k_121 rfl d_HL_draw_48 ?_
    obtain ⟨hr16, hm⟩ := ck_s hm
    refine nv_icmp_ge hC hx2 hr16 d_HL_draw_51 (tgt := 64) (by decide) (fun c17 => ?_) (fun c17 => ?_)
    · have hm := if_t c17 hm
      refine nv_aload_n hC d_HL_draw_64 rfl 0 rfl ?_
      refine nv_getR hC (j := 3) hp0.1 rfl in_HL (by decide) k_117 rfl d_HL_draw_65 ?_
      refine nv_getI hC (j := 6) (isH_draws hp0).1 rfl in_Draws (by decide) k_118 rfl d_HL_draw_68 ?_
      refine nv_bipush hC (z := 60) d_HL_draw_71 rfl ?_
      obtain ⟨hr18, hm⟩ := ck_s hm
      refine nv_icmp_lt hC hr18 ⟨by decide, by decide⟩ d_HL_draw_73 (tgt := 86) (by decide) (fun c19 => ?_) (fun c19 => ?_)
      · have hm := if_t c19 hm
        refine nv_aload_n hC d_HL_draw_86 rfl 0 rfl ?_
        refine nv_getR hC (j := 3) hp0.1 rfl in_HL (by decide) k_117 rfl d_HL_draw_87 ?_
        refine nv_iload_n hC d_HL_draw_90 rfl 1 rfl ?_
        refine nv_iload_n hC d_HL_draw_91 rfl 2 rfl ?_
        refine nv_iload_n hC d_HL_draw_92 rfl 3 rfl ?_
        obtain ⟨r20, N21, hq22, hm⟩ := nbd_s hm
        refine nv_calli (x := r20) (N' := N21) (nr_V hC (As := [.int (iI x1), .int (iI x2), .int (iI x3)]) (st := []) (isH_draws hp0).1 rfl (c_Draws_add l hC.2.2.1 (h0 + 95) (isH_draws hp0) x1 hx1 x2 hx2 x3 hx3 N10 r20 N21 hq22) (cwV 3 hC.1.2.2.2.2 (tt_V k_180 k_182 k_183 k_130 k_181) rfl rfl rfl (by decide +kernel) ⟨Nat.le_of_ble_eq_true rfl, Nat.le_of_ble_eq_true rfl⟩) rfl rfl (Nat.le_of_ble_eq_true rfl) ⟨(Nat.le_of_ble_eq_true rfl), (Nat.le_of_ble_eq_true rfl)⟩ d_HL_draw_93) ?_
        obtain ⟨rfl, rfl, rfl⟩ := retx_s hm
        exact nvx_iret hC hr hX.2.2.2.2 (Nat.le_of_ble_eq_true rfl) (Nat.le_of_ble_eq_true rfl) d_HL_draw_96
      · have hm := if_f c19 hm
        obtain ⟨rfl, rfl, rfl⟩ := retx_s hm
        exact nvx_throw hX (text := "there are 60 draws") (by decide) rfl (by decide) (by decide +kernel) k_167 k_168 th2_a th2_b th3_c d_HL_draw_76 d_HL_draw_79 d_HL_draw_80 d_HL_draw_82 d_HL_draw_85 (Nat.le_of_ble_eq_true rfl) (Nat.le_of_ble_eq_true rfl) (Nat.le_of_ble_eq_true rfl) (Nat.le_of_ble_eq_true rfl) (Nat.le_of_ble_eq_true rfl) (Nat.le_of_ble_eq_true rfl)
    · have hm := if_f c17 hm
      obtain ⟨rfl, rfl, rfl⟩ := retx_s hm
      exact nvx_throw hX (text := "the minute is over") (by decide) rfl (by decide) (by decide +kernel) k_167 k_168 th2_a th2_b th3_c d_HL_draw_54 d_HL_draw_57 d_HL_draw_58 d_HL_draw_60 d_HL_draw_63 (Nat.le_of_ble_eq_true rfl) (Nat.le_of_ble_eq_true rfl) (Nat.le_of_ble_eq_true rfl) (Nat.le_of_ble_eq_true rfl) (Nat.le_of_ble_eq_true rfl) (Nat.le_of_ble_eq_true rfl)
  · have hm := if_t c15 hm
    obtain ⟨rfl, rfl, rfl⟩ := retx_s hm
    exact nvx_throw hX (text := "the pipe has no tap") (by decide) rfl (by decide) (by decide +kernel) k_167 k_168 th2_a th2_b th3_c d_HL_draw_33 d_HL_draw_36 d_HL_draw_37 d_HL_draw_39 d_HL_draw_42 (Nat.le_of_ble_eq_true rfl) (Nat.le_of_ble_eq_true rfl) (Nat.le_of_ble_eq_true rfl) (Nat.le_of_ble_eq_true rfl) (Nat.le_of_ble_eq_true rfl) (Nat.le_of_ble_eq_true rfl)
def m_HL_run_34 (h0 : Nat) (x1 : Int) : Nat → Int → nS → Option ((Int) × nS)
  | 0, _, _ => none
  | f + 1, x2, N =>
    if x1 ≤ x2 then
    some (x2, N)
    else
    nbd (m_HL_takeDraws h0 N) (fun r8 N9 =>
    nbd (m_Water_endMinute (h0 + 7) (h0 + 1) N9) (fun r11 N12 =>
    if rg (x2 + 1) then
    m_HL_run_34 h0 x1 f (x2 + 1) N12
    else none))
def m_HL_run (h0 : Nat) (x1 : Int) (N : nS) : Option ((Int × Int) × nS) :=
  nbd (m_HL_needWithin x1 1 100 N) (fun q1 N2 =>
  if q1.1 = 0 then
  if rg ((N2 (h0 + 7) 8) + x1) then
  if ((N2 (h0 + 7) 8) + x1) ≤ 3000 then
  nbd (m_HL_run_34 h0 x1 FU 0 N2) (fun q15 N16 =>
  some ((0, (N16 (h0 + 7) 8)), N16))
  else
  some ((2, 0), N2)
  else none
  else
  some ((q1.1, 0), N2))
set_option maxRecDepth 20000 in
theorem k_184 : Cond.methodLink R_HL 94 y_HL_takeDraws ∈ TT := tt_i 380 (by decide +kernel) (by decide +kernel)
set_option maxRecDepth 20000 in
theorem k_185 : Cond.code y_HL_takeDraws b_HL_takeDraws 2 none ∈ TT := tt_i 383 (by decide +kernel) (by decide +kernel)
set_option maxRecDepth 20000 in
theorem k_186 : Cond.instanceMethod y_HL_takeDraws ∈ TT := tt_i 382 (by decide +kernel) (by decide +kernel)
set_option maxRecDepth 20000 in
theorem k_187 : Cond.selects R_HL y_HL_takeDraws y_HL_takeDraws ∈ TT := tt_i 2 (by decide +kernel) (by decide +kernel)
abbrev rm_HL_run : Room := { frames := 7, cells := 2, slots := 12, locals := 142 }
set_option maxRecDepth 100000 in
set_option maxHeartbeats 4000000 in
theorem w_HL_run_34 {p : Program} {l : Launch} {e : Env} {s : State} {m : MethodId} {args : Array Value} {below : List Frame} {meth : Method} {c : Code} {Q : State → Prop} {D : va_G} {ct : Nat → ClassId} {A : Nat → Prop} {ad : Nat → Nat} {S : nH} (hC : nC p s m args c D vwCl ct A ad S 3 b_HL_run R_HL TT) (h0 : Nat) (hp0 : isH S h0) (x1 : Int) (hx1 : rg x1) : ∀ (f : Nat) (x2 : Int) (N : nS) (q : Int) (No : nS), m_HL_run_34 h0 x1 f x2 N = some (q, No) → rg x2 → nV p l e rm_HL_run s m args below meth c 1 6 Q D vwCl ct A ad S 3 No 56 [(0, .ref (ad h0)), (1, .int (iI x1)), (2, .int (iI q))] [] → nV p l e rm_HL_run s m args below meth c 1 6 Q D vwCl ct A ad S 3 N 34 [(0, .ref (ad h0)), (1, .int (iI x1)), (2, .int (iI x2))] [] := by
  intro f
  induction f with
  | zero =>
    intro x2 N q No hm
    rw [m_HL_run_34] at hm
    cases hm
  | succ f ih =>
    intro x2 N q No hm hx2 kx
    rw [m_HL_run_34] at hm
    refine nv_iload_n hC d_HL_run_34 rfl 2 rfl ?_
    refine nv_iload_n hC d_HL_run_35 rfl 1 rfl ?_
    refine nv_icmp_ge hC hx2 hx1 d_HL_run_36 (tgt := 56) (by decide) (fun c7 => ?_) (fun c7 => ?_)
    · have hm := if_t c7 hm
      obtain ⟨rfl, rfl⟩ := ret_s hm
      refine nv_sub (lv' := [(0, .ref (ad h0)), (1, .int (iI x1)), (2, .int (iI x2))]) [0, 1, 2] rfl ?_
      exact kx
    · have hm := if_f c7 hm
      refine nv_aload_n hC d_HL_run_39 rfl 0 rfl ?_
      obtain ⟨r8, N9, hq10, hm⟩ := nbd_s hm
      refine nv_callv (N' := N9) (nr_V hC (As := []) (st := []) hp0.1 rfl (c_HL_takeDraws l hC.2.2.1 h0 hp0 N r8 N9 hq10) (cwV 0 hC.1.2.2.2.2 (tt_V k_184 k_186 k_187 k_149 k_185) rfl rfl rfl (by decide +kernel) ⟨Nat.le_of_ble_eq_true rfl, Nat.le_of_ble_eq_true rfl⟩) rfl rfl (Nat.le_of_ble_eq_true rfl) ⟨(Nat.le_of_ble_eq_true rfl), (Nat.le_of_ble_eq_true rfl)⟩ d_HL_run_40) ?_
      refine nv_aload_n hC d_HL_run_43 rfl 0 rfl ?_
      refine nv_getR hC (j := 1) hp0.1 rfl in_HL (by decide) k_120 rfl d_HL_run_44 ?_
      obtain ⟨r11, N12, hq13, hm⟩ := nbd_s hm
      refine nv_callv (N' := N12) (nr_V hC (As := []) (st := []) (isH_water hp0).1 rfl (c_Water_endMinute l hC.2.2.1 (h0 + 7) (h0 + 1) (isH_water hp0) N9 r11 N12 hq13) (cwV 0 hC.1.2.2.2.2 (tt_V k_150 k_152 k_153 k_71 k_151) rfl rfl rfl (by decide +kernel) ⟨Nat.le_of_ble_eq_true rfl, Nat.le_of_ble_eq_true rfl⟩) rfl rfl (Nat.le_of_ble_eq_true rfl) ⟨(Nat.le_of_ble_eq_true rfl), (Nat.le_of_ble_eq_true rfl)⟩ d_HL_run_47) ?_
      refine nv_iinc (lv' := [(2, .int (iI (x2 + 1))), (0, .ref (ad h0)), (1, .int (iI x1))]) hC d_HL_run_50 2 rfl (by decide) rfl ?_
      refine nv_goto hC d_HL_run_53 (tgt := 34) (by decide) ?_
      obtain ⟨hr14, hm⟩ := ck_s hm
      refine nv_sub (lv' := [(0, .ref (ad h0)), (1, .int (iI x1)), (2, .int (iI (x2 + 1)))]) [1, 2, 0] rfl ?_
      exact ih (x2 + 1) N12 q No hm hr14 kx
set_option maxRecDepth 100000 in
set_option maxHeartbeats 4000000 in
theorem c_HL_run (l : Launch) {D : va_G} {ct : Nat → ClassId} {A : Nat → Prop} {ad : Nat → Nat} {S : nH} (hl0 : l.stackTraces = false) (hD : nD ad A S.length) (h0 : Nat) (hp0 : isH S h0) (x1 : Int) (hx1 : rg x1) (N : nS) (x r : Int) (No : nS) (hm : m_HL_run h0 x1 N = some ((x, r), No)) : nMx l y_HL_run (Cond.code y_HL_run b_HL_run 3 (some .int) :: TT) rm_HL_run 2 12 D vwCl ct A ad S N [.ref (ad h0), .int (iI x1)] (nQxi D vwCl ct A ad S x r No) x No := by
  refine nMx_of (cc := b_HL_run) (maxL := 3) (ret := (some .int)) (by decide) rfl (Nat.le_of_ble_eq_true rfl) hD hl0 ?_
  intro p e s m below meth c hC hX hr
  refine nv_lv (lv' := [(0, .ref (ad h0)), (1, .int (iI x1))]) rfl ?_
  rw [m_HL_run] at hm
  refine nv_iload_n hC d_HL_run_0 rfl 1 rfl ?_
  refine nv_iconst hC d_HL_run_1 ?_
  refine nv_bipush hC (z := 100) d_HL_run_2 rfl ?_
  obtain ⟨q1, N2, hq3, hm⟩ := nbd_s hm
  refine nvx_callv hX (x := q1.1) (N1 := N2) (nrx_S hC hX.2.1 (As := [.int (iI x1), .int (iI 1), .int (iI 100)]) (st := []) (c_HL_needWithin l hX.2.2.1 hC.2.2.1 x1 hx1 1 ⟨by decide, by decide⟩ 100 ⟨by decide, by decide⟩ N q1.1 q1.2 N2 hq3) (cwS 3 hC.1.2.2.2.2 (tt_S k_158 k_160 k_149 k_159) rfl rfl rfl (by decide +kernel) ⟨Nat.le_of_ble_eq_true rfl, Nat.le_of_ble_eq_true rfl⟩) rfl rfl (Nat.le_of_ble_eq_true rfl) ⟨(Nat.le_of_ble_eq_true rfl), (Nat.le_of_ble_eq_true rfl)⟩ d_HL_run_4) (Nat.le_of_ble_eq_true rfl) (Nat.le_of_ble_eq_true rfl) (fun c4 => ?_) (fun c4 => retx_x (if_f c4 hm))
  have hm := if_t c4 hm
  refine nv_aload_n hC d_HL_run_7 rfl 0 rfl ?_
  refine nv_getR hC (j := 1) hp0.1 rfl in_HL (by decide) k_120 rfl d_HL_run_8 ?_
  refine nv_getI hC (j := 8) (isH_water hp0).1 rfl in_Water (by decide) k_121 rfl d_HL_run_11 ?_
  refine nv_iload_n hC d_HL_run_14 rfl 1 rfl ?_
  refine nv_iadd hC d_HL_run_15 ?_
  refine nv_sipush hC (z := 3000) d_HL_run_16 rfl ?_
  obtain ⟨hr5, hm⟩ := ck_s hm
  refine nv_icmp_le hC hr5 ⟨by decide, by decide⟩ d_HL_run_19 (tgt := 32) (by decide) (fun c6 => ?_) (fun c6 => ?_)
  · have hm := if_t c6 hm
    refine nv_iconst hC d_HL_run_32 ?_
    refine nv_istore_n (lv' := [(2, .int (iI 0)), (0, .ref (ad h0)), (1, .int (iI x1))]) hC d_HL_run_33 rfl (by decide) rfl ?_
    obtain ⟨q15, N16, hq17, hm⟩ := nbd_s hm
    refine nv_sub (lv' := [(0, .ref (ad h0)), (1, .int (iI x1)), (2, .int (iI 0))]) [1, 2, 0] rfl ?_
    refine w_HL_run_34 hC h0 hp0 x1 hx1 FU 0 N2 q15 N16 hq17 ⟨by decide, by decide⟩ ?_
    refine nv_aload_n hC d_HL_run_56 rfl 0 rfl ?_
    refine nv_getR hC (j := 1) hp0.1 rfl in_HL (by decide) k_120 rfl d_HL_run_57 ?_
    refine nv_getI hC (j := 8) (isH_water hp0).1 rfl in_Water (by decide) k_121 rfl d_HL_run_60 ?_
    obtain ⟨rfl, rfl, rfl⟩ := retx_s hm
    exact nvx_iret hC hr hX.2.2.2.2 (Nat.le_of_ble_eq_true rfl) (Nat.le_of_ble_eq_true rfl) d_HL_run_63
  · have hm := if_f c6 hm
    obtain ⟨rfl, rfl, rfl⟩ := retx_s hm
    exact nvx_throw hX (text := "there would be more than 3000 minutes") (by decide) rfl (by decide) (by decide +kernel) k_167 k_168 th2_a th2_b th3_c d_HL_run_22 d_HL_run_25 d_HL_run_26 d_HL_run_28 d_HL_run_31 (Nat.le_of_ble_eq_true rfl) (Nat.le_of_ble_eq_true rfl) (Nat.le_of_ble_eq_true rfl) (Nat.le_of_ble_eq_true rfl) (Nat.le_of_ble_eq_true rfl) (Nat.le_of_ble_eq_true rfl)
def m_HL_plug (h0 : Nat) (x1 : Int) (x2 : Int) (x3 : Int) (N : nS) : Option ((Int × Int) × nS) :=
  nbd (m_HL_needPipe h0 x1 N) (fun q1 N2 =>
  if q1.1 = 0 then
  nbd (m_HL_needNotBelowZero x2 N2) (fun q5 N6 =>
  if q5.1 = 0 then
  nbd (m_HL_needWithin x3 0 1 N6) (fun q9 N10 =>
  if q9.1 = 0 then
  if 0 ≤ x1 ∧ x1 < ((10 : Nat) : Int) then
  if rg (N10 ((h0 + 7) + 1 + 13 + 3 * (Int.toNat x1)) 2) then
  if x2 < (N10 ((h0 + 7) + 1 + 13 + 3 * (Int.toNat x1)) 2) then
  if x3 = 0 then
  if 0 ≤ x2 ∧ x2 < ((12 : Nat) : Int) then
  some ((0, (N10 (((h0 + 7) + 1 + 13 + 3 * (Int.toNat x1)) + 1) (Int.toNat x2))), N10)
  else none
  else
  if 0 ≤ x2 ∧ x2 < ((12 : Nat) : Int) then
  some ((0, (N10 (((h0 + 7) + 1 + 13 + 3 * (Int.toNat x1)) + 2) (Int.toNat x2))), N10)
  else none
  else
  some ((0, (-1)), N10)
  else none
  else none
  else
  some ((q9.1, 0), N10))
  else
  some ((q5.1, 0), N6))
  else
  some ((q1.1, 0), N2))
set_option maxRecDepth 20000 in
theorem k_188 : Cond.methodLink R_HL 100 y_HL_needNotBelowZero ∈ TT := tt_i 459 (by decide +kernel) (by decide +kernel)
set_option maxRecDepth 20000 in
theorem k_189 : Cond.code y_HL_needNotBelowZero b_HL_needNotBelowZero 1 none ∈ TT := tt_i 461 (by decide +kernel) (by decide +kernel)
set_option maxRecDepth 20000 in
theorem k_190 : Cond.static y_HL_needNotBelowZero ∈ TT := tt_i 460 (by decide +kernel) (by decide +kernel)
set_option maxRecDepth 20000 in
theorem k_191 : Cond.fieldLink R_HL 103 (T_Water 1).1 (T_Water 1).2.1 (T_Water 1).2.2.1 ∈ TT := tt_i 112 (by decide +kernel) (by decide +kernel)
set_option maxRecDepth 20000 in
theorem k_192 : Cond.fieldLink R_HL 107 (T_Plugs 2).1 (T_Plugs 2).2.1 (T_Plugs 2).2.2.1 ∈ TT := tt_i 101 (by decide +kernel) (by decide +kernel)
set_option maxRecDepth 20000 in
theorem k_193 : Cond.fieldLink R_HL 113 (T_Plugs 1).1 (T_Plugs 1).2.1 (T_Plugs 1).2.2.1 ∈ TT := tt_i 98 (by decide +kernel) (by decide +kernel)
set_option maxRecDepth 20000 in
theorem k_194 : Cond.fieldLink R_HL 110 (T_Plugs 0).1 (T_Plugs 0).2.1 (T_Plugs 0).2.2.1 ∈ TT := tt_i 95 (by decide +kernel) (by decide +kernel)
abbrev rm_HL_plug : Room := { frames := 7, cells := 3, slots := 18, locals := 142 }
set_option maxRecDepth 100000 in
set_option maxHeartbeats 4000000 in
theorem c_HL_plug (l : Launch) {D : va_G} {ct : Nat → ClassId} {A : Nat → Prop} {ad : Nat → Nat} {S : nH} (hl0 : l.stackTraces = false) (hD : nD ad A S.length) (h0 : Nat) (hp0 : isH S h0) (x1 : Int) (hx1 : rg x1) (x2 : Int) (hx2 : rg x2) (x3 : Int) (hx3 : rg x3) (N : nS) (x r : Int) (No : nS) (hm : m_HL_plug h0 x1 x2 x3 N = some ((x, r), No)) : nMx l y_HL_plug (Cond.code y_HL_plug b_HL_plug 5 (some .int) :: TT) rm_HL_plug 3 18 D vwCl ct A ad S N [.ref (ad h0), .int (iI x1), .int (iI x2), .int (iI x3)] (nQxi D vwCl ct A ad S x r No) x No := by
  refine nMx_of (cc := b_HL_plug) (maxL := 5) (ret := (some .int)) (by decide) rfl (Nat.le_of_ble_eq_true rfl) hD hl0 ?_
  intro p e s m below meth c hC hX hr
  refine nv_lv (lv' := [(0, .ref (ad h0)), (1, .int (iI x1)), (2, .int (iI x2)), (3, .int (iI x3))]) rfl ?_
  rw [m_HL_plug] at hm
  refine nv_aload_n hC d_HL_plug_0 rfl 0 rfl ?_
  refine nv_iload_n hC d_HL_plug_1 rfl 1 rfl ?_
  obtain ⟨q1, N2, hq3, hm⟩ := nbd_s hm
  refine nvx_callv hX (x := q1.1) (N1 := N2) (nrx_V hC hX.2.1 (As := [.int (iI x1)]) (st := []) hp0.1 rfl (c_HL_needPipe l hX.2.2.1 hC.2.2.1 h0 hp0 x1 hx1 N q1.1 q1.2 N2 hq3) (cwV 1 hC.1.2.2.2.2 (tt_V k_171 k_173 k_174 k_149 k_172) rfl rfl rfl (by decide +kernel) ⟨Nat.le_of_ble_eq_true rfl, Nat.le_of_ble_eq_true rfl⟩) rfl rfl (Nat.le_of_ble_eq_true rfl) ⟨(Nat.le_of_ble_eq_true rfl), (Nat.le_of_ble_eq_true rfl)⟩ d_HL_plug_2) (Nat.le_of_ble_eq_true rfl) (Nat.le_of_ble_eq_true rfl) (fun c4 => ?_) (fun c4 => retx_x (if_f c4 hm))
  have hm := if_t c4 hm
  refine nv_iload_n hC d_HL_plug_5 rfl 2 rfl ?_
  obtain ⟨q5, N6, hq7, hm⟩ := nbd_s hm
  refine nvx_callv hX (x := q5.1) (N1 := N6) (nrx_S hC hX.2.1 (As := [.int (iI x2)]) (st := []) (c_HL_needNotBelowZero l hX.2.2.1 hC.2.2.1 x2 hx2 N2 q5.1 q5.2 N6 hq7) (cwS 1 hC.1.2.2.2.2 (tt_S k_188 k_190 k_149 k_189) rfl rfl rfl (by decide +kernel) ⟨Nat.le_of_ble_eq_true rfl, Nat.le_of_ble_eq_true rfl⟩) rfl rfl (Nat.le_of_ble_eq_true rfl) ⟨(Nat.le_of_ble_eq_true rfl), (Nat.le_of_ble_eq_true rfl)⟩ d_HL_plug_6) (Nat.le_of_ble_eq_true rfl) (Nat.le_of_ble_eq_true rfl) (fun c8 => ?_) (fun c8 => retx_x (if_f c8 hm))
  have hm := if_t c8 hm
  refine nv_iload_n hC d_HL_plug_9 rfl 3 rfl ?_
  refine nv_iconst hC d_HL_plug_10 ?_
  refine nv_iconst hC d_HL_plug_11 ?_
  obtain ⟨q9, N10, hq11, hm⟩ := nbd_s hm
  refine nvx_callv hX (x := q9.1) (N1 := N10) (nrx_S hC hX.2.1 (As := [.int (iI x3), .int (iI 0), .int (iI 1)]) (st := []) (c_HL_needWithin l hX.2.2.1 hC.2.2.1 x3 hx3 0 ⟨by decide, by decide⟩ 1 ⟨by decide, by decide⟩ N6 q9.1 q9.2 N10 hq11) (cwS 3 hC.1.2.2.2.2 (tt_S k_158 k_160 k_149 k_159) rfl rfl rfl (by decide +kernel) ⟨Nat.le_of_ble_eq_true rfl, Nat.le_of_ble_eq_true rfl⟩) rfl rfl (Nat.le_of_ble_eq_true rfl) ⟨(Nat.le_of_ble_eq_true rfl), (Nat.le_of_ble_eq_true rfl)⟩ d_HL_plug_12) (Nat.le_of_ble_eq_true rfl) (Nat.le_of_ble_eq_true rfl) (fun c12 => ?_) (fun c12 => retx_x (if_f c12 hm))
  have hm := if_t c12 hm
  refine nv_aload_n hC d_HL_plug_15 rfl 0 rfl ?_
  refine nv_getR hC (j := 1) hp0.1 rfl in_HL (by decide) k_120 rfl d_HL_plug_16 ?_
  refine nv_getR hC (j := 1) (isH_water hp0).1 rfl in_Water (by decide) k_191 rfl d_HL_plug_19 ?_
  refine nv_iload_n hC d_HL_plug_22 rfl 1 rfl ?_
  obtain ⟨hc13, hm⟩ := ck_s hm
  refine nv_aald hC (isW_rows (isH_water hp0)) (by decide) hc13 rfl d_HL_plug_23 ?_
  refine nv_astore (lv' := [(4, .ref (ad ((h0 + 7) + 1 + 13 + 3 * (Int.toNat x1)))), (0, .ref (ad h0)), (1, .int (iI x1)), (2, .int (iI x2)), (3, .int (iI x3))]) hC d_HL_plug_24 (by decide) rfl ?_
  refine nv_iload_n hC d_HL_plug_26 rfl 3 rfl ?_
  refine nv_aload hC d_HL_plug_27 0 rfl ?_
  refine nv_getI hC (j := 2) (isW_row (isH_water hp0) (tn_lt hc13)).1 rfl in_Plugs (by decide) k_192 rfl d_HL_plug_29 ?_
  obtain ⟨hr14, hm⟩ := ck_s hm
  refine nv_icmp_lt hC hx2 hr14 d_HL_plug_32 (tgt := 37) (by decide) (fun c15 => ?_) (fun c15 => ?_)
  · have hm := if_t c15 hm
    refine nv_iload_n hC d_HL_plug_37 rfl 4 rfl ?_
    refine nv_if_ne hC hx3 d_HL_plug_38 (tgt := 51) (by decide) (fun c16 => ?_) (fun c16 => ?_)
    · have hm := if_f c16 hm
      refine nv_aload hC d_HL_plug_51 0 rfl ?_
      refine nv_getR hC (j := 1) (isW_row (isH_water hp0) (tn_lt hc13)).1 rfl in_Plugs (by decide) k_193 rfl d_HL_plug_53 ?_
      refine nv_iload_n hC d_HL_plug_56 rfl 3 rfl ?_
      obtain ⟨hc17, hm⟩ := ck_s hm
      refine nv_iald hC (isW_row (isH_water hp0) (tn_lt hc13)).2.2.1 (isW_row (isH_water hp0) (tn_lt hc13)).2.2.2 hc17 d_HL_plug_57 ?_
      obtain ⟨rfl, rfl, rfl⟩ := retx_s hm
      exact nvx_iret hC hr hX.2.2.2.2 (Nat.le_of_ble_eq_true rfl) (Nat.le_of_ble_eq_true rfl) d_HL_plug_58
    · have hm := if_t c16 hm
      refine nv_aload hC d_HL_plug_41 0 rfl ?_
      refine nv_getR hC (j := 0) (isW_row (isH_water hp0) (tn_lt hc13)).1 rfl in_Plugs (by decide) k_194 rfl d_HL_plug_43 ?_
      refine nv_iload_n hC d_HL_plug_46 rfl 3 rfl ?_
      obtain ⟨hc18, hm⟩ := ck_s hm
      refine nv_iald hC (isW_row (isH_water hp0) (tn_lt hc13)).2.1 (isW_row (isH_water hp0) (tn_lt hc13)).2.2.2 hc18 d_HL_plug_47 ?_
      refine nv_goto hC d_HL_plug_48 (tgt := 58) (by decide) ?_
      obtain ⟨rfl, rfl, rfl⟩ := retx_s hm
      exact nvx_iret hC hr hX.2.2.2.2 (Nat.le_of_ble_eq_true rfl) (Nat.le_of_ble_eq_true rfl) d_HL_plug_58
  · have hm := if_f c15 hm
    refine nv_iconst hC d_HL_plug_35 ?_
    obtain ⟨rfl, rfl, rfl⟩ := retx_s hm
    exact nvx_iret hC hr hX.2.2.2.2 (Nat.le_of_ble_eq_true rfl) (Nat.le_of_ble_eq_true rfl) d_HL_plug_36
def m_HL_told (h0 : Nat) (x1 : Int) (x2 : Int) (N : nS) : Option ((Int × Int) × nS) :=
  nbd (m_HL_needPipe h0 x1 N) (fun q1 N2 =>
  if q1.1 = 0 then
  nbd (m_HL_needWithin x2 0 3 N2) (fun q5 N6 =>
  if q5.1 = 0 then
  if x2 = 0 then
  if 0 ≤ x1 ∧ x1 < ((10 : Nat) : Int) then
  nbd (m_Plugs_least ((h0 + 7) + 1 + 13 + 3 * (Int.toNat x1)) 12 N6) (fun r11 N12 =>
  some ((0, r11), N12))
  else none
  else
  if x2 = 1 then
  if 0 ≤ x1 ∧ x1 < ((10 : Nat) : Int) then
  nbd (m_Plugs_greatest ((h0 + 7) + 1 + 13 + 3 * (Int.toNat x1)) 12 N6) (fun r16 N17 =>
  some ((0, r16), N17))
  else none
  else
  if x2 = 2 then
  nbd (m_Water_minutesSinceFlow (h0 + 7) (h0 + 1) x1 N6) (fun r20 N21 =>
  some ((0, r20), N21))
  else
  if 0 ≤ x1 ∧ x1 < ((10 : Nat) : Int) then
  some ((0, (N6 ((h0 + 7) + 13) (Int.toNat x1))), N6)
  else none
  else
  some ((q5.1, 0), N6))
  else
  some ((q1.1, 0), N2))
set_option maxRecDepth 20000 in
theorem k_195 : Cond.methodLink R_HL 120 y_Plugs_greatest ∈ TT := tt_i 471 (by decide +kernel) (by decide +kernel)
set_option maxRecDepth 20000 in
theorem k_196 : Cond.methodLink R_HL 123 y_Water_minutesSinceFlow ∈ TT := tt_i 472 (by decide +kernel) (by decide +kernel)
set_option maxRecDepth 20000 in
theorem k_197 : Cond.fieldLink R_HL 126 (T_Water 7).1 (T_Water 7).2.1 (T_Water 7).2.2.1 ∈ TT := tt_i 120 (by decide +kernel) (by decide +kernel)
abbrev rm_HL_told : Room := { frames := 7, cells := 2, slots := 12, locals := 142 }
set_option maxRecDepth 100000 in
set_option maxHeartbeats 4000000 in
theorem c_HL_told (l : Launch) {D : va_G} {ct : Nat → ClassId} {A : Nat → Prop} {ad : Nat → Nat} {S : nH} (hl0 : l.stackTraces = false) (hD : nD ad A S.length) (h0 : Nat) (hp0 : isH S h0) (x1 : Int) (hx1 : rg x1) (x2 : Int) (hx2 : rg x2) (N : nS) (x r : Int) (No : nS) (hm : m_HL_told h0 x1 x2 N = some ((x, r), No)) : nMx l y_HL_told (Cond.code y_HL_told b_HL_told 3 (some .int) :: TT) rm_HL_told 2 12 D vwCl ct A ad S N [.ref (ad h0), .int (iI x1), .int (iI x2)] (nQxi D vwCl ct A ad S x r No) x No := by
  refine nMx_of (cc := b_HL_told) (maxL := 3) (ret := (some .int)) (by decide) rfl (Nat.le_of_ble_eq_true rfl) hD hl0 ?_
  intro p e s m below meth c hC hX hr
  refine nv_lv (lv' := [(0, .ref (ad h0)), (1, .int (iI x1)), (2, .int (iI x2))]) rfl ?_
  rw [m_HL_told] at hm
  refine nv_aload_n hC d_HL_told_0 rfl 0 rfl ?_
  refine nv_iload_n hC d_HL_told_1 rfl 1 rfl ?_
  obtain ⟨q1, N2, hq3, hm⟩ := nbd_s hm
  refine nvx_callv hX (x := q1.1) (N1 := N2) (nrx_V hC hX.2.1 (As := [.int (iI x1)]) (st := []) hp0.1 rfl (c_HL_needPipe l hX.2.2.1 hC.2.2.1 h0 hp0 x1 hx1 N q1.1 q1.2 N2 hq3) (cwV 1 hC.1.2.2.2.2 (tt_V k_171 k_173 k_174 k_149 k_172) rfl rfl rfl (by decide +kernel) ⟨Nat.le_of_ble_eq_true rfl, Nat.le_of_ble_eq_true rfl⟩) rfl rfl (Nat.le_of_ble_eq_true rfl) ⟨(Nat.le_of_ble_eq_true rfl), (Nat.le_of_ble_eq_true rfl)⟩ d_HL_told_2) (Nat.le_of_ble_eq_true rfl) (Nat.le_of_ble_eq_true rfl) (fun c4 => ?_) (fun c4 => retx_x (if_f c4 hm))
  have hm := if_t c4 hm
  refine nv_iload_n hC d_HL_told_5 rfl 2 rfl ?_
  refine nv_iconst hC d_HL_told_6 ?_
  refine nv_iconst hC d_HL_told_7 ?_
  obtain ⟨q5, N6, hq7, hm⟩ := nbd_s hm
  refine nvx_callv hX (x := q5.1) (N1 := N6) (nrx_S hC hX.2.1 (As := [.int (iI x2), .int (iI 0), .int (iI 3)]) (st := []) (c_HL_needWithin l hX.2.2.1 hC.2.2.1 x2 hx2 0 ⟨by decide, by decide⟩ 3 ⟨by decide, by decide⟩ N2 q5.1 q5.2 N6 hq7) (cwS 3 hC.1.2.2.2.2 (tt_S k_158 k_160 k_149 k_159) rfl rfl rfl (by decide +kernel) ⟨Nat.le_of_ble_eq_true rfl, Nat.le_of_ble_eq_true rfl⟩) rfl rfl (Nat.le_of_ble_eq_true rfl) ⟨(Nat.le_of_ble_eq_true rfl), (Nat.le_of_ble_eq_true rfl)⟩ d_HL_told_8) (Nat.le_of_ble_eq_true rfl) (Nat.le_of_ble_eq_true rfl) (fun c8 => ?_) (fun c8 => retx_x (if_f c8 hm))
  have hm := if_t c8 hm
  refine nv_iload_n hC d_HL_told_11 rfl 2 rfl ?_
  by_cases c9 : x2 = 0
  · have hm := if_t c9 hm
    refine nv_tableIn hC 0 hx2 c9 d_HL_told_12 (tgt := 40) (by decide) (by decide) rfl (by decide) ?_
    refine nv_aload_n hC d_HL_told_40 rfl 0 rfl ?_
    refine nv_getR hC (j := 1) hp0.1 rfl in_HL (by decide) k_120 rfl d_HL_told_41 ?_
    refine nv_getR hC (j := 1) (isH_water hp0).1 rfl in_Water (by decide) k_191 rfl d_HL_told_44 ?_
    refine nv_iload_n hC d_HL_told_47 rfl 1 rfl ?_
    obtain ⟨hc10, hm⟩ := ck_s hm
    refine nv_aald hC (isW_rows (isH_water hp0)) (by decide) hc10 rfl d_HL_told_48 ?_
    obtain ⟨r11, N12, hq13, hm⟩ := nbd_s hm
    refine nv_calli (x := r11) (N' := N12) (nr_V hC (As := []) (st := []) (isW_row (isH_water hp0) (tn_lt hc10)).1 rfl (c_Plugs_least l hC.2.2.1 ((h0 + 7) + 1 + 13 + 3 * (Int.toNat x1)) 12 (isW_row (isH_water hp0) (tn_lt hc10)) N6 r11 N12 hq13) (cwV 0 hC.1.2.2.2.2 (tt_V k_135 k_47 k_48 k_7 k_46) rfl rfl rfl (by decide +kernel) ⟨Nat.le_of_ble_eq_true rfl, Nat.le_of_ble_eq_true rfl⟩) rfl rfl (Nat.le_of_ble_eq_true rfl) ⟨(Nat.le_of_ble_eq_true rfl), (Nat.le_of_ble_eq_true rfl)⟩ d_HL_told_49) ?_
    obtain ⟨rfl, rfl, rfl⟩ := retx_s hm
    exact nvx_iret hC hr hX.2.2.2.2 (Nat.le_of_ble_eq_true rfl) (Nat.le_of_ble_eq_true rfl) d_HL_told_52
  · have hm := if_f c9 hm
    by_cases c14 : x2 = 1
    · have hm := if_t c14 hm
      refine nv_tableIn hC 1 hx2 c14 d_HL_told_12 (tgt := 53) (by decide) (by decide) rfl (by decide) ?_
      refine nv_aload_n hC d_HL_told_53 rfl 0 rfl ?_
      refine nv_getR hC (j := 1) hp0.1 rfl in_HL (by decide) k_120 rfl d_HL_told_54 ?_
      refine nv_getR hC (j := 1) (isH_water hp0).1 rfl in_Water (by decide) k_191 rfl d_HL_told_57 ?_
      refine nv_iload_n hC d_HL_told_60 rfl 1 rfl ?_
      obtain ⟨hc15, hm⟩ := ck_s hm
      refine nv_aald hC (isW_rows (isH_water hp0)) (by decide) hc15 rfl d_HL_told_61 ?_
      obtain ⟨r16, N17, hq18, hm⟩ := nbd_s hm
      refine nv_calli (x := r16) (N' := N17) (nr_V hC (As := []) (st := []) (isW_row (isH_water hp0) (tn_lt hc15)).1 rfl (c_Plugs_greatest l hC.2.2.1 ((h0 + 7) + 1 + 13 + 3 * (Int.toNat x1)) 12 (isW_row (isH_water hp0) (tn_lt hc15)) N6 r16 N17 hq18) (cwV 0 hC.1.2.2.2.2 (tt_V k_195 k_52 k_53 k_7 k_51) rfl rfl rfl (by decide +kernel) ⟨Nat.le_of_ble_eq_true rfl, Nat.le_of_ble_eq_true rfl⟩) rfl rfl (Nat.le_of_ble_eq_true rfl) ⟨(Nat.le_of_ble_eq_true rfl), (Nat.le_of_ble_eq_true rfl)⟩ d_HL_told_62) ?_
      obtain ⟨rfl, rfl, rfl⟩ := retx_s hm
      exact nvx_iret hC hr hX.2.2.2.2 (Nat.le_of_ble_eq_true rfl) (Nat.le_of_ble_eq_true rfl) d_HL_told_65
    · have hm := if_f c14 hm
      by_cases c19 : x2 = 2
      · have hm := if_t c19 hm
        refine nv_tableIn hC 2 hx2 c19 d_HL_told_12 (tgt := 66) (by decide) (by decide) rfl (by decide) ?_
        refine nv_aload_n hC d_HL_told_66 rfl 0 rfl ?_
        refine nv_getR hC (j := 1) hp0.1 rfl in_HL (by decide) k_120 rfl d_HL_told_67 ?_
        refine nv_iload_n hC d_HL_told_70 rfl 1 rfl ?_
        obtain ⟨r20, N21, hq22, hm⟩ := nbd_s hm
        refine nv_calli (x := r20) (N' := N21) (nr_V hC (As := [.int (iI x1)]) (st := []) (isH_water hp0).1 rfl (c_Water_minutesSinceFlow l hC.2.2.1 (h0 + 7) (h0 + 1) (isH_water hp0) x1 hx1 N6 r20 N21 hq22) (cwV 1 hC.1.2.2.2.2 (tt_V k_196 k_112 k_113 k_71 k_111) rfl rfl rfl (by decide +kernel) ⟨Nat.le_of_ble_eq_true rfl, Nat.le_of_ble_eq_true rfl⟩) rfl rfl (Nat.le_of_ble_eq_true rfl) ⟨(Nat.le_of_ble_eq_true rfl), (Nat.le_of_ble_eq_true rfl)⟩ d_HL_told_71) ?_
        obtain ⟨rfl, rfl, rfl⟩ := retx_s hm
        exact nvx_iret hC hr hX.2.2.2.2 (Nat.le_of_ble_eq_true rfl) (Nat.le_of_ble_eq_true rfl) d_HL_told_74
      · have hm := if_f c19 hm
        refine nv_tableOut hC hx2 d_HL_told_12 (tgt := 75) (by omega) (by decide) ?_
        refine nv_aload_n hC d_HL_told_75 rfl 0 rfl ?_
        refine nv_getR hC (j := 1) hp0.1 rfl in_HL (by decide) k_120 rfl d_HL_told_76 ?_
        refine nv_getR hC (j := 7) (isH_water hp0).1 rfl in_Water (by decide) k_197 rfl d_HL_told_79 ?_
        refine nv_iload_n hC d_HL_told_82 rfl 1 rfl ?_
        obtain ⟨hc23, hm⟩ := ck_s hm
        refine nv_iald hC (isW_tepid (isH_water hp0)) (by decide) hc23 d_HL_told_83 ?_
        obtain ⟨rfl, rfl, rfl⟩ := retx_s hm
        exact nvx_iret hC hr hX.2.2.2.2 (Nat.le_of_ble_eq_true rfl) (Nat.le_of_ble_eq_true rfl) d_HL_told_84
def m_HL_dead_10 (h0 : Nat) (x1 : Int) (x2 : Int) : Nat → Int → nS → Option ((Int) × nS)
  | 0, _, _ => none
  | f + 1, x3, N =>
    if rg (N (h0 + 1) 5) then
    if (N (h0 + 1) 5) ≤ x3 then
    some (x3, N)
    else
    nbd (m_Water_stoodStill (h0 + 7) (h0 + 1) x3 x1 N) (fun r11 N12 =>
    if 0 ≤ x3 ∧ x3 < ((10 : Nat) : Int) then
    if r11 = 0 ∨ r11 = 1 then
    nlt (up2 N12 (h0 + 102) (Int.toNat x3) r11) (fun N16 =>
    if rg (x3 + 1) then
    m_HL_dead_10 h0 x1 x2 f (x3 + 1) N16
    else none)
    else none
    else none)
    else none
def m_HL_dead (h0 : Nat) (x1 : Int) (x2 : Int) (N : nS) : Option ((Int × Int) × nS) :=
  nbd (m_HL_needNotBelowZero x1 N) (fun q1 N2 =>
  if q1.1 = 0 then
  nbd (m_HL_needNotBelowZero x2 N2) (fun q5 N6 =>
  if q5.1 = 0 then
  nbd (m_HL_dead_10 h0 x1 x2 FU 0 N6) (fun q19 N20 =>
  nbd (m_HL_markedPipe h0 x2 N20) (fun r22 N23 =>
  some ((0, r22), N23)))
  else
  some ((q5.1, 0), N6))
  else
  some ((q1.1, 0), N2))
set_option maxRecDepth 20000 in
theorem k_198 : Cond.methodLink R_HL 129 y_Water_stoodStill ∈ TT := tt_i 483 (by decide +kernel) (by decide +kernel)
set_option maxRecDepth 20000 in
theorem k_199 : Cond.code y_Water_stoodStill b_Water_stoodStill 3 (some .boolean) ∈ TT := tt_i 486 (by decide +kernel) (by decide +kernel)
set_option maxRecDepth 20000 in
theorem k_200 : Cond.instanceMethod y_Water_stoodStill ∈ TT := tt_i 484 (by decide +kernel) (by decide +kernel)
set_option maxRecDepth 20000 in
theorem k_201 : Cond.selects R_Water y_Water_stoodStill y_Water_stoodStill ∈ TT := tt_i 485 (by decide +kernel) (by decide +kernel)
set_option maxRecDepth 20000 in
theorem k_202 : Cond.methodLink R_HL 133 y_HL_markedPipe ∈ TT := tt_i 488 (by decide +kernel) (by decide +kernel)
set_option maxRecDepth 20000 in
theorem k_203 : Cond.code y_HL_markedPipe b_HL_markedPipe 4 (some .int) ∈ TT := tt_i 491 (by decide +kernel) (by decide +kernel)
set_option maxRecDepth 20000 in
theorem k_204 : Cond.instanceMethod y_HL_markedPipe ∈ TT := tt_i 490 (by decide +kernel) (by decide +kernel)
set_option maxRecDepth 20000 in
theorem k_205 : Cond.selects R_HL y_HL_markedPipe y_HL_markedPipe ∈ TT := tt_i 7 (by decide +kernel) (by decide +kernel)
abbrev rm_HL_dead : Room := { frames := 7, cells := 2, slots := 12, locals := 140 }
set_option maxRecDepth 100000 in
set_option maxHeartbeats 4000000 in
theorem w_HL_dead_10 {p : Program} {l : Launch} {e : Env} {s : State} {m : MethodId} {args : Array Value} {below : List Frame} {meth : Method} {c : Code} {Q : State → Prop} {D : va_G} {ct : Nat → ClassId} {A : Nat → Prop} {ad : Nat → Nat} {S : nH} (hC : nC p s m args c D vwCl ct A ad S 4 b_HL_dead R_HL TT) (h0 : Nat) (hp0 : isH S h0) (x1 : Int) (hx1 : rg x1) (x2 : Int) (hx2 : rg x2) : ∀ (f : Nat) (x3 : Int) (N : nS) (q : Int) (No : nS), m_HL_dead_10 h0 x1 x2 f x3 N = some (q, No) → rg x3 → nV p l e rm_HL_dead s m args below meth c 2 12 Q D vwCl ct A ad S 4 No 42 [(0, .ref (ad h0)), (1, .int (iI x1)), (2, .int (iI x2)), (3, .int (iI q))] [] → nV p l e rm_HL_dead s m args below meth c 2 12 Q D vwCl ct A ad S 4 N 10 [(0, .ref (ad h0)), (1, .int (iI x1)), (2, .int (iI x2)), (3, .int (iI x3))] [] := by
  intro f
  induction f with
  | zero =>
    intro x3 N q No hm
    rw [m_HL_dead_10] at hm
    cases hm
  | succ f ih =>
    intro x3 N q No hm hx3 kx
    rw [m_HL_dead_10] at hm
    refine nv_iload_n hC d_HL_dead_10 rfl 3 rfl ?_
    refine nv_aload_n hC d_HL_dead_11 rfl 0 rfl ?_
    refine nv_getR hC (j := 0) hp0.1 rfl in_HL (by decide) k_131 rfl d_HL_dead_12 ?_
    refine nv_getI hC (j := 5) (isH_net hp0).1 rfl in_Net (by decide) k_132 rfl d_HL_dead_15 ?_
    obtain ⟨hr9, hm⟩ := ck_s hm
    refine nv_icmp_ge hC hx3 hr9 d_HL_dead_18 (tgt := 42) (by decide) (fun c10 => ?_) (fun c10 => ?_)
    · have hm := if_t c10 hm
      obtain ⟨rfl, rfl⟩ := ret_s hm
      refine nv_sub (lv' := [(0, .ref (ad h0)), (1, .int (iI x1)), (2, .int (iI x2)), (3, .int (iI x3))]) [0, 1, 2, 3] rfl ?_
      exact kx
    · have hm := if_f c10 hm
      refine nv_aload_n hC d_HL_dead_21 rfl 0 rfl ?_
      refine nv_getR hC (j := 4) hp0.1 rfl in_HL (by decide) k_136 rfl d_HL_dead_22 ?_
      refine nv_iload_n hC d_HL_dead_25 rfl 3 rfl ?_
      refine nv_aload_n hC d_HL_dead_26 rfl 0 rfl ?_
      refine nv_getR hC (j := 1) hp0.1 rfl in_HL (by decide) k_120 rfl d_HL_dead_27 ?_
      refine nv_iload_n hC d_HL_dead_30 rfl 3 rfl ?_
      refine nv_iload_n hC d_HL_dead_31 rfl 1 rfl ?_
      obtain ⟨r11, N12, hq13, hm⟩ := nbd_s hm
      refine nv_calli (x := r11) (N' := N12) (nr_V hC (As := [.int (iI x3), .int (iI x1)]) (st := [.int (iI x3), .ref (ad (h0 + 102))]) (isH_water hp0).1 rfl (c_Water_stoodStill l hC.2.2.1 (h0 + 7) (h0 + 1) (isH_water hp0) x3 hx3 x1 hx1 N r11 N12 hq13) (cwV 2 hC.1.2.2.2.2 (tt_V k_198 k_200 k_201 k_71 k_199) rfl rfl rfl (by decide +kernel) ⟨Nat.le_of_ble_eq_true rfl, Nat.le_of_ble_eq_true rfl⟩) rfl rfl (Nat.le_of_ble_eq_true rfl) ⟨(Nat.le_of_ble_eq_true rfl), (Nat.le_of_ble_eq_true rfl)⟩ d_HL_dead_32) ?_
      obtain ⟨hc14, hm⟩ := ck_s hm
      obtain ⟨hc15, hm⟩ := ck_s hm
      obtain ⟨N16, e17, hm⟩ := nlt_s hm
      refine nv_zast hC (isH_marked hp0) (by decide) hc14 hc15 e17 d_HL_dead_35 ?_
      refine nv_iinc (lv' := [(3, .int (iI (x3 + 1))), (0, .ref (ad h0)), (1, .int (iI x1)), (2, .int (iI x2))]) hC d_HL_dead_36 3 rfl (by decide) rfl ?_
      refine nv_goto hC d_HL_dead_39 (tgt := 10) (by decide) ?_
      obtain ⟨hr18, hm⟩ := ck_s hm
      refine nv_sub (lv' := [(0, .ref (ad h0)), (1, .int (iI x1)), (2, .int (iI x2)), (3, .int (iI (x3 + 1)))]) [1, 2, 3, 0] rfl ?_
      exact ih (x3 + 1) N16 q No hm hr18 kx
set_option maxRecDepth 100000 in
set_option maxHeartbeats 4000000 in
theorem c_HL_dead (l : Launch) {D : va_G} {ct : Nat → ClassId} {A : Nat → Prop} {ad : Nat → Nat} {S : nH} (hl0 : l.stackTraces = false) (hD : nD ad A S.length) (h0 : Nat) (hp0 : isH S h0) (x1 : Int) (hx1 : rg x1) (x2 : Int) (hx2 : rg x2) (N : nS) (x r : Int) (No : nS) (hm : m_HL_dead h0 x1 x2 N = some ((x, r), No)) : nMx l y_HL_dead (Cond.code y_HL_dead b_HL_dead 4 (some .int) :: TT) rm_HL_dead 2 12 D vwCl ct A ad S N [.ref (ad h0), .int (iI x1), .int (iI x2)] (nQxi D vwCl ct A ad S x r No) x No := by
  refine nMx_of (cc := b_HL_dead) (maxL := 4) (ret := (some .int)) (by decide) rfl (Nat.le_of_ble_eq_true rfl) hD hl0 ?_
  intro p e s m below meth c hC hX hr
  refine nv_lv (lv' := [(0, .ref (ad h0)), (1, .int (iI x1)), (2, .int (iI x2))]) rfl ?_
  rw [m_HL_dead] at hm
  refine nv_iload_n hC d_HL_dead_0 rfl 1 rfl ?_
  obtain ⟨q1, N2, hq3, hm⟩ := nbd_s hm
  refine nvx_callv hX (x := q1.1) (N1 := N2) (nrx_S hC hX.2.1 (As := [.int (iI x1)]) (st := []) (c_HL_needNotBelowZero l hX.2.2.1 hC.2.2.1 x1 hx1 N q1.1 q1.2 N2 hq3) (cwS 1 hC.1.2.2.2.2 (tt_S k_188 k_190 k_149 k_189) rfl rfl rfl (by decide +kernel) ⟨Nat.le_of_ble_eq_true rfl, Nat.le_of_ble_eq_true rfl⟩) rfl rfl (Nat.le_of_ble_eq_true rfl) ⟨(Nat.le_of_ble_eq_true rfl), (Nat.le_of_ble_eq_true rfl)⟩ d_HL_dead_1) (Nat.le_of_ble_eq_true rfl) (Nat.le_of_ble_eq_true rfl) (fun c4 => ?_) (fun c4 => retx_x (if_f c4 hm))
  have hm := if_t c4 hm
  refine nv_iload_n hC d_HL_dead_4 rfl 2 rfl ?_
  obtain ⟨q5, N6, hq7, hm⟩ := nbd_s hm
  refine nvx_callv hX (x := q5.1) (N1 := N6) (nrx_S hC hX.2.1 (As := [.int (iI x2)]) (st := []) (c_HL_needNotBelowZero l hX.2.2.1 hC.2.2.1 x2 hx2 N2 q5.1 q5.2 N6 hq7) (cwS 1 hC.1.2.2.2.2 (tt_S k_188 k_190 k_149 k_189) rfl rfl rfl (by decide +kernel) ⟨Nat.le_of_ble_eq_true rfl, Nat.le_of_ble_eq_true rfl⟩) rfl rfl (Nat.le_of_ble_eq_true rfl) ⟨(Nat.le_of_ble_eq_true rfl), (Nat.le_of_ble_eq_true rfl)⟩ d_HL_dead_5) (Nat.le_of_ble_eq_true rfl) (Nat.le_of_ble_eq_true rfl) (fun c8 => ?_) (fun c8 => retx_x (if_f c8 hm))
  have hm := if_t c8 hm
  refine nv_iconst hC d_HL_dead_8 ?_
  refine nv_istore_n (lv' := [(3, .int (iI 0)), (0, .ref (ad h0)), (1, .int (iI x1)), (2, .int (iI x2))]) hC d_HL_dead_9 rfl (by decide) rfl ?_
  obtain ⟨q19, N20, hq21, hm⟩ := nbd_s hm
  refine nv_sub (lv' := [(0, .ref (ad h0)), (1, .int (iI x1)), (2, .int (iI x2)), (3, .int (iI 0))]) [1, 2, 3, 0] rfl ?_
  refine w_HL_dead_10 hC h0 hp0 x1 hx1 x2 hx2 FU 0 N6 q19 N20 hq21 ⟨by decide, by decide⟩ ?_
  refine nv_aload_n hC d_HL_dead_42 rfl 0 rfl ?_
  refine nv_iload_n hC d_HL_dead_43 rfl 2 rfl ?_
  obtain ⟨r22, N23, hq24, hm⟩ := nbd_s hm
  refine nv_calli (x := r22) (N' := N23) (nr_V hC (As := [.int (iI x2)]) (st := []) hp0.1 rfl (c_HL_markedPipe l hC.2.2.1 h0 hp0 x2 hx2 N20 r22 N23 hq24) (cwV 1 hC.1.2.2.2.2 (tt_V k_202 k_204 k_205 k_149 k_203) rfl rfl rfl (by decide +kernel) ⟨Nat.le_of_ble_eq_true rfl, Nat.le_of_ble_eq_true rfl⟩) rfl rfl (Nat.le_of_ble_eq_true rfl) ⟨(Nat.le_of_ble_eq_true rfl), (Nat.le_of_ble_eq_true rfl)⟩ d_HL_dead_44) ?_
  obtain ⟨rfl, rfl, rfl⟩ := retx_s hm
  exact nvx_iret hC hr hX.2.2.2.2 (Nat.le_of_ble_eq_true rfl) (Nat.le_of_ble_eq_true rfl) d_HL_dead_47
def m_HL_warm (h0 : Nat) (x1 : Int) (x2 : Int) (N : nS) : Option ((Int × Int) × nS) :=
  nbd (m_HL_needPipe h0 x1 N) (fun q1 N2 =>
  if q1.1 = 0 then
  nbd (m_HL_needWithin x2 0 10000 N2) (fun q5 N6 =>
  if q5.1 = 0 then
  nbd (m_Water_volumeBefore (h0 + 7) (h0 + 1) x1 x2 N6) (fun r9 N10 =>
  some ((0, r9), N10))
  else
  some ((q5.1, 0), N6))
  else
  some ((q1.1, 0), N2))
set_option maxRecDepth 20000 in
theorem k_206 : Cond.methodLink R_HL 136 y_Water_volumeBefore ∈ TT := tt_i 499 (by decide +kernel) (by decide +kernel)
set_option maxRecDepth 20000 in
theorem k_207 : Cond.code y_Water_volumeBefore b_Water_volumeBefore 8 (some .int) ∈ TT := tt_i 502 (by decide +kernel) (by decide +kernel)
set_option maxRecDepth 20000 in
theorem k_208 : Cond.instanceMethod y_Water_volumeBefore ∈ TT := tt_i 500 (by decide +kernel) (by decide +kernel)
set_option maxRecDepth 20000 in
theorem k_209 : Cond.selects R_Water y_Water_volumeBefore y_Water_volumeBefore ∈ TT := tt_i 501 (by decide +kernel) (by decide +kernel)
abbrev rm_HL_warm : Room := { frames := 7, cells := 2, slots := 12, locals := 142 }
set_option maxRecDepth 100000 in
set_option maxHeartbeats 4000000 in
theorem c_HL_warm (l : Launch) {D : va_G} {ct : Nat → ClassId} {A : Nat → Prop} {ad : Nat → Nat} {S : nH} (hl0 : l.stackTraces = false) (hD : nD ad A S.length) (h0 : Nat) (hp0 : isH S h0) (x1 : Int) (hx1 : rg x1) (x2 : Int) (hx2 : rg x2) (N : nS) (x r : Int) (No : nS) (hm : m_HL_warm h0 x1 x2 N = some ((x, r), No)) : nMx l y_HL_warm (Cond.code y_HL_warm b_HL_warm 3 (some .int) :: TT) rm_HL_warm 2 12 D vwCl ct A ad S N [.ref (ad h0), .int (iI x1), .int (iI x2)] (nQxi D vwCl ct A ad S x r No) x No := by
  refine nMx_of (cc := b_HL_warm) (maxL := 3) (ret := (some .int)) (by decide) rfl (Nat.le_of_ble_eq_true rfl) hD hl0 ?_
  intro p e s m below meth c hC hX hr
  refine nv_lv (lv' := [(0, .ref (ad h0)), (1, .int (iI x1)), (2, .int (iI x2))]) rfl ?_
  rw [m_HL_warm] at hm
  refine nv_aload_n hC d_HL_warm_0 rfl 0 rfl ?_
  refine nv_iload_n hC d_HL_warm_1 rfl 1 rfl ?_
  obtain ⟨q1, N2, hq3, hm⟩ := nbd_s hm
  refine nvx_callv hX (x := q1.1) (N1 := N2) (nrx_V hC hX.2.1 (As := [.int (iI x1)]) (st := []) hp0.1 rfl (c_HL_needPipe l hX.2.2.1 hC.2.2.1 h0 hp0 x1 hx1 N q1.1 q1.2 N2 hq3) (cwV 1 hC.1.2.2.2.2 (tt_V k_171 k_173 k_174 k_149 k_172) rfl rfl rfl (by decide +kernel) ⟨Nat.le_of_ble_eq_true rfl, Nat.le_of_ble_eq_true rfl⟩) rfl rfl (Nat.le_of_ble_eq_true rfl) ⟨(Nat.le_of_ble_eq_true rfl), (Nat.le_of_ble_eq_true rfl)⟩ d_HL_warm_2) (Nat.le_of_ble_eq_true rfl) (Nat.le_of_ble_eq_true rfl) (fun c4 => ?_) (fun c4 => retx_x (if_f c4 hm))
  have hm := if_t c4 hm
  refine nv_iload_n hC d_HL_warm_5 rfl 2 rfl ?_
  refine nv_iconst hC d_HL_warm_6 ?_
  refine nv_sipush hC (z := 10000) d_HL_warm_7 rfl ?_
  obtain ⟨q5, N6, hq7, hm⟩ := nbd_s hm
  refine nvx_callv hX (x := q5.1) (N1 := N6) (nrx_S hC hX.2.1 (As := [.int (iI x2), .int (iI 0), .int (iI 10000)]) (st := []) (c_HL_needWithin l hX.2.2.1 hC.2.2.1 x2 hx2 0 ⟨by decide, by decide⟩ 10000 ⟨by decide, by decide⟩ N2 q5.1 q5.2 N6 hq7) (cwS 3 hC.1.2.2.2.2 (tt_S k_158 k_160 k_149 k_159) rfl rfl rfl (by decide +kernel) ⟨Nat.le_of_ble_eq_true rfl, Nat.le_of_ble_eq_true rfl⟩) rfl rfl (Nat.le_of_ble_eq_true rfl) ⟨(Nat.le_of_ble_eq_true rfl), (Nat.le_of_ble_eq_true rfl)⟩ d_HL_warm_10) (Nat.le_of_ble_eq_true rfl) (Nat.le_of_ble_eq_true rfl) (fun c8 => ?_) (fun c8 => retx_x (if_f c8 hm))
  have hm := if_t c8 hm
  refine nv_aload_n hC d_HL_warm_13 rfl 0 rfl ?_
  refine nv_getR hC (j := 1) hp0.1 rfl in_HL (by decide) k_120 rfl d_HL_warm_14 ?_
  refine nv_iload_n hC d_HL_warm_17 rfl 1 rfl ?_
  refine nv_iload_n hC d_HL_warm_18 rfl 2 rfl ?_
  obtain ⟨r9, N10, hq11, hm⟩ := nbd_s hm
  refine nv_calli (x := r9) (N' := N10) (nr_V hC (As := [.int (iI x1), .int (iI x2)]) (st := []) (isH_water hp0).1 rfl (c_Water_volumeBefore l hC.2.2.1 (h0 + 7) (h0 + 1) (isH_water hp0) x1 hx1 x2 hx2 N6 r9 N10 hq11) (cwV 2 hC.1.2.2.2.2 (tt_V k_206 k_208 k_209 k_71 k_207) rfl rfl rfl (by decide +kernel) ⟨Nat.le_of_ble_eq_true rfl, Nat.le_of_ble_eq_true rfl⟩) rfl rfl (Nat.le_of_ble_eq_true rfl) ⟨(Nat.le_of_ble_eq_true rfl), (Nat.le_of_ble_eq_true rfl)⟩ d_HL_warm_19) ?_
  obtain ⟨rfl, rfl, rfl⟩ := retx_s hm
  exact nvx_iret hC hr hX.2.2.2.2 (Nat.le_of_ble_eq_true rfl) (Nat.le_of_ble_eq_true rfl) d_HL_warm_22
def m_HL_drawn (h0 : Nat) (x1 : Int) (x2 : Int) (N : nS) : Option ((Int × Int) × nS) :=
  if rg ((N (h0 + 95) 6) - 1) then
  nbd (m_HL_needWithin x1 0 ((N (h0 + 95) 6) - 1) N) (fun q2 N3 =>
  if q2.1 = 0 then
  nbd (m_HL_needWithin x2 0 2 N3) (fun q6 N7 =>
  if q6.1 = 0 then
  if 0 ≤ x1 ∧ x1 < ((60 : Nat) : Int) then
  if rg (N7 ((h0 + 95) + 2) (Int.toNat x1)) then
  if rg (N7 (h0 + 7) 8) then
  if (N7 ((h0 + 95) + 2) (Int.toNat x1)) < (N7 (h0 + 7) 8) then
  if x2 = 0 then
  some ((0, (N7 ((h0 + 95) + 4) (Int.toNat x1))), N7)
  else
  if x2 = 1 then
  some ((0, (N7 ((h0 + 95) + 5) (Int.toNat x1))), N7)
  else
  some ((0, (N7 ((h0 + 95) + 6) (Int.toNat x1))), N7)
  else
  some ((0, (-1)), N7)
  else none
  else none
  else none
  else
  some ((q6.1, 0), N7))
  else
  some ((q2.1, 0), N3))
  else none
set_option maxRecDepth 20000 in
theorem k_210 : Cond.fieldLink R_HL 143 (T_Draws 3).1 (T_Draws 3).2.1 (T_Draws 3).2.2.1 ∈ TT := tt_i 173 (by decide +kernel) (by decide +kernel)
set_option maxRecDepth 20000 in
theorem k_211 : Cond.fieldLink R_HL 146 (T_Draws 4).1 (T_Draws 4).2.1 (T_Draws 4).2.2.1 ∈ TT := tt_i 175 (by decide +kernel) (by decide +kernel)
set_option maxRecDepth 20000 in
theorem k_212 : Cond.fieldLink R_HL 149 (T_Draws 5).1 (T_Draws 5).2.1 (T_Draws 5).2.2.1 ∈ TT := tt_i 177 (by decide +kernel) (by decide +kernel)
abbrev rm_HL_drawn : Room := { frames := 7, cells := 2, slots := 12, locals := 142 }
set_option maxRecDepth 100000 in
set_option maxHeartbeats 4000000 in
theorem c_HL_drawn (l : Launch) {D : va_G} {ct : Nat → ClassId} {A : Nat → Prop} {ad : Nat → Nat} {S : nH} (hl0 : l.stackTraces = false) (hD : nD ad A S.length) (h0 : Nat) (hp0 : isH S h0) (x1 : Int) (hx1 : rg x1) (x2 : Int) (hx2 : rg x2) (N : nS) (x r : Int) (No : nS) (hm : m_HL_drawn h0 x1 x2 N = some ((x, r), No)) : nMx l y_HL_drawn (Cond.code y_HL_drawn b_HL_drawn 3 (some .int) :: TT) rm_HL_drawn 2 12 D vwCl ct A ad S N [.ref (ad h0), .int (iI x1), .int (iI x2)] (nQxi D vwCl ct A ad S x r No) x No := by
  refine nMx_of (cc := b_HL_drawn) (maxL := 3) (ret := (some .int)) (by decide) rfl (Nat.le_of_ble_eq_true rfl) hD hl0 ?_
  intro p e s m below meth c hC hX hr
  refine nv_lv (lv' := [(0, .ref (ad h0)), (1, .int (iI x1)), (2, .int (iI x2))]) rfl ?_
  rw [m_HL_drawn] at hm
  refine nv_iload_n hC d_HL_drawn_0 rfl 1 rfl ?_
  refine nv_iconst hC d_HL_drawn_1 ?_
  refine nv_aload_n hC d_HL_drawn_2 rfl 0 rfl ?_
  refine nv_getR hC (j := 3) hp0.1 rfl in_HL (by decide) k_117 rfl d_HL_drawn_3 ?_
  refine nv_getI hC (j := 6) (isH_draws hp0).1 rfl in_Draws (by decide) k_118 rfl d_HL_drawn_6 ?_
  refine nv_iconst hC d_HL_drawn_9 ?_
  refine nv_isub hC d_HL_drawn_10 ?_
  obtain ⟨hr1, hm⟩ := ck_s hm
  obtain ⟨q2, N3, hq4, hm⟩ := nbd_s hm
  refine nvx_callv hX (x := q2.1) (N1 := N3) (nrx_S hC hX.2.1 (As := [.int (iI x1), .int (iI 0), .int (iI ((N (h0 + 95) 6) - 1))]) (st := []) (c_HL_needWithin l hX.2.2.1 hC.2.2.1 x1 hx1 0 ⟨by decide, by decide⟩ ((N (h0 + 95) 6) - 1) hr1 N q2.1 q2.2 N3 hq4) (cwS 3 hC.1.2.2.2.2 (tt_S k_158 k_160 k_149 k_159) rfl rfl rfl (by decide +kernel) ⟨Nat.le_of_ble_eq_true rfl, Nat.le_of_ble_eq_true rfl⟩) rfl rfl (Nat.le_of_ble_eq_true rfl) ⟨(Nat.le_of_ble_eq_true rfl), (Nat.le_of_ble_eq_true rfl)⟩ d_HL_drawn_11) (Nat.le_of_ble_eq_true rfl) (Nat.le_of_ble_eq_true rfl) (fun c5 => ?_) (fun c5 => retx_x (if_f c5 hm))
  have hm := if_t c5 hm
  refine nv_iload_n hC d_HL_drawn_14 rfl 2 rfl ?_
  refine nv_iconst hC d_HL_drawn_15 ?_
  refine nv_iconst hC d_HL_drawn_16 ?_
  obtain ⟨q6, N7, hq8, hm⟩ := nbd_s hm
  refine nvx_callv hX (x := q6.1) (N1 := N7) (nrx_S hC hX.2.1 (As := [.int (iI x2), .int (iI 0), .int (iI 2)]) (st := []) (c_HL_needWithin l hX.2.2.1 hC.2.2.1 x2 hx2 0 ⟨by decide, by decide⟩ 2 ⟨by decide, by decide⟩ N3 q6.1 q6.2 N7 hq8) (cwS 3 hC.1.2.2.2.2 (tt_S k_158 k_160 k_149 k_159) rfl rfl rfl (by decide +kernel) ⟨Nat.le_of_ble_eq_true rfl, Nat.le_of_ble_eq_true rfl⟩) rfl rfl (Nat.le_of_ble_eq_true rfl) ⟨(Nat.le_of_ble_eq_true rfl), (Nat.le_of_ble_eq_true rfl)⟩ d_HL_drawn_17) (Nat.le_of_ble_eq_true rfl) (Nat.le_of_ble_eq_true rfl) (fun c9 => ?_) (fun c9 => retx_x (if_f c9 hm))
  have hm := if_t c9 hm
  refine nv_aload_n hC d_HL_drawn_20 rfl 0 rfl ?_
  refine nv_getR hC (j := 3) hp0.1 rfl in_HL (by decide) k_117 rfl d_HL_drawn_21 ?_
  refine nv_getR hC (j := 1) (isH_draws hp0).1 rfl in_Draws (by decide) k_119 rfl d_HL_drawn_24 ?_
  refine nv_iload_n hC d_HL_drawn_27 rfl 1 rfl ?_
  obtain ⟨hc10, hm⟩ := ck_s hm
  refine nv_iald hC (isH_draws hp0).2.2.1 (by decide) hc10 d_HL_drawn_28 ?_
  refine nv_aload_n hC d_HL_drawn_29 rfl 0 rfl ?_
  refine nv_getR hC (j := 1) hp0.1 rfl in_HL (by decide) k_120 rfl d_HL_drawn_30 ?_
  refine nv_getI hC (j := 8) (isH_water hp0).1 rfl in_Water (by decide) k_121 rfl d_HL_drawn_33 ?_
  obtain ⟨hr11, hm⟩ := ck_s hm
  obtain ⟨hr12, hm⟩ := ck_s hm
  refine nv_icmp_lt hC hr11 hr12 d_HL_drawn_36 (tgt := 41) (by decide) (fun c13 => ?_) (fun c13 => ?_)
  · have hm := if_t c13 hm
    refine nv_iload_n hC d_HL_drawn_41 rfl 2 rfl ?_
    by_cases c14 : x2 = 0
    · have hm := if_t c14 hm
      refine nv_lookup hC hx2 d_HL_drawn_42 (off := 26) (tgt := 68) (by decide) (by rw [c14]; decide) (by decide) ?_
      refine nv_aload_n hC d_HL_drawn_68 rfl 0 rfl ?_
      refine nv_getR hC (j := 3) hp0.1 rfl in_HL (by decide) k_117 rfl d_HL_drawn_69 ?_
      refine nv_getR hC (j := 3) (isH_draws hp0).1 rfl in_Draws (by decide) k_210 rfl d_HL_drawn_72 ?_
      refine nv_iload_n hC d_HL_drawn_75 rfl 1 rfl ?_
      refine nv_iald hC (isH_draws hp0).2.2.2.2.1 (by decide) hc10 d_HL_drawn_76 ?_
      obtain ⟨rfl, rfl, rfl⟩ := retx_s hm
      exact nvx_iret hC hr hX.2.2.2.2 (Nat.le_of_ble_eq_true rfl) (Nat.le_of_ble_eq_true rfl) d_HL_drawn_77
    · have hm := if_f c14 hm
      by_cases c15 : x2 = 1
      · have hm := if_t c15 hm
        refine nv_lookup hC hx2 d_HL_drawn_42 (off := 36) (tgt := 78) (by decide) (by rw [c15]; decide) (by decide) ?_
        refine nv_aload_n hC d_HL_drawn_78 rfl 0 rfl ?_
        refine nv_getR hC (j := 3) hp0.1 rfl in_HL (by decide) k_117 rfl d_HL_drawn_79 ?_
        refine nv_getR hC (j := 4) (isH_draws hp0).1 rfl in_Draws (by decide) k_211 rfl d_HL_drawn_82 ?_
        refine nv_iload_n hC d_HL_drawn_85 rfl 1 rfl ?_
        refine nv_iald hC (isH_draws hp0).2.2.2.2.2.1 (by decide) hc10 d_HL_drawn_86 ?_
        obtain ⟨rfl, rfl, rfl⟩ := retx_s hm
        exact nvx_iret hC hr hX.2.2.2.2 (Nat.le_of_ble_eq_true rfl) (Nat.le_of_ble_eq_true rfl) d_HL_drawn_87
      · have hm := if_f c15 hm
        refine nv_lookup hC hx2 d_HL_drawn_42 (off := 46) (tgt := 88) (by decide) (by simp [Op.lookupswitch.offset, Ne.symm c14, Ne.symm c15]) (by decide) ?_
        refine nv_aload_n hC d_HL_drawn_88 rfl 0 rfl ?_
        refine nv_getR hC (j := 3) hp0.1 rfl in_HL (by decide) k_117 rfl d_HL_drawn_89 ?_
        refine nv_getR hC (j := 5) (isH_draws hp0).1 rfl in_Draws (by decide) k_212 rfl d_HL_drawn_92 ?_
        refine nv_iload_n hC d_HL_drawn_95 rfl 1 rfl ?_
        refine nv_iald hC (isH_draws hp0).2.2.2.2.2.2 (by decide) hc10 d_HL_drawn_96 ?_
        obtain ⟨rfl, rfl, rfl⟩ := retx_s hm
        exact nvx_iret hC hr hX.2.2.2.2 (Nat.le_of_ble_eq_true rfl) (Nat.le_of_ble_eq_true rfl) d_HL_drawn_97
  · have hm := if_f c13 hm
    refine nv_iconst hC d_HL_drawn_39 ?_
    obtain ⟨rfl, rfl, rfl⟩ := retx_s hm
    exact nvx_iret hC hr hX.2.2.2.2 (Nat.le_of_ble_eq_true rfl) (Nat.le_of_ble_eq_true rfl) d_HL_drawn_40
def m_HL_heat (h0 : Nat) (x1 : Int) (N : nS) : Option ((Int × Int) × nS) :=
  nbd (m_HL_needWithin x1 0 3 N) (fun q1 N2 =>
  if q1.1 = 0 then
  if x1 = 0 then
  nbd (m_Water_held (h0 + 7) (h0 + 1) N2) (fun r6 N7 =>
  some ((0, r6), N7))
  else
  if x1 = 1 then
  some ((0, (N2 (h0 + 7) 11)), N2)
  else
  if x1 = 2 then
  some ((0, (N2 (h0 + 7) 12)), N2)
  else
  some ((0, (N2 (h0 + 7) 13)), N2)
  else
  some ((q1.1, 0), N2))
set_option maxRecDepth 20000 in
theorem k_213 : Cond.methodLink R_HL 152 y_Water_held ∈ TT := tt_i 517 (by decide +kernel) (by decide +kernel)
set_option maxRecDepth 20000 in
theorem k_214 : Cond.code y_Water_held b_Water_held 4 (some .long) ∈ TT := tt_i 520 (by decide +kernel) (by decide +kernel)
set_option maxRecDepth 20000 in
theorem k_215 : Cond.instanceMethod y_Water_held ∈ TT := tt_i 518 (by decide +kernel) (by decide +kernel)
set_option maxRecDepth 20000 in
theorem k_216 : Cond.selects R_Water y_Water_held y_Water_held ∈ TT := tt_i 519 (by decide +kernel) (by decide +kernel)
set_option maxRecDepth 20000 in
theorem k_217 : Cond.fieldLink R_HL 156 (T_Water 11).1 (T_Water 11).2.1 (T_Water 11).2.2.1 ∈ TT := tt_i 126 (by decide +kernel) (by decide +kernel)
set_option maxRecDepth 20000 in
theorem k_218 : Cond.fieldLink R_HL 160 (T_Water 12).1 (T_Water 12).2.1 (T_Water 12).2.2.1 ∈ TT := tt_i 128 (by decide +kernel) (by decide +kernel)
set_option maxRecDepth 20000 in
theorem k_219 : Cond.fieldLink R_HL 163 (T_Water 13).1 (T_Water 13).2.1 (T_Water 13).2.2.1 ∈ TT := tt_i 130 (by decide +kernel) (by decide +kernel)
abbrev rm_HL_heat : Room := { frames := 7, cells := 1, slots := 6, locals := 142 }
set_option maxRecDepth 100000 in
set_option maxHeartbeats 4000000 in
theorem c_HL_heat (l : Launch) {D : va_G} {ct : Nat → ClassId} {A : Nat → Prop} {ad : Nat → Nat} {S : nH} (hl0 : l.stackTraces = false) (hD : nD ad A S.length) (h0 : Nat) (hp0 : isH S h0) (x1 : Int) (hx1 : rg x1) (N : nS) (x r : Int) (No : nS) (hm : m_HL_heat h0 x1 N = some ((x, r), No)) : nMx l y_HL_heat (Cond.code y_HL_heat b_HL_heat 2 (some .long) :: TT) rm_HL_heat 1 6 D vwCl ct A ad S N [.ref (ad h0), .int (iI x1)] (nQxl D vwCl ct A ad S x r No) x No := by
  refine nMx_of (cc := b_HL_heat) (maxL := 2) (ret := (some .long)) (by decide) rfl (Nat.le_of_ble_eq_true rfl) hD hl0 ?_
  intro p e s m below meth c hC hX hr
  refine nv_lv (lv' := [(0, .ref (ad h0)), (1, .int (iI x1))]) rfl ?_
  rw [m_HL_heat] at hm
  refine nv_iload_n hC d_HL_heat_0 rfl 1 rfl ?_
  refine nv_iconst hC d_HL_heat_1 ?_
  refine nv_iconst hC d_HL_heat_2 ?_
  obtain ⟨q1, N2, hq3, hm⟩ := nbd_s hm
  refine nvx_callv hX (x := q1.1) (N1 := N2) (nrx_S hC hX.2.1 (As := [.int (iI x1), .int (iI 0), .int (iI 3)]) (st := []) (c_HL_needWithin l hX.2.2.1 hC.2.2.1 x1 hx1 0 ⟨by decide, by decide⟩ 3 ⟨by decide, by decide⟩ N q1.1 q1.2 N2 hq3) (cwS 3 hC.1.2.2.2.2 (tt_S k_158 k_160 k_149 k_159) rfl rfl rfl (by decide +kernel) ⟨Nat.le_of_ble_eq_true rfl, Nat.le_of_ble_eq_true rfl⟩) rfl rfl (Nat.le_of_ble_eq_true rfl) ⟨(Nat.le_of_ble_eq_true rfl), (Nat.le_of_ble_eq_true rfl)⟩ d_HL_heat_3) (Nat.le_of_ble_eq_true rfl) (Nat.le_of_ble_eq_true rfl) (fun c4 => ?_) (fun c4 => retx_x (if_f c4 hm))
  have hm := if_t c4 hm
  refine nv_iload_n hC d_HL_heat_6 rfl 1 rfl ?_
  by_cases c5 : x1 = 0
  · have hm := if_t c5 hm
    refine nv_tableIn hC 0 hx1 c5 d_HL_heat_7 (tgt := 32) (by decide) (by decide) rfl (by decide) ?_
    refine nv_aload_n hC d_HL_heat_32 rfl 0 rfl ?_
    refine nv_getR hC (j := 1) hp0.1 rfl in_HL (by decide) k_120 rfl d_HL_heat_33 ?_
    obtain ⟨r6, N7, hq8, hm⟩ := nbd_s hm
    refine nv_calll (x := r6) (N' := N7) (nr_V hC (As := []) (st := []) (isH_water hp0).1 rfl (c_Water_held l hC.2.2.1 (h0 + 7) (h0 + 1) (isH_water hp0) N2 r6 N7 hq8) (cwV 0 hC.1.2.2.2.2 (tt_V k_213 k_215 k_216 k_71 k_214) rfl rfl rfl (by decide +kernel) ⟨Nat.le_of_ble_eq_true rfl, Nat.le_of_ble_eq_true rfl⟩) rfl rfl (Nat.le_of_ble_eq_true rfl) ⟨(Nat.le_of_ble_eq_true rfl), (Nat.le_of_ble_eq_true rfl)⟩ d_HL_heat_36) ?_
    obtain ⟨rfl, rfl, rfl⟩ := retx_s hm
    exact nvx_lret hC hr hX.2.2.2.2 (Nat.le_of_ble_eq_true rfl) (Nat.le_of_ble_eq_true rfl) d_HL_heat_39
  · have hm := if_f c5 hm
    by_cases c9 : x1 = 1
    · have hm := if_t c9 hm
      refine nv_tableIn hC 1 hx1 c9 d_HL_heat_7 (tgt := 40) (by decide) (by decide) rfl (by decide) ?_
      refine nv_aload_n hC d_HL_heat_40 rfl 0 rfl ?_
      refine nv_getR hC (j := 1) hp0.1 rfl in_HL (by decide) k_120 rfl d_HL_heat_41 ?_
      refine nv_getJ hC (j := 11) (isH_water hp0).1 rfl in_Water (by decide) k_217 rfl d_HL_heat_44 ?_
      obtain ⟨rfl, rfl, rfl⟩ := retx_s hm
      exact nvx_lret hC hr hX.2.2.2.2 (Nat.le_of_ble_eq_true rfl) (Nat.le_of_ble_eq_true rfl) d_HL_heat_47
    · have hm := if_f c9 hm
      by_cases c10 : x1 = 2
      · have hm := if_t c10 hm
        refine nv_tableIn hC 2 hx1 c10 d_HL_heat_7 (tgt := 48) (by decide) (by decide) rfl (by decide) ?_
        refine nv_aload_n hC d_HL_heat_48 rfl 0 rfl ?_
        refine nv_getR hC (j := 1) hp0.1 rfl in_HL (by decide) k_120 rfl d_HL_heat_49 ?_
        refine nv_getJ hC (j := 12) (isH_water hp0).1 rfl in_Water (by decide) k_218 rfl d_HL_heat_52 ?_
        obtain ⟨rfl, rfl, rfl⟩ := retx_s hm
        exact nvx_lret hC hr hX.2.2.2.2 (Nat.le_of_ble_eq_true rfl) (Nat.le_of_ble_eq_true rfl) d_HL_heat_55
      · have hm := if_f c10 hm
        refine nv_tableOut hC hx1 d_HL_heat_7 (tgt := 56) (by omega) (by decide) ?_
        refine nv_aload_n hC d_HL_heat_56 rfl 0 rfl ?_
        refine nv_getR hC (j := 1) hp0.1 rfl in_HL (by decide) k_120 rfl d_HL_heat_57 ?_
        refine nv_getJ hC (j := 13) (isH_water hp0).1 rfl in_Water (by decide) k_219 rfl d_HL_heat_60 ?_
        obtain ⟨rfl, rfl, rfl⟩ := retx_s hm
        exact nvx_lret hC hr hX.2.2.2.2 (Nat.le_of_ble_eq_true rfl) (Nat.le_of_ble_eq_true rfl) d_HL_heat_63
def m_HL_shock (h0 : Nat) (x1 : Int) (x2 : Int) (x3 : Int) (x4 : Int) (x5 : Int) (N : nS) : Option ((Int × Int) × nS) :=
  nbd (m_HL_needWithin x1 0 10000 N) (fun q1 N2 =>
  if q1.1 = 0 then
  nbd (m_HL_needWithin x2 1 100 N2) (fun q5 N6 =>
  if q5.1 = 0 then
  nbd (m_HL_needWithin x3 1 30 N6) (fun q9 N10 =>
  if q9.1 = 0 then
  nbd (m_HL_needWithin x4 0 10000 N10) (fun q13 N14 =>
  if q13.1 = 0 then
  nbd (m_HL_needNotBelowZero x5 N14) (fun q17 N18 =>
  if q17.1 = 0 then
  nbd (m_HL_markMissed h0 x1 x2 x3 x4 N18) (fun r21 N22 =>
  nbd (m_HL_markedPipe h0 x5 N22) (fun r24 N25 =>
  some ((0, r24), N25)))
  else
  some ((q17.1, 0), N18))
  else
  some ((q13.1, 0), N14))
  else
  some ((q9.1, 0), N10))
  else
  some ((q5.1, 0), N6))
  else
  some ((q1.1, 0), N2))
set_option maxRecDepth 20000 in
theorem k_220 : Cond.methodLink R_HL 166 y_HL_markMissed ∈ TT := tt_i 528 (by decide +kernel) (by decide +kernel)
set_option maxRecDepth 20000 in
theorem k_221 : Cond.code y_HL_markMissed b_HL_markMissed 6 none ∈ TT := tt_i 531 (by decide +kernel) (by decide +kernel)
set_option maxRecDepth 20000 in
theorem k_222 : Cond.instanceMethod y_HL_markMissed ∈ TT := tt_i 530 (by decide +kernel) (by decide +kernel)
set_option maxRecDepth 20000 in
theorem k_223 : Cond.selects R_HL y_HL_markMissed y_HL_markMissed ∈ TT := tt_i 8 (by decide +kernel) (by decide +kernel)
abbrev rm_HL_shock : Room := { frames := 7, cells := 5, slots := 30, locals := 163 }
set_option maxRecDepth 100000 in
set_option maxHeartbeats 4000000 in
theorem c_HL_shock (l : Launch) {D : va_G} {ct : Nat → ClassId} {A : Nat → Prop} {ad : Nat → Nat} {S : nH} (hl0 : l.stackTraces = false) (hD : nD ad A S.length) (h0 : Nat) (hp0 : isH S h0) (x1 : Int) (hx1 : rg x1) (x2 : Int) (hx2 : rg x2) (x3 : Int) (hx3 : rg x3) (x4 : Int) (hx4 : rg x4) (x5 : Int) (hx5 : rg x5) (N : nS) (x r : Int) (No : nS) (hm : m_HL_shock h0 x1 x2 x3 x4 x5 N = some ((x, r), No)) : nMx l y_HL_shock (Cond.code y_HL_shock b_HL_shock 6 (some .int) :: TT) rm_HL_shock 5 30 D vwCl ct A ad S N [.ref (ad h0), .int (iI x1), .int (iI x2), .int (iI x3), .int (iI x4), .int (iI x5)] (nQxi D vwCl ct A ad S x r No) x No := by
  refine nMx_of (cc := b_HL_shock) (maxL := 6) (ret := (some .int)) (by decide) rfl (Nat.le_of_ble_eq_true rfl) hD hl0 ?_
  intro p e s m below meth c hC hX hr
  refine nv_lv (lv' := [(0, .ref (ad h0)), (1, .int (iI x1)), (2, .int (iI x2)), (3, .int (iI x3)), (4, .int (iI x4)), (5, .int (iI x5))]) rfl ?_
  rw [m_HL_shock] at hm
  refine nv_iload_n hC d_HL_shock_0 rfl 1 rfl ?_
  refine nv_iconst hC d_HL_shock_1 ?_
  refine nv_sipush hC (z := 10000) d_HL_shock_2 rfl ?_
  obtain ⟨q1, N2, hq3, hm⟩ := nbd_s hm
  refine nvx_callv hX (x := q1.1) (N1 := N2) (nrx_S hC hX.2.1 (As := [.int (iI x1), .int (iI 0), .int (iI 10000)]) (st := []) (c_HL_needWithin l hX.2.2.1 hC.2.2.1 x1 hx1 0 ⟨by decide, by decide⟩ 10000 ⟨by decide, by decide⟩ N q1.1 q1.2 N2 hq3) (cwS 3 hC.1.2.2.2.2 (tt_S k_158 k_160 k_149 k_159) rfl rfl rfl (by decide +kernel) ⟨Nat.le_of_ble_eq_true rfl, Nat.le_of_ble_eq_true rfl⟩) rfl rfl (Nat.le_of_ble_eq_true rfl) ⟨(Nat.le_of_ble_eq_true rfl), (Nat.le_of_ble_eq_true rfl)⟩ d_HL_shock_5) (Nat.le_of_ble_eq_true rfl) (Nat.le_of_ble_eq_true rfl) (fun c4 => ?_) (fun c4 => retx_x (if_f c4 hm))
  have hm := if_t c4 hm
  refine nv_iload_n hC d_HL_shock_8 rfl 2 rfl ?_
  refine nv_iconst hC d_HL_shock_9 ?_
  refine nv_bipush hC (z := 100) d_HL_shock_10 rfl ?_
  obtain ⟨q5, N6, hq7, hm⟩ := nbd_s hm
  refine nvx_callv hX (x := q5.1) (N1 := N6) (nrx_S hC hX.2.1 (As := [.int (iI x2), .int (iI 1), .int (iI 100)]) (st := []) (c_HL_needWithin l hX.2.2.1 hC.2.2.1 x2 hx2 1 ⟨by decide, by decide⟩ 100 ⟨by decide, by decide⟩ N2 q5.1 q5.2 N6 hq7) (cwS 3 hC.1.2.2.2.2 (tt_S k_158 k_160 k_149 k_159) rfl rfl rfl (by decide +kernel) ⟨Nat.le_of_ble_eq_true rfl, Nat.le_of_ble_eq_true rfl⟩) rfl rfl (Nat.le_of_ble_eq_true rfl) ⟨(Nat.le_of_ble_eq_true rfl), (Nat.le_of_ble_eq_true rfl)⟩ d_HL_shock_12) (Nat.le_of_ble_eq_true rfl) (Nat.le_of_ble_eq_true rfl) (fun c8 => ?_) (fun c8 => retx_x (if_f c8 hm))
  have hm := if_t c8 hm
  refine nv_iload_n hC d_HL_shock_15 rfl 3 rfl ?_
  refine nv_iconst hC d_HL_shock_16 ?_
  refine nv_bipush hC (z := 30) d_HL_shock_17 rfl ?_
  obtain ⟨q9, N10, hq11, hm⟩ := nbd_s hm
  refine nvx_callv hX (x := q9.1) (N1 := N10) (nrx_S hC hX.2.1 (As := [.int (iI x3), .int (iI 1), .int (iI 30)]) (st := []) (c_HL_needWithin l hX.2.2.1 hC.2.2.1 x3 hx3 1 ⟨by decide, by decide⟩ 30 ⟨by decide, by decide⟩ N6 q9.1 q9.2 N10 hq11) (cwS 3 hC.1.2.2.2.2 (tt_S k_158 k_160 k_149 k_159) rfl rfl rfl (by decide +kernel) ⟨Nat.le_of_ble_eq_true rfl, Nat.le_of_ble_eq_true rfl⟩) rfl rfl (Nat.le_of_ble_eq_true rfl) ⟨(Nat.le_of_ble_eq_true rfl), (Nat.le_of_ble_eq_true rfl)⟩ d_HL_shock_19) (Nat.le_of_ble_eq_true rfl) (Nat.le_of_ble_eq_true rfl) (fun c12 => ?_) (fun c12 => retx_x (if_f c12 hm))
  have hm := if_t c12 hm
  refine nv_iload hC d_HL_shock_22 4 rfl ?_
  refine nv_iconst hC d_HL_shock_24 ?_
  refine nv_sipush hC (z := 10000) d_HL_shock_25 rfl ?_
  obtain ⟨q13, N14, hq15, hm⟩ := nbd_s hm
  refine nvx_callv hX (x := q13.1) (N1 := N14) (nrx_S hC hX.2.1 (As := [.int (iI x4), .int (iI 0), .int (iI 10000)]) (st := []) (c_HL_needWithin l hX.2.2.1 hC.2.2.1 x4 hx4 0 ⟨by decide, by decide⟩ 10000 ⟨by decide, by decide⟩ N10 q13.1 q13.2 N14 hq15) (cwS 3 hC.1.2.2.2.2 (tt_S k_158 k_160 k_149 k_159) rfl rfl rfl (by decide +kernel) ⟨Nat.le_of_ble_eq_true rfl, Nat.le_of_ble_eq_true rfl⟩) rfl rfl (Nat.le_of_ble_eq_true rfl) ⟨(Nat.le_of_ble_eq_true rfl), (Nat.le_of_ble_eq_true rfl)⟩ d_HL_shock_28) (Nat.le_of_ble_eq_true rfl) (Nat.le_of_ble_eq_true rfl) (fun c16 => ?_) (fun c16 => retx_x (if_f c16 hm))
  have hm := if_t c16 hm
  refine nv_iload hC d_HL_shock_31 5 rfl ?_
  obtain ⟨q17, N18, hq19, hm⟩ := nbd_s hm
  refine nvx_callv hX (x := q17.1) (N1 := N18) (nrx_S hC hX.2.1 (As := [.int (iI x5)]) (st := []) (c_HL_needNotBelowZero l hX.2.2.1 hC.2.2.1 x5 hx5 N14 q17.1 q17.2 N18 hq19) (cwS 1 hC.1.2.2.2.2 (tt_S k_188 k_190 k_149 k_189) rfl rfl rfl (by decide +kernel) ⟨Nat.le_of_ble_eq_true rfl, Nat.le_of_ble_eq_true rfl⟩) rfl rfl (Nat.le_of_ble_eq_true rfl) ⟨(Nat.le_of_ble_eq_true rfl), (Nat.le_of_ble_eq_true rfl)⟩ d_HL_shock_33) (Nat.le_of_ble_eq_true rfl) (Nat.le_of_ble_eq_true rfl) (fun c20 => ?_) (fun c20 => retx_x (if_f c20 hm))
  have hm := if_t c20 hm
  refine nv_aload_n hC d_HL_shock_36 rfl 0 rfl ?_
  refine nv_iload_n hC d_HL_shock_37 rfl 1 rfl ?_
  refine nv_iload_n hC d_HL_shock_38 rfl 2 rfl ?_
  refine nv_iload_n hC d_HL_shock_39 rfl 3 rfl ?_
  refine nv_iload hC d_HL_shock_40 4 rfl ?_
  obtain ⟨r21, N22, hq23, hm⟩ := nbd_s hm
  refine nv_callv (N' := N22) (nr_V hC (As := [.int (iI x1), .int (iI x2), .int (iI x3), .int (iI x4)]) (st := []) hp0.1 rfl (c_HL_markMissed l hC.2.2.1 h0 hp0 x1 hx1 x2 hx2 x3 hx3 x4 hx4 N18 r21 N22 hq23) (cwV 4 hC.1.2.2.2.2 (tt_V k_220 k_222 k_223 k_149 k_221) rfl rfl rfl (by decide +kernel) ⟨Nat.le_of_ble_eq_true rfl, Nat.le_of_ble_eq_true rfl⟩) rfl rfl (Nat.le_of_ble_eq_true rfl) ⟨(Nat.le_of_ble_eq_true rfl), (Nat.le_of_ble_eq_true rfl)⟩ d_HL_shock_42) ?_
  refine nv_aload_n hC d_HL_shock_45 rfl 0 rfl ?_
  refine nv_iload hC d_HL_shock_46 5 rfl ?_
  obtain ⟨r24, N25, hq26, hm⟩ := nbd_s hm
  refine nv_calli (x := r24) (N' := N25) (nr_V hC (As := [.int (iI x5)]) (st := []) hp0.1 rfl (c_HL_markedPipe l hC.2.2.1 h0 hp0 x5 hx5 N22 r24 N25 hq26) (cwV 1 hC.1.2.2.2.2 (tt_V k_202 k_204 k_205 k_149 k_203) rfl rfl rfl (by decide +kernel) ⟨Nat.le_of_ble_eq_true rfl, Nat.le_of_ble_eq_true rfl⟩) rfl rfl (Nat.le_of_ble_eq_true rfl) ⟨(Nat.le_of_ble_eq_true rfl), (Nat.le_of_ble_eq_true rfl)⟩ d_HL_shock_48) ?_
  obtain ⟨rfl, rfl, rfl⟩ := retx_s hm
  exact nvx_iret hC hr hX.2.2.2.2 (Nat.le_of_ble_eq_true rfl) (Nat.le_of_ble_eq_true rfl) d_HL_shock_51
