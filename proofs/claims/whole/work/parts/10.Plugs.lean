def m_Plugs_add (o0 cap0 : Nat) (x1 : Int) (x2 : Int) (N : nS) : Option (Int × nS) :=
  if 1 ≤ x1 then
  if rg (N o0 2) then
  if (N o0 2) ≤ 0 then
  if ((cap0 : Nat) : Int) ≤ (N o0 2) then
  some (0, N)
  else
  if 0 ≤ (N o0 2) ∧ (N o0 2) < ((cap0 : Nat) : Int) then
  nlt (up2 N (o0 + 1) (Int.toNat (N o0 2)) x1) (fun N6 =>
  if 0 ≤ (N6 o0 2) ∧ (N6 o0 2) < ((cap0 : Nat) : Int) then
  nlt (up2 N6 (o0 + 2) (Int.toNat (N6 o0 2)) x2) (fun N9 =>
  nlt (up2 N9 o0 2 ((N9 o0 2) + 1)) (fun N11 =>
  some (0, N11)))
  else none)
  else none
  else
  if 0 ≤ ((N o0 2) - 1) ∧ ((N o0 2) - 1) < ((cap0 : Nat) : Int) then
  if rg (N (o0 + 2) (Int.toNat ((N o0 2) - 1))) then
  if (N (o0 + 2) (Int.toNat ((N o0 2) - 1))) = x2 then
  nlt (up2 N (o0 + 1) (Int.toNat ((N o0 2) - 1)) ((N (o0 + 1) (Int.toNat ((N o0 2) - 1))) + x1)) (fun N25 =>
  some (0, N25))
  else
  if ((cap0 : Nat) : Int) ≤ (N o0 2) then
  some (0, N)
  else
  if 0 ≤ (N o0 2) ∧ (N o0 2) < ((cap0 : Nat) : Int) then
  nlt (up2 N (o0 + 1) (Int.toNat (N o0 2)) x1) (fun N18 =>
  if 0 ≤ (N18 o0 2) ∧ (N18 o0 2) < ((cap0 : Nat) : Int) then
  nlt (up2 N18 (o0 + 2) (Int.toNat (N18 o0 2)) x2) (fun N21 =>
  nlt (up2 N21 o0 2 ((N21 o0 2) + 1)) (fun N23 =>
  some (0, N23)))
  else none)
  else none
  else none
  else none
  else none
  else
  some (0, N)
set_option maxRecDepth 20000 in
theorem k_0 : Cond.fieldLink R_Plugs 24 (T_Plugs 2).1 (T_Plugs 2).2.1 (T_Plugs 2).2.2.1 ∈ TT := tt_i 100 (by decide +kernel) (by decide +kernel)
set_option maxRecDepth 20000 in
theorem k_1 : Cond.fieldLink R_Plugs 15 (T_Plugs 0).1 (T_Plugs 0).2.1 (T_Plugs 0).2.2.1 ∈ TT := tt_i 94 (by decide +kernel) (by decide +kernel)
set_option maxRecDepth 20000 in
theorem k_2 : Cond.fieldLink R_Plugs 21 (T_Plugs 1).1 (T_Plugs 1).2.1 (T_Plugs 1).2.2.1 ∈ TT := tt_i 97 (by decide +kernel) (by decide +kernel)
abbrev rm_Plugs_add : Room := { frames := 0, cells := 0, slots := 0, locals := 0 }
set_option maxRecDepth 100000 in
set_option maxHeartbeats 4000000 in
theorem c_Plugs_add (l : Launch) {D : va_G} {ct : Nat → ClassId} {A : Nat → Prop} {ad : Nat → Nat} {S : nH} (hD : nD ad A S.length) (o0 cap0 : Nat) (hp0 : isP S o0 cap0) (x1 : Int) (hx1 : rg x1) (x2 : Int) (hx2 : rg x2) (N : nS) (r : Int) (No : nS) (hm : m_Plugs_add o0 cap0 x1 x2 N = some (r, No)) : nM l y_Plugs_add (Cond.code y_Plugs_add b_Plugs_add 3 none :: TT) rm_Plugs_add D vwCl ct A ad S N [.ref (ad o0), .int (iI x1), .int (iI x2)] (nQv D vwCl ct A ad S No) := by
  refine nM_of (cc := b_Plugs_add) (maxL := 3) (ret := none) (by decide) rfl (Nat.le_of_ble_eq_true rfl) hD ?_
  intro p e s m below meth c hC hr hlk
  refine nv_lv (lv' := [(0, .ref (ad o0)), (1, .int (iI x1)), (2, .int (iI x2))]) rfl ?_
  rw [m_Plugs_add] at hm
  refine nv_iload_n hC d_Plugs_add_0 rfl 1 rfl ?_
  refine nv_iconst hC d_Plugs_add_1 ?_
  refine nv_icmp_ge hC hx1 ⟨by decide, by decide⟩ d_Plugs_add_2 (tgt := 6) (by decide) (fun c1 => ?_) (fun c1 => ?_)
  · have hm := if_t c1 hm
    refine nv_aload_n hC d_Plugs_add_6 rfl 0 rfl ?_
    refine nv_getI hC (j := 2) hp0.1 rfl in_Plugs (by decide) k_0 rfl d_Plugs_add_7 ?_
    obtain ⟨hr2, hm⟩ := ck_s hm
    refine nv_if_le hC hr2 d_Plugs_add_10 (tgt := 46) (by decide) (fun c3 => ?_) (fun c3 => ?_)
    · have hm := if_t c3 hm
      refine nv_aload_n hC d_Plugs_add_46 rfl 0 rfl ?_
      refine nv_getI hC (j := 2) hp0.1 rfl in_Plugs (by decide) k_0 rfl d_Plugs_add_47 ?_
      refine nv_aload_n hC d_Plugs_add_50 rfl 0 rfl ?_
      refine nv_getR hC (j := 0) hp0.1 rfl in_Plugs (by decide) k_1 rfl d_Plugs_add_51 ?_
      refine nv_alen0 hC hp0.2.1 d_Plugs_add_54 ?_
      refine nv_icmp_ge hC hr2 (rg_n hp0.2.2.2) d_Plugs_add_55 (tgt := 88) (by decide) (fun c4 => ?_) (fun c4 => ?_)
      · have hm := if_t c4 hm
        obtain ⟨rfl, rfl⟩ := ret_s hm
        exact nv_vret hC hr hlk d_Plugs_add_88
      · have hm := if_f c4 hm
        refine nv_aload_n hC d_Plugs_add_58 rfl 0 rfl ?_
        refine nv_getR hC (j := 0) hp0.1 rfl in_Plugs (by decide) k_1 rfl d_Plugs_add_59 ?_
        refine nv_aload_n hC d_Plugs_add_62 rfl 0 rfl ?_
        refine nv_getI hC (j := 2) hp0.1 rfl in_Plugs (by decide) k_0 rfl d_Plugs_add_63 ?_
        refine nv_iload_n hC d_Plugs_add_66 rfl 1 rfl ?_
        obtain ⟨hc5, hm⟩ := ck_s hm
        obtain ⟨N6, e7, hm⟩ := nlt_s hm
        refine nv_iast hC hp0.2.1 hp0.2.2.2 hc5 e7 d_Plugs_add_67 ?_
        refine nv_aload_n hC d_Plugs_add_68 rfl 0 rfl ?_
        refine nv_getR hC (j := 1) hp0.1 rfl in_Plugs (by decide) k_2 rfl d_Plugs_add_69 ?_
        refine nv_aload_n hC d_Plugs_add_72 rfl 0 rfl ?_
        refine nv_getI hC (j := 2) hp0.1 rfl in_Plugs (by decide) k_0 rfl d_Plugs_add_73 ?_
        refine nv_iload_n hC d_Plugs_add_76 rfl 2 rfl ?_
        obtain ⟨hc8, hm⟩ := ck_s hm
        obtain ⟨N9, e10, hm⟩ := nlt_s hm
        refine nv_iast hC hp0.2.2.1 hp0.2.2.2 hc8 e10 d_Plugs_add_77 ?_
        refine nv_aload_n hC d_Plugs_add_78 rfl 0 rfl ?_
        refine nv_dup hC d_Plugs_add_79 rfl ?_
        refine nv_getI hC (j := 2) hp0.1 rfl in_Plugs (by decide) k_0 rfl d_Plugs_add_80 ?_
        refine nv_iconst hC d_Plugs_add_83 ?_
        refine nv_iadd hC d_Plugs_add_84 ?_
        obtain ⟨N11, e12, hm⟩ := nlt_s hm
        refine nv_putI hC (j := 2) hp0.1 rfl in_Plugs (by decide) ty_Plugs tyok_Plugs nm_Plugs k_0 rfl rfl (by decide +kernel) e12 d_Plugs_add_85 ?_
        obtain ⟨rfl, rfl⟩ := ret_s hm
        exact nv_vret hC hr hlk d_Plugs_add_88
    · have hm := if_f c3 hm
      refine nv_aload_n hC d_Plugs_add_13 rfl 0 rfl ?_
      refine nv_getR hC (j := 1) hp0.1 rfl in_Plugs (by decide) k_2 rfl d_Plugs_add_14 ?_
      refine nv_aload_n hC d_Plugs_add_17 rfl 0 rfl ?_
      refine nv_getI hC (j := 2) hp0.1 rfl in_Plugs (by decide) k_0 rfl d_Plugs_add_18 ?_
      refine nv_iconst hC d_Plugs_add_21 ?_
      refine nv_isub hC d_Plugs_add_22 ?_
      obtain ⟨hc13, hm⟩ := ck_s hm
      refine nv_iald hC hp0.2.2.1 hp0.2.2.2 hc13 d_Plugs_add_23 ?_
      refine nv_iload_n hC d_Plugs_add_24 rfl 2 rfl ?_
      obtain ⟨hr14, hm⟩ := ck_s hm
      refine nv_icmp_ne hC hr14 hx2 d_Plugs_add_25 (tgt := 46) (by decide) (fun c15 => ?_) (fun c15 => ?_)
      · have hm := if_f c15 hm
        refine nv_aload_n hC d_Plugs_add_46 rfl 0 rfl ?_
        refine nv_getI hC (j := 2) hp0.1 rfl in_Plugs (by decide) k_0 rfl d_Plugs_add_47 ?_
        refine nv_aload_n hC d_Plugs_add_50 rfl 0 rfl ?_
        refine nv_getR hC (j := 0) hp0.1 rfl in_Plugs (by decide) k_1 rfl d_Plugs_add_51 ?_
        refine nv_alen0 hC hp0.2.1 d_Plugs_add_54 ?_
        refine nv_icmp_ge hC hr2 (rg_n hp0.2.2.2) d_Plugs_add_55 (tgt := 88) (by decide) (fun c16 => ?_) (fun c16 => ?_)
        · have hm := if_t c16 hm
          obtain ⟨rfl, rfl⟩ := ret_s hm
          exact nv_vret hC hr hlk d_Plugs_add_88
        · have hm := if_f c16 hm
          refine nv_aload_n hC d_Plugs_add_58 rfl 0 rfl ?_
          refine nv_getR hC (j := 0) hp0.1 rfl in_Plugs (by decide) k_1 rfl d_Plugs_add_59 ?_
          refine nv_aload_n hC d_Plugs_add_62 rfl 0 rfl ?_
          refine nv_getI hC (j := 2) hp0.1 rfl in_Plugs (by decide) k_0 rfl d_Plugs_add_63 ?_
          refine nv_iload_n hC d_Plugs_add_66 rfl 1 rfl ?_
          obtain ⟨hc17, hm⟩ := ck_s hm
          obtain ⟨N18, e19, hm⟩ := nlt_s hm
          refine nv_iast hC hp0.2.1 hp0.2.2.2 hc17 e19 d_Plugs_add_67 ?_
          refine nv_aload_n hC d_Plugs_add_68 rfl 0 rfl ?_
          refine nv_getR hC (j := 1) hp0.1 rfl in_Plugs (by decide) k_2 rfl d_Plugs_add_69 ?_
          refine nv_aload_n hC d_Plugs_add_72 rfl 0 rfl ?_
          refine nv_getI hC (j := 2) hp0.1 rfl in_Plugs (by decide) k_0 rfl d_Plugs_add_73 ?_
          refine nv_iload_n hC d_Plugs_add_76 rfl 2 rfl ?_
          obtain ⟨hc20, hm⟩ := ck_s hm
          obtain ⟨N21, e22, hm⟩ := nlt_s hm
          refine nv_iast hC hp0.2.2.1 hp0.2.2.2 hc20 e22 d_Plugs_add_77 ?_
          refine nv_aload_n hC d_Plugs_add_78 rfl 0 rfl ?_
          refine nv_dup hC d_Plugs_add_79 rfl ?_
          refine nv_getI hC (j := 2) hp0.1 rfl in_Plugs (by decide) k_0 rfl d_Plugs_add_80 ?_
          refine nv_iconst hC d_Plugs_add_83 ?_
          refine nv_iadd hC d_Plugs_add_84 ?_
          obtain ⟨N23, e24, hm⟩ := nlt_s hm
          refine nv_putI hC (j := 2) hp0.1 rfl in_Plugs (by decide) ty_Plugs tyok_Plugs nm_Plugs k_0 rfl rfl (by decide +kernel) e24 d_Plugs_add_85 ?_
          obtain ⟨rfl, rfl⟩ := ret_s hm
          exact nv_vret hC hr hlk d_Plugs_add_88
      · have hm := if_t c15 hm
        refine nv_aload_n hC d_Plugs_add_28 rfl 0 rfl ?_
        refine nv_getR hC (j := 0) hp0.1 rfl in_Plugs (by decide) k_1 rfl d_Plugs_add_29 ?_
        refine nv_aload_n hC d_Plugs_add_32 rfl 0 rfl ?_
        refine nv_getI hC (j := 2) hp0.1 rfl in_Plugs (by decide) k_0 rfl d_Plugs_add_33 ?_
        refine nv_iconst hC d_Plugs_add_36 ?_
        refine nv_isub hC d_Plugs_add_37 ?_
        refine nv_dup2_11 hC d_Plugs_add_38 rfl rfl ?_
        refine nv_iald hC hp0.2.1 hp0.2.2.2 hc13 d_Plugs_add_39 ?_
        refine nv_iload_n hC d_Plugs_add_40 rfl 1 rfl ?_
        refine nv_iadd hC d_Plugs_add_41 ?_
        obtain ⟨N25, e26, hm⟩ := nlt_s hm
        refine nv_iast hC hp0.2.1 hp0.2.2.2 hc13 e26 d_Plugs_add_42 ?_
        refine nv_goto hC d_Plugs_add_43 (tgt := 88) (by decide) ?_
        obtain ⟨rfl, rfl⟩ := ret_s hm
        exact nv_vret hC hr hlk d_Plugs_add_88
  · have hm := if_f c1 hm
    obtain ⟨rfl, rfl⟩ := ret_s hm
    exact nv_vret hC hr hlk d_Plugs_add_5
def m_Plugs_addAll_2 (o0 cap0 : Nat) (o1 cap1 : Nat) : Nat → Int → nS → Option ((Int) × nS)
  | 0, _, _ => none
  | f + 1, x2, N =>
    if rg (N o1 2) then
    if (N o1 2) ≤ x2 then
    some (x2, N)
    else
    if 0 ≤ x2 ∧ x2 < ((cap1 : Nat) : Int) then
    if rg (N (o1 + 1) (Int.toNat x2)) then
    if rg (N (o1 + 2) (Int.toNat x2)) then
    nbd (m_Plugs_add o0 cap0 (N (o1 + 1) (Int.toNat x2)) (N (o1 + 2) (Int.toNat x2)) N) (fun r6 N7 =>
    if rg (x2 + 1) then
    m_Plugs_addAll_2 o0 cap0 o1 cap1 f (x2 + 1) N7
    else none)
    else none
    else none
    else none
    else none
def m_Plugs_addAll (o0 cap0 : Nat) (o1 cap1 : Nat) (N : nS) : Option (Int × nS) :=
  nbd (m_Plugs_addAll_2 o0 cap0 o1 cap1 FU 0 N) (fun q10 N11 =>
  some (0, N11))
set_option maxRecDepth 20000 in
theorem k_3 : Cond.methodLink R_Plugs 28 y_Plugs_add ∈ TT := tt_i 404 (by decide +kernel) (by decide +kernel)
set_option maxRecDepth 20000 in
theorem k_4 : Cond.code y_Plugs_add b_Plugs_add 3 none ∈ TT := tt_i 327 (by decide +kernel) (by decide +kernel)
set_option maxRecDepth 20000 in
theorem k_5 : Cond.instanceMethod y_Plugs_add ∈ TT := tt_i 325 (by decide +kernel) (by decide +kernel)
set_option maxRecDepth 20000 in
theorem k_6 : Cond.selects R_Plugs y_Plugs_add y_Plugs_add ∈ TT := tt_i 326 (by decide +kernel) (by decide +kernel)
set_option maxRecDepth 20000 in
theorem k_7 : Cond.initialized R_Plugs ∈ TT := tt_i 26 (by decide +kernel) (by decide +kernel)
abbrev rm_Plugs_addAll : Room := { frames := 1, cells := 0, slots := 0, locals := 22 }
set_option maxRecDepth 100000 in
set_option maxHeartbeats 4000000 in
theorem w_Plugs_addAll_2 {p : Program} {l : Launch} {e : Env} {s : State} {m : MethodId} {args : Array Value} {below : List Frame} {meth : Method} {c : Code} {Q : State → Prop} {D : va_G} {ct : Nat → ClassId} {A : Nat → Prop} {ad : Nat → Nat} {S : nH} (hC : nC p s m args c D vwCl ct A ad S 3 b_Plugs_addAll R_Plugs TT) (o0 cap0 : Nat) (hp0 : isP S o0 cap0) (o1 cap1 : Nat) (hp1 : isP S o1 cap1) : ∀ (f : Nat) (x2 : Int) (N : nS) (q : Int) (No : nS), m_Plugs_addAll_2 o0 cap0 o1 cap1 f x2 N = some (q, No) → rg x2 → nV p l e rm_Plugs_addAll s m args below meth c 0 0 Q D vwCl ct A ad S 3 No 32 [(0, .ref (ad o0)), (1, .ref (ad o1)), (2, .int (iI q))] [] → nV p l e rm_Plugs_addAll s m args below meth c 0 0 Q D vwCl ct A ad S 3 N 2 [(0, .ref (ad o0)), (1, .ref (ad o1)), (2, .int (iI x2))] [] := by
  intro f
  induction f with
  | zero =>
    intro x2 N q No hm
    rw [m_Plugs_addAll_2] at hm
    cases hm
  | succ f ih =>
    intro x2 N q No hm hx2 kx
    rw [m_Plugs_addAll_2] at hm
    refine nv_iload_n hC d_Plugs_addAll_2 rfl 2 rfl ?_
    refine nv_aload_n hC d_Plugs_addAll_3 rfl 1 rfl ?_
    refine nv_getI hC (j := 2) hp1.1 rfl in_Plugs (by decide) k_0 rfl d_Plugs_addAll_4 ?_
    obtain ⟨hr1, hm⟩ := ck_s hm
    refine nv_icmp_ge hC hx2 hr1 d_Plugs_addAll_7 (tgt := 32) (by decide) (fun c2 => ?_) (fun c2 => ?_)
    · have hm := if_t c2 hm
      obtain ⟨rfl, rfl⟩ := ret_s hm
      refine nv_sub (lv' := [(0, .ref (ad o0)), (1, .ref (ad o1)), (2, .int (iI x2))]) [0, 1, 2] rfl ?_
      exact kx
    · have hm := if_f c2 hm
      refine nv_aload_n hC d_Plugs_addAll_10 rfl 0 rfl ?_
      refine nv_aload_n hC d_Plugs_addAll_11 rfl 1 rfl ?_
      refine nv_getR hC (j := 0) hp1.1 rfl in_Plugs (by decide) k_1 rfl d_Plugs_addAll_12 ?_
      refine nv_iload_n hC d_Plugs_addAll_15 rfl 2 rfl ?_
      obtain ⟨hc3, hm⟩ := ck_s hm
      refine nv_iald hC hp1.2.1 hp1.2.2.2 hc3 d_Plugs_addAll_16 ?_
      refine nv_aload_n hC d_Plugs_addAll_17 rfl 1 rfl ?_
      refine nv_getR hC (j := 1) hp1.1 rfl in_Plugs (by decide) k_2 rfl d_Plugs_addAll_18 ?_
      refine nv_iload_n hC d_Plugs_addAll_21 rfl 2 rfl ?_
      refine nv_iald hC hp1.2.2.1 hp1.2.2.2 hc3 d_Plugs_addAll_22 ?_
      obtain ⟨hr4, hm⟩ := ck_s hm
      obtain ⟨hr5, hm⟩ := ck_s hm
      obtain ⟨r6, N7, hq8, hm⟩ := nbd_s hm
      refine nv_callv (N' := N7) (nr_V hC (As := [.int (iI (N (o1 + 1) (Int.toNat x2))), .int (iI (N (o1 + 2) (Int.toNat x2)))]) (st := []) hp0.1 rfl (c_Plugs_add l hC.2.2.1 o0 cap0 hp0 (N (o1 + 1) (Int.toNat x2)) hr4 (N (o1 + 2) (Int.toNat x2)) hr5 N r6 N7 hq8) (cwV 2 hC.1.2.2.2.2 (tt_V k_3 k_5 k_6 k_7 k_4) rfl rfl rfl (by decide +kernel) ⟨Nat.le_of_ble_eq_true rfl, Nat.le_of_ble_eq_true rfl⟩) rfl rfl (Nat.le_of_ble_eq_true rfl) ⟨(Nat.le_of_ble_eq_true rfl), (Nat.le_of_ble_eq_true rfl)⟩ d_Plugs_addAll_23) ?_
      refine nv_iinc (lv' := [(2, .int (iI (x2 + 1))), (0, .ref (ad o0)), (1, .ref (ad o1))]) hC d_Plugs_addAll_26 2 rfl (by decide) rfl ?_
      refine nv_goto hC d_Plugs_addAll_29 (tgt := 2) (by decide) ?_
      obtain ⟨hr9, hm⟩ := ck_s hm
      refine nv_sub (lv' := [(0, .ref (ad o0)), (1, .ref (ad o1)), (2, .int (iI (x2 + 1)))]) [1, 2, 0] rfl ?_
      exact ih (x2 + 1) N7 q No hm hr9 kx
set_option maxRecDepth 100000 in
set_option maxHeartbeats 4000000 in
theorem c_Plugs_addAll (l : Launch) {D : va_G} {ct : Nat → ClassId} {A : Nat → Prop} {ad : Nat → Nat} {S : nH} (hD : nD ad A S.length) (o0 cap0 : Nat) (hp0 : isP S o0 cap0) (o1 cap1 : Nat) (hp1 : isP S o1 cap1) (N : nS) (r : Int) (No : nS) (hm : m_Plugs_addAll o0 cap0 o1 cap1 N = some (r, No)) : nM l y_Plugs_addAll (Cond.code y_Plugs_addAll b_Plugs_addAll 3 none :: TT) rm_Plugs_addAll D vwCl ct A ad S N [.ref (ad o0), .ref (ad o1)] (nQv D vwCl ct A ad S No) := by
  refine nM_of (cc := b_Plugs_addAll) (maxL := 3) (ret := none) (by decide) rfl (Nat.le_of_ble_eq_true rfl) hD ?_
  intro p e s m below meth c hC hr hlk
  refine nv_lv (lv' := [(0, .ref (ad o0)), (1, .ref (ad o1))]) rfl ?_
  rw [m_Plugs_addAll] at hm
  refine nv_iconst hC d_Plugs_addAll_0 ?_
  refine nv_istore_n (lv' := [(2, .int (iI 0)), (0, .ref (ad o0)), (1, .ref (ad o1))]) hC d_Plugs_addAll_1 rfl (by decide) rfl ?_
  obtain ⟨q10, N11, hq12, hm⟩ := nbd_s hm
  refine nv_sub (lv' := [(0, .ref (ad o0)), (1, .ref (ad o1)), (2, .int (iI 0))]) [1, 2, 0] rfl ?_
  refine w_Plugs_addAll_2 hC o0 cap0 hp0 o1 cap1 hp1 FU 0 N q10 N11 hq12 ⟨by decide, by decide⟩ ?_
  obtain ⟨rfl, rfl⟩ := ret_s hm
  exact nv_vret hC hr hlk d_Plugs_addAll_32
def m_Plugs_clear (o0 cap0 : Nat) (N : nS) : Option (Int × nS) :=
  nlt (up2 N o0 2 0) (fun N1 =>
  some (0, N1))
abbrev rm_Plugs_clear : Room := { frames := 0, cells := 0, slots := 0, locals := 0 }
set_option maxRecDepth 100000 in
set_option maxHeartbeats 4000000 in
theorem c_Plugs_clear (l : Launch) {D : va_G} {ct : Nat → ClassId} {A : Nat → Prop} {ad : Nat → Nat} {S : nH} (hD : nD ad A S.length) (o0 cap0 : Nat) (hp0 : isP S o0 cap0) (N : nS) (r : Int) (No : nS) (hm : m_Plugs_clear o0 cap0 N = some (r, No)) : nM l y_Plugs_clear (Cond.code y_Plugs_clear b_Plugs_clear 1 none :: TT) rm_Plugs_clear D vwCl ct A ad S N [.ref (ad o0)] (nQv D vwCl ct A ad S No) := by
  refine nM_of (cc := b_Plugs_clear) (maxL := 1) (ret := none) (by decide) rfl (Nat.le_of_ble_eq_true rfl) hD ?_
  intro p e s m below meth c hC hr hlk
  refine nv_lv (lv' := [(0, .ref (ad o0))]) rfl ?_
  rw [m_Plugs_clear] at hm
  refine nv_aload_n hC d_Plugs_clear_0 rfl 0 rfl ?_
  refine nv_iconst hC d_Plugs_clear_1 ?_
  obtain ⟨N1, e2, hm⟩ := nlt_s hm
  refine nv_putI hC (j := 2) hp0.1 rfl in_Plugs (by decide) ty_Plugs tyok_Plugs nm_Plugs k_0 rfl rfl (by decide +kernel) e2 d_Plugs_clear_2 ?_
  obtain ⟨rfl, rfl⟩ := ret_s hm
  exact nv_vret hC hr hlk d_Plugs_clear_5
def m_Plugs_split_14 (o0 cap0 : Nat) (x1 : Int) (o2 cap2 : Nat) (o3 cap3 : Nat) : Nat → Int → Int → nS → Option ((Int × Int) × nS)
  | 0, _, _, _ => none
  | f + 1, x4, x5, N =>
    if rg (N o0 2) then
    if (N o0 2) ≤ x5 then
    some ((x4, x5), N)
    else
    if 0 ≤ x5 ∧ x5 < ((cap0 : Nat) : Int) then
    if rg (N (o0 + 1) (Int.toNat x5)) then
    if rg (N (o0 + 2) (Int.toNat x5)) then
    nbd (m_Plugs_add o2 cap2 (if (N (o0 + 1) (Int.toNat x5)) < x4 then (N (o0 + 1) (Int.toNat x5)) else x4) (N (o0 + 2) (Int.toNat x5)) N) (fun r12 N13 =>
    if rg ((N13 (o0 + 1) (Int.toNat x5)) - (if (N (o0 + 1) (Int.toNat x5)) < x4 then (N (o0 + 1) (Int.toNat x5)) else x4)) then
    if rg (N13 (o0 + 2) (Int.toNat x5)) then
    nbd (m_Plugs_add o3 cap3 ((N13 (o0 + 1) (Int.toNat x5)) - (if (N (o0 + 1) (Int.toNat x5)) < x4 then (N (o0 + 1) (Int.toNat x5)) else x4)) (N13 (o0 + 2) (Int.toNat x5)) N13) (fun r17 N18 =>
    if rg (x4 - (if (N (o0 + 1) (Int.toNat x5)) < x4 then (N (o0 + 1) (Int.toNat x5)) else x4)) then
    if rg (x5 + 1) then
    m_Plugs_split_14 o0 cap0 x1 o2 cap2 o3 cap3 f (x4 - (if (N (o0 + 1) (Int.toNat x5)) < x4 then (N (o0 + 1) (Int.toNat x5)) else x4)) (x5 + 1) N18
    else none
    else none)
    else none
    else none)
    else none
    else none
    else none
    else none
def m_Plugs_split (o0 cap0 : Nat) (x1 : Int) (o2 cap2 : Nat) (o3 cap3 : Nat) (N : nS) : Option (Int × nS) :=
  nbd (m_Plugs_clear o2 cap2 N) (fun r1 N2 =>
  nbd (m_Plugs_clear o3 cap3 N2) (fun r4 N5 =>
  nbd (m_Plugs_split_14 o0 cap0 x1 o2 cap2 o3 cap3 FU x1 0 N5) (fun q22 N23 =>
  some (0, N23))))
set_option maxRecDepth 20000 in
theorem k_8 : Cond.methodLink R_Plugs 32 y_Plugs_clear ∈ TT := tt_i 409 (by decide +kernel) (by decide +kernel)
set_option maxRecDepth 20000 in
theorem k_9 : Cond.code y_Plugs_clear b_Plugs_clear 1 none ∈ TT := tt_i 323 (by decide +kernel) (by decide +kernel)
set_option maxRecDepth 20000 in
theorem k_10 : Cond.instanceMethod y_Plugs_clear ∈ TT := tt_i 321 (by decide +kernel) (by decide +kernel)
set_option maxRecDepth 20000 in
theorem k_11 : Cond.selects R_Plugs y_Plugs_clear y_Plugs_clear ∈ TT := tt_i 322 (by decide +kernel) (by decide +kernel)
set_option maxRecDepth 20000 in
theorem k_12 : Cond.methodLink R_Plugs 35 Lib.Math.min.name ∈ TT := tt_i 410 (by decide +kernel) (by decide +kernel)
set_option maxRecDepth 20000 in
theorem k_13 : Cond.static Lib.Math.min.name ∈ TT := tt_i 411 (by decide +kernel) (by decide +kernel)
set_option maxRecDepth 20000 in
theorem k_14 : Cond.initialized "java/lang/Math" ∈ TT := tt_i 27 (by decide +kernel) (by decide +kernel)
set_option maxRecDepth 20000 in
theorem k_15 : Cond.code Lib.Math.min.name Lib.Math.min.code 2 (some .int) ∈ TT := tt_i 412 (by decide +kernel) (by decide +kernel)
abbrev rm_Plugs_split : Room := { frames := 1, cells := 0, slots := 0, locals := 24 }
set_option maxRecDepth 100000 in
set_option maxHeartbeats 4000000 in
theorem w_Plugs_split_14 {p : Program} {l : Launch} {e : Env} {s : State} {m : MethodId} {args : Array Value} {below : List Frame} {meth : Method} {c : Code} {Q : State → Prop} {D : va_G} {ct : Nat → ClassId} {A : Nat → Prop} {ad : Nat → Nat} {S : nH} (hC : nC p s m args c D vwCl ct A ad S 7 b_Plugs_split R_Plugs TT) (o0 cap0 : Nat) (hp0 : isP S o0 cap0) (x1 : Int) (hx1 : rg x1) (o2 cap2 : Nat) (hp2 : isP S o2 cap2) (o3 cap3 : Nat) (hp3 : isP S o3 cap3) : ∀ (f : Nat) (x4 x5 : Int) (N : nS) (q : Int × Int) (No : nS), m_Plugs_split_14 o0 cap0 x1 o2 cap2 o3 cap3 f x4 x5 N = some (q, No) → rg x4 → rg x5 → nV p l e rm_Plugs_split s m args below meth c 0 0 Q D vwCl ct A ad S 7 No 84 [(0, .ref (ad o0)), (1, .int (iI x1)), (2, .ref (ad o2)), (3, .ref (ad o3)), (4, .int (iI q.1)), (5, .int (iI q.2))] [] → nV p l e rm_Plugs_split s m args below meth c 0 0 Q D vwCl ct A ad S 7 N 14 [(0, .ref (ad o0)), (1, .int (iI x1)), (2, .ref (ad o2)), (3, .ref (ad o3)), (4, .int (iI x4)), (5, .int (iI x5))] [] := by
  intro f
  induction f with
  | zero =>
    intro x4 x5 N q No hm
    rw [m_Plugs_split_14] at hm
    cases hm
  | succ f ih =>
    intro x4 x5 N q No hm hx4 hx5 kx
    rw [m_Plugs_split_14] at hm
    refine nv_iload hC d_Plugs_split_14 5 rfl ?_
    refine nv_aload_n hC d_Plugs_split_16 rfl 0 rfl ?_
    refine nv_getI hC (j := 2) hp0.1 rfl in_Plugs (by decide) k_0 rfl d_Plugs_split_17 ?_
    obtain ⟨hr7, hm⟩ := ck_s hm
    refine nv_icmp_ge hC hx5 hr7 d_Plugs_split_20 (tgt := 84) (by decide) (fun c8 => ?_) (fun c8 => ?_)
    · have hm := if_t c8 hm
      obtain ⟨rfl, rfl⟩ := ret_s hm
      refine nv_sub (lv' := [(0, .ref (ad o0)), (1, .int (iI x1)), (2, .ref (ad o2)), (3, .ref (ad o3)), (4, .int (iI x4)), (5, .int (iI x5))]) [0, 1, 2, 3, 4, 5] rfl ?_
      exact kx
    · have hm := if_f c8 hm
      refine nv_iload hC d_Plugs_split_23 4 rfl ?_
      refine nv_aload_n hC d_Plugs_split_25 rfl 0 rfl ?_
      refine nv_getR hC (j := 0) hp0.1 rfl in_Plugs (by decide) k_1 rfl d_Plugs_split_26 ?_
      refine nv_iload hC d_Plugs_split_29 5 rfl ?_
      obtain ⟨hc9, hm⟩ := ck_s hm
      refine nv_iald hC hp0.2.1 hp0.2.2.2 hc9 d_Plugs_split_31 ?_
      obtain ⟨hr10, hm⟩ := ck_s hm
      refine nv_mmin hC k_12 k_13 k_14 k_15 (Nat.le_of_ble_eq_true rfl) (Nat.le_of_ble_eq_true rfl) (Nat.zero_le _) (Nat.zero_le _) hx4 hr10 d_Plugs_split_32 ?_
      refine nv_istore (lv' := [(6, .int (iI (if (N (o0 + 1) (Int.toNat x5)) < x4 then (N (o0 + 1) (Int.toNat x5)) else x4))), (0, .ref (ad o0)), (1, .int (iI x1)), (2, .ref (ad o2)), (3, .ref (ad o3)), (4, .int (iI x4)), (5, .int (iI x5))]) hC d_Plugs_split_35 (by decide) rfl ?_
      refine nv_aload_n hC d_Plugs_split_37 rfl 3 rfl ?_
      refine nv_iload hC d_Plugs_split_38 0 rfl ?_
      refine nv_aload_n hC d_Plugs_split_40 rfl 1 rfl ?_
      refine nv_getR hC (j := 1) hp0.1 rfl in_Plugs (by decide) k_2 rfl d_Plugs_split_41 ?_
      refine nv_iload hC d_Plugs_split_44 6 rfl ?_
      refine nv_iald hC hp0.2.2.1 hp0.2.2.2 hc9 d_Plugs_split_46 ?_
      obtain ⟨hr11, hm⟩ := ck_s hm
      obtain ⟨r12, N13, hq14, hm⟩ := nbd_s hm
      refine nv_callv (N' := N13) (nr_V hC (As := [.int (iI (if (N (o0 + 1) (Int.toNat x5)) < x4 then (N (o0 + 1) (Int.toNat x5)) else x4)), .int (iI (N (o0 + 2) (Int.toNat x5)))]) (st := []) hp2.1 rfl (c_Plugs_add l hC.2.2.1 o2 cap2 hp2 (if (N (o0 + 1) (Int.toNat x5)) < x4 then (N (o0 + 1) (Int.toNat x5)) else x4) (rg_min hx4 hr10) (N (o0 + 2) (Int.toNat x5)) hr11 N r12 N13 hq14) (cwV 2 hC.1.2.2.2.2 (tt_V k_3 k_5 k_6 k_7 k_4) rfl rfl rfl (by decide +kernel) ⟨Nat.le_of_ble_eq_true rfl, Nat.le_of_ble_eq_true rfl⟩) rfl rfl (Nat.le_of_ble_eq_true rfl) ⟨(Nat.le_of_ble_eq_true rfl), (Nat.le_of_ble_eq_true rfl)⟩ d_Plugs_split_47) ?_
      refine nv_aload_n hC d_Plugs_split_50 rfl 4 rfl ?_
      refine nv_aload_n hC d_Plugs_split_51 rfl 1 rfl ?_
      refine nv_getR hC (j := 0) hp0.1 rfl in_Plugs (by decide) k_1 rfl d_Plugs_split_52 ?_
      refine nv_iload hC d_Plugs_split_55 6 rfl ?_
      refine nv_iald hC hp0.2.1 hp0.2.2.2 hc9 d_Plugs_split_57 ?_
      refine nv_iload hC d_Plugs_split_58 0 rfl ?_
      refine nv_isub hC d_Plugs_split_60 ?_
      refine nv_aload_n hC d_Plugs_split_61 rfl 1 rfl ?_
      refine nv_getR hC (j := 1) hp0.1 rfl in_Plugs (by decide) k_2 rfl d_Plugs_split_62 ?_
      refine nv_iload hC d_Plugs_split_65 6 rfl ?_
      refine nv_iald hC hp0.2.2.1 hp0.2.2.2 hc9 d_Plugs_split_67 ?_
      obtain ⟨hr15, hm⟩ := ck_s hm
      obtain ⟨hr16, hm⟩ := ck_s hm
      obtain ⟨r17, N18, hq19, hm⟩ := nbd_s hm
      refine nv_callv (N' := N18) (nr_V hC (As := [.int (iI ((N13 (o0 + 1) (Int.toNat x5)) - (if (N (o0 + 1) (Int.toNat x5)) < x4 then (N (o0 + 1) (Int.toNat x5)) else x4))), .int (iI (N13 (o0 + 2) (Int.toNat x5)))]) (st := []) hp3.1 rfl (c_Plugs_add l hC.2.2.1 o3 cap3 hp3 ((N13 (o0 + 1) (Int.toNat x5)) - (if (N (o0 + 1) (Int.toNat x5)) < x4 then (N (o0 + 1) (Int.toNat x5)) else x4)) hr15 (N13 (o0 + 2) (Int.toNat x5)) hr16 N13 r17 N18 hq19) (cwV 2 hC.1.2.2.2.2 (tt_V k_3 k_5 k_6 k_7 k_4) rfl rfl rfl (by decide +kernel) ⟨Nat.le_of_ble_eq_true rfl, Nat.le_of_ble_eq_true rfl⟩) rfl rfl (Nat.le_of_ble_eq_true rfl) ⟨(Nat.le_of_ble_eq_true rfl), (Nat.le_of_ble_eq_true rfl)⟩ d_Plugs_split_68) ?_
      refine nv_iload hC d_Plugs_split_71 5 rfl ?_
      refine nv_iload hC d_Plugs_split_73 0 rfl ?_
      refine nv_isub hC d_Plugs_split_75 ?_
      refine nv_istore (lv' := [(4, .int (iI (x4 - (if (N (o0 + 1) (Int.toNat x5)) < x4 then (N (o0 + 1) (Int.toNat x5)) else x4)))), (6, .int (iI (if (N (o0 + 1) (Int.toNat x5)) < x4 then (N (o0 + 1) (Int.toNat x5)) else x4))), (0, .ref (ad o0)), (1, .int (iI x1)), (2, .ref (ad o2)), (3, .ref (ad o3)), (5, .int (iI x5))]) hC d_Plugs_split_76 (by decide) rfl ?_
      refine nv_iinc (lv' := [(5, .int (iI (x5 + 1))), (4, .int (iI (x4 - (if (N (o0 + 1) (Int.toNat x5)) < x4 then (N (o0 + 1) (Int.toNat x5)) else x4)))), (6, .int (iI (if (N (o0 + 1) (Int.toNat x5)) < x4 then (N (o0 + 1) (Int.toNat x5)) else x4))), (0, .ref (ad o0)), (1, .int (iI x1)), (2, .ref (ad o2)), (3, .ref (ad o3))]) hC d_Plugs_split_78 6 rfl (by decide) rfl ?_
      refine nv_goto hC d_Plugs_split_81 (tgt := 14) (by decide) ?_
      obtain ⟨hr20, hm⟩ := ck_s hm
      obtain ⟨hr21, hm⟩ := ck_s hm
      refine nv_sub (lv' := [(0, .ref (ad o0)), (1, .int (iI x1)), (2, .ref (ad o2)), (3, .ref (ad o3)), (4, .int (iI (x4 - (if (N (o0 + 1) (Int.toNat x5)) < x4 then (N (o0 + 1) (Int.toNat x5)) else x4)))), (5, .int (iI (x5 + 1)))]) [3, 4, 5, 6, 1, 0] rfl ?_
      exact ih (x4 - (if (N (o0 + 1) (Int.toNat x5)) < x4 then (N (o0 + 1) (Int.toNat x5)) else x4)) (x5 + 1) N18 q No hm hr20 hr21 kx
set_option maxRecDepth 100000 in
set_option maxHeartbeats 4000000 in
theorem c_Plugs_split (l : Launch) {D : va_G} {ct : Nat → ClassId} {A : Nat → Prop} {ad : Nat → Nat} {S : nH} (hD : nD ad A S.length) (o0 cap0 : Nat) (hp0 : isP S o0 cap0) (x1 : Int) (hx1 : rg x1) (o2 cap2 : Nat) (hp2 : isP S o2 cap2) (o3 cap3 : Nat) (hp3 : isP S o3 cap3) (N : nS) (r : Int) (No : nS) (hm : m_Plugs_split o0 cap0 x1 o2 cap2 o3 cap3 N = some (r, No)) : nM l y_Plugs_split (Cond.code y_Plugs_split b_Plugs_split 7 none :: TT) rm_Plugs_split D vwCl ct A ad S N [.ref (ad o0), .int (iI x1), .ref (ad o2), .ref (ad o3)] (nQv D vwCl ct A ad S No) := by
  refine nM_of (cc := b_Plugs_split) (maxL := 7) (ret := none) (by decide) rfl (Nat.le_of_ble_eq_true rfl) hD ?_
  intro p e s m below meth c hC hr hlk
  refine nv_lv (lv' := [(0, .ref (ad o0)), (1, .int (iI x1)), (2, .ref (ad o2)), (3, .ref (ad o3))]) rfl ?_
  rw [m_Plugs_split] at hm
  refine nv_aload_n hC d_Plugs_split_0 rfl 2 rfl ?_
  obtain ⟨r1, N2, hq3, hm⟩ := nbd_s hm
  refine nv_callv (N' := N2) (nr_V hC (As := []) (st := []) hp2.1 rfl (c_Plugs_clear l hC.2.2.1 o2 cap2 hp2 N r1 N2 hq3) (cwV 0 hC.1.2.2.2.2 (tt_V k_8 k_10 k_11 k_7 k_9) rfl rfl rfl (by decide +kernel) ⟨Nat.le_of_ble_eq_true rfl, Nat.le_of_ble_eq_true rfl⟩) rfl rfl (Nat.le_of_ble_eq_true rfl) ⟨(Nat.le_of_ble_eq_true rfl), (Nat.le_of_ble_eq_true rfl)⟩ d_Plugs_split_1) ?_
  refine nv_aload_n hC d_Plugs_split_4 rfl 3 rfl ?_
  obtain ⟨r4, N5, hq6, hm⟩ := nbd_s hm
  refine nv_callv (N' := N5) (nr_V hC (As := []) (st := []) hp3.1 rfl (c_Plugs_clear l hC.2.2.1 o3 cap3 hp3 N2 r4 N5 hq6) (cwV 0 hC.1.2.2.2.2 (tt_V k_8 k_10 k_11 k_7 k_9) rfl rfl rfl (by decide +kernel) ⟨Nat.le_of_ble_eq_true rfl, Nat.le_of_ble_eq_true rfl⟩) rfl rfl (Nat.le_of_ble_eq_true rfl) ⟨(Nat.le_of_ble_eq_true rfl), (Nat.le_of_ble_eq_true rfl)⟩ d_Plugs_split_5) ?_
  refine nv_iload_n hC d_Plugs_split_8 rfl 1 rfl ?_
  refine nv_istore (lv' := [(4, .int (iI x1)), (0, .ref (ad o0)), (1, .int (iI x1)), (2, .ref (ad o2)), (3, .ref (ad o3))]) hC d_Plugs_split_9 (by decide) rfl ?_
  refine nv_iconst hC d_Plugs_split_11 ?_
  refine nv_istore (lv' := [(5, .int (iI 0)), (4, .int (iI x1)), (0, .ref (ad o0)), (1, .int (iI x1)), (2, .ref (ad o2)), (3, .ref (ad o3))]) hC d_Plugs_split_12 (by decide) rfl ?_
  obtain ⟨q22, N23, hq24, hm⟩ := nbd_s hm
  refine nv_sub (lv' := [(0, .ref (ad o0)), (1, .int (iI x1)), (2, .ref (ad o2)), (3, .ref (ad o3)), (4, .int (iI x1)), (5, .int (iI 0))]) [2, 3, 4, 5, 1, 0] rfl ?_
  refine w_Plugs_split_14 hC o0 cap0 hp0 x1 hx1 o2 cap2 hp2 o3 cap3 hp3 FU x1 0 N5 q22 N23 hq24 hx1 ⟨by decide, by decide⟩ ?_
  obtain ⟨rfl, rfl⟩ := ret_s hm
  exact nv_vret hC hr hlk d_Plugs_split_84
def m_Plugs_likest_8 (o0 cap0 : Nat) : Nat → Int → Int → Int → nS → Option ((Int × Int × Int) × nS)
  | 0, _, _, _, _ => none
  | f + 1, x1, x2, x3, N =>
    if rg (x3 + 1) then
    if rg (N o0 2) then
    if (N o0 2) ≤ (x3 + 1) then
    some ((x1, x2, x3), N)
    else
    if 0 ≤ x3 ∧ x3 < ((cap0 : Nat) : Int) then
    if 0 ≤ (x3 + 1) ∧ (x3 + 1) < ((cap0 : Nat) : Int) then
    if rg ((N (o0 + 2) (Int.toNat x3)) - (N (o0 + 2) (Int.toNat (x3 + 1)))) then
    if rg (if 0 ≤ ((N (o0 + 2) (Int.toNat x3)) - (N (o0 + 2) (Int.toNat (x3 + 1)))) then ((N (o0 + 2) (Int.toNat x3)) - (N (o0 + 2) (Int.toNat (x3 + 1)))) else 0 - ((N (o0 + 2) (Int.toNat x3)) - (N (o0 + 2) (Int.toNat (x3 + 1))))) then
    if x2 ≤ (if 0 ≤ ((N (o0 + 2) (Int.toNat x3)) - (N (o0 + 2) (Int.toNat (x3 + 1)))) then ((N (o0 + 2) (Int.toNat x3)) - (N (o0 + 2) (Int.toNat (x3 + 1)))) else 0 - ((N (o0 + 2) (Int.toNat x3)) - (N (o0 + 2) (Int.toNat (x3 + 1))))) then
    m_Plugs_likest_8 o0 cap0 f x1 x2 (x3 + 1) N
    else
    m_Plugs_likest_8 o0 cap0 f x3 (if 0 ≤ ((N (o0 + 2) (Int.toNat x3)) - (N (o0 + 2) (Int.toNat (x3 + 1)))) then ((N (o0 + 2) (Int.toNat x3)) - (N (o0 + 2) (Int.toNat (x3 + 1)))) else 0 - ((N (o0 + 2) (Int.toNat x3)) - (N (o0 + 2) (Int.toNat (x3 + 1))))) (x3 + 1) N
    else none
    else none
    else none
    else none
    else none
    else none
def m_Plugs_likest (o0 cap0 : Nat) (N : nS) : Option (Int × nS) :=
  nbd (m_Plugs_likest_8 o0 cap0 FU 0 10001 0 N) (fun q9 N10 =>
  some (q9.1, N10))
set_option maxRecDepth 20000 in
theorem k_16 : Cond.methodLink R_Plugs 46 Lib.Math.abs.name ∈ TT := tt_i 421 (by decide +kernel) (by decide +kernel)
set_option maxRecDepth 20000 in
theorem k_17 : Cond.static Lib.Math.abs.name ∈ TT := tt_i 422 (by decide +kernel) (by decide +kernel)
set_option maxRecDepth 20000 in
theorem k_18 : Cond.code Lib.Math.abs.name Lib.Math.abs.code 1 (some .int) ∈ TT := tt_i 423 (by decide +kernel) (by decide +kernel)
abbrev rm_Plugs_likest : Room := { frames := 1, cells := 0, slots := 0, locals := 24 }
set_option maxRecDepth 100000 in
set_option maxHeartbeats 4000000 in
theorem w_Plugs_likest_8 {p : Program} {l : Launch} {e : Env} {s : State} {m : MethodId} {args : Array Value} {below : List Frame} {meth : Method} {c : Code} {Q : State → Prop} {D : va_G} {ct : Nat → ClassId} {A : Nat → Prop} {ad : Nat → Nat} {S : nH} (hC : nC p s m args c D vwCl ct A ad S 5 b_Plugs_likest R_Plugs TT) (o0 cap0 : Nat) (hp0 : isP S o0 cap0) : ∀ (f : Nat) (x1 x2 x3 : Int) (N : nS) (q : Int × Int × Int) (No : nS), m_Plugs_likest_8 o0 cap0 f x1 x2 x3 N = some (q, No) → rg x1 → rg x2 → rg x3 → nV p l e rm_Plugs_likest s m args below meth c 0 0 Q D vwCl ct A ad S 5 No 55 [(0, .ref (ad o0)), (1, .int (iI q.1)), (2, .int (iI q.2.1)), (3, .int (iI q.2.2))] [] → nV p l e rm_Plugs_likest s m args below meth c 0 0 Q D vwCl ct A ad S 5 N 8 [(0, .ref (ad o0)), (1, .int (iI x1)), (2, .int (iI x2)), (3, .int (iI x3))] [] := by
  intro f
  induction f with
  | zero =>
    intro x1 x2 x3 N q No hm
    rw [m_Plugs_likest_8] at hm
    cases hm
  | succ f ih =>
    intro x1 x2 x3 N q No hm hx1 hx2 hx3 kx
    rw [m_Plugs_likest_8] at hm
    refine nv_iload_n hC d_Plugs_likest_8 rfl 3 rfl ?_
    refine nv_iconst hC d_Plugs_likest_9 ?_
    refine nv_iadd hC d_Plugs_likest_10 ?_
    refine nv_aload_n hC d_Plugs_likest_11 rfl 0 rfl ?_
    refine nv_getI hC (j := 2) hp0.1 rfl in_Plugs (by decide) k_0 rfl d_Plugs_likest_12 ?_
    obtain ⟨hr1, hm⟩ := ck_s hm
    obtain ⟨hr2, hm⟩ := ck_s hm
    refine nv_icmp_ge hC hr1 hr2 d_Plugs_likest_15 (tgt := 55) (by decide) (fun c3 => ?_) (fun c3 => ?_)
    · have hm := if_t c3 hm
      obtain ⟨rfl, rfl⟩ := ret_s hm
      refine nv_sub (lv' := [(0, .ref (ad o0)), (1, .int (iI x1)), (2, .int (iI x2)), (3, .int (iI x3))]) [0, 1, 2, 3] rfl ?_
      exact kx
    · have hm := if_f c3 hm
      refine nv_aload_n hC d_Plugs_likest_18 rfl 0 rfl ?_
      refine nv_getR hC (j := 1) hp0.1 rfl in_Plugs (by decide) k_2 rfl d_Plugs_likest_19 ?_
      refine nv_iload_n hC d_Plugs_likest_22 rfl 3 rfl ?_
      obtain ⟨hc4, hm⟩ := ck_s hm
      refine nv_iald hC hp0.2.2.1 hp0.2.2.2 hc4 d_Plugs_likest_23 ?_
      refine nv_aload_n hC d_Plugs_likest_24 rfl 0 rfl ?_
      refine nv_getR hC (j := 1) hp0.1 rfl in_Plugs (by decide) k_2 rfl d_Plugs_likest_25 ?_
      refine nv_iload_n hC d_Plugs_likest_28 rfl 3 rfl ?_
      refine nv_iconst hC d_Plugs_likest_29 ?_
      refine nv_iadd hC d_Plugs_likest_30 ?_
      obtain ⟨hc5, hm⟩ := ck_s hm
      refine nv_iald hC hp0.2.2.1 hp0.2.2.2 hc5 d_Plugs_likest_31 ?_
      refine nv_isub hC d_Plugs_likest_32 ?_
      obtain ⟨hr6, hm⟩ := ck_s hm
      refine nv_mabs hC k_16 k_17 k_14 k_18 (Nat.le_of_ble_eq_true rfl) (Nat.le_of_ble_eq_true rfl) (Nat.zero_le _) (Nat.zero_le _) hr6 d_Plugs_likest_33 ?_
      refine nv_istore (lv' := [(4, .int (iI (if 0 ≤ ((N (o0 + 2) (Int.toNat x3)) - (N (o0 + 2) (Int.toNat (x3 + 1)))) then ((N (o0 + 2) (Int.toNat x3)) - (N (o0 + 2) (Int.toNat (x3 + 1)))) else 0 - ((N (o0 + 2) (Int.toNat x3)) - (N (o0 + 2) (Int.toNat (x3 + 1))))))), (0, .ref (ad o0)), (1, .int (iI x1)), (2, .int (iI x2)), (3, .int (iI x3))]) hC d_Plugs_likest_36 (by decide) rfl ?_
      refine nv_iload hC d_Plugs_likest_38 0 rfl ?_
      refine nv_iload_n hC d_Plugs_likest_40 rfl 3 rfl ?_
      obtain ⟨hr7, hm⟩ := ck_s hm
      refine nv_icmp_ge hC hr7 hx2 d_Plugs_likest_41 (tgt := 49) (by decide) (fun c8 => ?_) (fun c8 => ?_)
      · have hm := if_t c8 hm
        refine nv_iinc (lv' := [(3, .int (iI (x3 + 1))), (4, .int (iI (if 0 ≤ ((N (o0 + 2) (Int.toNat x3)) - (N (o0 + 2) (Int.toNat (x3 + 1)))) then ((N (o0 + 2) (Int.toNat x3)) - (N (o0 + 2) (Int.toNat (x3 + 1)))) else 0 - ((N (o0 + 2) (Int.toNat x3)) - (N (o0 + 2) (Int.toNat (x3 + 1))))))), (0, .ref (ad o0)), (1, .int (iI x1)), (2, .int (iI x2))]) hC d_Plugs_likest_49 4 rfl (by decide) rfl ?_
        refine nv_goto hC d_Plugs_likest_52 (tgt := 8) (by decide) ?_
        refine nv_sub (lv' := [(0, .ref (ad o0)), (1, .int (iI x1)), (2, .int (iI x2)), (3, .int (iI (x3 + 1)))]) [2, 3, 4, 0] rfl ?_
        exact ih x1 x2 (x3 + 1) N q No hm hx1 hx2 hr1 kx
      · have hm := if_f c8 hm
        refine nv_iload_n hC d_Plugs_likest_44 rfl 4 rfl ?_
        refine nv_istore_n (lv' := [(1, .int (iI x3)), (4, .int (iI (if 0 ≤ ((N (o0 + 2) (Int.toNat x3)) - (N (o0 + 2) (Int.toNat (x3 + 1)))) then ((N (o0 + 2) (Int.toNat x3)) - (N (o0 + 2) (Int.toNat (x3 + 1)))) else 0 - ((N (o0 + 2) (Int.toNat x3)) - (N (o0 + 2) (Int.toNat (x3 + 1))))))), (0, .ref (ad o0)), (2, .int (iI x2)), (3, .int (iI x3))]) hC d_Plugs_likest_45 rfl (by decide) rfl ?_
        refine nv_iload hC d_Plugs_likest_46 1 rfl ?_
        refine nv_istore_n (lv' := [(2, .int (iI (if 0 ≤ ((N (o0 + 2) (Int.toNat x3)) - (N (o0 + 2) (Int.toNat (x3 + 1)))) then ((N (o0 + 2) (Int.toNat x3)) - (N (o0 + 2) (Int.toNat (x3 + 1)))) else 0 - ((N (o0 + 2) (Int.toNat x3)) - (N (o0 + 2) (Int.toNat (x3 + 1))))))), (1, .int (iI x3)), (4, .int (iI (if 0 ≤ ((N (o0 + 2) (Int.toNat x3)) - (N (o0 + 2) (Int.toNat (x3 + 1)))) then ((N (o0 + 2) (Int.toNat x3)) - (N (o0 + 2) (Int.toNat (x3 + 1)))) else 0 - ((N (o0 + 2) (Int.toNat x3)) - (N (o0 + 2) (Int.toNat (x3 + 1))))))), (0, .ref (ad o0)), (3, .int (iI x3))]) hC d_Plugs_likest_48 rfl (by decide) rfl ?_
        refine nv_iinc (lv' := [(3, .int (iI (x3 + 1))), (2, .int (iI (if 0 ≤ ((N (o0 + 2) (Int.toNat x3)) - (N (o0 + 2) (Int.toNat (x3 + 1)))) then ((N (o0 + 2) (Int.toNat x3)) - (N (o0 + 2) (Int.toNat (x3 + 1)))) else 0 - ((N (o0 + 2) (Int.toNat x3)) - (N (o0 + 2) (Int.toNat (x3 + 1))))))), (1, .int (iI x3)), (4, .int (iI (if 0 ≤ ((N (o0 + 2) (Int.toNat x3)) - (N (o0 + 2) (Int.toNat (x3 + 1)))) then ((N (o0 + 2) (Int.toNat x3)) - (N (o0 + 2) (Int.toNat (x3 + 1)))) else 0 - ((N (o0 + 2) (Int.toNat x3)) - (N (o0 + 2) (Int.toNat (x3 + 1))))))), (0, .ref (ad o0))]) hC d_Plugs_likest_49 4 rfl (by decide) rfl ?_
        refine nv_goto hC d_Plugs_likest_52 (tgt := 8) (by decide) ?_
        refine nv_sub (lv' := [(0, .ref (ad o0)), (1, .int (iI x3)), (2, .int (iI (if 0 ≤ ((N (o0 + 2) (Int.toNat x3)) - (N (o0 + 2) (Int.toNat (x3 + 1)))) then ((N (o0 + 2) (Int.toNat x3)) - (N (o0 + 2) (Int.toNat (x3 + 1)))) else 0 - ((N (o0 + 2) (Int.toNat x3)) - (N (o0 + 2) (Int.toNat (x3 + 1))))))), (3, .int (iI (x3 + 1)))]) [4, 2, 1, 0] rfl ?_
        exact ih x3 (if 0 ≤ ((N (o0 + 2) (Int.toNat x3)) - (N (o0 + 2) (Int.toNat (x3 + 1)))) then ((N (o0 + 2) (Int.toNat x3)) - (N (o0 + 2) (Int.toNat (x3 + 1)))) else 0 - ((N (o0 + 2) (Int.toNat x3)) - (N (o0 + 2) (Int.toNat (x3 + 1))))) (x3 + 1) N q No hm hx3 hr7 hr1 kx
set_option maxRecDepth 100000 in
set_option maxHeartbeats 4000000 in
theorem c_Plugs_likest (l : Launch) {D : va_G} {ct : Nat → ClassId} {A : Nat → Prop} {ad : Nat → Nat} {S : nH} (hD : nD ad A S.length) (o0 cap0 : Nat) (hp0 : isP S o0 cap0) (N : nS) (r : Int) (No : nS) (hm : m_Plugs_likest o0 cap0 N = some (r, No)) : nM l y_Plugs_likest (Cond.code y_Plugs_likest b_Plugs_likest 5 (some .int) :: TT) rm_Plugs_likest D vwCl ct A ad S N [.ref (ad o0)] (nQi D vwCl ct A ad S r No) := by
  refine nM_of (cc := b_Plugs_likest) (maxL := 5) (ret := (some .int)) (by decide) rfl (Nat.le_of_ble_eq_true rfl) hD ?_
  intro p e s m below meth c hC hr hlk
  refine nv_lv (lv' := [(0, .ref (ad o0))]) rfl ?_
  rw [m_Plugs_likest] at hm
  refine nv_iconst hC d_Plugs_likest_0 ?_
  refine nv_istore_n (lv' := [(1, .int (iI 0)), (0, .ref (ad o0))]) hC d_Plugs_likest_1 rfl (by decide) rfl ?_
  refine nv_sipush hC (z := 10001) d_Plugs_likest_2 rfl ?_
  refine nv_istore_n (lv' := [(2, .int (iI 10001)), (1, .int (iI 0)), (0, .ref (ad o0))]) hC d_Plugs_likest_5 rfl (by decide) rfl ?_
  refine nv_iconst hC d_Plugs_likest_6 ?_
  refine nv_istore_n (lv' := [(3, .int (iI 0)), (2, .int (iI 10001)), (1, .int (iI 0)), (0, .ref (ad o0))]) hC d_Plugs_likest_7 rfl (by decide) rfl ?_
  obtain ⟨q9, N10, hq11, hm⟩ := nbd_s hm
  refine nv_sub (lv' := [(0, .ref (ad o0)), (1, .int (iI 0)), (2, .int (iI 10001)), (3, .int (iI 0))]) [3, 2, 1, 0] rfl ?_
  refine w_Plugs_likest_8 hC o0 cap0 hp0 FU 0 10001 0 N q9 N10 hq11 ⟨by decide, by decide⟩ ⟨by decide, by decide⟩ ⟨by decide, by decide⟩ ?_
  refine nv_iload_n hC d_Plugs_likest_55 rfl 1 rfl ?_
  obtain ⟨rfl, rfl⟩ := ret_s hm
  exact nv_iret hC hr hlk d_Plugs_likest_56
def m_Plugs_joinBehind_92 (o0 cap0 : Nat) (x1 : Int) (x2 : Int) (x3 : Int) : Nat → Int → nS → Option ((Int) × nS)
  | 0, _, _ => none
  | f + 1, x4, N =>
    if rg (x4 + 1) then
    if rg (N o0 2) then
    if (N o0 2) ≤ (x4 + 1) then
    some (x4, N)
    else
    if 0 ≤ (x4 + 1) ∧ (x4 + 1) < ((cap0 : Nat) : Int) then
    if 0 ≤ x4 ∧ x4 < ((cap0 : Nat) : Int) then
    nlt (up2 N (o0 + 1) (Int.toNat x4) (N (o0 + 1) (Int.toNat (x4 + 1)))) (fun N20 =>
    nlt (up2 N20 (o0 + 2) (Int.toNat x4) (N20 (o0 + 2) (Int.toNat (x4 + 1)))) (fun N22 =>
    m_Plugs_joinBehind_92 o0 cap0 x1 x2 x3 f (x4 + 1) N22))
    else none
    else none
    else none
    else none
def m_Plugs_joinBehind (o0 cap0 : Nat) (x1 : Int) (N : nS) : Option (Int × nS) :=
  if x1 < 0 then
  some (0, N)
  else
  if rg (x1 + 1) then
  if rg (N o0 2) then
  if (x1 + 1) < (N o0 2) then
  if 0 ≤ x1 ∧ x1 < ((cap0 : Nat) : Int) then
  if 0 ≤ (x1 + 1) ∧ (x1 + 1) < ((cap0 : Nat) : Int) then
  if rg ((N (o0 + 1) (Int.toNat x1)) + (N (o0 + 1) (Int.toNat (x1 + 1)))) then
  if 1 ≤ ((N (o0 + 1) (Int.toNat x1)) + (N (o0 + 1) (Int.toNat (x1 + 1)))) then
  nlt (up2 N (o0 + 1) (Int.toNat x1) ((N (o0 + 1) (Int.toNat x1)) + (N (o0 + 1) (Int.toNat (x1 + 1))))) (fun N9 =>
  if rg (((N (o0 + 1) (Int.toNat x1)) * (N (o0 + 2) (Int.toNat x1))) + ((N (o0 + 1) (Int.toNat (x1 + 1))) * (N (o0 + 2) (Int.toNat (x1 + 1))))) then
  if ¬ ((N (o0 + 1) (Int.toNat x1)) + (N (o0 + 1) (Int.toNat (x1 + 1)))) = 0 then
  nlt (up2 N9 (o0 + 2) (Int.toNat x1) (Int.tdiv (((N (o0 + 1) (Int.toNat x1)) * (N (o0 + 2) (Int.toNat x1))) + ((N (o0 + 1) (Int.toNat (x1 + 1))) * (N (o0 + 2) (Int.toNat (x1 + 1))))) ((N (o0 + 1) (Int.toNat x1)) + (N (o0 + 1) (Int.toNat (x1 + 1)))))) (fun N13 =>
  nbd (m_Plugs_joinBehind_92 o0 cap0 x1 ((N (o0 + 1) (Int.toNat x1)) + (N (o0 + 1) (Int.toNat (x1 + 1)))) (((N (o0 + 1) (Int.toNat x1)) * (N (o0 + 2) (Int.toNat x1))) + ((N (o0 + 1) (Int.toNat (x1 + 1))) * (N (o0 + 2) (Int.toNat (x1 + 1))))) FU (x1 + 1) N13) (fun q24 N25 =>
  nlt (up2 N25 o0 2 ((N25 o0 2) - 1)) (fun N27 =>
  some (((((N (o0 + 1) (Int.toNat x1)) * (N (o0 + 2) (Int.toNat x1))) + ((N (o0 + 1) (Int.toNat (x1 + 1))) * (N (o0 + 2) (Int.toNat (x1 + 1))))) - (Int.tdiv (((N (o0 + 1) (Int.toNat x1)) * (N (o0 + 2) (Int.toNat x1))) + ((N (o0 + 1) (Int.toNat (x1 + 1))) * (N (o0 + 2) (Int.toNat (x1 + 1))))) ((N (o0 + 1) (Int.toNat x1)) + (N (o0 + 1) (Int.toNat (x1 + 1))))) * ((N (o0 + 1) (Int.toNat x1)) + (N (o0 + 1) (Int.toNat (x1 + 1))))), N27))))
  else none
  else none)
  else
  some (0, N)
  else none
  else none
  else none
  else
  some (0, N)
  else none
  else none
abbrev rm_Plugs_joinBehind : Room := { frames := 0, cells := 0, slots := 0, locals := 0 }
set_option maxRecDepth 100000 in
set_option maxHeartbeats 4000000 in
theorem w_Plugs_joinBehind_92 {p : Program} {l : Launch} {e : Env} {s : State} {m : MethodId} {args : Array Value} {below : List Frame} {meth : Method} {c : Code} {Q : State → Prop} {D : va_G} {ct : Nat → ClassId} {A : Nat → Prop} {ad : Nat → Nat} {S : nH} (hC : nC p s m args c D vwCl ct A ad S 5 b_Plugs_joinBehind R_Plugs TT) (o0 cap0 : Nat) (hp0 : isP S o0 cap0) (x1 : Int) (hx1 : rg x1) (x2 : Int) (hx2 : rg x2) (x3 : Int) (hx3 : rg x3) : ∀ (f : Nat) (x4 : Int) (N : nS) (q : Int) (No : nS), m_Plugs_joinBehind_92 o0 cap0 x1 x2 x3 f x4 N = some (q, No) → rg x4 → nV p l e rm_Plugs_joinBehind s m args below meth c 0 0 Q D vwCl ct A ad S 5 No 141 [(0, .ref (ad o0)), (1, .int (iI x1)), (2, .int (iI x2)), (3, .int (iI x3)), (4, .int (iI q))] [] → nV p l e rm_Plugs_joinBehind s m args below meth c 0 0 Q D vwCl ct A ad S 5 N 92 [(0, .ref (ad o0)), (1, .int (iI x1)), (2, .int (iI x2)), (3, .int (iI x3)), (4, .int (iI x4))] [] := by
  intro f
  induction f with
  | zero =>
    intro x4 N q No hm
    rw [m_Plugs_joinBehind_92] at hm
    cases hm
  | succ f ih =>
    intro x4 N q No hm hx4 kx
    rw [m_Plugs_joinBehind_92] at hm
    refine nv_iload hC d_Plugs_joinBehind_92 4 rfl ?_
    refine nv_iconst hC d_Plugs_joinBehind_94 ?_
    refine nv_iadd hC d_Plugs_joinBehind_95 ?_
    refine nv_aload_n hC d_Plugs_joinBehind_96 rfl 0 rfl ?_
    refine nv_getI hC (j := 2) hp0.1 rfl in_Plugs (by decide) k_0 rfl d_Plugs_joinBehind_97 ?_
    obtain ⟨hr15, hm⟩ := ck_s hm
    obtain ⟨hr16, hm⟩ := ck_s hm
    refine nv_icmp_ge hC hr15 hr16 d_Plugs_joinBehind_100 (tgt := 141) (by decide) (fun c17 => ?_) (fun c17 => ?_)
    · have hm := if_t c17 hm
      obtain ⟨rfl, rfl⟩ := ret_s hm
      refine nv_sub (lv' := [(0, .ref (ad o0)), (1, .int (iI x1)), (2, .int (iI x2)), (3, .int (iI x3)), (4, .int (iI x4))]) [0, 1, 2, 3, 4] rfl ?_
      exact kx
    · have hm := if_f c17 hm
      refine nv_aload_n hC d_Plugs_joinBehind_103 rfl 0 rfl ?_
      refine nv_getR hC (j := 0) hp0.1 rfl in_Plugs (by decide) k_1 rfl d_Plugs_joinBehind_104 ?_
      refine nv_iload hC d_Plugs_joinBehind_107 4 rfl ?_
      refine nv_aload_n hC d_Plugs_joinBehind_109 rfl 0 rfl ?_
      refine nv_getR hC (j := 0) hp0.1 rfl in_Plugs (by decide) k_1 rfl d_Plugs_joinBehind_110 ?_
      refine nv_iload hC d_Plugs_joinBehind_113 4 rfl ?_
      refine nv_iconst hC d_Plugs_joinBehind_115 ?_
      refine nv_iadd hC d_Plugs_joinBehind_116 ?_
      obtain ⟨hc18, hm⟩ := ck_s hm
      refine nv_iald hC hp0.2.1 hp0.2.2.2 hc18 d_Plugs_joinBehind_117 ?_
      obtain ⟨hc19, hm⟩ := ck_s hm
      obtain ⟨N20, e21, hm⟩ := nlt_s hm
      refine nv_iast hC hp0.2.1 hp0.2.2.2 hc19 e21 d_Plugs_joinBehind_118 ?_
      refine nv_aload_n hC d_Plugs_joinBehind_119 rfl 0 rfl ?_
      refine nv_getR hC (j := 1) hp0.1 rfl in_Plugs (by decide) k_2 rfl d_Plugs_joinBehind_120 ?_
      refine nv_iload hC d_Plugs_joinBehind_123 4 rfl ?_
      refine nv_aload_n hC d_Plugs_joinBehind_125 rfl 0 rfl ?_
      refine nv_getR hC (j := 1) hp0.1 rfl in_Plugs (by decide) k_2 rfl d_Plugs_joinBehind_126 ?_
      refine nv_iload hC d_Plugs_joinBehind_129 4 rfl ?_
      refine nv_iconst hC d_Plugs_joinBehind_131 ?_
      refine nv_iadd hC d_Plugs_joinBehind_132 ?_
      refine nv_iald hC hp0.2.2.1 hp0.2.2.2 hc18 d_Plugs_joinBehind_133 ?_
      obtain ⟨N22, e23, hm⟩ := nlt_s hm
      refine nv_iast hC hp0.2.2.1 hp0.2.2.2 hc19 e23 d_Plugs_joinBehind_134 ?_
      refine nv_iinc (lv' := [(4, .int (iI (x4 + 1))), (0, .ref (ad o0)), (1, .int (iI x1)), (2, .int (iI x2)), (3, .int (iI x3))]) hC d_Plugs_joinBehind_135 4 rfl (by decide) rfl ?_
      refine nv_goto hC d_Plugs_joinBehind_138 (tgt := 92) (by decide) ?_
      refine nv_sub (lv' := [(0, .ref (ad o0)), (1, .int (iI x1)), (2, .int (iI x2)), (3, .int (iI x3)), (4, .int (iI (x4 + 1)))]) [1, 2, 3, 4, 0] rfl ?_
      exact ih (x4 + 1) N22 q No hm hr15 kx
set_option maxRecDepth 100000 in
set_option maxHeartbeats 4000000 in
theorem c_Plugs_joinBehind (l : Launch) {D : va_G} {ct : Nat → ClassId} {A : Nat → Prop} {ad : Nat → Nat} {S : nH} (hD : nD ad A S.length) (o0 cap0 : Nat) (hp0 : isP S o0 cap0) (x1 : Int) (hx1 : rg x1) (N : nS) (r : Int) (No : nS) (hm : m_Plugs_joinBehind o0 cap0 x1 N = some (r, No)) : nM l y_Plugs_joinBehind (Cond.code y_Plugs_joinBehind b_Plugs_joinBehind 5 (some .int) :: TT) rm_Plugs_joinBehind D vwCl ct A ad S N [.ref (ad o0), .int (iI x1)] (nQi D vwCl ct A ad S r No) := by
  refine nM_of (cc := b_Plugs_joinBehind) (maxL := 5) (ret := (some .int)) (by decide) rfl (Nat.le_of_ble_eq_true rfl) hD ?_
  intro p e s m below meth c hC hr hlk
  refine nv_lv (lv' := [(0, .ref (ad o0)), (1, .int (iI x1))]) rfl ?_
  rw [m_Plugs_joinBehind] at hm
  refine nv_iload_n hC d_Plugs_joinBehind_0 rfl 1 rfl ?_
  refine nv_if_lt hC hx1 d_Plugs_joinBehind_1 (tgt := 14) (by decide) (fun c1 => ?_) (fun c1 => ?_)
  · have hm := if_t c1 hm
    refine nv_iconst hC d_Plugs_joinBehind_14 ?_
    obtain ⟨rfl, rfl⟩ := ret_s hm
    exact nv_iret hC hr hlk d_Plugs_joinBehind_15
  · have hm := if_f c1 hm
    refine nv_iload_n hC d_Plugs_joinBehind_4 rfl 1 rfl ?_
    refine nv_iconst hC d_Plugs_joinBehind_5 ?_
    refine nv_iadd hC d_Plugs_joinBehind_6 ?_
    refine nv_aload_n hC d_Plugs_joinBehind_7 rfl 0 rfl ?_
    refine nv_getI hC (j := 2) hp0.1 rfl in_Plugs (by decide) k_0 rfl d_Plugs_joinBehind_8 ?_
    obtain ⟨hr2, hm⟩ := ck_s hm
    obtain ⟨hr3, hm⟩ := ck_s hm
    refine nv_icmp_lt hC hr2 hr3 d_Plugs_joinBehind_11 (tgt := 16) (by decide) (fun c4 => ?_) (fun c4 => ?_)
    · have hm := if_t c4 hm
      refine nv_aload_n hC d_Plugs_joinBehind_16 rfl 0 rfl ?_
      refine nv_getR hC (j := 0) hp0.1 rfl in_Plugs (by decide) k_1 rfl d_Plugs_joinBehind_17 ?_
      refine nv_iload_n hC d_Plugs_joinBehind_20 rfl 1 rfl ?_
      obtain ⟨hc5, hm⟩ := ck_s hm
      refine nv_iald hC hp0.2.1 hp0.2.2.2 hc5 d_Plugs_joinBehind_21 ?_
      refine nv_aload_n hC d_Plugs_joinBehind_22 rfl 0 rfl ?_
      refine nv_getR hC (j := 0) hp0.1 rfl in_Plugs (by decide) k_1 rfl d_Plugs_joinBehind_23 ?_
      refine nv_iload_n hC d_Plugs_joinBehind_26 rfl 1 rfl ?_
      refine nv_iconst hC d_Plugs_joinBehind_27 ?_
      refine nv_iadd hC d_Plugs_joinBehind_28 ?_
      obtain ⟨hc6, hm⟩ := ck_s hm
      refine nv_iald hC hp0.2.1 hp0.2.2.2 hc6 d_Plugs_joinBehind_29 ?_
      refine nv_iadd hC d_Plugs_joinBehind_30 ?_
      refine nv_istore_n (lv' := [(2, .int (iI ((N (o0 + 1) (Int.toNat x1)) + (N (o0 + 1) (Int.toNat (x1 + 1)))))), (0, .ref (ad o0)), (1, .int (iI x1))]) hC d_Plugs_joinBehind_31 rfl (by decide) rfl ?_
      refine nv_iload_n hC d_Plugs_joinBehind_32 rfl 0 rfl ?_
      refine nv_iconst hC d_Plugs_joinBehind_33 ?_
      obtain ⟨hr7, hm⟩ := ck_s hm
      refine nv_icmp_ge hC hr7 ⟨by decide, by decide⟩ d_Plugs_joinBehind_34 (tgt := 39) (by decide) (fun c8 => ?_) (fun c8 => ?_)
      · have hm := if_t c8 hm
        refine nv_aload_n hC d_Plugs_joinBehind_39 rfl 1 rfl ?_
        refine nv_getR hC (j := 0) hp0.1 rfl in_Plugs (by decide) k_1 rfl d_Plugs_joinBehind_40 ?_
        refine nv_iload_n hC d_Plugs_joinBehind_43 rfl 2 rfl ?_
        refine nv_iald hC hp0.2.1 hp0.2.2.2 hc5 d_Plugs_joinBehind_44 ?_
        refine nv_aload_n hC d_Plugs_joinBehind_45 rfl 1 rfl ?_
        refine nv_getR hC (j := 1) hp0.1 rfl in_Plugs (by decide) k_2 rfl d_Plugs_joinBehind_46 ?_
        refine nv_iload_n hC d_Plugs_joinBehind_49 rfl 2 rfl ?_
        refine nv_iald hC hp0.2.2.1 hp0.2.2.2 hc5 d_Plugs_joinBehind_50 ?_
        refine nv_imul hC d_Plugs_joinBehind_51 ?_
        refine nv_aload_n hC d_Plugs_joinBehind_52 rfl 1 rfl ?_
        refine nv_getR hC (j := 0) hp0.1 rfl in_Plugs (by decide) k_1 rfl d_Plugs_joinBehind_53 ?_
        refine nv_iload_n hC d_Plugs_joinBehind_56 rfl 2 rfl ?_
        refine nv_iconst hC d_Plugs_joinBehind_57 ?_
        refine nv_iadd hC d_Plugs_joinBehind_58 ?_
        refine nv_iald hC hp0.2.1 hp0.2.2.2 hc6 d_Plugs_joinBehind_59 ?_
        refine nv_aload_n hC d_Plugs_joinBehind_60 rfl 1 rfl ?_
        refine nv_getR hC (j := 1) hp0.1 rfl in_Plugs (by decide) k_2 rfl d_Plugs_joinBehind_61 ?_
        refine nv_iload_n hC d_Plugs_joinBehind_64 rfl 2 rfl ?_
        refine nv_iconst hC d_Plugs_joinBehind_65 ?_
        refine nv_iadd hC d_Plugs_joinBehind_66 ?_
        refine nv_iald hC hp0.2.2.1 hp0.2.2.2 hc6 d_Plugs_joinBehind_67 ?_
        refine nv_imul hC d_Plugs_joinBehind_68 ?_
        refine nv_iadd hC d_Plugs_joinBehind_69 ?_
        refine nv_istore_n (lv' := [(3, .int (iI (((N (o0 + 1) (Int.toNat x1)) * (N (o0 + 2) (Int.toNat x1))) + ((N (o0 + 1) (Int.toNat (x1 + 1))) * (N (o0 + 2) (Int.toNat (x1 + 1))))))), (2, .int (iI ((N (o0 + 1) (Int.toNat x1)) + (N (o0 + 1) (Int.toNat (x1 + 1)))))), (0, .ref (ad o0)), (1, .int (iI x1))]) hC d_Plugs_joinBehind_70 rfl (by decide) rfl ?_
        refine nv_aload_n hC d_Plugs_joinBehind_71 rfl 2 rfl ?_
        refine nv_getR hC (j := 0) hp0.1 rfl in_Plugs (by decide) k_1 rfl d_Plugs_joinBehind_72 ?_
        refine nv_iload_n hC d_Plugs_joinBehind_75 rfl 3 rfl ?_
        refine nv_iload_n hC d_Plugs_joinBehind_76 rfl 1 rfl ?_
        obtain ⟨N9, e10, hm⟩ := nlt_s hm
        refine nv_iast hC hp0.2.1 hp0.2.2.2 hc5 e10 d_Plugs_joinBehind_77 ?_
        refine nv_aload_n hC d_Plugs_joinBehind_78 rfl 2 rfl ?_
        refine nv_getR hC (j := 1) hp0.1 rfl in_Plugs (by decide) k_2 rfl d_Plugs_joinBehind_79 ?_
        refine nv_iload_n hC d_Plugs_joinBehind_82 rfl 3 rfl ?_
        refine nv_iload_n hC d_Plugs_joinBehind_83 rfl 0 rfl ?_
        refine nv_iload_n hC d_Plugs_joinBehind_84 rfl 1 rfl ?_
        obtain ⟨hr11, hm⟩ := ck_s hm
        obtain ⟨hc12, hm⟩ := ck_s hm
        refine nv_idiv hC d_Plugs_joinBehind_85 hr11 hr7 hc12 ?_
        obtain ⟨N13, e14, hm⟩ := nlt_s hm
        refine nv_iast hC hp0.2.2.1 hp0.2.2.2 hc5 e14 d_Plugs_joinBehind_86 ?_
        refine nv_iload_n hC d_Plugs_joinBehind_87 rfl 3 rfl ?_
        refine nv_iconst hC d_Plugs_joinBehind_88 ?_
        refine nv_iadd hC d_Plugs_joinBehind_89 ?_
        refine nv_istore (lv' := [(4, .int (iI (x1 + 1))), (3, .int (iI (((N (o0 + 1) (Int.toNat x1)) * (N (o0 + 2) (Int.toNat x1))) + ((N (o0 + 1) (Int.toNat (x1 + 1))) * (N (o0 + 2) (Int.toNat (x1 + 1))))))), (2, .int (iI ((N (o0 + 1) (Int.toNat x1)) + (N (o0 + 1) (Int.toNat (x1 + 1)))))), (0, .ref (ad o0)), (1, .int (iI x1))]) hC d_Plugs_joinBehind_90 (by decide) rfl ?_
        obtain ⟨q24, N25, hq26, hm⟩ := nbd_s hm
        refine nv_sub (lv' := [(0, .ref (ad o0)), (1, .int (iI x1)), (2, .int (iI ((N (o0 + 1) (Int.toNat x1)) + (N (o0 + 1) (Int.toNat (x1 + 1)))))), (3, .int (iI (((N (o0 + 1) (Int.toNat x1)) * (N (o0 + 2) (Int.toNat x1))) + ((N (o0 + 1) (Int.toNat (x1 + 1))) * (N (o0 + 2) (Int.toNat (x1 + 1))))))), (4, .int (iI (x1 + 1)))]) [3, 4, 2, 1, 0] rfl ?_
        refine w_Plugs_joinBehind_92 hC o0 cap0 hp0 x1 hx1 ((N (o0 + 1) (Int.toNat x1)) + (N (o0 + 1) (Int.toNat (x1 + 1)))) hr7 (((N (o0 + 1) (Int.toNat x1)) * (N (o0 + 2) (Int.toNat x1))) + ((N (o0 + 1) (Int.toNat (x1 + 1))) * (N (o0 + 2) (Int.toNat (x1 + 1))))) hr11 FU (x1 + 1) N13 q24 N25 hq26 hr2 ?_
        refine nv_aload_n hC d_Plugs_joinBehind_141 rfl 0 rfl ?_
        refine nv_dup hC d_Plugs_joinBehind_142 rfl ?_
        refine nv_getI hC (j := 2) hp0.1 rfl in_Plugs (by decide) k_0 rfl d_Plugs_joinBehind_143 ?_
        refine nv_iconst hC d_Plugs_joinBehind_146 ?_
        refine nv_isub hC d_Plugs_joinBehind_147 ?_
        obtain ⟨N27, e28, hm⟩ := nlt_s hm
        refine nv_putI hC (j := 2) hp0.1 rfl in_Plugs (by decide) ty_Plugs tyok_Plugs nm_Plugs k_0 rfl rfl (by decide +kernel) e28 d_Plugs_joinBehind_148 ?_
        refine nv_iload_n hC d_Plugs_joinBehind_151 rfl 3 rfl ?_
        refine nv_iload_n hC d_Plugs_joinBehind_152 rfl 2 rfl ?_
        refine nv_irem hC d_Plugs_joinBehind_153 hr11 hr7 hc12 ?_
        obtain ⟨rfl, rfl⟩ := ret_s hm
        exact nv_iret hC hr hlk d_Plugs_joinBehind_154
      · have hm := if_f c8 hm
        refine nv_iconst hC d_Plugs_joinBehind_37 ?_
        obtain ⟨rfl, rfl⟩ := ret_s hm
        exact nv_iret hC hr hlk d_Plugs_joinBehind_38
    · have hm := if_f c4 hm
      refine nv_iconst hC d_Plugs_joinBehind_14 ?_
      obtain ⟨rfl, rfl⟩ := ret_s hm
      exact nv_iret hC hr hlk d_Plugs_joinBehind_15
def m_Plugs_thin_10 (o0 cap0 : Nat) : Nat → Int → Int → nS → Option ((Int × Int) × nS)
  | 0, _, _, _ => none
  | f + 1, x1, x2, N =>
    if x2 ≤ 0 then
    some ((x1, x2), N)
    else
    nbd (m_Plugs_likest o0 cap0 N) (fun r2 N3 =>
    if rg r2 then
    nbd (m_Plugs_joinBehind o0 cap0 r2 N3) (fun r6 N7 =>
    if rg (x1 + r6) then
    if rg (x2 + (-1)) then
    m_Plugs_thin_10 o0 cap0 f (x1 + r6) (x2 + (-1)) N7
    else none
    else none)
    else none)
def m_Plugs_thin (o0 cap0 : Nat) (N : nS) : Option (Int × nS) :=
  if rg ((N o0 2) - 12) then
  nbd (m_Plugs_thin_10 o0 cap0 FU 0 ((N o0 2) - 12) N) (fun q12 N13 =>
  some (q12.1, N13))
  else none
set_option maxRecDepth 20000 in
theorem k_19 : Cond.methodLink R_Plugs 38 y_Plugs_likest ∈ TT := tt_i 417 (by decide +kernel) (by decide +kernel)
set_option maxRecDepth 20000 in
theorem k_20 : Cond.code y_Plugs_likest b_Plugs_likest 5 (some .int) ∈ TT := tt_i 420 (by decide +kernel) (by decide +kernel)
set_option maxRecDepth 20000 in
theorem k_21 : Cond.instanceMethod y_Plugs_likest ∈ TT := tt_i 419 (by decide +kernel) (by decide +kernel)
set_option maxRecDepth 20000 in
theorem k_22 : Cond.selects R_Plugs y_Plugs_likest y_Plugs_likest ∈ TT := tt_i 5 (by decide +kernel) (by decide +kernel)
set_option maxRecDepth 20000 in
theorem k_23 : Cond.methodLink R_Plugs 42 y_Plugs_joinBehind ∈ TT := tt_i 424 (by decide +kernel) (by decide +kernel)
set_option maxRecDepth 20000 in
theorem k_24 : Cond.code y_Plugs_joinBehind b_Plugs_joinBehind 5 (some .int) ∈ TT := tt_i 427 (by decide +kernel) (by decide +kernel)
set_option maxRecDepth 20000 in
theorem k_25 : Cond.instanceMethod y_Plugs_joinBehind ∈ TT := tt_i 426 (by decide +kernel) (by decide +kernel)
set_option maxRecDepth 20000 in
theorem k_26 : Cond.selects R_Plugs y_Plugs_joinBehind y_Plugs_joinBehind ∈ TT := tt_i 6 (by decide +kernel) (by decide +kernel)
abbrev rm_Plugs_thin : Room := { frames := 2, cells := 0, slots := 0, locals := 48 }
set_option maxRecDepth 100000 in
set_option maxHeartbeats 4000000 in
theorem w_Plugs_thin_10 {p : Program} {l : Launch} {e : Env} {s : State} {m : MethodId} {args : Array Value} {below : List Frame} {meth : Method} {c : Code} {Q : State → Prop} {D : va_G} {ct : Nat → ClassId} {A : Nat → Prop} {ad : Nat → Nat} {S : nH} (hC : nC p s m args c D vwCl ct A ad S 3 b_Plugs_thin R_Plugs TT) (o0 cap0 : Nat) (hp0 : isP S o0 cap0) : ∀ (f : Nat) (x1 x2 : Int) (N : nS) (q : Int × Int) (No : nS), m_Plugs_thin_10 o0 cap0 f x1 x2 N = some (q, No) → rg x1 → rg x2 → nV p l e rm_Plugs_thin s m args below meth c 0 0 Q D vwCl ct A ad S 3 No 31 [(0, .ref (ad o0)), (1, .int (iI q.1)), (2, .int (iI q.2))] [] → nV p l e rm_Plugs_thin s m args below meth c 0 0 Q D vwCl ct A ad S 3 N 10 [(0, .ref (ad o0)), (1, .int (iI x1)), (2, .int (iI x2))] [] := by
  intro f
  induction f with
  | zero =>
    intro x1 x2 N q No hm
    rw [m_Plugs_thin_10] at hm
    cases hm
  | succ f ih =>
    intro x1 x2 N q No hm hx1 hx2 kx
    rw [m_Plugs_thin_10] at hm
    refine nv_iload_n hC d_Plugs_thin_10 rfl 2 rfl ?_
    refine nv_if_le hC hx2 d_Plugs_thin_11 (tgt := 31) (by decide) (fun c1 => ?_) (fun c1 => ?_)
    · have hm := if_t c1 hm
      obtain ⟨rfl, rfl⟩ := ret_s hm
      refine nv_sub (lv' := [(0, .ref (ad o0)), (1, .int (iI x1)), (2, .int (iI x2))]) [0, 1, 2] rfl ?_
      exact kx
    · have hm := if_f c1 hm
      refine nv_iload_n hC d_Plugs_thin_14 rfl 1 rfl ?_
      refine nv_aload_n hC d_Plugs_thin_15 rfl 0 rfl ?_
      refine nv_aload_n hC d_Plugs_thin_16 rfl 0 rfl ?_
      obtain ⟨r2, N3, hq4, hm⟩ := nbd_s hm
      refine nv_calli (x := r2) (N' := N3) (nr_V hC (As := []) (st := [.ref (ad o0), .int (iI x1)]) hp0.1 rfl (c_Plugs_likest l hC.2.2.1 o0 cap0 hp0 N r2 N3 hq4) (cwV 0 hC.1.2.2.2.2 (tt_V k_19 k_21 k_22 k_7 k_20) rfl rfl rfl (by decide +kernel) ⟨Nat.le_of_ble_eq_true rfl, Nat.le_of_ble_eq_true rfl⟩) rfl rfl (Nat.le_of_ble_eq_true rfl) ⟨(Nat.le_of_ble_eq_true rfl), (Nat.le_of_ble_eq_true rfl)⟩ d_Plugs_thin_17) ?_
      obtain ⟨hr5, hm⟩ := ck_s hm
      obtain ⟨r6, N7, hq8, hm⟩ := nbd_s hm
      refine nv_calli (x := r6) (N' := N7) (nr_V hC (As := [.int (iI r2)]) (st := [.int (iI x1)]) hp0.1 rfl (c_Plugs_joinBehind l hC.2.2.1 o0 cap0 hp0 r2 hr5 N3 r6 N7 hq8) (cwV 1 hC.1.2.2.2.2 (tt_V k_23 k_25 k_26 k_7 k_24) rfl rfl rfl (by decide +kernel) ⟨Nat.le_of_ble_eq_true rfl, Nat.le_of_ble_eq_true rfl⟩) rfl rfl (Nat.le_of_ble_eq_true rfl) ⟨(Nat.le_of_ble_eq_true rfl), (Nat.le_of_ble_eq_true rfl)⟩ d_Plugs_thin_20) ?_
      refine nv_iadd hC d_Plugs_thin_23 ?_
      refine nv_istore_n (lv' := [(1, .int (iI (x1 + r6))), (0, .ref (ad o0)), (2, .int (iI x2))]) hC d_Plugs_thin_24 rfl (by decide) rfl ?_
      refine nv_iinc (lv' := [(2, .int (iI (x2 + (-1)))), (1, .int (iI (x1 + r6))), (0, .ref (ad o0))]) hC d_Plugs_thin_25 2 rfl (by decide) rfl ?_
      refine nv_goto hC d_Plugs_thin_28 (tgt := 10) (by decide) ?_
      obtain ⟨hr9, hm⟩ := ck_s hm
      obtain ⟨hr10, hm⟩ := ck_s hm
      refine nv_sub (lv' := [(0, .ref (ad o0)), (1, .int (iI (x1 + r6))), (2, .int (iI (x2 + (-1))))]) [2, 1, 0] rfl ?_
      exact ih (x1 + r6) (x2 + (-1)) N7 q No hm hr9 hr10 kx
set_option maxRecDepth 100000 in
set_option maxHeartbeats 4000000 in
theorem c_Plugs_thin (l : Launch) {D : va_G} {ct : Nat → ClassId} {A : Nat → Prop} {ad : Nat → Nat} {S : nH} (hD : nD ad A S.length) (o0 cap0 : Nat) (hp0 : isP S o0 cap0) (N : nS) (r : Int) (No : nS) (hm : m_Plugs_thin o0 cap0 N = some (r, No)) : nM l y_Plugs_thin (Cond.code y_Plugs_thin b_Plugs_thin 3 (some .int) :: TT) rm_Plugs_thin D vwCl ct A ad S N [.ref (ad o0)] (nQi D vwCl ct A ad S r No) := by
  refine nM_of (cc := b_Plugs_thin) (maxL := 3) (ret := (some .int)) (by decide) rfl (Nat.le_of_ble_eq_true rfl) hD ?_
  intro p e s m below meth c hC hr hlk
  refine nv_lv (lv' := [(0, .ref (ad o0))]) rfl ?_
  rw [m_Plugs_thin] at hm
  refine nv_iconst hC d_Plugs_thin_0 ?_
  refine nv_istore_n (lv' := [(1, .int (iI 0)), (0, .ref (ad o0))]) hC d_Plugs_thin_1 rfl (by decide) rfl ?_
  refine nv_aload_n hC d_Plugs_thin_2 rfl 1 rfl ?_
  refine nv_getI hC (j := 2) hp0.1 rfl in_Plugs (by decide) k_0 rfl d_Plugs_thin_3 ?_
  refine nv_bipush hC (z := 12) d_Plugs_thin_6 rfl ?_
  refine nv_isub hC d_Plugs_thin_8 ?_
  refine nv_istore_n (lv' := [(2, .int (iI ((N o0 2) - 12))), (1, .int (iI 0)), (0, .ref (ad o0))]) hC d_Plugs_thin_9 rfl (by decide) rfl ?_
  obtain ⟨hr11, hm⟩ := ck_s hm
  obtain ⟨q12, N13, hq14, hm⟩ := nbd_s hm
  refine nv_sub (lv' := [(0, .ref (ad o0)), (1, .int (iI 0)), (2, .int (iI ((N o0 2) - 12)))]) [2, 1, 0] rfl ?_
  refine w_Plugs_thin_10 hC o0 cap0 hp0 FU 0 ((N o0 2) - 12) N q12 N13 hq14 ⟨by decide, by decide⟩ hr11 ?_
  refine nv_iload_n hC d_Plugs_thin_31 rfl 1 rfl ?_
  obtain ⟨rfl, rfl⟩ := ret_s hm
  exact nv_iret hC hr hlk d_Plugs_thin_32
def m_Plugs_cool_22 (o0 cap0 : Nat) (x1 : Int) (x2 : Int) (x3 : Int) (x6 : Int) : Nat → Int → Int → nS → Option ((Int × Int) × nS)
  | 0, _, _, _ => none
  | f + 1, x4, x7, N =>
    if x6 ≤ x7 then
    some ((x4, x7), N)
    else
    if 0 ≤ x7 ∧ x7 < ((cap0 : Nat) : Int) then
    if rg ((N (o0 + 2) (Int.toNat x7)) - x1) then
    if ¬ x3 = 0 then
    if rg (N (o0 + 1) (Int.toNat x7)) then
    if rg (Int.tdiv ((N (o0 + 2) (Int.toNat x7)) - x1) x3) then
    if rg ((N (o0 + 2) (Int.toNat x7)) - (Int.tdiv ((N (o0 + 2) (Int.toNat x7)) - x1) x3)) then
    nbd (m_Plugs_add o0 cap0 (N (o0 + 1) (Int.toNat x7)) ((N (o0 + 2) (Int.toNat x7)) - (Int.tdiv ((N (o0 + 2) (Int.toNat x7)) - x1) x3)) N) (fun r11 N12 =>
    if rg (x7 + 1) then
    m_Plugs_cool_22 o0 cap0 x1 x2 x3 x6 f (x4 + ((N (o0 + 1) (Int.toNat x7)) * (Int.tdiv ((N (o0 + 2) (Int.toNat x7)) - x1) x3))) (x7 + 1) N12
    else none)
    else none
    else none
    else none
    else none
    else none
    else none
def m_Plugs_cool (o0 cap0 : Nat) (x1 : Int) (x2 : Int) (N : nS) : Option (Int × nS) :=
  nbd (m_Plugs_clear o0 cap0 N) (fun r1 N2 =>
  if rg (N o0 2) then
  nbd (m_Plugs_cool_22 o0 cap0 x1 x2 (if 1 < x2 then x2 else 1) (N o0 2) FU 0 0 N2) (fun q16 N17 =>
  some (q16.1, N17))
  else none)
set_option maxRecDepth 20000 in
theorem k_27 : Cond.methodLink R_Plugs 9 Lib.Math.max.name ∈ TT := tt_i 91 (by decide +kernel) (by decide +kernel)
set_option maxRecDepth 20000 in
theorem k_28 : Cond.static Lib.Math.max.name ∈ TT := tt_i 92 (by decide +kernel) (by decide +kernel)
set_option maxRecDepth 20000 in
theorem k_29 : Cond.code Lib.Math.max.name Lib.Math.max.code 2 (some .int) ∈ TT := tt_i 93 (by decide +kernel) (by decide +kernel)
abbrev rm_Plugs_cool : Room := { frames := 1, cells := 0, slots := 0, locals := 24 }
set_option maxRecDepth 100000 in
set_option maxHeartbeats 4000000 in
theorem w_Plugs_cool_22 {p : Program} {l : Launch} {e : Env} {s : State} {m : MethodId} {args : Array Value} {below : List Frame} {meth : Method} {c : Code} {Q : State → Prop} {D : va_G} {ct : Nat → ClassId} {A : Nat → Prop} {ad : Nat → Nat} {S : nH} (hC : nC p s m args c D vwCl ct A ad S 9 b_Plugs_cool R_Plugs TT) (o0 cap0 : Nat) (hp0 : isP S o0 cap0) (x1 : Int) (hx1 : rg x1) (x2 : Int) (hx2 : rg x2) (x3 : Int) (hx3 : rg x3) (x6 : Int) (hx6 : rg x6) : ∀ (f : Nat) (x4 x7 : Int) (N : nS) (q : Int × Int) (No : nS), m_Plugs_cool_22 o0 cap0 x1 x2 x3 x6 f x4 x7 N = some (q, No) → rg x7 → nV p l e rm_Plugs_cool s m args below meth c 0 0 Q D vwCl ct A ad S 9 No 86 [(0, .ref (ad o0)), (1, .int (iI x1)), (2, .int (iI x2)), (3, .int (iI x3)), (4, .long (lI q.1)), (6, .int (iI x6)), (7, .int (iI q.2))] [] → nV p l e rm_Plugs_cool s m args below meth c 0 0 Q D vwCl ct A ad S 9 N 22 [(0, .ref (ad o0)), (1, .int (iI x1)), (2, .int (iI x2)), (3, .int (iI x3)), (4, .long (lI x4)), (6, .int (iI x6)), (7, .int (iI x7))] [] := by
  intro f
  induction f with
  | zero =>
    intro x4 x7 N q No hm
    rw [m_Plugs_cool_22] at hm
    cases hm
  | succ f ih =>
    intro x4 x7 N q No hm hx7 kx
    rw [m_Plugs_cool_22] at hm
    refine nv_iload hC d_Plugs_cool_22 6 rfl ?_
    refine nv_iload hC d_Plugs_cool_24 5 rfl ?_
    refine nv_icmp_ge hC hx7 hx6 d_Plugs_cool_26 (tgt := 86) (by decide) (fun c4 => ?_) (fun c4 => ?_)
    · have hm := if_t c4 hm
      obtain ⟨rfl, rfl⟩ := ret_s hm
      refine nv_sub (lv' := [(0, .ref (ad o0)), (1, .int (iI x1)), (2, .int (iI x2)), (3, .int (iI x3)), (4, .long (lI x4)), (6, .int (iI x6)), (7, .int (iI x7))]) [0, 1, 2, 3, 4, 5, 6] rfl ?_
      exact kx
    · have hm := if_f c4 hm
      refine nv_aload_n hC d_Plugs_cool_29 rfl 0 rfl ?_
      refine nv_getR hC (j := 1) hp0.1 rfl in_Plugs (by decide) k_2 rfl d_Plugs_cool_30 ?_
      refine nv_iload hC d_Plugs_cool_33 6 rfl ?_
      obtain ⟨hc5, hm⟩ := ck_s hm
      refine nv_iald hC hp0.2.2.1 hp0.2.2.2 hc5 d_Plugs_cool_35 ?_
      refine nv_iload_n hC d_Plugs_cool_36 rfl 1 rfl ?_
      refine nv_isub hC d_Plugs_cool_37 ?_
      refine nv_iload_n hC d_Plugs_cool_38 rfl 3 rfl ?_
      obtain ⟨hr6, hm⟩ := ck_s hm
      obtain ⟨hc7, hm⟩ := ck_s hm
      refine nv_idiv hC d_Plugs_cool_39 hr6 hx3 hc7 ?_
      refine nv_istore (lv' := [(8, .int (iI (Int.tdiv ((N (o0 + 2) (Int.toNat x7)) - x1) x3))), (0, .ref (ad o0)), (1, .int (iI x1)), (2, .int (iI x2)), (3, .int (iI x3)), (4, .long (lI x4)), (6, .int (iI x6)), (7, .int (iI x7))]) hC d_Plugs_cool_40 (by decide) rfl ?_
      refine nv_lload hC d_Plugs_cool_42 5 rfl ?_
      refine nv_aload_n hC d_Plugs_cool_44 rfl 1 rfl ?_
      refine nv_getR hC (j := 0) hp0.1 rfl in_Plugs (by decide) k_1 rfl d_Plugs_cool_45 ?_
      refine nv_iload hC d_Plugs_cool_48 7 rfl ?_
      refine nv_iald hC hp0.2.1 hp0.2.2.2 hc5 d_Plugs_cool_50 ?_
      obtain ⟨hr8, hm⟩ := ck_s hm
      refine nv_i2l hC d_Plugs_cool_51 hr8 ?_
      refine nv_iload hC d_Plugs_cool_52 0 rfl ?_
      obtain ⟨hr9, hm⟩ := ck_s hm
      refine nv_i2l hC d_Plugs_cool_54 hr9 ?_
      refine nv_lmul hC d_Plugs_cool_55 ?_
      refine nv_ladd hC d_Plugs_cool_56 ?_
      refine nv_lstore (lv' := [(4, .long (lI (x4 + ((N (o0 + 1) (Int.toNat x7)) * (Int.tdiv ((N (o0 + 2) (Int.toNat x7)) - x1) x3))))), (8, .int (iI (Int.tdiv ((N (o0 + 2) (Int.toNat x7)) - x1) x3))), (0, .ref (ad o0)), (1, .int (iI x1)), (2, .int (iI x2)), (3, .int (iI x3)), (6, .int (iI x6)), (7, .int (iI x7))]) hC d_Plugs_cool_57 (by decide) rfl ?_
      refine nv_aload_n hC d_Plugs_cool_59 rfl 2 rfl ?_
      refine nv_aload_n hC d_Plugs_cool_60 rfl 2 rfl ?_
      refine nv_getR hC (j := 0) hp0.1 rfl in_Plugs (by decide) k_1 rfl d_Plugs_cool_61 ?_
      refine nv_iload hC d_Plugs_cool_64 7 rfl ?_
      refine nv_iald hC hp0.2.1 hp0.2.2.2 hc5 d_Plugs_cool_66 ?_
      refine nv_aload_n hC d_Plugs_cool_67 rfl 2 rfl ?_
      refine nv_getR hC (j := 1) hp0.1 rfl in_Plugs (by decide) k_2 rfl d_Plugs_cool_68 ?_
      refine nv_iload hC d_Plugs_cool_71 7 rfl ?_
      refine nv_iald hC hp0.2.2.1 hp0.2.2.2 hc5 d_Plugs_cool_73 ?_
      refine nv_iload hC d_Plugs_cool_74 1 rfl ?_
      refine nv_isub hC d_Plugs_cool_76 ?_
      obtain ⟨hr10, hm⟩ := ck_s hm
      obtain ⟨r11, N12, hq13, hm⟩ := nbd_s hm
      refine nv_callv (N' := N12) (nr_V hC (As := [.int (iI (N (o0 + 1) (Int.toNat x7))), .int (iI ((N (o0 + 2) (Int.toNat x7)) - (Int.tdiv ((N (o0 + 2) (Int.toNat x7)) - x1) x3)))]) (st := []) hp0.1 rfl (c_Plugs_add l hC.2.2.1 o0 cap0 hp0 (N (o0 + 1) (Int.toNat x7)) hr8 ((N (o0 + 2) (Int.toNat x7)) - (Int.tdiv ((N (o0 + 2) (Int.toNat x7)) - x1) x3)) hr10 N r11 N12 hq13) (cwV 2 hC.1.2.2.2.2 (tt_V k_3 k_5 k_6 k_7 k_4) rfl rfl rfl (by decide +kernel) ⟨Nat.le_of_ble_eq_true rfl, Nat.le_of_ble_eq_true rfl⟩) rfl rfl (Nat.le_of_ble_eq_true rfl) ⟨(Nat.le_of_ble_eq_true rfl), (Nat.le_of_ble_eq_true rfl)⟩ d_Plugs_cool_77) ?_
      refine nv_iinc (lv' := [(7, .int (iI (x7 + 1))), (4, .long (lI (x4 + ((N (o0 + 1) (Int.toNat x7)) * (Int.tdiv ((N (o0 + 2) (Int.toNat x7)) - x1) x3))))), (8, .int (iI (Int.tdiv ((N (o0 + 2) (Int.toNat x7)) - x1) x3))), (0, .ref (ad o0)), (1, .int (iI x1)), (2, .int (iI x2)), (3, .int (iI x3)), (6, .int (iI x6))]) hC d_Plugs_cool_80 7 rfl (by decide) rfl ?_
      refine nv_goto hC d_Plugs_cool_83 (tgt := 22) (by decide) ?_
      obtain ⟨hr14, hm⟩ := ck_s hm
      refine nv_sub (lv' := [(0, .ref (ad o0)), (1, .int (iI x1)), (2, .int (iI x2)), (3, .int (iI x3)), (4, .long (lI (x4 + ((N (o0 + 1) (Int.toNat x7)) * (Int.tdiv ((N (o0 + 2) (Int.toNat x7)) - x1) x3))))), (6, .int (iI x6)), (7, .int (iI (x7 + 1)))]) [3, 4, 5, 6, 1, 7, 0] rfl ?_
      exact ih (x4 + ((N (o0 + 1) (Int.toNat x7)) * (Int.tdiv ((N (o0 + 2) (Int.toNat x7)) - x1) x3))) (x7 + 1) N12 q No hm hr14 kx
set_option maxRecDepth 100000 in
set_option maxHeartbeats 4000000 in
theorem c_Plugs_cool (l : Launch) {D : va_G} {ct : Nat → ClassId} {A : Nat → Prop} {ad : Nat → Nat} {S : nH} (hD : nD ad A S.length) (o0 cap0 : Nat) (hp0 : isP S o0 cap0) (x1 : Int) (hx1 : rg x1) (x2 : Int) (hx2 : rg x2) (N : nS) (r : Int) (No : nS) (hm : m_Plugs_cool o0 cap0 x1 x2 N = some (r, No)) : nM l y_Plugs_cool (Cond.code y_Plugs_cool b_Plugs_cool 9 (some .long) :: TT) rm_Plugs_cool D vwCl ct A ad S N [.ref (ad o0), .int (iI x1), .int (iI x2)] (nQl D vwCl ct A ad S r No) := by
  refine nM_of (cc := b_Plugs_cool) (maxL := 9) (ret := (some .long)) (by decide) rfl (Nat.le_of_ble_eq_true rfl) hD ?_
  intro p e s m below meth c hC hr hlk
  refine nv_lv (lv' := [(0, .ref (ad o0)), (1, .int (iI x1)), (2, .int (iI x2))]) rfl ?_
  rw [m_Plugs_cool] at hm
  refine nv_iconst hC d_Plugs_cool_0 ?_
  refine nv_iload_n hC d_Plugs_cool_1 rfl 2 rfl ?_
  refine nv_mmax hC k_27 k_28 k_14 k_29 (Nat.le_of_ble_eq_true rfl) (Nat.le_of_ble_eq_true rfl) (Nat.zero_le _) (Nat.zero_le _) ⟨by decide, by decide⟩ hx2 d_Plugs_cool_2 ?_
  refine nv_istore_n (lv' := [(3, .int (iI (if 1 < x2 then x2 else 1))), (0, .ref (ad o0)), (1, .int (iI x1)), (2, .int (iI x2))]) hC d_Plugs_cool_5 rfl (by decide) rfl ?_
  refine nv_lconst hC (z := 0) d_Plugs_cool_6 rfl ?_
  refine nv_lstore (lv' := [(4, .long (lI 0)), (3, .int (iI (if 1 < x2 then x2 else 1))), (0, .ref (ad o0)), (1, .int (iI x1)), (2, .int (iI x2))]) hC d_Plugs_cool_7 (by decide) rfl ?_
  refine nv_aload_n hC d_Plugs_cool_9 rfl 2 rfl ?_
  refine nv_getI hC (j := 2) hp0.1 rfl in_Plugs (by decide) k_0 rfl d_Plugs_cool_10 ?_
  refine nv_istore (lv' := [(6, .int (iI (N o0 2))), (4, .long (lI 0)), (3, .int (iI (if 1 < x2 then x2 else 1))), (0, .ref (ad o0)), (1, .int (iI x1)), (2, .int (iI x2))]) hC d_Plugs_cool_13 (by decide) rfl ?_
  refine nv_aload_n hC d_Plugs_cool_15 rfl 3 rfl ?_
  obtain ⟨r1, N2, hq3, hm⟩ := nbd_s hm
  refine nv_callv (N' := N2) (nr_V hC (As := []) (st := []) hp0.1 rfl (c_Plugs_clear l hC.2.2.1 o0 cap0 hp0 N r1 N2 hq3) (cwV 0 hC.1.2.2.2.2 (tt_V k_8 k_10 k_11 k_7 k_9) rfl rfl rfl (by decide +kernel) ⟨Nat.le_of_ble_eq_true rfl, Nat.le_of_ble_eq_true rfl⟩) rfl rfl (Nat.le_of_ble_eq_true rfl) ⟨(Nat.le_of_ble_eq_true rfl), (Nat.le_of_ble_eq_true rfl)⟩ d_Plugs_cool_16) ?_
  refine nv_iconst hC d_Plugs_cool_19 ?_
  refine nv_istore (lv' := [(7, .int (iI 0)), (6, .int (iI (N o0 2))), (4, .long (lI 0)), (3, .int (iI (if 1 < x2 then x2 else 1))), (0, .ref (ad o0)), (1, .int (iI x1)), (2, .int (iI x2))]) hC d_Plugs_cool_20 (by decide) rfl ?_
  obtain ⟨hr15, hm⟩ := ck_s hm
  obtain ⟨q16, N17, hq18, hm⟩ := nbd_s hm
  refine nv_sub (lv' := [(0, .ref (ad o0)), (1, .int (iI x1)), (2, .int (iI x2)), (3, .int (iI (if 1 < x2 then x2 else 1))), (4, .long (lI 0)), (6, .int (iI (N o0 2))), (7, .int (iI 0))]) [4, 5, 6, 3, 2, 1, 0] rfl ?_
  refine w_Plugs_cool_22 hC o0 cap0 hp0 x1 hx1 x2 hx2 (if 1 < x2 then x2 else 1) (rg_max ⟨by decide, by decide⟩ hx2) (N o0 2) hr15 FU 0 0 N2 q16 N17 hq18 ⟨by decide, by decide⟩ ?_
  refine nv_lload hC d_Plugs_cool_86 4 rfl ?_
  obtain ⟨rfl, rfl⟩ := ret_s hm
  exact nv_lret hC hr hlk d_Plugs_cool_88
def m_Plugs_volumeTimesWarmth_4 (o0 cap0 : Nat) : Nat → Int → Int → nS → Option ((Int × Int) × nS)
  | 0, _, _, _ => none
  | f + 1, x1, x3, N =>
    if rg (N o0 2) then
    if (N o0 2) ≤ x3 then
    some ((x1, x3), N)
    else
    if 0 ≤ x3 ∧ x3 < ((cap0 : Nat) : Int) then
    if rg (N (o0 + 1) (Int.toNat x3)) then
    if rg (N (o0 + 2) (Int.toNat x3)) then
    if rg (x3 + 1) then
    m_Plugs_volumeTimesWarmth_4 o0 cap0 f (x1 + ((N (o0 + 1) (Int.toNat x3)) * (N (o0 + 2) (Int.toNat x3)))) (x3 + 1) N
    else none
    else none
    else none
    else none
    else none
def m_Plugs_volumeTimesWarmth (o0 cap0 : Nat) (N : nS) : Option (Int × nS) :=
  nbd (m_Plugs_volumeTimesWarmth_4 o0 cap0 FU 0 0 N) (fun q7 N8 =>
  some (q7.1, N8))
abbrev rm_Plugs_volumeTimesWarmth : Room := { frames := 0, cells := 0, slots := 0, locals := 0 }
set_option maxRecDepth 100000 in
set_option maxHeartbeats 4000000 in
theorem w_Plugs_volumeTimesWarmth_4 {p : Program} {l : Launch} {e : Env} {s : State} {m : MethodId} {args : Array Value} {below : List Frame} {meth : Method} {c : Code} {Q : State → Prop} {D : va_G} {ct : Nat → ClassId} {A : Nat → Prop} {ad : Nat → Nat} {S : nH} (hC : nC p s m args c D vwCl ct A ad S 4 b_Plugs_volumeTimesWarmth R_Plugs TT) (o0 cap0 : Nat) (hp0 : isP S o0 cap0) : ∀ (f : Nat) (x1 x3 : Int) (N : nS) (q : Int × Int) (No : nS), m_Plugs_volumeTimesWarmth_4 o0 cap0 f x1 x3 N = some (q, No) → rg x3 → nV p l e rm_Plugs_volumeTimesWarmth s m args below meth c 0 0 Q D vwCl ct A ad S 4 No 36 [(0, .ref (ad o0)), (1, .long (lI q.1)), (3, .int (iI q.2))] [] → nV p l e rm_Plugs_volumeTimesWarmth s m args below meth c 0 0 Q D vwCl ct A ad S 4 N 4 [(0, .ref (ad o0)), (1, .long (lI x1)), (3, .int (iI x3))] [] := by
  intro f
  induction f with
  | zero =>
    intro x1 x3 N q No hm
    rw [m_Plugs_volumeTimesWarmth_4] at hm
    cases hm
  | succ f ih =>
    intro x1 x3 N q No hm hx3 kx
    rw [m_Plugs_volumeTimesWarmth_4] at hm
    refine nv_iload_n hC d_Plugs_volumeTimesWarmth_4 rfl 2 rfl ?_
    refine nv_aload_n hC d_Plugs_volumeTimesWarmth_5 rfl 0 rfl ?_
    refine nv_getI hC (j := 2) hp0.1 rfl in_Plugs (by decide) k_0 rfl d_Plugs_volumeTimesWarmth_6 ?_
    obtain ⟨hr1, hm⟩ := ck_s hm
    refine nv_icmp_ge hC hx3 hr1 d_Plugs_volumeTimesWarmth_9 (tgt := 36) (by decide) (fun c2 => ?_) (fun c2 => ?_)
    · have hm := if_t c2 hm
      obtain ⟨rfl, rfl⟩ := ret_s hm
      refine nv_sub (lv' := [(0, .ref (ad o0)), (1, .long (lI x1)), (3, .int (iI x3))]) [0, 1, 2] rfl ?_
      exact kx
    · have hm := if_f c2 hm
      refine nv_lload_n hC d_Plugs_volumeTimesWarmth_12 rfl 1 rfl ?_
      refine nv_aload_n hC d_Plugs_volumeTimesWarmth_13 rfl 0 rfl ?_
      refine nv_getR hC (j := 0) hp0.1 rfl in_Plugs (by decide) k_1 rfl d_Plugs_volumeTimesWarmth_14 ?_
      refine nv_iload_n hC d_Plugs_volumeTimesWarmth_17 rfl 2 rfl ?_
      obtain ⟨hc3, hm⟩ := ck_s hm
      refine nv_iald hC hp0.2.1 hp0.2.2.2 hc3 d_Plugs_volumeTimesWarmth_18 ?_
      obtain ⟨hr4, hm⟩ := ck_s hm
      refine nv_i2l hC d_Plugs_volumeTimesWarmth_19 hr4 ?_
      refine nv_aload_n hC d_Plugs_volumeTimesWarmth_20 rfl 0 rfl ?_
      refine nv_getR hC (j := 1) hp0.1 rfl in_Plugs (by decide) k_2 rfl d_Plugs_volumeTimesWarmth_21 ?_
      refine nv_iload_n hC d_Plugs_volumeTimesWarmth_24 rfl 2 rfl ?_
      refine nv_iald hC hp0.2.2.1 hp0.2.2.2 hc3 d_Plugs_volumeTimesWarmth_25 ?_
      obtain ⟨hr5, hm⟩ := ck_s hm
      refine nv_i2l hC d_Plugs_volumeTimesWarmth_26 hr5 ?_
      refine nv_lmul hC d_Plugs_volumeTimesWarmth_27 ?_
      refine nv_ladd hC d_Plugs_volumeTimesWarmth_28 ?_
      refine nv_lstore_n (lv' := [(1, .long (lI (x1 + ((N (o0 + 1) (Int.toNat x3)) * (N (o0 + 2) (Int.toNat x3)))))), (0, .ref (ad o0)), (3, .int (iI x3))]) hC d_Plugs_volumeTimesWarmth_29 rfl (by decide) rfl ?_
      refine nv_iinc (lv' := [(3, .int (iI (x3 + 1))), (1, .long (lI (x1 + ((N (o0 + 1) (Int.toNat x3)) * (N (o0 + 2) (Int.toNat x3)))))), (0, .ref (ad o0))]) hC d_Plugs_volumeTimesWarmth_30 2 rfl (by decide) rfl ?_
      refine nv_goto hC d_Plugs_volumeTimesWarmth_33 (tgt := 4) (by decide) ?_
      obtain ⟨hr6, hm⟩ := ck_s hm
      refine nv_sub (lv' := [(0, .ref (ad o0)), (1, .long (lI (x1 + ((N (o0 + 1) (Int.toNat x3)) * (N (o0 + 2) (Int.toNat x3)))))), (3, .int (iI (x3 + 1)))]) [2, 1, 0] rfl ?_
      exact ih (x1 + ((N (o0 + 1) (Int.toNat x3)) * (N (o0 + 2) (Int.toNat x3)))) (x3 + 1) N q No hm hr6 kx
set_option maxRecDepth 100000 in
set_option maxHeartbeats 4000000 in
theorem c_Plugs_volumeTimesWarmth (l : Launch) {D : va_G} {ct : Nat → ClassId} {A : Nat → Prop} {ad : Nat → Nat} {S : nH} (hD : nD ad A S.length) (o0 cap0 : Nat) (hp0 : isP S o0 cap0) (N : nS) (r : Int) (No : nS) (hm : m_Plugs_volumeTimesWarmth o0 cap0 N = some (r, No)) : nM l y_Plugs_volumeTimesWarmth (Cond.code y_Plugs_volumeTimesWarmth b_Plugs_volumeTimesWarmth 4 (some .long) :: TT) rm_Plugs_volumeTimesWarmth D vwCl ct A ad S N [.ref (ad o0)] (nQl D vwCl ct A ad S r No) := by
  refine nM_of (cc := b_Plugs_volumeTimesWarmth) (maxL := 4) (ret := (some .long)) (by decide) rfl (Nat.le_of_ble_eq_true rfl) hD ?_
  intro p e s m below meth c hC hr hlk
  refine nv_lv (lv' := [(0, .ref (ad o0))]) rfl ?_
  rw [m_Plugs_volumeTimesWarmth] at hm
  refine nv_lconst hC (z := 0) d_Plugs_volumeTimesWarmth_0 rfl ?_
  refine nv_lstore_n (lv' := [(1, .long (lI 0)), (0, .ref (ad o0))]) hC d_Plugs_volumeTimesWarmth_1 rfl (by decide) rfl ?_
  refine nv_iconst hC d_Plugs_volumeTimesWarmth_2 ?_
  refine nv_istore_n (lv' := [(3, .int (iI 0)), (1, .long (lI 0)), (0, .ref (ad o0))]) hC d_Plugs_volumeTimesWarmth_3 rfl (by decide) rfl ?_
  obtain ⟨q7, N8, hq9, hm⟩ := nbd_s hm
  refine nv_sub (lv' := [(0, .ref (ad o0)), (1, .long (lI 0)), (3, .int (iI 0))]) [2, 1, 0] rfl ?_
  refine w_Plugs_volumeTimesWarmth_4 hC o0 cap0 hp0 FU 0 0 N q7 N8 hq9 ⟨by decide, by decide⟩ ?_
  refine nv_lload_n hC d_Plugs_volumeTimesWarmth_36 rfl 1 rfl ?_
  obtain ⟨rfl, rfl⟩ := ret_s hm
  exact nv_lret hC hr hlk d_Plugs_volumeTimesWarmth_37
def m_Plugs_least_6 (o0 cap0 : Nat) : Nat → Int → Int → nS → Option ((Int × Int) × nS)
  | 0, _, _, _ => none
  | f + 1, x1, x2, N =>
    if rg (N o0 2) then
    if (N o0 2) ≤ x2 then
    some ((x1, x2), N)
    else
    if 0 ≤ x2 ∧ x2 < ((cap0 : Nat) : Int) then
    if rg (N (o0 + 2) (Int.toNat x2)) then
    if rg (x2 + 1) then
    m_Plugs_least_6 o0 cap0 f (if (N (o0 + 2) (Int.toNat x2)) < x1 then (N (o0 + 2) (Int.toNat x2)) else x1) (x2 + 1) N
    else none
    else none
    else none
    else none
def m_Plugs_least (o0 cap0 : Nat) (N : nS) : Option (Int × nS) :=
  nbd (m_Plugs_least_6 o0 cap0 FU 10000 0 N) (fun q6 N7 =>
  some (q6.1, N7))
abbrev rm_Plugs_least : Room := { frames := 1, cells := 0, slots := 0, locals := 24 }
set_option maxRecDepth 100000 in
set_option maxHeartbeats 4000000 in
theorem w_Plugs_least_6 {p : Program} {l : Launch} {e : Env} {s : State} {m : MethodId} {args : Array Value} {below : List Frame} {meth : Method} {c : Code} {Q : State → Prop} {D : va_G} {ct : Nat → ClassId} {A : Nat → Prop} {ad : Nat → Nat} {S : nH} (hC : nC p s m args c D vwCl ct A ad S 3 b_Plugs_least R_Plugs TT) (o0 cap0 : Nat) (hp0 : isP S o0 cap0) : ∀ (f : Nat) (x1 x2 : Int) (N : nS) (q : Int × Int) (No : nS), m_Plugs_least_6 o0 cap0 f x1 x2 N = some (q, No) → rg x1 → rg x2 → nV p l e rm_Plugs_least s m args below meth c 0 0 Q D vwCl ct A ad S 3 No 31 [(0, .ref (ad o0)), (1, .int (iI q.1)), (2, .int (iI q.2))] [] → nV p l e rm_Plugs_least s m args below meth c 0 0 Q D vwCl ct A ad S 3 N 6 [(0, .ref (ad o0)), (1, .int (iI x1)), (2, .int (iI x2))] [] := by
  intro f
  induction f with
  | zero =>
    intro x1 x2 N q No hm
    rw [m_Plugs_least_6] at hm
    cases hm
  | succ f ih =>
    intro x1 x2 N q No hm hx1 hx2 kx
    rw [m_Plugs_least_6] at hm
    refine nv_iload_n hC d_Plugs_least_6 rfl 2 rfl ?_
    refine nv_aload_n hC d_Plugs_least_7 rfl 0 rfl ?_
    refine nv_getI hC (j := 2) hp0.1 rfl in_Plugs (by decide) k_0 rfl d_Plugs_least_8 ?_
    obtain ⟨hr1, hm⟩ := ck_s hm
    refine nv_icmp_ge hC hx2 hr1 d_Plugs_least_11 (tgt := 31) (by decide) (fun c2 => ?_) (fun c2 => ?_)
    · have hm := if_t c2 hm
      obtain ⟨rfl, rfl⟩ := ret_s hm
      refine nv_sub (lv' := [(0, .ref (ad o0)), (1, .int (iI x1)), (2, .int (iI x2))]) [0, 1, 2] rfl ?_
      exact kx
    · have hm := if_f c2 hm
      refine nv_iload_n hC d_Plugs_least_14 rfl 1 rfl ?_
      refine nv_aload_n hC d_Plugs_least_15 rfl 0 rfl ?_
      refine nv_getR hC (j := 1) hp0.1 rfl in_Plugs (by decide) k_2 rfl d_Plugs_least_16 ?_
      refine nv_iload_n hC d_Plugs_least_19 rfl 2 rfl ?_
      obtain ⟨hc3, hm⟩ := ck_s hm
      refine nv_iald hC hp0.2.2.1 hp0.2.2.2 hc3 d_Plugs_least_20 ?_
      obtain ⟨hr4, hm⟩ := ck_s hm
      refine nv_mmin hC k_12 k_13 k_14 k_15 (Nat.le_of_ble_eq_true rfl) (Nat.le_of_ble_eq_true rfl) (Nat.zero_le _) (Nat.zero_le _) hx1 hr4 d_Plugs_least_21 ?_
      refine nv_istore_n (lv' := [(1, .int (iI (if (N (o0 + 2) (Int.toNat x2)) < x1 then (N (o0 + 2) (Int.toNat x2)) else x1))), (0, .ref (ad o0)), (2, .int (iI x2))]) hC d_Plugs_least_24 rfl (by decide) rfl ?_
      refine nv_iinc (lv' := [(2, .int (iI (x2 + 1))), (1, .int (iI (if (N (o0 + 2) (Int.toNat x2)) < x1 then (N (o0 + 2) (Int.toNat x2)) else x1))), (0, .ref (ad o0))]) hC d_Plugs_least_25 2 rfl (by decide) rfl ?_
      refine nv_goto hC d_Plugs_least_28 (tgt := 6) (by decide) ?_
      obtain ⟨hr5, hm⟩ := ck_s hm
      refine nv_sub (lv' := [(0, .ref (ad o0)), (1, .int (iI (if (N (o0 + 2) (Int.toNat x2)) < x1 then (N (o0 + 2) (Int.toNat x2)) else x1))), (2, .int (iI (x2 + 1)))]) [2, 1, 0] rfl ?_
      exact ih (if (N (o0 + 2) (Int.toNat x2)) < x1 then (N (o0 + 2) (Int.toNat x2)) else x1) (x2 + 1) N q No hm (rg_min hx1 hr4) hr5 kx
set_option maxRecDepth 100000 in
set_option maxHeartbeats 4000000 in
theorem c_Plugs_least (l : Launch) {D : va_G} {ct : Nat → ClassId} {A : Nat → Prop} {ad : Nat → Nat} {S : nH} (hD : nD ad A S.length) (o0 cap0 : Nat) (hp0 : isP S o0 cap0) (N : nS) (r : Int) (No : nS) (hm : m_Plugs_least o0 cap0 N = some (r, No)) : nM l y_Plugs_least (Cond.code y_Plugs_least b_Plugs_least 3 (some .int) :: TT) rm_Plugs_least D vwCl ct A ad S N [.ref (ad o0)] (nQi D vwCl ct A ad S r No) := by
  refine nM_of (cc := b_Plugs_least) (maxL := 3) (ret := (some .int)) (by decide) rfl (Nat.le_of_ble_eq_true rfl) hD ?_
  intro p e s m below meth c hC hr hlk
  refine nv_lv (lv' := [(0, .ref (ad o0))]) rfl ?_
  rw [m_Plugs_least] at hm
  refine nv_sipush hC (z := 10000) d_Plugs_least_0 rfl ?_
  refine nv_istore_n (lv' := [(1, .int (iI 10000)), (0, .ref (ad o0))]) hC d_Plugs_least_3 rfl (by decide) rfl ?_
  refine nv_iconst hC d_Plugs_least_4 ?_
  refine nv_istore_n (lv' := [(2, .int (iI 0)), (1, .int (iI 10000)), (0, .ref (ad o0))]) hC d_Plugs_least_5 rfl (by decide) rfl ?_
  obtain ⟨q6, N7, hq8, hm⟩ := nbd_s hm
  refine nv_sub (lv' := [(0, .ref (ad o0)), (1, .int (iI 10000)), (2, .int (iI 0))]) [2, 1, 0] rfl ?_
  refine w_Plugs_least_6 hC o0 cap0 hp0 FU 10000 0 N q6 N7 hq8 ⟨by decide, by decide⟩ ⟨by decide, by decide⟩ ?_
  refine nv_iload_n hC d_Plugs_least_31 rfl 1 rfl ?_
  obtain ⟨rfl, rfl⟩ := ret_s hm
  exact nv_iret hC hr hlk d_Plugs_least_32
def m_Plugs_greatest_4 (o0 cap0 : Nat) : Nat → Int → Int → nS → Option ((Int × Int) × nS)
  | 0, _, _, _ => none
  | f + 1, x1, x2, N =>
    if rg (N o0 2) then
    if (N o0 2) ≤ x2 then
    some ((x1, x2), N)
    else
    if 0 ≤ x2 ∧ x2 < ((cap0 : Nat) : Int) then
    if rg (N (o0 + 2) (Int.toNat x2)) then
    if rg (x2 + 1) then
    m_Plugs_greatest_4 o0 cap0 f (if x1 < (N (o0 + 2) (Int.toNat x2)) then (N (o0 + 2) (Int.toNat x2)) else x1) (x2 + 1) N
    else none
    else none
    else none
    else none
def m_Plugs_greatest (o0 cap0 : Nat) (N : nS) : Option (Int × nS) :=
  nbd (m_Plugs_greatest_4 o0 cap0 FU 0 0 N) (fun q6 N7 =>
  some (q6.1, N7))
abbrev rm_Plugs_greatest : Room := { frames := 1, cells := 0, slots := 0, locals := 24 }
set_option maxRecDepth 100000 in
set_option maxHeartbeats 4000000 in
theorem w_Plugs_greatest_4 {p : Program} {l : Launch} {e : Env} {s : State} {m : MethodId} {args : Array Value} {below : List Frame} {meth : Method} {c : Code} {Q : State → Prop} {D : va_G} {ct : Nat → ClassId} {A : Nat → Prop} {ad : Nat → Nat} {S : nH} (hC : nC p s m args c D vwCl ct A ad S 3 b_Plugs_greatest R_Plugs TT) (o0 cap0 : Nat) (hp0 : isP S o0 cap0) : ∀ (f : Nat) (x1 x2 : Int) (N : nS) (q : Int × Int) (No : nS), m_Plugs_greatest_4 o0 cap0 f x1 x2 N = some (q, No) → rg x1 → rg x2 → nV p l e rm_Plugs_greatest s m args below meth c 0 0 Q D vwCl ct A ad S 3 No 29 [(0, .ref (ad o0)), (1, .int (iI q.1)), (2, .int (iI q.2))] [] → nV p l e rm_Plugs_greatest s m args below meth c 0 0 Q D vwCl ct A ad S 3 N 4 [(0, .ref (ad o0)), (1, .int (iI x1)), (2, .int (iI x2))] [] := by
  intro f
  induction f with
  | zero =>
    intro x1 x2 N q No hm
    rw [m_Plugs_greatest_4] at hm
    cases hm
  | succ f ih =>
    intro x1 x2 N q No hm hx1 hx2 kx
    rw [m_Plugs_greatest_4] at hm
    refine nv_iload_n hC d_Plugs_greatest_4 rfl 2 rfl ?_
    refine nv_aload_n hC d_Plugs_greatest_5 rfl 0 rfl ?_
    refine nv_getI hC (j := 2) hp0.1 rfl in_Plugs (by decide) k_0 rfl d_Plugs_greatest_6 ?_
    obtain ⟨hr1, hm⟩ := ck_s hm
    refine nv_icmp_ge hC hx2 hr1 d_Plugs_greatest_9 (tgt := 29) (by decide) (fun c2 => ?_) (fun c2 => ?_)
    · have hm := if_t c2 hm
      obtain ⟨rfl, rfl⟩ := ret_s hm
      refine nv_sub (lv' := [(0, .ref (ad o0)), (1, .int (iI x1)), (2, .int (iI x2))]) [0, 1, 2] rfl ?_
      exact kx
    · have hm := if_f c2 hm
      refine nv_iload_n hC d_Plugs_greatest_12 rfl 1 rfl ?_
      refine nv_aload_n hC d_Plugs_greatest_13 rfl 0 rfl ?_
      refine nv_getR hC (j := 1) hp0.1 rfl in_Plugs (by decide) k_2 rfl d_Plugs_greatest_14 ?_
      refine nv_iload_n hC d_Plugs_greatest_17 rfl 2 rfl ?_
      obtain ⟨hc3, hm⟩ := ck_s hm
      refine nv_iald hC hp0.2.2.1 hp0.2.2.2 hc3 d_Plugs_greatest_18 ?_
      obtain ⟨hr4, hm⟩ := ck_s hm
      refine nv_mmax hC k_27 k_28 k_14 k_29 (Nat.le_of_ble_eq_true rfl) (Nat.le_of_ble_eq_true rfl) (Nat.zero_le _) (Nat.zero_le _) hx1 hr4 d_Plugs_greatest_19 ?_
      refine nv_istore_n (lv' := [(1, .int (iI (if x1 < (N (o0 + 2) (Int.toNat x2)) then (N (o0 + 2) (Int.toNat x2)) else x1))), (0, .ref (ad o0)), (2, .int (iI x2))]) hC d_Plugs_greatest_22 rfl (by decide) rfl ?_
      refine nv_iinc (lv' := [(2, .int (iI (x2 + 1))), (1, .int (iI (if x1 < (N (o0 + 2) (Int.toNat x2)) then (N (o0 + 2) (Int.toNat x2)) else x1))), (0, .ref (ad o0))]) hC d_Plugs_greatest_23 2 rfl (by decide) rfl ?_
      refine nv_goto hC d_Plugs_greatest_26 (tgt := 4) (by decide) ?_
      obtain ⟨hr5, hm⟩ := ck_s hm
      refine nv_sub (lv' := [(0, .ref (ad o0)), (1, .int (iI (if x1 < (N (o0 + 2) (Int.toNat x2)) then (N (o0 + 2) (Int.toNat x2)) else x1))), (2, .int (iI (x2 + 1)))]) [2, 1, 0] rfl ?_
      exact ih (if x1 < (N (o0 + 2) (Int.toNat x2)) then (N (o0 + 2) (Int.toNat x2)) else x1) (x2 + 1) N q No hm (rg_max hx1 hr4) hr5 kx
set_option maxRecDepth 100000 in
set_option maxHeartbeats 4000000 in
theorem c_Plugs_greatest (l : Launch) {D : va_G} {ct : Nat → ClassId} {A : Nat → Prop} {ad : Nat → Nat} {S : nH} (hD : nD ad A S.length) (o0 cap0 : Nat) (hp0 : isP S o0 cap0) (N : nS) (r : Int) (No : nS) (hm : m_Plugs_greatest o0 cap0 N = some (r, No)) : nM l y_Plugs_greatest (Cond.code y_Plugs_greatest b_Plugs_greatest 3 (some .int) :: TT) rm_Plugs_greatest D vwCl ct A ad S N [.ref (ad o0)] (nQi D vwCl ct A ad S r No) := by
  refine nM_of (cc := b_Plugs_greatest) (maxL := 3) (ret := (some .int)) (by decide) rfl (Nat.le_of_ble_eq_true rfl) hD ?_
  intro p e s m below meth c hC hr hlk
  refine nv_lv (lv' := [(0, .ref (ad o0))]) rfl ?_
  rw [m_Plugs_greatest] at hm
  refine nv_iconst hC d_Plugs_greatest_0 ?_
  refine nv_istore_n (lv' := [(1, .int (iI 0)), (0, .ref (ad o0))]) hC d_Plugs_greatest_1 rfl (by decide) rfl ?_
  refine nv_iconst hC d_Plugs_greatest_2 ?_
  refine nv_istore_n (lv' := [(2, .int (iI 0)), (1, .int (iI 0)), (0, .ref (ad o0))]) hC d_Plugs_greatest_3 rfl (by decide) rfl ?_
  obtain ⟨q6, N7, hq8, hm⟩ := nbd_s hm
  refine nv_sub (lv' := [(0, .ref (ad o0)), (1, .int (iI 0)), (2, .int (iI 0))]) [2, 1, 0] rfl ?_
  refine w_Plugs_greatest_4 hC o0 cap0 hp0 FU 0 0 N q6 N7 hq8 ⟨by decide, by decide⟩ ⟨by decide, by decide⟩ ?_
  refine nv_iload_n hC d_Plugs_greatest_29 rfl 1 rfl ?_
  obtain ⟨rfl, rfl⟩ := ret_s hm
  exact nv_iret hC hr hlk d_Plugs_greatest_30
