def m_Mo_run_53 (k0 : Nat) (x1 : Int) (x2 : Int) : Nat → Int → nS → Option ((Int) × nS)
  | 0, _, _ => none
  | f + 1, x3, N =>
    if rg (N k0 15) then
    if (N k0 15) ≤ x3 then
    some (x3, N)
    else
    if 0 ≤ x3 ∧ x3 < ((60 : Nat) : Int) then
    if rg (N (k0 + 12) (Int.toNat x3)) then
    if rg (N k0 9) then
    if (N (k0 + 12) (Int.toNat x3)) = (N k0 9) then
    if rg (N (k0 + 11) (Int.toNat x3)) then
    if rg (N (k0 + 13) (Int.toNat x3)) then
    nbd (m_Mo_take k0 (N (k0 + 11) (Int.toNat x3)) (N (k0 + 13) (Int.toNat x3)) N) (fun r21 N22 =>
    if rg (N22 (k0 + 13) (Int.toNat x3)) then
    if rl (N22 k0 32) then
    if rl (N22 (k0 + 13) (Int.toNat x3)) then
    if ¬ (N22 (k0 + 13) (Int.toNat x3)) = 0 then
    nlt (up2 N22 (k0 + 14) (Int.toNat x3) (Int.tdiv (N22 k0 32) (N22 (k0 + 13) (Int.toNat x3)))) (fun N28 =>
    nlt (up2 N28 (k0 + 15) (Int.toNat x3) (N28 k0 33)) (fun N30 =>
    nlt (up2 N30 (k0 + 16) (Int.toNat x3) (N30 k0 34)) (fun N32 =>
    if rg (x3 + 1) then
    m_Mo_run_53 k0 x1 x2 f (x3 + 1) N32
    else none)))
    else none
    else none
    else none
    else none)
    else none
    else none
    else
    if rg (x3 + 1) then
    m_Mo_run_53 k0 x1 x2 f (x3 + 1) N
    else none
    else none
    else none
    else none
    else none
def m_Mo_run_46 (k0 : Nat) (x1 : Int) : Nat → Int → nS → Option ((Int) × nS)
  | 0, _, _ => none
  | f + 1, x2, N =>
    if x1 ≤ x2 then
    some (x2, N)
    else
    nbd (m_Mo_run_53 k0 x1 x2 FU 0 N) (fun q35 N36 =>
    nbd (m_Mo_rest k0 N36) (fun r38 N39 =>
    nlt (up2 N39 k0 9 ((N39 k0 9) + 1)) (fun N41 =>
    if rg (x2 + 1) then
    m_Mo_run_46 k0 x1 f (x2 + 1) N41
    else none)))
def m_Mo_run (k0 : Nat) (x1 : Int) (N : nS) : Option (Int × nS) :=
  nbd (m_Mo_in x1 1 100 N) (fun r1 N2 =>
  if rg r1 then
  if r1 = 0 then
  nlt (up2 N2 k0 0 1) (fun N50 =>
  some (0, N50))
  else
  if rg ((N2 k0 9) + x1) then
  if ((N2 k0 9) + x1) ≤ 3000 then
  nlt (up2 N2 k0 0 0) (fun N8 =>
  nbd (m_Mo_run_46 k0 x1 FU 0 N8) (fun q44 N45 =>
  some ((N45 k0 9), N45)))
  else
  nlt (up2 N2 k0 0 2) (fun N47 =>
  some (0, N47))
  else none
  else none)
set_option maxRecDepth 20000 in
theorem k_296 : Cond.fieldLink R_Mo 57 (T_Mo 19).1 (T_Mo 19).2.1 (T_Mo 19).2.2.1 ∈ TT := tt_i 565 (by decide +kernel) (by decide +kernel)
set_option maxRecDepth 20000 in
theorem k_297 : Cond.fieldLink R_Mo 60 (T_Mo 20).1 (T_Mo 20).2.1 (T_Mo 20).2.2.1 ∈ TT := tt_i 566 (by decide +kernel) (by decide +kernel)
set_option maxRecDepth 20000 in
theorem k_298 : Cond.fieldLink R_Mo 63 (T_Mo 21).1 (T_Mo 21).2.1 (T_Mo 21).2.2.1 ∈ TT := tt_i 567 (by decide +kernel) (by decide +kernel)
set_option maxRecDepth 20000 in
theorem k_299 : Cond.methodLink R_Mo 171 y_Mo_rest ∈ TT := tt_i 733 (by decide +kernel) (by decide +kernel)
set_option maxRecDepth 20000 in
theorem k_300 : Cond.code y_Mo_rest b_Mo_rest 5 none ∈ TT := tt_i 736 (by decide +kernel) (by decide +kernel)
set_option maxRecDepth 20000 in
theorem k_301 : Cond.instanceMethod y_Mo_rest ∈ TT := tt_i 735 (by decide +kernel) (by decide +kernel)
set_option maxRecDepth 20000 in
theorem k_302 : Cond.selects R_Mo y_Mo_rest y_Mo_rest ∈ TT := tt_i 18 (by decide +kernel) (by decide +kernel)
abbrev rm_Mo_run : Room := { frames := 6, cells := 0, slots := 0, locals := 148 }
set_option maxRecDepth 100000 in
set_option maxHeartbeats 4000000 in
theorem w_Mo_run_53 {p : Program} {l : Launch} {e : Env} {s : State} {m : MethodId} {args : Array Value} {below : List Frame} {meth : Method} {c : Code} {Q : State → Prop} {D : va_G} {ct : Nat → ClassId} {A : Nat → Prop} {ad : Nat → Nat} {S : nH} (hC : nC p s m args c D vwCl ct A ad S 4 b_Mo_run R_Mo TT) (k0 : Nat) (hp0 : isM S k0) (x1 : Int) (hx1 : rg x1) (x2 : Int) (hx2 : rg x2) : ∀ (f : Nat) (x3 : Int) (N : nS) (q : Int) (No : nS), m_Mo_run_53 k0 x1 x2 f x3 N = some (q, No) → rg x3 → nV p l e rm_Mo_run s m args below meth c 0 0 Q D vwCl ct A ad S 4 No 135 [(0, .ref (ad k0)), (1, .int (iI x1)), (2, .int (iI x2)), (3, .int (iI q))] [] → nV p l e rm_Mo_run s m args below meth c 0 0 Q D vwCl ct A ad S 4 N 53 [(0, .ref (ad k0)), (1, .int (iI x1)), (2, .int (iI x2)), (3, .int (iI x3))] [] := by
  intro f
  induction f with
  | zero =>
    intro x3 N q No hm
    rw [m_Mo_run_53] at hm
    cases hm
  | succ f ih =>
    intro x3 N q No hm hx3 kx
    rw [m_Mo_run_53] at hm
    refine nv_iload_n hC d_Mo_run_53 rfl 3 rfl ?_
    refine nv_aload_n hC d_Mo_run_54 rfl 0 rfl ?_
    refine nv_getI hC (j := 15) hp0.1 rfl in_Mo (by decide) k_292 rfl d_Mo_run_55 ?_
    obtain ⟨hr12, hm⟩ := ck_s hm
    refine nv_icmp_ge hC hx3 hr12 d_Mo_run_58 (tgt := 135) (by decide) (fun c13 => ?_) (fun c13 => ?_)
    · have hm := if_t c13 hm
      obtain ⟨rfl, rfl⟩ := ret_s hm
      refine nv_sub (lv' := [(0, .ref (ad k0)), (1, .int (iI x1)), (2, .int (iI x2)), (3, .int (iI x3))]) [0, 1, 2, 3] rfl ?_
      exact kx
    · have hm := if_f c13 hm
      refine nv_aload_n hC d_Mo_run_61 rfl 0 rfl ?_
      refine nv_getR hC (j := 17) hp0.1 rfl in_Mo (by decide) k_294 rfl d_Mo_run_62 ?_
      refine nv_iload_n hC d_Mo_run_65 rfl 3 rfl ?_
      obtain ⟨hc14, hm⟩ := ck_s hm
      refine nv_iald hC (isM_12 hp0) (by decide) hc14 d_Mo_run_66 ?_
      refine nv_aload_n hC d_Mo_run_67 rfl 0 rfl ?_
      refine nv_getI hC (j := 9) hp0.1 rfl in_Mo (by decide) k_258 rfl d_Mo_run_68 ?_
      obtain ⟨hr15, hm⟩ := ck_s hm
      obtain ⟨hr16, hm⟩ := ck_s hm
      refine nv_icmp_ne hC hr15 hr16 d_Mo_run_71 (tgt := 129) (by decide) (fun c17 => ?_) (fun c17 => ?_)
      · have hm := if_f c17 hm
        refine nv_iinc (lv' := [(3, .int (iI (x3 + 1))), (0, .ref (ad k0)), (1, .int (iI x1)), (2, .int (iI x2))]) hC d_Mo_run_129 3 rfl (by decide) rfl ?_
        refine nv_goto hC d_Mo_run_132 (tgt := 53) (by decide) ?_
        obtain ⟨hr18, hm⟩ := ck_s hm
        refine nv_sub (lv' := [(0, .ref (ad k0)), (1, .int (iI x1)), (2, .int (iI x2)), (3, .int (iI (x3 + 1)))]) [1, 2, 3, 0] rfl ?_
        exact ih (x3 + 1) N q No hm hr18 kx
      · have hm := if_t c17 hm
        refine nv_aload_n hC d_Mo_run_74 rfl 0 rfl ?_
        refine nv_aload_n hC d_Mo_run_75 rfl 0 rfl ?_
        refine nv_getR hC (j := 16) hp0.1 rfl in_Mo (by decide) k_293 rfl d_Mo_run_76 ?_
        refine nv_iload_n hC d_Mo_run_79 rfl 3 rfl ?_
        refine nv_iald hC (isM_11 hp0) (by decide) hc14 d_Mo_run_80 ?_
        refine nv_aload_n hC d_Mo_run_81 rfl 0 rfl ?_
        refine nv_getR hC (j := 18) hp0.1 rfl in_Mo (by decide) k_295 rfl d_Mo_run_82 ?_
        refine nv_iload_n hC d_Mo_run_85 rfl 3 rfl ?_
        refine nv_iald hC (isM_13 hp0) (by decide) hc14 d_Mo_run_86 ?_
        obtain ⟨hr19, hm⟩ := ck_s hm
        obtain ⟨hr20, hm⟩ := ck_s hm
        obtain ⟨r21, N22, hq23, hm⟩ := nbd_s hm
        refine nv_callv (N' := N22) (nr_V hC (As := [.int (iI (N (k0 + 11) (Int.toNat x3))), .int (iI (N (k0 + 13) (Int.toNat x3)))]) (st := []) hp0.1 rfl (c_Mo_take l hC.2.2.1 k0 hp0 (N (k0 + 11) (Int.toNat x3)) hr19 (N (k0 + 13) (Int.toNat x3)) hr20 N r21 N22 hq23) (cwV 2 hC.1.2.2.2.2 (tt_V k_272 k_274 k_275 k_229 k_273) rfl rfl rfl (by decide +kernel) ⟨Nat.le_of_ble_eq_true rfl, Nat.le_of_ble_eq_true rfl⟩) rfl rfl (Nat.le_of_ble_eq_true rfl) ⟨(Nat.le_of_ble_eq_true rfl), (Nat.le_of_ble_eq_true rfl)⟩ d_Mo_run_87) ?_
        refine nv_aload_n hC d_Mo_run_90 rfl 0 rfl ?_
        refine nv_getR hC (j := 19) hp0.1 rfl in_Mo (by decide) k_296 rfl d_Mo_run_91 ?_
        refine nv_iload_n hC d_Mo_run_94 rfl 3 rfl ?_
        refine nv_aload_n hC d_Mo_run_95 rfl 0 rfl ?_
        refine nv_getJ hC (j := 32) hp0.1 rfl in_Mo (by decide) k_267 rfl d_Mo_run_96 ?_
        refine nv_aload_n hC d_Mo_run_99 rfl 0 rfl ?_
        refine nv_getR hC (j := 18) hp0.1 rfl in_Mo (by decide) k_295 rfl d_Mo_run_100 ?_
        refine nv_iload_n hC d_Mo_run_103 rfl 3 rfl ?_
        refine nv_iald hC (isM_13 hp0) (by decide) hc14 d_Mo_run_104 ?_
        obtain ⟨hr24, hm⟩ := ck_s hm
        refine nv_i2l hC d_Mo_run_105 hr24 ?_
        obtain ⟨hc25, hm⟩ := ck_s hm
        obtain ⟨hc26, hm⟩ := ck_s hm
        obtain ⟨hc27, hm⟩ := ck_s hm
        refine nv_ldiv hC d_Mo_run_106 hc25 hc26 hc27 ?_
        refine nv_l2i hC d_Mo_run_107 ?_
        obtain ⟨N28, e29, hm⟩ := nlt_s hm
        refine nv_iast hC (isM_14 hp0) (by decide) hc14 e29 d_Mo_run_108 ?_
        refine nv_aload_n hC d_Mo_run_109 rfl 0 rfl ?_
        refine nv_getR hC (j := 20) hp0.1 rfl in_Mo (by decide) k_297 rfl d_Mo_run_110 ?_
        refine nv_iload_n hC d_Mo_run_113 rfl 3 rfl ?_
        refine nv_aload_n hC d_Mo_run_114 rfl 0 rfl ?_
        refine nv_getI hC (j := 33) hp0.1 rfl in_Mo (by decide) k_268 rfl d_Mo_run_115 ?_
        obtain ⟨N30, e31, hm⟩ := nlt_s hm
        refine nv_iast hC (isM_15 hp0) (by decide) hc14 e31 d_Mo_run_118 ?_
        refine nv_aload_n hC d_Mo_run_119 rfl 0 rfl ?_
        refine nv_getR hC (j := 21) hp0.1 rfl in_Mo (by decide) k_298 rfl d_Mo_run_120 ?_
        refine nv_iload_n hC d_Mo_run_123 rfl 3 rfl ?_
        refine nv_aload_n hC d_Mo_run_124 rfl 0 rfl ?_
        refine nv_getI hC (j := 34) hp0.1 rfl in_Mo (by decide) k_269 rfl d_Mo_run_125 ?_
        obtain ⟨N32, e33, hm⟩ := nlt_s hm
        refine nv_iast hC (isM_16 hp0) (by decide) hc14 e33 d_Mo_run_128 ?_
        refine nv_iinc (lv' := [(3, .int (iI (x3 + 1))), (0, .ref (ad k0)), (1, .int (iI x1)), (2, .int (iI x2))]) hC d_Mo_run_129 3 rfl (by decide) rfl ?_
        refine nv_goto hC d_Mo_run_132 (tgt := 53) (by decide) ?_
        obtain ⟨hr34, hm⟩ := ck_s hm
        refine nv_sub (lv' := [(0, .ref (ad k0)), (1, .int (iI x1)), (2, .int (iI x2)), (3, .int (iI (x3 + 1)))]) [1, 2, 3, 0] rfl ?_
        exact ih (x3 + 1) N32 q No hm hr34 kx
set_option maxRecDepth 100000 in
set_option maxHeartbeats 4000000 in
theorem w_Mo_run_46 {p : Program} {l : Launch} {e : Env} {s : State} {m : MethodId} {args : Array Value} {below : List Frame} {meth : Method} {c : Code} {Q : State → Prop} {D : va_G} {ct : Nat → ClassId} {A : Nat → Prop} {ad : Nat → Nat} {S : nH} (hC : nC p s m args c D vwCl ct A ad S 4 b_Mo_run R_Mo TT) (k0 : Nat) (hp0 : isM S k0) (x1 : Int) (hx1 : rg x1) : ∀ (f : Nat) (x2 : Int) (N : nS) (q : Int) (No : nS), m_Mo_run_46 k0 x1 f x2 N = some (q, No) → rg x2 → nV p l e rm_Mo_run s m args below meth c 0 0 Q D vwCl ct A ad S 4 No 155 [(0, .ref (ad k0)), (1, .int (iI x1)), (2, .int (iI q))] [] → nV p l e rm_Mo_run s m args below meth c 0 0 Q D vwCl ct A ad S 4 N 46 [(0, .ref (ad k0)), (1, .int (iI x1)), (2, .int (iI x2))] [] := by
  intro f
  induction f with
  | zero =>
    intro x2 N q No hm
    rw [m_Mo_run_46] at hm
    cases hm
  | succ f ih =>
    intro x2 N q No hm hx2 kx
    rw [m_Mo_run_46] at hm
    refine nv_iload_n hC d_Mo_run_46 rfl 2 rfl ?_
    refine nv_iload_n hC d_Mo_run_47 rfl 1 rfl ?_
    refine nv_icmp_ge hC hx2 hx1 d_Mo_run_48 (tgt := 155) (by decide) (fun c11 => ?_) (fun c11 => ?_)
    · have hm := if_t c11 hm
      obtain ⟨rfl, rfl⟩ := ret_s hm
      refine nv_sub (lv' := [(0, .ref (ad k0)), (1, .int (iI x1)), (2, .int (iI x2))]) [0, 1, 2] rfl ?_
      exact kx
    · have hm := if_f c11 hm
      refine nv_iconst hC d_Mo_run_51 ?_
      refine nv_istore_n (lv' := [(3, .int (iI 0)), (0, .ref (ad k0)), (1, .int (iI x1)), (2, .int (iI x2))]) hC d_Mo_run_52 rfl (by decide) rfl ?_
      obtain ⟨q35, N36, hq37, hm⟩ := nbd_s hm
      refine nv_sub (lv' := [(0, .ref (ad k0)), (1, .int (iI x1)), (2, .int (iI x2)), (3, .int (iI 0))]) [1, 2, 3, 0] rfl ?_
      refine w_Mo_run_53 hC k0 hp0 x1 hx1 x2 hx2 FU 0 N q35 N36 hq37 ⟨by decide, by decide⟩ ?_
      refine nv_aload_n hC d_Mo_run_135 rfl 0 rfl ?_
      obtain ⟨r38, N39, hq40, hm⟩ := nbd_s hm
      refine nv_callv (N' := N39) (nr_V hC (As := []) (st := []) hp0.1 rfl (c_Mo_rest l hC.2.2.1 k0 hp0 N36 r38 N39 hq40) (cwV 0 hC.1.2.2.2.2 (tt_V k_299 k_301 k_302 k_229 k_300) rfl rfl rfl (by decide +kernel) ⟨Nat.le_of_ble_eq_true rfl, Nat.le_of_ble_eq_true rfl⟩) rfl rfl (Nat.le_of_ble_eq_true rfl) ⟨(Nat.le_of_ble_eq_true rfl), (Nat.le_of_ble_eq_true rfl)⟩ d_Mo_run_136) ?_
      refine nv_aload_n hC d_Mo_run_139 rfl 0 rfl ?_
      refine nv_dup hC d_Mo_run_140 rfl ?_
      refine nv_getI hC (j := 9) hp0.1 rfl in_Mo (by decide) k_258 rfl d_Mo_run_141 ?_
      refine nv_iconst hC d_Mo_run_144 ?_
      refine nv_iadd hC d_Mo_run_145 ?_
      obtain ⟨N41, e42, hm⟩ := nlt_s hm
      refine nv_putI hC (j := 9) hp0.1 rfl in_Mo (by decide) ty_Mo tyok_Mo nm_Mo k_258 rfl rfl (by decide +kernel) e42 d_Mo_run_146 ?_
      refine nv_iinc (lv' := [(2, .int (iI (x2 + 1))), (0, .ref (ad k0)), (1, .int (iI x1)), (3, .int (iI q35))]) hC d_Mo_run_149 2 rfl (by decide) rfl ?_
      refine nv_goto hC d_Mo_run_152 (tgt := 46) (by decide) ?_
      obtain ⟨hr43, hm⟩ := ck_s hm
      refine nv_sub (lv' := [(0, .ref (ad k0)), (1, .int (iI x1)), (2, .int (iI (x2 + 1)))]) [1, 2, 0] rfl ?_
      exact ih (x2 + 1) N41 q No hm hr43 kx
set_option maxRecDepth 100000 in
set_option maxHeartbeats 4000000 in
theorem c_Mo_run (l : Launch) {D : va_G} {ct : Nat → ClassId} {A : Nat → Prop} {ad : Nat → Nat} {S : nH} (hD : nD ad A S.length) (k0 : Nat) (hp0 : isM S k0) (x1 : Int) (hx1 : rg x1) (N : nS) (r : Int) (No : nS) (hm : m_Mo_run k0 x1 N = some (r, No)) : nM l y_Mo_run (Cond.code y_Mo_run b_Mo_run 4 (some .int) :: TT) rm_Mo_run D vwCl ct A ad S N [.ref (ad k0), .int (iI x1)] (nQi D vwCl ct A ad S r No) := by
  refine nM_of (cc := b_Mo_run) (maxL := 4) (ret := (some .int)) (by decide) rfl (Nat.le_of_ble_eq_true rfl) hD ?_
  intro p e s m below meth c hC hr hlk
  refine nv_lv (lv' := [(0, .ref (ad k0)), (1, .int (iI x1))]) rfl ?_
  rw [m_Mo_run] at hm
  refine nv_aload_n hC d_Mo_run_0 rfl 0 rfl ?_
  refine nv_iload_n hC d_Mo_run_1 rfl 1 rfl ?_
  refine nv_iconst hC d_Mo_run_2 ?_
  refine nv_bipush hC (z := 100) d_Mo_run_3 rfl ?_
  obtain ⟨r1, N2, hq3, hm⟩ := nbd_s hm
  refine nv_calli (x := r1) (N' := N2) (nr_S hC (As := [.int (iI x1), .int (iI 1), .int (iI 100)]) (st := [.ref (ad k0)]) (c_Mo_in l hC.2.2.1 x1 hx1 1 ⟨by decide, by decide⟩ 100 ⟨by decide, by decide⟩ N r1 N2 hq3) (cwS 3 hC.1.2.2.2.2 (tt_S k_226 k_228 k_229 k_227) rfl rfl rfl (by decide +kernel) ⟨Nat.le_of_ble_eq_true rfl, Nat.le_of_ble_eq_true rfl⟩) rfl rfl (Nat.le_of_ble_eq_true rfl) ⟨(Nat.le_of_ble_eq_true rfl), (Nat.le_of_ble_eq_true rfl)⟩ d_Mo_run_5) ?_
  obtain ⟨hr4, hm⟩ := ck_s hm
  refine nv_if_ne hC hr4 d_Mo_run_8 (tgt := 15) (by decide) (fun c5 => ?_) (fun c5 => ?_)
  · have hm := if_f c5 hm
    refine nv_aload_n hC d_Mo_run_15 rfl 0 rfl ?_
    refine nv_getI hC (j := 9) hp0.1 rfl in_Mo (by decide) k_258 rfl d_Mo_run_16 ?_
    refine nv_iload_n hC d_Mo_run_19 rfl 1 rfl ?_
    refine nv_iadd hC d_Mo_run_20 ?_
    refine nv_sipush hC (z := 3000) d_Mo_run_21 rfl ?_
    obtain ⟨hr6, hm⟩ := ck_s hm
    refine nv_icmp_le hC hr6 ⟨by decide, by decide⟩ d_Mo_run_24 (tgt := 31) (by decide) (fun c7 => ?_) (fun c7 => ?_)
    · have hm := if_t c7 hm
      refine nv_iconst hC d_Mo_run_31 ?_
      obtain ⟨N8, e9, hm⟩ := nlt_s hm
      refine nv_putI hC (j := 0) hp0.1 rfl in_Mo (by decide) ty_Mo tyok_Mo nm_Mo k_224 rfl rfl (by decide +kernel) e9 d_Mo_run_32 ?_
      refine nv_aload_n hC d_Mo_run_35 rfl 0 rfl ?_
      refine nv_getIe (v := 0) hC (j := 0) hp0.1 rfl in_Mo (by decide) k_224 rfl d_Mo_run_36 (up2_v e9) ?_
      refine nv_if_le hC ⟨by decide, by decide⟩ d_Mo_run_39 (tgt := 44) (by decide) (fun _ => ?_) (fun h9 => absurd (by decide) h9)
      refine nv_iconst hC d_Mo_run_44 ?_
      refine nv_istore_n (lv' := [(2, .int (iI 0)), (0, .ref (ad k0)), (1, .int (iI x1))]) hC d_Mo_run_45 rfl (by decide) rfl ?_
      obtain ⟨q44, N45, hq46, hm⟩ := nbd_s hm
      refine nv_sub (lv' := [(0, .ref (ad k0)), (1, .int (iI x1)), (2, .int (iI 0))]) [1, 2, 0] rfl ?_
      refine w_Mo_run_46 hC k0 hp0 x1 hx1 FU 0 N8 q44 N45 hq46 ⟨by decide, by decide⟩ ?_
      refine nv_aload_n hC d_Mo_run_155 rfl 0 rfl ?_
      refine nv_getI hC (j := 9) hp0.1 rfl in_Mo (by decide) k_258 rfl d_Mo_run_156 ?_
      obtain ⟨rfl, rfl⟩ := ret_s hm
      exact nv_iret hC hr hlk d_Mo_run_159
    · have hm := if_f c7 hm
      refine nv_iconst hC d_Mo_run_27 ?_
      refine nv_goto hC d_Mo_run_28 (tgt := 32) (by decide) ?_
      obtain ⟨N47, e48, hm⟩ := nlt_s hm
      refine nv_putI hC (j := 0) hp0.1 rfl in_Mo (by decide) ty_Mo tyok_Mo nm_Mo k_224 rfl rfl (by decide +kernel) e48 d_Mo_run_32 ?_
      refine nv_aload_n hC d_Mo_run_35 rfl 0 rfl ?_
      refine nv_getIe (v := 2) hC (j := 0) hp0.1 rfl in_Mo (by decide) k_224 rfl d_Mo_run_36 (up2_v e48) ?_
      refine nv_if_le hC ⟨by decide, by decide⟩ d_Mo_run_39 (tgt := 44) (by decide) (fun h9 => absurd h9 (by decide)) (fun _ => ?_)
      refine nv_iconst hC d_Mo_run_42 ?_
      obtain ⟨rfl, rfl⟩ := ret_s hm
      exact nv_iret hC hr hlk d_Mo_run_43
  · have hm := if_t c5 hm
    refine nv_iconst hC d_Mo_run_11 ?_
    refine nv_goto hC d_Mo_run_12 (tgt := 32) (by decide) ?_
    obtain ⟨N50, e51, hm⟩ := nlt_s hm
    refine nv_putI hC (j := 0) hp0.1 rfl in_Mo (by decide) ty_Mo tyok_Mo nm_Mo k_224 rfl rfl (by decide +kernel) e51 d_Mo_run_32 ?_
    refine nv_aload_n hC d_Mo_run_35 rfl 0 rfl ?_
    refine nv_getIe (v := 1) hC (j := 0) hp0.1 rfl in_Mo (by decide) k_224 rfl d_Mo_run_36 (up2_v e51) ?_
    refine nv_if_le hC ⟨by decide, by decide⟩ d_Mo_run_39 (tgt := 44) (by decide) (fun h9 => absurd h9 (by decide)) (fun _ => ?_)
    refine nv_iconst hC d_Mo_run_42 ?_
    obtain ⟨rfl, rfl⟩ := ret_s hm
    exact nv_iret hC hr hlk d_Mo_run_43
def m_Mo_plug (k0 : Nat) (x1 : Int) (x2 : Int) (x3 : Int) (N : nS) : Option (Int × nS) :=
  nbd (m_Mo_isPipe k0 x1 N) (fun r1 N2 =>
  if rg r1 then
  if r1 = 0 then
  nlt (up2 N2 k0 0 1) (fun N6 =>
  some (0, N6))
  else
  if x2 < 0 then
  nlt (up2 N2 k0 0 1) (fun N10 =>
  some (0, N10))
  else
  nbd (m_Mo_in x3 0 1 N2) (fun r13 N14 =>
  if rg r13 then
  if r13 = 0 then
  nlt (up2 N14 k0 0 1) (fun N18 =>
  some (0, N18))
  else
  nlt (up2 N14 k0 0 0) (fun N21 =>
  if 0 ≤ x1 ∧ x1 < ((10 : Nat) : Int) then
  if rg (N21 (k0 + 6) (Int.toNat x1)) then
  if x2 < (N21 (k0 + 6) (Int.toNat x1)) then
  if x3 = 0 then
  if 0 ≤ ((12 * x1) + x2) ∧ ((12 * x1) + x2) < ((120 : Nat) : Int) then
  some ((N21 (k0 + 7) (Int.toNat ((12 * x1) + x2))), N21)
  else none
  else
  if 0 ≤ ((12 * x1) + x2) ∧ ((12 * x1) + x2) < ((120 : Nat) : Int) then
  some ((N21 (k0 + 8) (Int.toNat ((12 * x1) + x2))), N21)
  else none
  else
  some ((-1), N21)
  else none
  else none)
  else none)
  else none)
abbrev rm_Mo_plug : Room := { frames := 2, cells := 0, slots := 0, locals := 43 }
set_option maxRecDepth 100000 in
set_option maxHeartbeats 4000000 in
theorem c_Mo_plug (l : Launch) {D : va_G} {ct : Nat → ClassId} {A : Nat → Prop} {ad : Nat → Nat} {S : nH} (hD : nD ad A S.length) (k0 : Nat) (hp0 : isM S k0) (x1 : Int) (hx1 : rg x1) (x2 : Int) (hx2 : rg x2) (x3 : Int) (hx3 : rg x3) (N : nS) (r : Int) (No : nS) (hm : m_Mo_plug k0 x1 x2 x3 N = some (r, No)) : nM l y_Mo_plug (Cond.code y_Mo_plug b_Mo_plug 4 (some .int) :: TT) rm_Mo_plug D vwCl ct A ad S N [.ref (ad k0), .int (iI x1), .int (iI x2), .int (iI x3)] (nQi D vwCl ct A ad S r No) := by
  refine nM_of (cc := b_Mo_plug) (maxL := 4) (ret := (some .int)) (by decide) rfl (Nat.le_of_ble_eq_true rfl) hD ?_
  intro p e s m below meth c hC hr hlk
  refine nv_lv (lv' := [(0, .ref (ad k0)), (1, .int (iI x1)), (2, .int (iI x2)), (3, .int (iI x3))]) rfl ?_
  rw [m_Mo_plug] at hm
  refine nv_aload_n hC d_Mo_plug_0 rfl 0 rfl ?_
  refine nv_aload_n hC d_Mo_plug_1 rfl 0 rfl ?_
  refine nv_iload_n hC d_Mo_plug_2 rfl 1 rfl ?_
  obtain ⟨r1, N2, hq3, hm⟩ := nbd_s hm
  refine nv_calli (x := r1) (N' := N2) (nr_V hC (As := [.int (iI x1)]) (st := [.ref (ad k0)]) hp0.1 rfl (c_Mo_isPipe l hC.2.2.1 k0 hp0 x1 hx1 N r1 N2 hq3) (cwV 1 hC.1.2.2.2.2 (tt_V k_287 k_289 k_290 k_229 k_288) rfl rfl rfl (by decide +kernel) ⟨Nat.le_of_ble_eq_true rfl, Nat.le_of_ble_eq_true rfl⟩) rfl rfl (Nat.le_of_ble_eq_true rfl) ⟨(Nat.le_of_ble_eq_true rfl), (Nat.le_of_ble_eq_true rfl)⟩ d_Mo_plug_3) ?_
  obtain ⟨hr4, hm⟩ := ck_s hm
  refine nv_if_eq hC hr4 d_Mo_plug_6 (tgt := 26) (by decide) (fun c5 => ?_) (fun c5 => ?_)
  · have hm := if_t c5 hm
    refine nv_iconst hC d_Mo_plug_26 ?_
    obtain ⟨N6, e7, hm⟩ := nlt_s hm
    refine nv_putI hC (j := 0) hp0.1 rfl in_Mo (by decide) ty_Mo tyok_Mo nm_Mo k_224 rfl rfl (by decide +kernel) e7 d_Mo_plug_27 ?_
    refine nv_aload_n hC d_Mo_plug_30 rfl 0 rfl ?_
    refine nv_getIe (v := 1) hC (j := 0) hp0.1 rfl in_Mo (by decide) k_224 rfl d_Mo_plug_31 (up2_v e7) ?_
    refine nv_if_le hC ⟨by decide, by decide⟩ d_Mo_plug_34 (tgt := 39) (by decide) (fun h9 => absurd h9 (by decide)) (fun _ => ?_)
    refine nv_iconst hC d_Mo_plug_37 ?_
    obtain ⟨rfl, rfl⟩ := ret_s hm
    exact nv_iret hC hr hlk d_Mo_plug_38
  · have hm := if_f c5 hm
    refine nv_iload_n hC d_Mo_plug_9 rfl 2 rfl ?_
    refine nv_if_lt hC hx2 d_Mo_plug_10 (tgt := 26) (by decide) (fun c9 => ?_) (fun c9 => ?_)
    · have hm := if_t c9 hm
      refine nv_iconst hC d_Mo_plug_26 ?_
      obtain ⟨N10, e11, hm⟩ := nlt_s hm
      refine nv_putI hC (j := 0) hp0.1 rfl in_Mo (by decide) ty_Mo tyok_Mo nm_Mo k_224 rfl rfl (by decide +kernel) e11 d_Mo_plug_27 ?_
      refine nv_aload_n hC d_Mo_plug_30 rfl 0 rfl ?_
      refine nv_getIe (v := 1) hC (j := 0) hp0.1 rfl in_Mo (by decide) k_224 rfl d_Mo_plug_31 (up2_v e11) ?_
      refine nv_if_le hC ⟨by decide, by decide⟩ d_Mo_plug_34 (tgt := 39) (by decide) (fun h9 => absurd h9 (by decide)) (fun _ => ?_)
      refine nv_iconst hC d_Mo_plug_37 ?_
      obtain ⟨rfl, rfl⟩ := ret_s hm
      exact nv_iret hC hr hlk d_Mo_plug_38
    · have hm := if_f c9 hm
      refine nv_iload_n hC d_Mo_plug_13 rfl 3 rfl ?_
      refine nv_iconst hC d_Mo_plug_14 ?_
      refine nv_iconst hC d_Mo_plug_15 ?_
      obtain ⟨r13, N14, hq15, hm⟩ := nbd_s hm
      refine nv_calli (x := r13) (N' := N14) (nr_S hC (As := [.int (iI x3), .int (iI 0), .int (iI 1)]) (st := [.ref (ad k0)]) (c_Mo_in l hC.2.2.1 x3 hx3 0 ⟨by decide, by decide⟩ 1 ⟨by decide, by decide⟩ N2 r13 N14 hq15) (cwS 3 hC.1.2.2.2.2 (tt_S k_226 k_228 k_229 k_227) rfl rfl rfl (by decide +kernel) ⟨Nat.le_of_ble_eq_true rfl, Nat.le_of_ble_eq_true rfl⟩) rfl rfl (Nat.le_of_ble_eq_true rfl) ⟨(Nat.le_of_ble_eq_true rfl), (Nat.le_of_ble_eq_true rfl)⟩ d_Mo_plug_16) ?_
      obtain ⟨hr16, hm⟩ := ck_s hm
      refine nv_if_eq hC hr16 d_Mo_plug_19 (tgt := 26) (by decide) (fun c17 => ?_) (fun c17 => ?_)
      · have hm := if_t c17 hm
        refine nv_iconst hC d_Mo_plug_26 ?_
        obtain ⟨N18, e19, hm⟩ := nlt_s hm
        refine nv_putI hC (j := 0) hp0.1 rfl in_Mo (by decide) ty_Mo tyok_Mo nm_Mo k_224 rfl rfl (by decide +kernel) e19 d_Mo_plug_27 ?_
        refine nv_aload_n hC d_Mo_plug_30 rfl 0 rfl ?_
        refine nv_getIe (v := 1) hC (j := 0) hp0.1 rfl in_Mo (by decide) k_224 rfl d_Mo_plug_31 (up2_v e19) ?_
        refine nv_if_le hC ⟨by decide, by decide⟩ d_Mo_plug_34 (tgt := 39) (by decide) (fun h9 => absurd h9 (by decide)) (fun _ => ?_)
        refine nv_iconst hC d_Mo_plug_37 ?_
        obtain ⟨rfl, rfl⟩ := ret_s hm
        exact nv_iret hC hr hlk d_Mo_plug_38
      · have hm := if_f c17 hm
        refine nv_iconst hC d_Mo_plug_22 ?_
        refine nv_goto hC d_Mo_plug_23 (tgt := 27) (by decide) ?_
        obtain ⟨N21, e22, hm⟩ := nlt_s hm
        refine nv_putI hC (j := 0) hp0.1 rfl in_Mo (by decide) ty_Mo tyok_Mo nm_Mo k_224 rfl rfl (by decide +kernel) e22 d_Mo_plug_27 ?_
        refine nv_aload_n hC d_Mo_plug_30 rfl 0 rfl ?_
        refine nv_getIe (v := 0) hC (j := 0) hp0.1 rfl in_Mo (by decide) k_224 rfl d_Mo_plug_31 (up2_v e22) ?_
        refine nv_if_le hC ⟨by decide, by decide⟩ d_Mo_plug_34 (tgt := 39) (by decide) (fun _ => ?_) (fun h9 => absurd (by decide) h9)
        refine nv_iload_n hC d_Mo_plug_39 rfl 2 rfl ?_
        refine nv_aload_n hC d_Mo_plug_40 rfl 0 rfl ?_
        refine nv_getR hC (j := 10) hp0.1 rfl in_Mo (by decide) k_242 rfl d_Mo_plug_41 ?_
        refine nv_iload_n hC d_Mo_plug_44 rfl 1 rfl ?_
        obtain ⟨hc24, hm⟩ := ck_s hm
        refine nv_iald hC (isM_6 hp0) (by decide) hc24 d_Mo_plug_45 ?_
        obtain ⟨hr25, hm⟩ := ck_s hm
        refine nv_icmp_lt hC hx2 hr25 d_Mo_plug_46 (tgt := 53) (by decide) (fun c26 => ?_) (fun c26 => ?_)
        · have hm := if_t c26 hm
          refine nv_iload_n hC d_Mo_plug_53 rfl 3 rfl ?_
          refine nv_if_ne hC hx3 d_Mo_plug_54 (tgt := 71) (by decide) (fun c27 => ?_) (fun c27 => ?_)
          · have hm := if_f c27 hm
            refine nv_aload_n hC d_Mo_plug_71 rfl 0 rfl ?_
            refine nv_getR hC (j := 12) hp0.1 rfl in_Mo (by decide) k_244 rfl d_Mo_plug_72 ?_
            refine nv_bipush hC (z := 12) d_Mo_plug_75 rfl ?_
            refine nv_iload_n hC d_Mo_plug_77 rfl 1 rfl ?_
            refine nv_imul hC d_Mo_plug_78 ?_
            refine nv_iload_n hC d_Mo_plug_79 rfl 2 rfl ?_
            refine nv_iadd hC d_Mo_plug_80 ?_
            obtain ⟨hc28, hm⟩ := ck_s hm
            refine nv_iald hC (isM_8 hp0) (by decide) hc28 d_Mo_plug_81 ?_
            obtain ⟨rfl, rfl⟩ := ret_s hm
            exact nv_iret hC hr hlk d_Mo_plug_82
          · have hm := if_t c27 hm
            refine nv_aload_n hC d_Mo_plug_57 rfl 0 rfl ?_
            refine nv_getR hC (j := 11) hp0.1 rfl in_Mo (by decide) k_243 rfl d_Mo_plug_58 ?_
            refine nv_bipush hC (z := 12) d_Mo_plug_61 rfl ?_
            refine nv_iload_n hC d_Mo_plug_63 rfl 1 rfl ?_
            refine nv_imul hC d_Mo_plug_64 ?_
            refine nv_iload_n hC d_Mo_plug_65 rfl 2 rfl ?_
            refine nv_iadd hC d_Mo_plug_66 ?_
            obtain ⟨hc29, hm⟩ := ck_s hm
            refine nv_iald hC (isM_7 hp0) (by decide) hc29 d_Mo_plug_67 ?_
            refine nv_goto hC d_Mo_plug_68 (tgt := 82) (by decide) ?_
            obtain ⟨rfl, rfl⟩ := ret_s hm
            exact nv_iret hC hr hlk d_Mo_plug_82
        · have hm := if_f c26 hm
          refine nv_iconst hC d_Mo_plug_49 ?_
          refine nv_goto hC d_Mo_plug_50 (tgt := 82) (by decide) ?_
          obtain ⟨rfl, rfl⟩ := ret_s hm
          exact nv_iret hC hr hlk d_Mo_plug_82
def m_Mo_told (k0 : Nat) (x1 : Int) (x2 : Int) (N : nS) : Option (Int × nS) :=
  nbd (m_Mo_isPipe k0 x1 N) (fun r1 N2 =>
  if rg r1 then
  if r1 = 0 then
  nlt (up2 N2 k0 0 1) (fun N6 =>
  some (0, N6))
  else
  nbd (m_Mo_in x2 0 3 N2) (fun r9 N10 =>
  if rg r9 then
  if r9 = 0 then
  nlt (up2 N10 k0 0 1) (fun N14 =>
  some (0, N14))
  else
  nlt (up2 N10 k0 0 0) (fun N17 =>
  if x2 = 0 then
  nbd (m_Mo_leastOf k0 x1 N17) (fun r28 N29 =>
  some (r28, N29))
  else
  if x2 = 1 then
  nbd (m_Mo_mostOf k0 x1 N17) (fun r25 N26 =>
  some (r25, N26))
  else
  if x2 = 2 then
  if 0 ≤ x1 ∧ x1 < ((10 : Nat) : Int) then
  some ((((N17 k0 9) - 1) - (N17 (k0 + 9) (Int.toNat x1))), N17)
  else none
  else
  if 0 ≤ x1 ∧ x1 < ((10 : Nat) : Int) then
  some ((N17 (k0 + 10) (Int.toNat x1)), N17)
  else none)
  else none)
  else none)
set_option maxRecDepth 20000 in
theorem k_303 : Cond.methodLink R_Mo 174 y_Mo_mostOf ∈ TT := tt_i 749 (by decide +kernel) (by decide +kernel)
set_option maxRecDepth 20000 in
theorem k_304 : Cond.code y_Mo_mostOf b_Mo_mostOf 4 (some .int) ∈ TT := tt_i 752 (by decide +kernel) (by decide +kernel)
set_option maxRecDepth 20000 in
theorem k_305 : Cond.instanceMethod y_Mo_mostOf ∈ TT := tt_i 751 (by decide +kernel) (by decide +kernel)
set_option maxRecDepth 20000 in
theorem k_306 : Cond.selects R_Mo y_Mo_mostOf y_Mo_mostOf ∈ TT := tt_i 20 (by decide +kernel) (by decide +kernel)
abbrev rm_Mo_told : Room := { frames := 2, cells := 0, slots := 0, locals := 43 }
set_option maxRecDepth 100000 in
set_option maxHeartbeats 4000000 in
theorem c_Mo_told (l : Launch) {D : va_G} {ct : Nat → ClassId} {A : Nat → Prop} {ad : Nat → Nat} {S : nH} (hD : nD ad A S.length) (k0 : Nat) (hp0 : isM S k0) (x1 : Int) (hx1 : rg x1) (x2 : Int) (hx2 : rg x2) (N : nS) (r : Int) (No : nS) (hm : m_Mo_told k0 x1 x2 N = some (r, No)) : nM l y_Mo_told (Cond.code y_Mo_told b_Mo_told 3 (some .int) :: TT) rm_Mo_told D vwCl ct A ad S N [.ref (ad k0), .int (iI x1), .int (iI x2)] (nQi D vwCl ct A ad S r No) := by
  refine nM_of (cc := b_Mo_told) (maxL := 3) (ret := (some .int)) (by decide) rfl (Nat.le_of_ble_eq_true rfl) hD ?_
  intro p e s m below meth c hC hr hlk
  refine nv_lv (lv' := [(0, .ref (ad k0)), (1, .int (iI x1)), (2, .int (iI x2))]) rfl ?_
  rw [m_Mo_told] at hm
  refine nv_aload_n hC d_Mo_told_0 rfl 0 rfl ?_
  refine nv_aload_n hC d_Mo_told_1 rfl 0 rfl ?_
  refine nv_iload_n hC d_Mo_told_2 rfl 1 rfl ?_
  obtain ⟨r1, N2, hq3, hm⟩ := nbd_s hm
  refine nv_calli (x := r1) (N' := N2) (nr_V hC (As := [.int (iI x1)]) (st := [.ref (ad k0)]) hp0.1 rfl (c_Mo_isPipe l hC.2.2.1 k0 hp0 x1 hx1 N r1 N2 hq3) (cwV 1 hC.1.2.2.2.2 (tt_V k_287 k_289 k_290 k_229 k_288) rfl rfl rfl (by decide +kernel) ⟨Nat.le_of_ble_eq_true rfl, Nat.le_of_ble_eq_true rfl⟩) rfl rfl (Nat.le_of_ble_eq_true rfl) ⟨(Nat.le_of_ble_eq_true rfl), (Nat.le_of_ble_eq_true rfl)⟩ d_Mo_told_3) ?_
  obtain ⟨hr4, hm⟩ := ck_s hm
  refine nv_if_eq hC hr4 d_Mo_told_6 (tgt := 22) (by decide) (fun c5 => ?_) (fun c5 => ?_)
  · have hm := if_t c5 hm
    refine nv_iconst hC d_Mo_told_22 ?_
    obtain ⟨N6, e7, hm⟩ := nlt_s hm
    refine nv_putI hC (j := 0) hp0.1 rfl in_Mo (by decide) ty_Mo tyok_Mo nm_Mo k_224 rfl rfl (by decide +kernel) e7 d_Mo_told_23 ?_
    refine nv_aload_n hC d_Mo_told_26 rfl 0 rfl ?_
    refine nv_getIe (v := 1) hC (j := 0) hp0.1 rfl in_Mo (by decide) k_224 rfl d_Mo_told_27 (up2_v e7) ?_
    refine nv_if_le hC ⟨by decide, by decide⟩ d_Mo_told_30 (tgt := 35) (by decide) (fun h9 => absurd h9 (by decide)) (fun _ => ?_)
    refine nv_iconst hC d_Mo_told_33 ?_
    obtain ⟨rfl, rfl⟩ := ret_s hm
    exact nv_iret hC hr hlk d_Mo_told_34
  · have hm := if_f c5 hm
    refine nv_iload_n hC d_Mo_told_9 rfl 2 rfl ?_
    refine nv_iconst hC d_Mo_told_10 ?_
    refine nv_iconst hC d_Mo_told_11 ?_
    obtain ⟨r9, N10, hq11, hm⟩ := nbd_s hm
    refine nv_calli (x := r9) (N' := N10) (nr_S hC (As := [.int (iI x2), .int (iI 0), .int (iI 3)]) (st := [.ref (ad k0)]) (c_Mo_in l hC.2.2.1 x2 hx2 0 ⟨by decide, by decide⟩ 3 ⟨by decide, by decide⟩ N2 r9 N10 hq11) (cwS 3 hC.1.2.2.2.2 (tt_S k_226 k_228 k_229 k_227) rfl rfl rfl (by decide +kernel) ⟨Nat.le_of_ble_eq_true rfl, Nat.le_of_ble_eq_true rfl⟩) rfl rfl (Nat.le_of_ble_eq_true rfl) ⟨(Nat.le_of_ble_eq_true rfl), (Nat.le_of_ble_eq_true rfl)⟩ d_Mo_told_12) ?_
    obtain ⟨hr12, hm⟩ := ck_s hm
    refine nv_if_eq hC hr12 d_Mo_told_15 (tgt := 22) (by decide) (fun c13 => ?_) (fun c13 => ?_)
    · have hm := if_t c13 hm
      refine nv_iconst hC d_Mo_told_22 ?_
      obtain ⟨N14, e15, hm⟩ := nlt_s hm
      refine nv_putI hC (j := 0) hp0.1 rfl in_Mo (by decide) ty_Mo tyok_Mo nm_Mo k_224 rfl rfl (by decide +kernel) e15 d_Mo_told_23 ?_
      refine nv_aload_n hC d_Mo_told_26 rfl 0 rfl ?_
      refine nv_getIe (v := 1) hC (j := 0) hp0.1 rfl in_Mo (by decide) k_224 rfl d_Mo_told_27 (up2_v e15) ?_
      refine nv_if_le hC ⟨by decide, by decide⟩ d_Mo_told_30 (tgt := 35) (by decide) (fun h9 => absurd h9 (by decide)) (fun _ => ?_)
      refine nv_iconst hC d_Mo_told_33 ?_
      obtain ⟨rfl, rfl⟩ := ret_s hm
      exact nv_iret hC hr hlk d_Mo_told_34
    · have hm := if_f c13 hm
      refine nv_iconst hC d_Mo_told_18 ?_
      refine nv_goto hC d_Mo_told_19 (tgt := 23) (by decide) ?_
      obtain ⟨N17, e18, hm⟩ := nlt_s hm
      refine nv_putI hC (j := 0) hp0.1 rfl in_Mo (by decide) ty_Mo tyok_Mo nm_Mo k_224 rfl rfl (by decide +kernel) e18 d_Mo_told_23 ?_
      refine nv_aload_n hC d_Mo_told_26 rfl 0 rfl ?_
      refine nv_getIe (v := 0) hC (j := 0) hp0.1 rfl in_Mo (by decide) k_224 rfl d_Mo_told_27 (up2_v e18) ?_
      refine nv_if_le hC ⟨by decide, by decide⟩ d_Mo_told_30 (tgt := 35) (by decide) (fun _ => ?_) (fun h9 => absurd (by decide) h9)
      refine nv_iload_n hC d_Mo_told_35 rfl 2 rfl ?_
      refine nv_if_ne hC hx2 d_Mo_told_36 (tgt := 47) (by decide) (fun c20 => ?_) (fun c20 => ?_)
      · have hm := if_f c20 hm
        refine nv_iload_n hC d_Mo_told_47 rfl 2 rfl ?_
        refine nv_iconst hC d_Mo_told_48 ?_
        refine nv_icmp_ne hC hx2 ⟨by decide, by decide⟩ d_Mo_told_49 (tgt := 60) (by decide) (fun c21 => ?_) (fun c21 => ?_)
        · have hm := if_f c21 hm
          refine nv_iload_n hC d_Mo_told_60 rfl 2 rfl ?_
          refine nv_iconst hC d_Mo_told_61 ?_
          refine nv_icmp_ne hC hx2 ⟨by decide, by decide⟩ d_Mo_told_62 (tgt := 81) (by decide) (fun c22 => ?_) (fun c22 => ?_)
          · have hm := if_f c22 hm
            refine nv_aload_n hC d_Mo_told_81 rfl 0 rfl ?_
            refine nv_getR hC (j := 14) hp0.1 rfl in_Mo (by decide) k_278 rfl d_Mo_told_82 ?_
            refine nv_iload_n hC d_Mo_told_85 rfl 1 rfl ?_
            obtain ⟨hc23, hm⟩ := ck_s hm
            refine nv_iald hC (isM_10 hp0) (by decide) hc23 d_Mo_told_86 ?_
            obtain ⟨rfl, rfl⟩ := ret_s hm
            exact nv_iret hC hr hlk d_Mo_told_87
          · have hm := if_t c22 hm
            refine nv_aload_n hC d_Mo_told_65 rfl 0 rfl ?_
            refine nv_getI hC (j := 9) hp0.1 rfl in_Mo (by decide) k_258 rfl d_Mo_told_66 ?_
            refine nv_iconst hC d_Mo_told_69 ?_
            refine nv_isub hC d_Mo_told_70 ?_
            refine nv_aload_n hC d_Mo_told_71 rfl 0 rfl ?_
            refine nv_getR hC (j := 13) hp0.1 rfl in_Mo (by decide) k_257 rfl d_Mo_told_72 ?_
            refine nv_iload_n hC d_Mo_told_75 rfl 1 rfl ?_
            obtain ⟨hc24, hm⟩ := ck_s hm
            refine nv_iald hC (isM_9 hp0) (by decide) hc24 d_Mo_told_76 ?_
            refine nv_isub hC d_Mo_told_77 ?_
            refine nv_goto hC d_Mo_told_78 (tgt := 87) (by decide) ?_
            obtain ⟨rfl, rfl⟩ := ret_s hm
            exact nv_iret hC hr hlk d_Mo_told_87
        · have hm := if_t c21 hm
          refine nv_aload_n hC d_Mo_told_52 rfl 0 rfl ?_
          refine nv_iload_n hC d_Mo_told_53 rfl 1 rfl ?_
          obtain ⟨r25, N26, hq27, hm⟩ := nbd_s hm
          refine nv_calli (x := r25) (N' := N26) (nr_V hC (As := [.int (iI x1)]) (st := []) hp0.1 rfl (c_Mo_mostOf l hC.2.2.1 k0 hp0 x1 hx1 N17 r25 N26 hq27) (cwV 1 hC.1.2.2.2.2 (tt_V k_303 k_305 k_306 k_229 k_304) rfl rfl rfl (by decide +kernel) ⟨Nat.le_of_ble_eq_true rfl, Nat.le_of_ble_eq_true rfl⟩) rfl rfl (Nat.le_of_ble_eq_true rfl) ⟨(Nat.le_of_ble_eq_true rfl), (Nat.le_of_ble_eq_true rfl)⟩ d_Mo_told_54) ?_
          refine nv_goto hC d_Mo_told_57 (tgt := 87) (by decide) ?_
          obtain ⟨rfl, rfl⟩ := ret_s hm
          exact nv_iret hC hr hlk d_Mo_told_87
      · have hm := if_t c20 hm
        refine nv_aload_n hC d_Mo_told_39 rfl 0 rfl ?_
        refine nv_iload_n hC d_Mo_told_40 rfl 1 rfl ?_
        obtain ⟨r28, N29, hq30, hm⟩ := nbd_s hm
        refine nv_calli (x := r28) (N' := N29) (nr_V hC (As := [.int (iI x1)]) (st := []) hp0.1 rfl (c_Mo_leastOf l hC.2.2.1 k0 hp0 x1 hx1 N17 r28 N29 hq30) (cwV 1 hC.1.2.2.2.2 (tt_V k_279 k_281 k_282 k_229 k_280) rfl rfl rfl (by decide +kernel) ⟨Nat.le_of_ble_eq_true rfl, Nat.le_of_ble_eq_true rfl⟩) rfl rfl (Nat.le_of_ble_eq_true rfl) ⟨(Nat.le_of_ble_eq_true rfl), (Nat.le_of_ble_eq_true rfl)⟩ d_Mo_told_41) ?_
        refine nv_goto hC d_Mo_told_44 (tgt := 87) (by decide) ?_
        obtain ⟨rfl, rfl⟩ := ret_s hm
        exact nv_iret hC hr hlk d_Mo_told_87
def m_Mo_dead_31 (k0 : Nat) (x1 : Int) (x2 : Int) : Nat → Int → Int → nS → Option ((Int × Int × Int × Int) × nS)
  | 0, _, _, _ => none
  | f + 1, x3, x4, N =>
    if rg (N k0 1) then
    if (N k0 1) ≤ x4 then
    some ((0, 0, x3, x4), N)
    else
    if 0 ≤ x4 ∧ x4 < ((10 : Nat) : Int) then
    if rg (N (k0 + 9) (Int.toNat x4)) then
    if (N (k0 + 9) (Int.toNat x4)) = (-1) then
    if x3 = x2 then
    some ((1, x4, x3, x4), N)
    else
    if rg (x3 + 1) then
    if rg (x4 + 1) then
    m_Mo_dead_31 k0 x1 x2 f (x3 + 1) (x4 + 1) N
    else none
    else none
    else
    if rg (((N k0 9) - 1) - (N (k0 + 9) (Int.toNat x4))) then
    if (((N k0 9) - 1) - (N (k0 + 9) (Int.toNat x4))) < x1 then
    if rg (x3 + 0) then
    if rg (x4 + 1) then
    m_Mo_dead_31 k0 x1 x2 f (x3 + 0) (x4 + 1) N
    else none
    else none
    else
    if x3 = x2 then
    some ((1, x4, x3, x4), N)
    else
    if rg (x3 + 1) then
    if rg (x4 + 1) then
    m_Mo_dead_31 k0 x1 x2 f (x3 + 1) (x4 + 1) N
    else none
    else none
    else none
    else none
    else none
    else none
def m_Mo_dead (k0 : Nat) (x1 : Int) (x2 : Int) (N : nS) : Option (Int × nS) :=
  if x1 < 0 then
  nlt (up2 N k0 0 1) (fun N2 =>
  some (0, N2))
  else
  if x2 < 0 then
  nlt (up2 N k0 0 1) (fun N6 =>
  some (0, N6))
  else
  nlt (up2 N k0 0 0) (fun N9 =>
  nbd (m_Mo_dead_31 k0 x1 x2 FU 0 0 N9) (fun q33 N34 =>
  if q33.1 = 0 then
  some ((-1), N34)
  else
  some (q33.2.1, N34)))
abbrev rm_Mo_dead : Room := { frames := 0, cells := 0, slots := 0, locals := 0 }
set_option maxRecDepth 100000 in
set_option maxHeartbeats 4000000 in
theorem w_Mo_dead_31 {p : Program} {l : Launch} {e : Env} {s : State} {m : MethodId} {args : Array Value} {below : List Frame} {meth : Method} {c : Code} {Q : State → Prop} {D : va_G} {ct : Nat → ClassId} {A : Nat → Prop} {ad : Nat → Nat} {S : nH} (hC : nC p s m args c D vwCl ct A ad S 6 b_Mo_dead R_Mo TT) (k0 : Nat) (hp0 : isM S k0) (x1 : Int) (hx1 : rg x1) (x2 : Int) (hx2 : rg x2) : ∀ (f : Nat) (x3 x4 : Int) (N : nS) (q : Int × Int × Int × Int) (No : nS), m_Mo_dead_31 k0 x1 x2 f x3 x4 N = some (q, No) → rg x3 → rg x4 → (q.1 = 0 → nV p l e rm_Mo_dead s m args below meth c 0 0 Q D vwCl ct A ad S 6 No 108 [(0, .ref (ad k0)), (1, .int (iI x1)), (2, .int (iI x2)), (3, .int (iI q.2.2.1)), (4, .int (iI q.2.2.2))] []) → (q.1 = 1 → nV p l e rm_Mo_dead s m args below meth c 0 0 Q D vwCl ct A ad S 6 No 88 [] [.int (iI q.2.1)]) → nV p l e rm_Mo_dead s m args below meth c 0 0 Q D vwCl ct A ad S 6 N 31 [(0, .ref (ad k0)), (1, .int (iI x1)), (2, .int (iI x2)), (3, .int (iI x3)), (4, .int (iI x4))] [] := by
  intro f
  induction f with
  | zero =>
    intro x3 x4 N q No hm
    rw [m_Mo_dead_31] at hm
    cases hm
  | succ f ih =>
    intro x3 x4 N q No hm hx3 hx4 kx kr
    rw [m_Mo_dead_31] at hm
    refine nv_iload hC d_Mo_dead_31 4 rfl ?_
    refine nv_aload_n hC d_Mo_dead_33 rfl 0 rfl ?_
    refine nv_getI hC (j := 1) hp0.1 rfl in_Mo (by decide) k_225 rfl d_Mo_dead_34 ?_
    obtain ⟨hr12, hm⟩ := ck_s hm
    refine nv_icmp_ge hC hx4 hr12 d_Mo_dead_37 (tgt := 108) (by decide) (fun c13 => ?_) (fun c13 => ?_)
    · have hm := if_t c13 hm
      obtain ⟨rfl, rfl⟩ := ret_s hm
      refine nv_sub (lv' := [(0, .ref (ad k0)), (1, .int (iI x1)), (2, .int (iI x2)), (3, .int (iI x3)), (4, .int (iI x4))]) [0, 1, 2, 3, 4] rfl ?_
      exact kx rfl
    · have hm := if_f c13 hm
      refine nv_aload_n hC d_Mo_dead_40 rfl 0 rfl ?_
      refine nv_getR hC (j := 13) hp0.1 rfl in_Mo (by decide) k_257 rfl d_Mo_dead_41 ?_
      refine nv_iload hC d_Mo_dead_44 4 rfl ?_
      obtain ⟨hc14, hm⟩ := ck_s hm
      refine nv_iald hC (isM_9 hp0) (by decide) hc14 d_Mo_dead_46 ?_
      refine nv_iconst hC d_Mo_dead_47 ?_
      obtain ⟨hr15, hm⟩ := ck_s hm
      refine nv_icmp_eq hC hr15 ⟨by decide, by decide⟩ d_Mo_dead_48 (tgt := 69) (by decide) (fun c16 => ?_) (fun c16 => ?_)
      · have hm := if_t c16 hm
        refine nv_iconst hC d_Mo_dead_69 ?_
        refine nv_goto hC d_Mo_dead_70 (tgt := 74) (by decide) ?_
        refine nv_istore (lv' := [(5, .int (iI 1)), (0, .ref (ad k0)), (1, .int (iI x1)), (2, .int (iI x2)), (3, .int (iI x3)), (4, .int (iI x4))]) hC d_Mo_dead_74 (by decide) rfl ?_
        refine nv_iload hC d_Mo_dead_76 0 rfl ?_
        refine nv_if_eq hC ⟨by decide, by decide⟩ d_Mo_dead_78 (tgt := 89) (by decide) (fun h9 => absurd h9 (by decide)) (fun _ => ?_)
        refine nv_iload_n hC d_Mo_dead_81 rfl 4 rfl ?_
        refine nv_iload_n hC d_Mo_dead_82 rfl 3 rfl ?_
        refine nv_icmp_ne hC hx3 hx2 d_Mo_dead_83 (tgt := 89) (by decide) (fun c18 => ?_) (fun c18 => ?_)
        · have hm := if_f c18 hm
          refine nv_iload_n hC d_Mo_dead_89 rfl 4 rfl ?_
          refine nv_iload hC d_Mo_dead_90 0 rfl ?_
          refine nv_if_eq hC ⟨by decide, by decide⟩ d_Mo_dead_92 (tgt := 99) (by decide) (fun h9 => absurd h9 (by decide)) (fun _ => ?_)
          refine nv_iconst hC d_Mo_dead_95 ?_
          refine nv_goto hC d_Mo_dead_96 (tgt := 100) (by decide) ?_
          refine nv_iadd hC d_Mo_dead_100 ?_
          refine nv_istore_n (lv' := [(3, .int (iI (x3 + 1))), (5, .int (iI 1)), (0, .ref (ad k0)), (1, .int (iI x1)), (2, .int (iI x2)), (4, .int (iI x4))]) hC d_Mo_dead_101 rfl (by decide) rfl ?_
          refine nv_iinc (lv' := [(4, .int (iI (x4 + 1))), (3, .int (iI (x3 + 1))), (5, .int (iI 1)), (0, .ref (ad k0)), (1, .int (iI x1)), (2, .int (iI x2))]) hC d_Mo_dead_102 5 rfl (by decide) rfl ?_
          refine nv_goto hC d_Mo_dead_105 (tgt := 31) (by decide) ?_
          obtain ⟨hr20, hm⟩ := ck_s hm
          obtain ⟨hr21, hm⟩ := ck_s hm
          refine nv_sub (lv' := [(0, .ref (ad k0)), (1, .int (iI x1)), (2, .int (iI x2)), (3, .int (iI (x3 + 1))), (4, .int (iI (x4 + 1)))]) [3, 4, 5, 1, 0] rfl ?_
          exact ih (x3 + 1) (x4 + 1) N q No hm hr20 hr21 kx kr
        · have hm := if_t c18 hm
          refine nv_iload hC d_Mo_dead_86 5 rfl ?_
          obtain ⟨rfl, rfl⟩ := ret_s hm
          refine nv_sub (lv' := []) [] rfl ?_
          exact kr rfl
      · have hm := if_f c16 hm
        refine nv_aload_n hC d_Mo_dead_51 rfl 0 rfl ?_
        refine nv_getI hC (j := 9) hp0.1 rfl in_Mo (by decide) k_258 rfl d_Mo_dead_52 ?_
        refine nv_iconst hC d_Mo_dead_55 ?_
        refine nv_isub hC d_Mo_dead_56 ?_
        refine nv_aload_n hC d_Mo_dead_57 rfl 0 rfl ?_
        refine nv_getR hC (j := 13) hp0.1 rfl in_Mo (by decide) k_257 rfl d_Mo_dead_58 ?_
        refine nv_iload hC d_Mo_dead_61 4 rfl ?_
        refine nv_iald hC (isM_9 hp0) (by decide) hc14 d_Mo_dead_63 ?_
        refine nv_isub hC d_Mo_dead_64 ?_
        refine nv_iload_n hC d_Mo_dead_65 rfl 1 rfl ?_
        obtain ⟨hr22, hm⟩ := ck_s hm
        refine nv_icmp_lt hC hr22 hx1 d_Mo_dead_66 (tgt := 73) (by decide) (fun c23 => ?_) (fun c23 => ?_)
        · have hm := if_t c23 hm
          refine nv_iconst hC d_Mo_dead_73 ?_
          refine nv_istore (lv' := [(5, .int (iI 0)), (0, .ref (ad k0)), (1, .int (iI x1)), (2, .int (iI x2)), (3, .int (iI x3)), (4, .int (iI x4))]) hC d_Mo_dead_74 (by decide) rfl ?_
          refine nv_iload hC d_Mo_dead_76 0 rfl ?_
          refine nv_if_eq hC ⟨by decide, by decide⟩ d_Mo_dead_78 (tgt := 89) (by decide) (fun _ => ?_) (fun h9 => absurd (by decide) h9)
          refine nv_iload_n hC d_Mo_dead_89 rfl 4 rfl ?_
          refine nv_iload hC d_Mo_dead_90 0 rfl ?_
          refine nv_if_eq hC ⟨by decide, by decide⟩ d_Mo_dead_92 (tgt := 99) (by decide) (fun _ => ?_) (fun h9 => absurd (by decide) h9)
          refine nv_iconst hC d_Mo_dead_99 ?_
          refine nv_iadd hC d_Mo_dead_100 ?_
          refine nv_istore_n (lv' := [(3, .int (iI (x3 + 0))), (5, .int (iI 0)), (0, .ref (ad k0)), (1, .int (iI x1)), (2, .int (iI x2)), (4, .int (iI x4))]) hC d_Mo_dead_101 rfl (by decide) rfl ?_
          refine nv_iinc (lv' := [(4, .int (iI (x4 + 1))), (3, .int (iI (x3 + 0))), (5, .int (iI 0)), (0, .ref (ad k0)), (1, .int (iI x1)), (2, .int (iI x2))]) hC d_Mo_dead_102 5 rfl (by decide) rfl ?_
          refine nv_goto hC d_Mo_dead_105 (tgt := 31) (by decide) ?_
          obtain ⟨hr26, hm⟩ := ck_s hm
          obtain ⟨hr27, hm⟩ := ck_s hm
          refine nv_sub (lv' := [(0, .ref (ad k0)), (1, .int (iI x1)), (2, .int (iI x2)), (3, .int (iI (x3 + 0))), (4, .int (iI (x4 + 1)))]) [3, 4, 5, 1, 0] rfl ?_
          exact ih (x3 + 0) (x4 + 1) N q No hm hr26 hr27 kx kr
        · have hm := if_f c23 hm
          refine nv_iconst hC d_Mo_dead_69 ?_
          refine nv_goto hC d_Mo_dead_70 (tgt := 74) (by decide) ?_
          refine nv_istore (lv' := [(5, .int (iI 1)), (0, .ref (ad k0)), (1, .int (iI x1)), (2, .int (iI x2)), (3, .int (iI x3)), (4, .int (iI x4))]) hC d_Mo_dead_74 (by decide) rfl ?_
          refine nv_iload hC d_Mo_dead_76 0 rfl ?_
          refine nv_if_eq hC ⟨by decide, by decide⟩ d_Mo_dead_78 (tgt := 89) (by decide) (fun h9 => absurd h9 (by decide)) (fun _ => ?_)
          refine nv_iload_n hC d_Mo_dead_81 rfl 4 rfl ?_
          refine nv_iload_n hC d_Mo_dead_82 rfl 3 rfl ?_
          refine nv_icmp_ne hC hx3 hx2 d_Mo_dead_83 (tgt := 89) (by decide) (fun c29 => ?_) (fun c29 => ?_)
          · have hm := if_f c29 hm
            refine nv_iload_n hC d_Mo_dead_89 rfl 4 rfl ?_
            refine nv_iload hC d_Mo_dead_90 0 rfl ?_
            refine nv_if_eq hC ⟨by decide, by decide⟩ d_Mo_dead_92 (tgt := 99) (by decide) (fun h9 => absurd h9 (by decide)) (fun _ => ?_)
            refine nv_iconst hC d_Mo_dead_95 ?_
            refine nv_goto hC d_Mo_dead_96 (tgt := 100) (by decide) ?_
            refine nv_iadd hC d_Mo_dead_100 ?_
            refine nv_istore_n (lv' := [(3, .int (iI (x3 + 1))), (5, .int (iI 1)), (0, .ref (ad k0)), (1, .int (iI x1)), (2, .int (iI x2)), (4, .int (iI x4))]) hC d_Mo_dead_101 rfl (by decide) rfl ?_
            refine nv_iinc (lv' := [(4, .int (iI (x4 + 1))), (3, .int (iI (x3 + 1))), (5, .int (iI 1)), (0, .ref (ad k0)), (1, .int (iI x1)), (2, .int (iI x2))]) hC d_Mo_dead_102 5 rfl (by decide) rfl ?_
            refine nv_goto hC d_Mo_dead_105 (tgt := 31) (by decide) ?_
            obtain ⟨hr31, hm⟩ := ck_s hm
            obtain ⟨hr32, hm⟩ := ck_s hm
            refine nv_sub (lv' := [(0, .ref (ad k0)), (1, .int (iI x1)), (2, .int (iI x2)), (3, .int (iI (x3 + 1))), (4, .int (iI (x4 + 1)))]) [3, 4, 5, 1, 0] rfl ?_
            exact ih (x3 + 1) (x4 + 1) N q No hm hr31 hr32 kx kr
          · have hm := if_t c29 hm
            refine nv_iload hC d_Mo_dead_86 5 rfl ?_
            obtain ⟨rfl, rfl⟩ := ret_s hm
            refine nv_sub (lv' := []) [] rfl ?_
            exact kr rfl
set_option maxRecDepth 100000 in
set_option maxHeartbeats 4000000 in
theorem c_Mo_dead (l : Launch) {D : va_G} {ct : Nat → ClassId} {A : Nat → Prop} {ad : Nat → Nat} {S : nH} (hD : nD ad A S.length) (k0 : Nat) (hp0 : isM S k0) (x1 : Int) (hx1 : rg x1) (x2 : Int) (hx2 : rg x2) (N : nS) (r : Int) (No : nS) (hm : m_Mo_dead k0 x1 x2 N = some (r, No)) : nM l y_Mo_dead (Cond.code y_Mo_dead b_Mo_dead 6 (some .int) :: TT) rm_Mo_dead D vwCl ct A ad S N [.ref (ad k0), .int (iI x1), .int (iI x2)] (nQi D vwCl ct A ad S r No) := by
  refine nM_of (cc := b_Mo_dead) (maxL := 6) (ret := (some .int)) (by decide) rfl (Nat.le_of_ble_eq_true rfl) hD ?_
  intro p e s m below meth c hC hr hlk
  refine nv_lv (lv' := [(0, .ref (ad k0)), (1, .int (iI x1)), (2, .int (iI x2))]) rfl ?_
  rw [m_Mo_dead] at hm
  refine nv_aload_n hC d_Mo_dead_0 rfl 0 rfl ?_
  refine nv_iload_n hC d_Mo_dead_1 rfl 1 rfl ?_
  refine nv_if_lt hC hx1 d_Mo_dead_2 (tgt := 13) (by decide) (fun c1 => ?_) (fun c1 => ?_)
  · have hm := if_t c1 hm
    refine nv_iconst hC d_Mo_dead_13 ?_
    obtain ⟨N2, e3, hm⟩ := nlt_s hm
    refine nv_putI hC (j := 0) hp0.1 rfl in_Mo (by decide) ty_Mo tyok_Mo nm_Mo k_224 rfl rfl (by decide +kernel) e3 d_Mo_dead_14 ?_
    refine nv_aload_n hC d_Mo_dead_17 rfl 0 rfl ?_
    refine nv_getIe (v := 1) hC (j := 0) hp0.1 rfl in_Mo (by decide) k_224 rfl d_Mo_dead_18 (up2_v e3) ?_
    refine nv_if_le hC ⟨by decide, by decide⟩ d_Mo_dead_21 (tgt := 26) (by decide) (fun h9 => absurd h9 (by decide)) (fun _ => ?_)
    refine nv_iconst hC d_Mo_dead_24 ?_
    obtain ⟨rfl, rfl⟩ := ret_s hm
    exact nv_iret hC hr hlk d_Mo_dead_25
  · have hm := if_f c1 hm
    refine nv_iload_n hC d_Mo_dead_5 rfl 2 rfl ?_
    refine nv_if_lt hC hx2 d_Mo_dead_6 (tgt := 13) (by decide) (fun c5 => ?_) (fun c5 => ?_)
    · have hm := if_t c5 hm
      refine nv_iconst hC d_Mo_dead_13 ?_
      obtain ⟨N6, e7, hm⟩ := nlt_s hm
      refine nv_putI hC (j := 0) hp0.1 rfl in_Mo (by decide) ty_Mo tyok_Mo nm_Mo k_224 rfl rfl (by decide +kernel) e7 d_Mo_dead_14 ?_
      refine nv_aload_n hC d_Mo_dead_17 rfl 0 rfl ?_
      refine nv_getIe (v := 1) hC (j := 0) hp0.1 rfl in_Mo (by decide) k_224 rfl d_Mo_dead_18 (up2_v e7) ?_
      refine nv_if_le hC ⟨by decide, by decide⟩ d_Mo_dead_21 (tgt := 26) (by decide) (fun h9 => absurd h9 (by decide)) (fun _ => ?_)
      refine nv_iconst hC d_Mo_dead_24 ?_
      obtain ⟨rfl, rfl⟩ := ret_s hm
      exact nv_iret hC hr hlk d_Mo_dead_25
    · have hm := if_f c5 hm
      refine nv_iconst hC d_Mo_dead_9 ?_
      refine nv_goto hC d_Mo_dead_10 (tgt := 14) (by decide) ?_
      obtain ⟨N9, e10, hm⟩ := nlt_s hm
      refine nv_putI hC (j := 0) hp0.1 rfl in_Mo (by decide) ty_Mo tyok_Mo nm_Mo k_224 rfl rfl (by decide +kernel) e10 d_Mo_dead_14 ?_
      refine nv_aload_n hC d_Mo_dead_17 rfl 0 rfl ?_
      refine nv_getIe (v := 0) hC (j := 0) hp0.1 rfl in_Mo (by decide) k_224 rfl d_Mo_dead_18 (up2_v e10) ?_
      refine nv_if_le hC ⟨by decide, by decide⟩ d_Mo_dead_21 (tgt := 26) (by decide) (fun _ => ?_) (fun h9 => absurd (by decide) h9)
      refine nv_iconst hC d_Mo_dead_26 ?_
      refine nv_istore_n (lv' := [(3, .int (iI 0)), (0, .ref (ad k0)), (1, .int (iI x1)), (2, .int (iI x2))]) hC d_Mo_dead_27 rfl (by decide) rfl ?_
      refine nv_iconst hC d_Mo_dead_28 ?_
      refine nv_istore (lv' := [(4, .int (iI 0)), (3, .int (iI 0)), (0, .ref (ad k0)), (1, .int (iI x1)), (2, .int (iI x2))]) hC d_Mo_dead_29 (by decide) rfl ?_
      obtain ⟨q33, N34, hq35, hm⟩ := nbd_s hm
      refine nv_sub (lv' := [(0, .ref (ad k0)), (1, .int (iI x1)), (2, .int (iI x2)), (3, .int (iI 0)), (4, .int (iI 0))]) [2, 3, 4, 1, 0] rfl ?_
      by_cases c36 : q33.1 = 0
      · have hm := if_t c36 hm
        refine w_Mo_dead_31 hC k0 hp0 x1 hx1 x2 hx2 FU 0 0 N9 q33 N34 hq35 ⟨by decide, by decide⟩ ⟨by decide, by decide⟩ (fun _ => ?_) (fun h9 => absurd (c36.symm.trans h9) (by decide))
        refine nv_iconst hC d_Mo_dead_108 ?_
        obtain ⟨rfl, rfl⟩ := ret_s hm
        exact nv_iret hC hr hlk d_Mo_dead_109
      · have hm := if_f c36 hm
        refine w_Mo_dead_31 hC k0 hp0 x1 hx1 x2 hx2 FU 0 0 N9 q33 N34 hq35 ⟨by decide, by decide⟩ ⟨by decide, by decide⟩ (fun h9 => absurd h9 c36) (fun _ => ?_)
        obtain ⟨rfl, rfl⟩ := ret_s hm
        exact nv_iret hC hr hlk d_Mo_dead_88
def m_Mo_warm_59 (k0 : Nat) (x1 : Int) (x2 : Int) (x4 : Int) : Nat → Int → Int → nS → Option ((Int × Int × Int × Int) × nS)
  | 0, _, _, _ => none
  | f + 1, x3, x5, N =>
    if x5 < 0 then
    some ((0, 0, x3, x5), N)
    else
    if 0 ≤ ((12 * x4) + x5) ∧ ((12 * x4) + x5) < ((120 : Nat) : Int) then
    if rg (N (k0 + 8) (Int.toNat ((12 * x4) + x5))) then
    if (N (k0 + 8) (Int.toNat ((12 * x4) + x5))) < x2 then
    if rg (x3 + (N (k0 + 7) (Int.toNat ((12 * x4) + x5)))) then
    if rg (x5 + (-1)) then
    m_Mo_warm_59 k0 x1 x2 x4 f (x3 + (N (k0 + 7) (Int.toNat ((12 * x4) + x5)))) (x5 + (-1)) N
    else none
    else none
    else
    some ((1, x3, x3, x5), N)
    else none
    else none
def m_Mo_warm_42 (k0 : Nat) (x1 : Int) (x2 : Int) : Nat → Int → Int → nS → Option ((Int × Int × Int × Int) × nS)
  | 0, _, _, _ => none
  | f + 1, x3, x4, N =>
    if x4 = (-1) then
    some ((0, 0, x3, x4), N)
    else
    if 0 ≤ x4 ∧ x4 < ((10 : Nat) : Int) then
    if rg ((N (k0 + 6) (Int.toNat x4)) - 1) then
    nbd (m_Mo_warm_59 k0 x1 x2 x4 FU x3 ((N (k0 + 6) (Int.toNat x4)) - 1) N) (fun q29 N30 =>
    if q29.1 = 0 then
    if rg q29.2.2.1 then
    if rg (N30 (k0 + 1) (Int.toNat x4)) then
    m_Mo_warm_42 k0 x1 x2 f q29.2.2.1 (N30 (k0 + 1) (Int.toNat x4)) N30
    else none
    else none
    else
    some ((1, q29.2.1, 0, 0), N30))
    else none
    else none
def m_Mo_warm (k0 : Nat) (x1 : Int) (x2 : Int) (N : nS) : Option (Int × nS) :=
  nbd (m_Mo_isPipe k0 x1 N) (fun r1 N2 =>
  if rg r1 then
  if r1 = 0 then
  nlt (up2 N2 k0 0 1) (fun N6 =>
  some (0, N6))
  else
  nbd (m_Mo_in x2 0 10000 N2) (fun r9 N10 =>
  if rg r9 then
  if r9 = 0 then
  nlt (up2 N10 k0 0 1) (fun N14 =>
  some (0, N14))
  else
  nlt (up2 N10 k0 0 0) (fun N17 =>
  nbd (m_Mo_warm_42 k0 x1 x2 FU 0 x1 N17) (fun q35 N36 =>
  if q35.1 = 0 then
  if rg (N36 k0 7) then
  if (N36 k0 7) < x2 then
  some ((-1), N36)
  else
  some (q35.2.2.1, N36)
  else none
  else
  some (q35.2.1, N36)))
  else none)
  else none)
abbrev rm_Mo_warm : Room := { frames := 2, cells := 0, slots := 0, locals := 43 }
set_option maxRecDepth 100000 in
set_option maxHeartbeats 4000000 in
theorem w_Mo_warm_59 {p : Program} {l : Launch} {e : Env} {s : State} {m : MethodId} {args : Array Value} {below : List Frame} {meth : Method} {c : Code} {Q : State → Prop} {D : va_G} {ct : Nat → ClassId} {A : Nat → Prop} {ad : Nat → Nat} {S : nH} (hC : nC p s m args c D vwCl ct A ad S 6 b_Mo_warm R_Mo TT) (k0 : Nat) (hp0 : isM S k0) (x1 : Int) (hx1 : rg x1) (x2 : Int) (hx2 : rg x2) (x4 : Int) (hx4 : rg x4) : ∀ (f : Nat) (x3 x5 : Int) (N : nS) (q : Int × Int × Int × Int) (No : nS), m_Mo_warm_59 k0 x1 x2 x4 f x3 x5 N = some (q, No) → rg x3 → rg x5 → (q.1 = 0 → nV p l e rm_Mo_warm s m args below meth c 0 0 Q D vwCl ct A ad S 6 No 105 [(0, .ref (ad k0)), (1, .int (iI x1)), (2, .int (iI x2)), (3, .int (iI q.2.2.1)), (4, .int (iI x4)), (5, .int (iI q.2.2.2))] []) → (q.1 = 1 → nV p l e rm_Mo_warm s m args below meth c 0 0 Q D vwCl ct A ad S 6 No 82 [] [.int (iI q.2.1)]) → nV p l e rm_Mo_warm s m args below meth c 0 0 Q D vwCl ct A ad S 6 N 59 [(0, .ref (ad k0)), (1, .int (iI x1)), (2, .int (iI x2)), (3, .int (iI x3)), (4, .int (iI x4)), (5, .int (iI x5))] [] := by
  intro f
  induction f with
  | zero =>
    intro x3 x5 N q No hm
    rw [m_Mo_warm_59] at hm
    cases hm
  | succ f ih =>
    intro x3 x5 N q No hm hx3 hx5 kx kr
    rw [m_Mo_warm_59] at hm
    refine nv_iload hC d_Mo_warm_59 5 rfl ?_
    refine nv_if_lt hC hx5 d_Mo_warm_61 (tgt := 105) (by decide) (fun c22 => ?_) (fun c22 => ?_)
    · have hm := if_t c22 hm
      obtain ⟨rfl, rfl⟩ := ret_s hm
      refine nv_sub (lv' := [(0, .ref (ad k0)), (1, .int (iI x1)), (2, .int (iI x2)), (3, .int (iI x3)), (4, .int (iI x4)), (5, .int (iI x5))]) [0, 1, 2, 3, 4, 5] rfl ?_
      exact kx rfl
    · have hm := if_f c22 hm
      refine nv_aload_n hC d_Mo_warm_64 rfl 0 rfl ?_
      refine nv_getR hC (j := 12) hp0.1 rfl in_Mo (by decide) k_244 rfl d_Mo_warm_65 ?_
      refine nv_bipush hC (z := 12) d_Mo_warm_68 rfl ?_
      refine nv_iload hC d_Mo_warm_70 4 rfl ?_
      refine nv_imul hC d_Mo_warm_72 ?_
      refine nv_iload hC d_Mo_warm_73 5 rfl ?_
      refine nv_iadd hC d_Mo_warm_75 ?_
      obtain ⟨hc23, hm⟩ := ck_s hm
      refine nv_iald hC (isM_8 hp0) (by decide) hc23 d_Mo_warm_76 ?_
      refine nv_iload_n hC d_Mo_warm_77 rfl 2 rfl ?_
      obtain ⟨hr24, hm⟩ := ck_s hm
      refine nv_icmp_lt hC hr24 hx2 d_Mo_warm_78 (tgt := 83) (by decide) (fun c25 => ?_) (fun c25 => ?_)
      · have hm := if_t c25 hm
        refine nv_iload_n hC d_Mo_warm_83 rfl 3 rfl ?_
        refine nv_aload_n hC d_Mo_warm_84 rfl 0 rfl ?_
        refine nv_getR hC (j := 11) hp0.1 rfl in_Mo (by decide) k_243 rfl d_Mo_warm_85 ?_
        refine nv_bipush hC (z := 12) d_Mo_warm_88 rfl ?_
        refine nv_iload hC d_Mo_warm_90 4 rfl ?_
        refine nv_imul hC d_Mo_warm_92 ?_
        refine nv_iload hC d_Mo_warm_93 5 rfl ?_
        refine nv_iadd hC d_Mo_warm_95 ?_
        refine nv_iald hC (isM_7 hp0) (by decide) hc23 d_Mo_warm_96 ?_
        refine nv_iadd hC d_Mo_warm_97 ?_
        refine nv_istore_n (lv' := [(3, .int (iI (x3 + (N (k0 + 7) (Int.toNat ((12 * x4) + x5)))))), (0, .ref (ad k0)), (1, .int (iI x1)), (2, .int (iI x2)), (4, .int (iI x4)), (5, .int (iI x5))]) hC d_Mo_warm_98 rfl (by decide) rfl ?_
        refine nv_iinc (lv' := [(5, .int (iI (x5 + (-1)))), (3, .int (iI (x3 + (N (k0 + 7) (Int.toNat ((12 * x4) + x5)))))), (0, .ref (ad k0)), (1, .int (iI x1)), (2, .int (iI x2)), (4, .int (iI x4))]) hC d_Mo_warm_99 5 rfl (by decide) rfl ?_
        refine nv_goto hC d_Mo_warm_102 (tgt := 59) (by decide) ?_
        obtain ⟨hr26, hm⟩ := ck_s hm
        obtain ⟨hr27, hm⟩ := ck_s hm
        refine nv_sub (lv' := [(0, .ref (ad k0)), (1, .int (iI x1)), (2, .int (iI x2)), (3, .int (iI (x3 + (N (k0 + 7) (Int.toNat ((12 * x4) + x5)))))), (4, .int (iI x4)), (5, .int (iI (x5 + (-1))))]) [2, 3, 4, 1, 5, 0] rfl ?_
        exact ih (x3 + (N (k0 + 7) (Int.toNat ((12 * x4) + x5)))) (x5 + (-1)) N q No hm hr26 hr27 kx kr
      · have hm := if_f c25 hm
        refine nv_iload_n hC d_Mo_warm_81 rfl 3 rfl ?_
        obtain ⟨rfl, rfl⟩ := ret_s hm
        refine nv_sub (lv' := []) [] rfl ?_
        exact kr rfl
set_option maxRecDepth 100000 in
set_option maxHeartbeats 4000000 in
theorem w_Mo_warm_42 {p : Program} {l : Launch} {e : Env} {s : State} {m : MethodId} {args : Array Value} {below : List Frame} {meth : Method} {c : Code} {Q : State → Prop} {D : va_G} {ct : Nat → ClassId} {A : Nat → Prop} {ad : Nat → Nat} {S : nH} (hC : nC p s m args c D vwCl ct A ad S 6 b_Mo_warm R_Mo TT) (k0 : Nat) (hp0 : isM S k0) (x1 : Int) (hx1 : rg x1) (x2 : Int) (hx2 : rg x2) : ∀ (f : Nat) (x3 x4 : Int) (N : nS) (q : Int × Int × Int × Int) (No : nS), m_Mo_warm_42 k0 x1 x2 f x3 x4 N = some (q, No) → rg x3 → rg x4 → (q.1 = 0 → nV p l e rm_Mo_warm s m args below meth c 0 0 Q D vwCl ct A ad S 6 No 117 [(0, .ref (ad k0)), (1, .int (iI x1)), (2, .int (iI x2)), (3, .int (iI q.2.2.1)), (4, .int (iI q.2.2.2))] []) → (q.1 = 1 → nV p l e rm_Mo_warm s m args below meth c 0 0 Q D vwCl ct A ad S 6 No 82 [] [.int (iI q.2.1)]) → nV p l e rm_Mo_warm s m args below meth c 0 0 Q D vwCl ct A ad S 6 N 42 [(0, .ref (ad k0)), (1, .int (iI x1)), (2, .int (iI x2)), (3, .int (iI x3)), (4, .int (iI x4))] [] := by
  intro f
  induction f with
  | zero =>
    intro x3 x4 N q No hm
    rw [m_Mo_warm_42] at hm
    cases hm
  | succ f ih =>
    intro x3 x4 N q No hm hx3 hx4 kx kr
    rw [m_Mo_warm_42] at hm
    refine nv_iload hC d_Mo_warm_42 4 rfl ?_
    refine nv_iconst hC d_Mo_warm_44 ?_
    refine nv_icmp_eq hC hx4 ⟨by decide, by decide⟩ d_Mo_warm_45 (tgt := 117) (by decide) (fun c20 => ?_) (fun c20 => ?_)
    · have hm := if_t c20 hm
      obtain ⟨rfl, rfl⟩ := ret_s hm
      refine nv_sub (lv' := [(0, .ref (ad k0)), (1, .int (iI x1)), (2, .int (iI x2)), (3, .int (iI x3)), (4, .int (iI x4))]) [0, 1, 2, 3, 4] rfl ?_
      exact kx rfl
    · have hm := if_f c20 hm
      refine nv_aload_n hC d_Mo_warm_48 rfl 0 rfl ?_
      refine nv_getR hC (j := 10) hp0.1 rfl in_Mo (by decide) k_242 rfl d_Mo_warm_49 ?_
      refine nv_iload hC d_Mo_warm_52 4 rfl ?_
      obtain ⟨hc21, hm⟩ := ck_s hm
      refine nv_iald hC (isM_6 hp0) (by decide) hc21 d_Mo_warm_54 ?_
      refine nv_iconst hC d_Mo_warm_55 ?_
      refine nv_isub hC d_Mo_warm_56 ?_
      refine nv_istore (lv' := [(5, .int (iI ((N (k0 + 6) (Int.toNat x4)) - 1))), (0, .ref (ad k0)), (1, .int (iI x1)), (2, .int (iI x2)), (3, .int (iI x3)), (4, .int (iI x4))]) hC d_Mo_warm_57 (by decide) rfl ?_
      obtain ⟨hr28, hm⟩ := ck_s hm
      obtain ⟨q29, N30, hq31, hm⟩ := nbd_s hm
      refine nv_sub (lv' := [(0, .ref (ad k0)), (1, .int (iI x1)), (2, .int (iI x2)), (3, .int (iI x3)), (4, .int (iI x4)), (5, .int (iI ((N (k0 + 6) (Int.toNat x4)) - 1)))]) [1, 2, 3, 4, 5, 0] rfl ?_
      by_cases c32 : q29.1 = 0
      · have hm := if_t c32 hm
        refine w_Mo_warm_59 hC k0 hp0 x1 hx1 x2 hx2 x4 hx4 FU x3 ((N (k0 + 6) (Int.toNat x4)) - 1) N q29 N30 hq31 hx3 hr28 (fun _ => ?_) (fun h9 => absurd (c32.symm.trans h9) (by decide))
        refine nv_aload_n hC d_Mo_warm_105 rfl 0 rfl ?_
        refine nv_getR hC (j := 2) hp0.1 rfl in_Mo (by decide) k_260 rfl d_Mo_warm_106 ?_
        refine nv_iload hC d_Mo_warm_109 4 rfl ?_
        refine nv_iald hC (isM_1 hp0) (by decide) hc21 d_Mo_warm_111 ?_
        refine nv_istore (lv' := [(4, .int (iI (N30 (k0 + 1) (Int.toNat x4)))), (0, .ref (ad k0)), (1, .int (iI x1)), (2, .int (iI x2)), (3, .int (iI q29.2.2.1)), (5, .int (iI q29.2.2.2))]) hC d_Mo_warm_112 (by decide) rfl ?_
        refine nv_goto hC d_Mo_warm_114 (tgt := 42) (by decide) ?_
        obtain ⟨hr33, hm⟩ := ck_s hm
        obtain ⟨hr34, hm⟩ := ck_s hm
        refine nv_sub (lv' := [(0, .ref (ad k0)), (1, .int (iI x1)), (2, .int (iI x2)), (3, .int (iI q29.2.2.1)), (4, .int (iI (N30 (k0 + 1) (Int.toNat x4))))]) [1, 2, 3, 4, 0] rfl ?_
        exact ih q29.2.2.1 (N30 (k0 + 1) (Int.toNat x4)) N30 q No hm hr33 hr34 kx kr
      · have hm := if_f c32 hm
        refine w_Mo_warm_59 hC k0 hp0 x1 hx1 x2 hx2 x4 hx4 FU x3 ((N (k0 + 6) (Int.toNat x4)) - 1) N q29 N30 hq31 hx3 hr28 (fun h9 => absurd h9 c32) (fun _ => ?_)
        obtain ⟨rfl, rfl⟩ := ret_s hm
        refine nv_sub (lv' := []) [] rfl ?_
        exact kr rfl
set_option maxRecDepth 100000 in
set_option maxHeartbeats 4000000 in
theorem c_Mo_warm (l : Launch) {D : va_G} {ct : Nat → ClassId} {A : Nat → Prop} {ad : Nat → Nat} {S : nH} (hD : nD ad A S.length) (k0 : Nat) (hp0 : isM S k0) (x1 : Int) (hx1 : rg x1) (x2 : Int) (hx2 : rg x2) (N : nS) (r : Int) (No : nS) (hm : m_Mo_warm k0 x1 x2 N = some (r, No)) : nM l y_Mo_warm (Cond.code y_Mo_warm b_Mo_warm 6 (some .int) :: TT) rm_Mo_warm D vwCl ct A ad S N [.ref (ad k0), .int (iI x1), .int (iI x2)] (nQi D vwCl ct A ad S r No) := by
  refine nM_of (cc := b_Mo_warm) (maxL := 6) (ret := (some .int)) (by decide) rfl (Nat.le_of_ble_eq_true rfl) hD ?_
  intro p e s m below meth c hC hr hlk
  refine nv_lv (lv' := [(0, .ref (ad k0)), (1, .int (iI x1)), (2, .int (iI x2))]) rfl ?_
  rw [m_Mo_warm] at hm
  refine nv_aload_n hC d_Mo_warm_0 rfl 0 rfl ?_
  refine nv_aload_n hC d_Mo_warm_1 rfl 0 rfl ?_
  refine nv_iload_n hC d_Mo_warm_2 rfl 1 rfl ?_
  obtain ⟨r1, N2, hq3, hm⟩ := nbd_s hm
  refine nv_calli (x := r1) (N' := N2) (nr_V hC (As := [.int (iI x1)]) (st := [.ref (ad k0)]) hp0.1 rfl (c_Mo_isPipe l hC.2.2.1 k0 hp0 x1 hx1 N r1 N2 hq3) (cwV 1 hC.1.2.2.2.2 (tt_V k_287 k_289 k_290 k_229 k_288) rfl rfl rfl (by decide +kernel) ⟨Nat.le_of_ble_eq_true rfl, Nat.le_of_ble_eq_true rfl⟩) rfl rfl (Nat.le_of_ble_eq_true rfl) ⟨(Nat.le_of_ble_eq_true rfl), (Nat.le_of_ble_eq_true rfl)⟩ d_Mo_warm_3) ?_
  obtain ⟨hr4, hm⟩ := ck_s hm
  refine nv_if_eq hC hr4 d_Mo_warm_6 (tgt := 24) (by decide) (fun c5 => ?_) (fun c5 => ?_)
  · have hm := if_t c5 hm
    refine nv_iconst hC d_Mo_warm_24 ?_
    obtain ⟨N6, e7, hm⟩ := nlt_s hm
    refine nv_putI hC (j := 0) hp0.1 rfl in_Mo (by decide) ty_Mo tyok_Mo nm_Mo k_224 rfl rfl (by decide +kernel) e7 d_Mo_warm_25 ?_
    refine nv_aload_n hC d_Mo_warm_28 rfl 0 rfl ?_
    refine nv_getIe (v := 1) hC (j := 0) hp0.1 rfl in_Mo (by decide) k_224 rfl d_Mo_warm_29 (up2_v e7) ?_
    refine nv_if_le hC ⟨by decide, by decide⟩ d_Mo_warm_32 (tgt := 37) (by decide) (fun h9 => absurd h9 (by decide)) (fun _ => ?_)
    refine nv_iconst hC d_Mo_warm_35 ?_
    obtain ⟨rfl, rfl⟩ := ret_s hm
    exact nv_iret hC hr hlk d_Mo_warm_36
  · have hm := if_f c5 hm
    refine nv_iload_n hC d_Mo_warm_9 rfl 2 rfl ?_
    refine nv_iconst hC d_Mo_warm_10 ?_
    refine nv_sipush hC (z := 10000) d_Mo_warm_11 rfl ?_
    obtain ⟨r9, N10, hq11, hm⟩ := nbd_s hm
    refine nv_calli (x := r9) (N' := N10) (nr_S hC (As := [.int (iI x2), .int (iI 0), .int (iI 10000)]) (st := [.ref (ad k0)]) (c_Mo_in l hC.2.2.1 x2 hx2 0 ⟨by decide, by decide⟩ 10000 ⟨by decide, by decide⟩ N2 r9 N10 hq11) (cwS 3 hC.1.2.2.2.2 (tt_S k_226 k_228 k_229 k_227) rfl rfl rfl (by decide +kernel) ⟨Nat.le_of_ble_eq_true rfl, Nat.le_of_ble_eq_true rfl⟩) rfl rfl (Nat.le_of_ble_eq_true rfl) ⟨(Nat.le_of_ble_eq_true rfl), (Nat.le_of_ble_eq_true rfl)⟩ d_Mo_warm_14) ?_
    obtain ⟨hr12, hm⟩ := ck_s hm
    refine nv_if_eq hC hr12 d_Mo_warm_17 (tgt := 24) (by decide) (fun c13 => ?_) (fun c13 => ?_)
    · have hm := if_t c13 hm
      refine nv_iconst hC d_Mo_warm_24 ?_
      obtain ⟨N14, e15, hm⟩ := nlt_s hm
      refine nv_putI hC (j := 0) hp0.1 rfl in_Mo (by decide) ty_Mo tyok_Mo nm_Mo k_224 rfl rfl (by decide +kernel) e15 d_Mo_warm_25 ?_
      refine nv_aload_n hC d_Mo_warm_28 rfl 0 rfl ?_
      refine nv_getIe (v := 1) hC (j := 0) hp0.1 rfl in_Mo (by decide) k_224 rfl d_Mo_warm_29 (up2_v e15) ?_
      refine nv_if_le hC ⟨by decide, by decide⟩ d_Mo_warm_32 (tgt := 37) (by decide) (fun h9 => absurd h9 (by decide)) (fun _ => ?_)
      refine nv_iconst hC d_Mo_warm_35 ?_
      obtain ⟨rfl, rfl⟩ := ret_s hm
      exact nv_iret hC hr hlk d_Mo_warm_36
    · have hm := if_f c13 hm
      refine nv_iconst hC d_Mo_warm_20 ?_
      refine nv_goto hC d_Mo_warm_21 (tgt := 25) (by decide) ?_
      obtain ⟨N17, e18, hm⟩ := nlt_s hm
      refine nv_putI hC (j := 0) hp0.1 rfl in_Mo (by decide) ty_Mo tyok_Mo nm_Mo k_224 rfl rfl (by decide +kernel) e18 d_Mo_warm_25 ?_
      refine nv_aload_n hC d_Mo_warm_28 rfl 0 rfl ?_
      refine nv_getIe (v := 0) hC (j := 0) hp0.1 rfl in_Mo (by decide) k_224 rfl d_Mo_warm_29 (up2_v e18) ?_
      refine nv_if_le hC ⟨by decide, by decide⟩ d_Mo_warm_32 (tgt := 37) (by decide) (fun _ => ?_) (fun h9 => absurd (by decide) h9)
      refine nv_iconst hC d_Mo_warm_37 ?_
      refine nv_istore_n (lv' := [(3, .int (iI 0)), (0, .ref (ad k0)), (1, .int (iI x1)), (2, .int (iI x2))]) hC d_Mo_warm_38 rfl (by decide) rfl ?_
      refine nv_iload_n hC d_Mo_warm_39 rfl 2 rfl ?_
      refine nv_istore (lv' := [(4, .int (iI x1)), (3, .int (iI 0)), (0, .ref (ad k0)), (1, .int (iI x1)), (2, .int (iI x2))]) hC d_Mo_warm_40 (by decide) rfl ?_
      obtain ⟨q35, N36, hq37, hm⟩ := nbd_s hm
      refine nv_sub (lv' := [(0, .ref (ad k0)), (1, .int (iI x1)), (2, .int (iI x2)), (3, .int (iI 0)), (4, .int (iI x1))]) [2, 3, 4, 1, 0] rfl ?_
      by_cases c38 : q35.1 = 0
      · have hm := if_t c38 hm
        refine w_Mo_warm_42 hC k0 hp0 x1 hx1 x2 hx2 FU 0 x1 N17 q35 N36 hq37 ⟨by decide, by decide⟩ hx1 (fun _ => ?_) (fun h9 => absurd (c38.symm.trans h9) (by decide))
        refine nv_aload_n hC d_Mo_warm_117 rfl 0 rfl ?_
        refine nv_getI hC (j := 7) hp0.1 rfl in_Mo (by decide) k_261 rfl d_Mo_warm_118 ?_
        refine nv_iload_n hC d_Mo_warm_121 rfl 2 rfl ?_
        obtain ⟨hr39, hm⟩ := ck_s hm
        refine nv_icmp_lt hC hr39 hx2 d_Mo_warm_122 (tgt := 129) (by decide) (fun c40 => ?_) (fun c40 => ?_)
        · have hm := if_t c40 hm
          refine nv_iconst hC d_Mo_warm_129 ?_
          obtain ⟨rfl, rfl⟩ := ret_s hm
          exact nv_iret hC hr hlk d_Mo_warm_130
        · have hm := if_f c40 hm
          refine nv_iload_n hC d_Mo_warm_125 rfl 3 rfl ?_
          refine nv_goto hC d_Mo_warm_126 (tgt := 130) (by decide) ?_
          obtain ⟨rfl, rfl⟩ := ret_s hm
          exact nv_iret hC hr hlk d_Mo_warm_130
      · have hm := if_f c38 hm
        refine w_Mo_warm_42 hC k0 hp0 x1 hx1 x2 hx2 FU 0 x1 N17 q35 N36 hq37 ⟨by decide, by decide⟩ hx1 (fun h9 => absurd h9 c38) (fun _ => ?_)
        obtain ⟨rfl, rfl⟩ := ret_s hm
        exact nv_iret hC hr hlk d_Mo_warm_82
def m_Mo_drawn (k0 : Nat) (x1 : Int) (x2 : Int) (N : nS) : Option (Int × nS) :=
  if rg ((N k0 15) - 1) then
  nbd (m_Mo_in x1 0 ((N k0 15) - 1) N) (fun r2 N3 =>
  if rg r2 then
  if r2 = 0 then
  nlt (up2 N3 k0 0 1) (fun N7 =>
  some (0, N7))
  else
  nbd (m_Mo_in x2 0 2 N3) (fun r10 N11 =>
  if rg r10 then
  if r10 = 0 then
  nlt (up2 N11 k0 0 1) (fun N15 =>
  some (0, N15))
  else
  nlt (up2 N11 k0 0 0) (fun N18 =>
  if 0 ≤ x1 ∧ x1 < ((60 : Nat) : Int) then
  if rg (N18 (k0 + 12) (Int.toNat x1)) then
  if rg (N18 k0 9) then
  if (N18 (k0 + 12) (Int.toNat x1)) < (N18 k0 9) then
  if x2 = 0 then
  some ((N18 (k0 + 14) (Int.toNat x1)), N18)
  else
  if x2 = 1 then
  some ((N18 (k0 + 15) (Int.toNat x1)), N18)
  else
  some ((N18 (k0 + 16) (Int.toNat x1)), N18)
  else
  some ((-1), N18)
  else none
  else none
  else none)
  else none)
  else none)
  else none
abbrev rm_Mo_drawn : Room := { frames := 1, cells := 0, slots := 0, locals := 22 }
set_option maxRecDepth 100000 in
set_option maxHeartbeats 4000000 in
theorem c_Mo_drawn (l : Launch) {D : va_G} {ct : Nat → ClassId} {A : Nat → Prop} {ad : Nat → Nat} {S : nH} (hD : nD ad A S.length) (k0 : Nat) (hp0 : isM S k0) (x1 : Int) (hx1 : rg x1) (x2 : Int) (hx2 : rg x2) (N : nS) (r : Int) (No : nS) (hm : m_Mo_drawn k0 x1 x2 N = some (r, No)) : nM l y_Mo_drawn (Cond.code y_Mo_drawn b_Mo_drawn 3 (some .int) :: TT) rm_Mo_drawn D vwCl ct A ad S N [.ref (ad k0), .int (iI x1), .int (iI x2)] (nQi D vwCl ct A ad S r No) := by
  refine nM_of (cc := b_Mo_drawn) (maxL := 3) (ret := (some .int)) (by decide) rfl (Nat.le_of_ble_eq_true rfl) hD ?_
  intro p e s m below meth c hC hr hlk
  refine nv_lv (lv' := [(0, .ref (ad k0)), (1, .int (iI x1)), (2, .int (iI x2))]) rfl ?_
  rw [m_Mo_drawn] at hm
  refine nv_aload_n hC d_Mo_drawn_0 rfl 0 rfl ?_
  refine nv_iload_n hC d_Mo_drawn_1 rfl 1 rfl ?_
  refine nv_iconst hC d_Mo_drawn_2 ?_
  refine nv_aload_n hC d_Mo_drawn_3 rfl 0 rfl ?_
  refine nv_getI hC (j := 15) hp0.1 rfl in_Mo (by decide) k_292 rfl d_Mo_drawn_4 ?_
  refine nv_iconst hC d_Mo_drawn_7 ?_
  refine nv_isub hC d_Mo_drawn_8 ?_
  obtain ⟨hr1, hm⟩ := ck_s hm
  obtain ⟨r2, N3, hq4, hm⟩ := nbd_s hm
  refine nv_calli (x := r2) (N' := N3) (nr_S hC (As := [.int (iI x1), .int (iI 0), .int (iI ((N k0 15) - 1))]) (st := [.ref (ad k0)]) (c_Mo_in l hC.2.2.1 x1 hx1 0 ⟨by decide, by decide⟩ ((N k0 15) - 1) hr1 N r2 N3 hq4) (cwS 3 hC.1.2.2.2.2 (tt_S k_226 k_228 k_229 k_227) rfl rfl rfl (by decide +kernel) ⟨Nat.le_of_ble_eq_true rfl, Nat.le_of_ble_eq_true rfl⟩) rfl rfl (Nat.le_of_ble_eq_true rfl) ⟨(Nat.le_of_ble_eq_true rfl), (Nat.le_of_ble_eq_true rfl)⟩ d_Mo_drawn_9) ?_
  obtain ⟨hr5, hm⟩ := ck_s hm
  refine nv_if_eq hC hr5 d_Mo_drawn_12 (tgt := 28) (by decide) (fun c6 => ?_) (fun c6 => ?_)
  · have hm := if_t c6 hm
    refine nv_iconst hC d_Mo_drawn_28 ?_
    obtain ⟨N7, e8, hm⟩ := nlt_s hm
    refine nv_putI hC (j := 0) hp0.1 rfl in_Mo (by decide) ty_Mo tyok_Mo nm_Mo k_224 rfl rfl (by decide +kernel) e8 d_Mo_drawn_29 ?_
    refine nv_aload_n hC d_Mo_drawn_32 rfl 0 rfl ?_
    refine nv_getIe (v := 1) hC (j := 0) hp0.1 rfl in_Mo (by decide) k_224 rfl d_Mo_drawn_33 (up2_v e8) ?_
    refine nv_if_le hC ⟨by decide, by decide⟩ d_Mo_drawn_36 (tgt := 41) (by decide) (fun h9 => absurd h9 (by decide)) (fun _ => ?_)
    refine nv_iconst hC d_Mo_drawn_39 ?_
    obtain ⟨rfl, rfl⟩ := ret_s hm
    exact nv_iret hC hr hlk d_Mo_drawn_40
  · have hm := if_f c6 hm
    refine nv_iload_n hC d_Mo_drawn_15 rfl 2 rfl ?_
    refine nv_iconst hC d_Mo_drawn_16 ?_
    refine nv_iconst hC d_Mo_drawn_17 ?_
    obtain ⟨r10, N11, hq12, hm⟩ := nbd_s hm
    refine nv_calli (x := r10) (N' := N11) (nr_S hC (As := [.int (iI x2), .int (iI 0), .int (iI 2)]) (st := [.ref (ad k0)]) (c_Mo_in l hC.2.2.1 x2 hx2 0 ⟨by decide, by decide⟩ 2 ⟨by decide, by decide⟩ N3 r10 N11 hq12) (cwS 3 hC.1.2.2.2.2 (tt_S k_226 k_228 k_229 k_227) rfl rfl rfl (by decide +kernel) ⟨Nat.le_of_ble_eq_true rfl, Nat.le_of_ble_eq_true rfl⟩) rfl rfl (Nat.le_of_ble_eq_true rfl) ⟨(Nat.le_of_ble_eq_true rfl), (Nat.le_of_ble_eq_true rfl)⟩ d_Mo_drawn_18) ?_
    obtain ⟨hr13, hm⟩ := ck_s hm
    refine nv_if_eq hC hr13 d_Mo_drawn_21 (tgt := 28) (by decide) (fun c14 => ?_) (fun c14 => ?_)
    · have hm := if_t c14 hm
      refine nv_iconst hC d_Mo_drawn_28 ?_
      obtain ⟨N15, e16, hm⟩ := nlt_s hm
      refine nv_putI hC (j := 0) hp0.1 rfl in_Mo (by decide) ty_Mo tyok_Mo nm_Mo k_224 rfl rfl (by decide +kernel) e16 d_Mo_drawn_29 ?_
      refine nv_aload_n hC d_Mo_drawn_32 rfl 0 rfl ?_
      refine nv_getIe (v := 1) hC (j := 0) hp0.1 rfl in_Mo (by decide) k_224 rfl d_Mo_drawn_33 (up2_v e16) ?_
      refine nv_if_le hC ⟨by decide, by decide⟩ d_Mo_drawn_36 (tgt := 41) (by decide) (fun h9 => absurd h9 (by decide)) (fun _ => ?_)
      refine nv_iconst hC d_Mo_drawn_39 ?_
      obtain ⟨rfl, rfl⟩ := ret_s hm
      exact nv_iret hC hr hlk d_Mo_drawn_40
    · have hm := if_f c14 hm
      refine nv_iconst hC d_Mo_drawn_24 ?_
      refine nv_goto hC d_Mo_drawn_25 (tgt := 29) (by decide) ?_
      obtain ⟨N18, e19, hm⟩ := nlt_s hm
      refine nv_putI hC (j := 0) hp0.1 rfl in_Mo (by decide) ty_Mo tyok_Mo nm_Mo k_224 rfl rfl (by decide +kernel) e19 d_Mo_drawn_29 ?_
      refine nv_aload_n hC d_Mo_drawn_32 rfl 0 rfl ?_
      refine nv_getIe (v := 0) hC (j := 0) hp0.1 rfl in_Mo (by decide) k_224 rfl d_Mo_drawn_33 (up2_v e19) ?_
      refine nv_if_le hC ⟨by decide, by decide⟩ d_Mo_drawn_36 (tgt := 41) (by decide) (fun _ => ?_) (fun h9 => absurd (by decide) h9)
      refine nv_aload_n hC d_Mo_drawn_41 rfl 0 rfl ?_
      refine nv_getR hC (j := 17) hp0.1 rfl in_Mo (by decide) k_294 rfl d_Mo_drawn_42 ?_
      refine nv_iload_n hC d_Mo_drawn_45 rfl 1 rfl ?_
      obtain ⟨hc21, hm⟩ := ck_s hm
      refine nv_iald hC (isM_12 hp0) (by decide) hc21 d_Mo_drawn_46 ?_
      refine nv_aload_n hC d_Mo_drawn_47 rfl 0 rfl ?_
      refine nv_getI hC (j := 9) hp0.1 rfl in_Mo (by decide) k_258 rfl d_Mo_drawn_48 ?_
      obtain ⟨hr22, hm⟩ := ck_s hm
      obtain ⟨hr23, hm⟩ := ck_s hm
      refine nv_icmp_lt hC hr22 hr23 d_Mo_drawn_51 (tgt := 58) (by decide) (fun c24 => ?_) (fun c24 => ?_)
      · have hm := if_t c24 hm
        refine nv_iload_n hC d_Mo_drawn_58 rfl 2 rfl ?_
        refine nv_if_ne hC hx2 d_Mo_drawn_59 (tgt := 71) (by decide) (fun c25 => ?_) (fun c25 => ?_)
        · have hm := if_f c25 hm
          refine nv_iload_n hC d_Mo_drawn_71 rfl 2 rfl ?_
          refine nv_iconst hC d_Mo_drawn_72 ?_
          refine nv_icmp_ne hC hx2 ⟨by decide, by decide⟩ d_Mo_drawn_73 (tgt := 85) (by decide) (fun c26 => ?_) (fun c26 => ?_)
          · have hm := if_f c26 hm
            refine nv_aload_n hC d_Mo_drawn_85 rfl 0 rfl ?_
            refine nv_getR hC (j := 21) hp0.1 rfl in_Mo (by decide) k_298 rfl d_Mo_drawn_86 ?_
            refine nv_iload_n hC d_Mo_drawn_89 rfl 1 rfl ?_
            refine nv_iald hC (isM_16 hp0) (by decide) hc21 d_Mo_drawn_90 ?_
            obtain ⟨rfl, rfl⟩ := ret_s hm
            exact nv_iret hC hr hlk d_Mo_drawn_91
          · have hm := if_t c26 hm
            refine nv_aload_n hC d_Mo_drawn_76 rfl 0 rfl ?_
            refine nv_getR hC (j := 20) hp0.1 rfl in_Mo (by decide) k_297 rfl d_Mo_drawn_77 ?_
            refine nv_iload_n hC d_Mo_drawn_80 rfl 1 rfl ?_
            refine nv_iald hC (isM_15 hp0) (by decide) hc21 d_Mo_drawn_81 ?_
            refine nv_goto hC d_Mo_drawn_82 (tgt := 91) (by decide) ?_
            obtain ⟨rfl, rfl⟩ := ret_s hm
            exact nv_iret hC hr hlk d_Mo_drawn_91
        · have hm := if_t c25 hm
          refine nv_aload_n hC d_Mo_drawn_62 rfl 0 rfl ?_
          refine nv_getR hC (j := 19) hp0.1 rfl in_Mo (by decide) k_296 rfl d_Mo_drawn_63 ?_
          refine nv_iload_n hC d_Mo_drawn_66 rfl 1 rfl ?_
          refine nv_iald hC (isM_14 hp0) (by decide) hc21 d_Mo_drawn_67 ?_
          refine nv_goto hC d_Mo_drawn_68 (tgt := 91) (by decide) ?_
          obtain ⟨rfl, rfl⟩ := ret_s hm
          exact nv_iret hC hr hlk d_Mo_drawn_91
      · have hm := if_f c24 hm
        refine nv_iconst hC d_Mo_drawn_54 ?_
        refine nv_goto hC d_Mo_drawn_55 (tgt := 91) (by decide) ?_
        obtain ⟨rfl, rfl⟩ := ret_s hm
        exact nv_iret hC hr hlk d_Mo_drawn_91
def m_Mo_heat_44 (k0 : Nat) (x1 : Int) (x4 : Int) : Nat → Int → Int → nS → Option ((Int × Int) × nS)
  | 0, _, _, _ => none
  | f + 1, x2, x5, N =>
    if 0 ≤ x4 ∧ x4 < ((10 : Nat) : Int) then
    if rg (N (k0 + 6) (Int.toNat x4)) then
    if (N (k0 + 6) (Int.toNat x4)) ≤ x5 then
    some ((x2, x5), N)
    else
    if 0 ≤ ((12 * x4) + x5) ∧ ((12 * x4) + x5) < ((120 : Nat) : Int) then
    if rg (N (k0 + 7) (Int.toNat ((12 * x4) + x5))) then
    if rg (N (k0 + 8) (Int.toNat ((12 * x4) + x5))) then
    if rg (x5 + 1) then
    m_Mo_heat_44 k0 x1 x4 f (x2 + ((N (k0 + 7) (Int.toNat ((12 * x4) + x5))) * (N (k0 + 8) (Int.toNat ((12 * x4) + x5))))) (x5 + 1) N
    else none
    else none
    else none
    else none
    else none
    else none
def m_Mo_heat_32 (k0 : Nat) (x1 : Int) : Nat → Int → Int → nS → Option ((Int × Int) × nS)
  | 0, _, _, _ => none
  | f + 1, x2, x4, N =>
    if rg (N k0 1) then
    if (N k0 1) ≤ x4 then
    some ((x2, x4), N)
    else
    nbd (m_Mo_heat_44 k0 x1 x4 FU x2 0 N) (fun q21 N22 =>
    if rg (x4 + 1) then
    m_Mo_heat_32 k0 x1 f q21.1 (x4 + 1) N22
    else none)
    else none
def m_Mo_heat (k0 : Nat) (x1 : Int) (N : nS) : Option (Int × nS) :=
  nbd (m_Mo_in x1 0 3 N) (fun r1 N2 =>
  if rg r1 then
  if r1 = 0 then
  nlt (up2 N2 k0 0 1) (fun N6 =>
  some (0, N6))
  else
  nlt (up2 N2 k0 0 0) (fun N9 =>
  nbd (m_Mo_heat_32 k0 x1 FU 0 0 N9) (fun q25 N26 =>
  if x1 = 0 then
  some (q25.1, N26)
  else
  if x1 = 1 then
  some ((N26 k0 22), N26)
  else
  if x1 = 2 then
  some ((N26 k0 23), N26)
  else
  some ((N26 k0 24), N26)))
  else none)
abbrev rm_Mo_heat : Room := { frames := 1, cells := 0, slots := 0, locals := 22 }
set_option maxRecDepth 100000 in
set_option maxHeartbeats 4000000 in
theorem w_Mo_heat_44 {p : Program} {l : Launch} {e : Env} {s : State} {m : MethodId} {args : Array Value} {below : List Frame} {meth : Method} {c : Code} {Q : State → Prop} {D : va_G} {ct : Nat → ClassId} {A : Nat → Prop} {ad : Nat → Nat} {S : nH} (hC : nC p s m args c D vwCl ct A ad S 6 b_Mo_heat R_Mo TT) (k0 : Nat) (hp0 : isM S k0) (x1 : Int) (hx1 : rg x1) (x4 : Int) (hx4 : rg x4) : ∀ (f : Nat) (x2 x5 : Int) (N : nS) (q : Int × Int) (No : nS), m_Mo_heat_44 k0 x1 x4 f x2 x5 N = some (q, No) → rg x5 → nV p l e rm_Mo_heat s m args below meth c 0 0 Q D vwCl ct A ad S 6 No 94 [(0, .ref (ad k0)), (1, .int (iI x1)), (2, .long (lI q.1)), (4, .int (iI x4)), (5, .int (iI q.2))] [] → nV p l e rm_Mo_heat s m args below meth c 0 0 Q D vwCl ct A ad S 6 N 44 [(0, .ref (ad k0)), (1, .int (iI x1)), (2, .long (lI x2)), (4, .int (iI x4)), (5, .int (iI x5))] [] := by
  intro f
  induction f with
  | zero =>
    intro x2 x5 N q No hm
    rw [m_Mo_heat_44] at hm
    cases hm
  | succ f ih =>
    intro x2 x5 N q No hm hx5 kx
    rw [m_Mo_heat_44] at hm
    refine nv_iload hC d_Mo_heat_44 4 rfl ?_
    refine nv_aload_n hC d_Mo_heat_46 rfl 0 rfl ?_
    refine nv_getR hC (j := 10) hp0.1 rfl in_Mo (by decide) k_242 rfl d_Mo_heat_47 ?_
    refine nv_iload hC d_Mo_heat_50 3 rfl ?_
    obtain ⟨hc14, hm⟩ := ck_s hm
    refine nv_iald hC (isM_6 hp0) (by decide) hc14 d_Mo_heat_52 ?_
    obtain ⟨hr15, hm⟩ := ck_s hm
    refine nv_icmp_ge hC hx5 hr15 d_Mo_heat_53 (tgt := 94) (by decide) (fun c16 => ?_) (fun c16 => ?_)
    · have hm := if_t c16 hm
      obtain ⟨rfl, rfl⟩ := ret_s hm
      refine nv_sub (lv' := [(0, .ref (ad k0)), (1, .int (iI x1)), (2, .long (lI x2)), (4, .int (iI x4)), (5, .int (iI x5))]) [0, 1, 2, 3, 4] rfl ?_
      exact kx
    · have hm := if_f c16 hm
      refine nv_lload_n hC d_Mo_heat_56 rfl 2 rfl ?_
      refine nv_aload_n hC d_Mo_heat_57 rfl 0 rfl ?_
      refine nv_getR hC (j := 11) hp0.1 rfl in_Mo (by decide) k_243 rfl d_Mo_heat_58 ?_
      refine nv_bipush hC (z := 12) d_Mo_heat_61 rfl ?_
      refine nv_iload hC d_Mo_heat_63 3 rfl ?_
      refine nv_imul hC d_Mo_heat_65 ?_
      refine nv_iload hC d_Mo_heat_66 4 rfl ?_
      refine nv_iadd hC d_Mo_heat_68 ?_
      obtain ⟨hc17, hm⟩ := ck_s hm
      refine nv_iald hC (isM_7 hp0) (by decide) hc17 d_Mo_heat_69 ?_
      obtain ⟨hr18, hm⟩ := ck_s hm
      refine nv_i2l hC d_Mo_heat_70 hr18 ?_
      refine nv_aload_n hC d_Mo_heat_71 rfl 0 rfl ?_
      refine nv_getR hC (j := 12) hp0.1 rfl in_Mo (by decide) k_244 rfl d_Mo_heat_72 ?_
      refine nv_bipush hC (z := 12) d_Mo_heat_75 rfl ?_
      refine nv_iload hC d_Mo_heat_77 3 rfl ?_
      refine nv_imul hC d_Mo_heat_79 ?_
      refine nv_iload hC d_Mo_heat_80 4 rfl ?_
      refine nv_iadd hC d_Mo_heat_82 ?_
      refine nv_iald hC (isM_8 hp0) (by decide) hc17 d_Mo_heat_83 ?_
      obtain ⟨hr19, hm⟩ := ck_s hm
      refine nv_i2l hC d_Mo_heat_84 hr19 ?_
      refine nv_lmul hC d_Mo_heat_85 ?_
      refine nv_ladd hC d_Mo_heat_86 ?_
      refine nv_lstore_n (lv' := [(2, .long (lI (x2 + ((N (k0 + 7) (Int.toNat ((12 * x4) + x5))) * (N (k0 + 8) (Int.toNat ((12 * x4) + x5))))))), (0, .ref (ad k0)), (1, .int (iI x1)), (4, .int (iI x4)), (5, .int (iI x5))]) hC d_Mo_heat_87 rfl (by decide) rfl ?_
      refine nv_iinc (lv' := [(5, .int (iI (x5 + 1))), (2, .long (lI (x2 + ((N (k0 + 7) (Int.toNat ((12 * x4) + x5))) * (N (k0 + 8) (Int.toNat ((12 * x4) + x5))))))), (0, .ref (ad k0)), (1, .int (iI x1)), (4, .int (iI x4))]) hC d_Mo_heat_88 4 rfl (by decide) rfl ?_
      refine nv_goto hC d_Mo_heat_91 (tgt := 44) (by decide) ?_
      obtain ⟨hr20, hm⟩ := ck_s hm
      refine nv_sub (lv' := [(0, .ref (ad k0)), (1, .int (iI x1)), (2, .long (lI (x2 + ((N (k0 + 7) (Int.toNat ((12 * x4) + x5))) * (N (k0 + 8) (Int.toNat ((12 * x4) + x5))))))), (4, .int (iI x4)), (5, .int (iI (x5 + 1)))]) [2, 3, 1, 4, 0] rfl ?_
      exact ih (x2 + ((N (k0 + 7) (Int.toNat ((12 * x4) + x5))) * (N (k0 + 8) (Int.toNat ((12 * x4) + x5))))) (x5 + 1) N q No hm hr20 kx
set_option maxRecDepth 100000 in
set_option maxHeartbeats 4000000 in
theorem w_Mo_heat_32 {p : Program} {l : Launch} {e : Env} {s : State} {m : MethodId} {args : Array Value} {below : List Frame} {meth : Method} {c : Code} {Q : State → Prop} {D : va_G} {ct : Nat → ClassId} {A : Nat → Prop} {ad : Nat → Nat} {S : nH} (hC : nC p s m args c D vwCl ct A ad S 6 b_Mo_heat R_Mo TT) (k0 : Nat) (hp0 : isM S k0) (x1 : Int) (hx1 : rg x1) : ∀ (f : Nat) (x2 x4 : Int) (N : nS) (q : Int × Int) (No : nS), m_Mo_heat_32 k0 x1 f x2 x4 N = some (q, No) → rg x4 → nV p l e rm_Mo_heat s m args below meth c 0 0 Q D vwCl ct A ad S 6 No 100 [(0, .ref (ad k0)), (1, .int (iI x1)), (2, .long (lI q.1)), (4, .int (iI q.2))] [] → nV p l e rm_Mo_heat s m args below meth c 0 0 Q D vwCl ct A ad S 6 N 32 [(0, .ref (ad k0)), (1, .int (iI x1)), (2, .long (lI x2)), (4, .int (iI x4))] [] := by
  intro f
  induction f with
  | zero =>
    intro x2 x4 N q No hm
    rw [m_Mo_heat_32] at hm
    cases hm
  | succ f ih =>
    intro x2 x4 N q No hm hx4 kx
    rw [m_Mo_heat_32] at hm
    refine nv_iload hC d_Mo_heat_32 3 rfl ?_
    refine nv_aload_n hC d_Mo_heat_34 rfl 0 rfl ?_
    refine nv_getI hC (j := 1) hp0.1 rfl in_Mo (by decide) k_225 rfl d_Mo_heat_35 ?_
    obtain ⟨hr12, hm⟩ := ck_s hm
    refine nv_icmp_ge hC hx4 hr12 d_Mo_heat_38 (tgt := 100) (by decide) (fun c13 => ?_) (fun c13 => ?_)
    · have hm := if_t c13 hm
      obtain ⟨rfl, rfl⟩ := ret_s hm
      refine nv_sub (lv' := [(0, .ref (ad k0)), (1, .int (iI x1)), (2, .long (lI x2)), (4, .int (iI x4))]) [0, 1, 2, 3] rfl ?_
      exact kx
    · have hm := if_f c13 hm
      refine nv_iconst hC d_Mo_heat_41 ?_
      refine nv_istore (lv' := [(5, .int (iI 0)), (0, .ref (ad k0)), (1, .int (iI x1)), (2, .long (lI x2)), (4, .int (iI x4))]) hC d_Mo_heat_42 (by decide) rfl ?_
      obtain ⟨q21, N22, hq23, hm⟩ := nbd_s hm
      refine nv_sub (lv' := [(0, .ref (ad k0)), (1, .int (iI x1)), (2, .long (lI x2)), (4, .int (iI x4)), (5, .int (iI 0))]) [1, 2, 3, 4, 0] rfl ?_
      refine w_Mo_heat_44 hC k0 hp0 x1 hx1 x4 hx4 FU x2 0 N q21 N22 hq23 ⟨by decide, by decide⟩ ?_
      refine nv_iinc (lv' := [(4, .int (iI (x4 + 1))), (0, .ref (ad k0)), (1, .int (iI x1)), (2, .long (lI q21.1)), (5, .int (iI q21.2))]) hC d_Mo_heat_94 3 rfl (by decide) rfl ?_
      refine nv_goto hC d_Mo_heat_97 (tgt := 32) (by decide) ?_
      obtain ⟨hr24, hm⟩ := ck_s hm
      refine nv_sub (lv' := [(0, .ref (ad k0)), (1, .int (iI x1)), (2, .long (lI q21.1)), (4, .int (iI (x4 + 1)))]) [1, 2, 3, 0] rfl ?_
      exact ih q21.1 (x4 + 1) N22 q No hm hr24 kx
set_option maxRecDepth 100000 in
set_option maxHeartbeats 4000000 in
theorem c_Mo_heat (l : Launch) {D : va_G} {ct : Nat → ClassId} {A : Nat → Prop} {ad : Nat → Nat} {S : nH} (hD : nD ad A S.length) (k0 : Nat) (hp0 : isM S k0) (x1 : Int) (hx1 : rg x1) (N : nS) (r : Int) (No : nS) (hm : m_Mo_heat k0 x1 N = some (r, No)) : nM l y_Mo_heat (Cond.code y_Mo_heat b_Mo_heat 6 (some .long) :: TT) rm_Mo_heat D vwCl ct A ad S N [.ref (ad k0), .int (iI x1)] (nQl D vwCl ct A ad S r No) := by
  refine nM_of (cc := b_Mo_heat) (maxL := 6) (ret := (some .long)) (by decide) rfl (Nat.le_of_ble_eq_true rfl) hD ?_
  intro p e s m below meth c hC hr hlk
  refine nv_lv (lv' := [(0, .ref (ad k0)), (1, .int (iI x1))]) rfl ?_
  rw [m_Mo_heat] at hm
  refine nv_aload_n hC d_Mo_heat_0 rfl 0 rfl ?_
  refine nv_iload_n hC d_Mo_heat_1 rfl 1 rfl ?_
  refine nv_iconst hC d_Mo_heat_2 ?_
  refine nv_iconst hC d_Mo_heat_3 ?_
  obtain ⟨r1, N2, hq3, hm⟩ := nbd_s hm
  refine nv_calli (x := r1) (N' := N2) (nr_S hC (As := [.int (iI x1), .int (iI 0), .int (iI 3)]) (st := [.ref (ad k0)]) (c_Mo_in l hC.2.2.1 x1 hx1 0 ⟨by decide, by decide⟩ 3 ⟨by decide, by decide⟩ N r1 N2 hq3) (cwS 3 hC.1.2.2.2.2 (tt_S k_226 k_228 k_229 k_227) rfl rfl rfl (by decide +kernel) ⟨Nat.le_of_ble_eq_true rfl, Nat.le_of_ble_eq_true rfl⟩) rfl rfl (Nat.le_of_ble_eq_true rfl) ⟨(Nat.le_of_ble_eq_true rfl), (Nat.le_of_ble_eq_true rfl)⟩ d_Mo_heat_4) ?_
  obtain ⟨hr4, hm⟩ := ck_s hm
  refine nv_if_eq hC hr4 d_Mo_heat_7 (tgt := 14) (by decide) (fun c5 => ?_) (fun c5 => ?_)
  · have hm := if_t c5 hm
    refine nv_iconst hC d_Mo_heat_14 ?_
    obtain ⟨N6, e7, hm⟩ := nlt_s hm
    refine nv_putI hC (j := 0) hp0.1 rfl in_Mo (by decide) ty_Mo tyok_Mo nm_Mo k_224 rfl rfl (by decide +kernel) e7 d_Mo_heat_15 ?_
    refine nv_aload_n hC d_Mo_heat_18 rfl 0 rfl ?_
    refine nv_getIe (v := 1) hC (j := 0) hp0.1 rfl in_Mo (by decide) k_224 rfl d_Mo_heat_19 (up2_v e7) ?_
    refine nv_if_le hC ⟨by decide, by decide⟩ d_Mo_heat_22 (tgt := 27) (by decide) (fun h9 => absurd h9 (by decide)) (fun _ => ?_)
    refine nv_lconst hC (z := 0) d_Mo_heat_25 rfl ?_
    obtain ⟨rfl, rfl⟩ := ret_s hm
    exact nv_lret hC hr hlk d_Mo_heat_26
  · have hm := if_f c5 hm
    refine nv_iconst hC d_Mo_heat_10 ?_
    refine nv_goto hC d_Mo_heat_11 (tgt := 15) (by decide) ?_
    obtain ⟨N9, e10, hm⟩ := nlt_s hm
    refine nv_putI hC (j := 0) hp0.1 rfl in_Mo (by decide) ty_Mo tyok_Mo nm_Mo k_224 rfl rfl (by decide +kernel) e10 d_Mo_heat_15 ?_
    refine nv_aload_n hC d_Mo_heat_18 rfl 0 rfl ?_
    refine nv_getIe (v := 0) hC (j := 0) hp0.1 rfl in_Mo (by decide) k_224 rfl d_Mo_heat_19 (up2_v e10) ?_
    refine nv_if_le hC ⟨by decide, by decide⟩ d_Mo_heat_22 (tgt := 27) (by decide) (fun _ => ?_) (fun h9 => absurd (by decide) h9)
    refine nv_lconst hC (z := 0) d_Mo_heat_27 rfl ?_
    refine nv_lstore_n (lv' := [(2, .long (lI 0)), (0, .ref (ad k0)), (1, .int (iI x1))]) hC d_Mo_heat_28 rfl (by decide) rfl ?_
    refine nv_iconst hC d_Mo_heat_29 ?_
    refine nv_istore (lv' := [(4, .int (iI 0)), (2, .long (lI 0)), (0, .ref (ad k0)), (1, .int (iI x1))]) hC d_Mo_heat_30 (by decide) rfl ?_
    obtain ⟨q25, N26, hq27, hm⟩ := nbd_s hm
    refine nv_sub (lv' := [(0, .ref (ad k0)), (1, .int (iI x1)), (2, .long (lI 0)), (4, .int (iI 0))]) [2, 3, 1, 0] rfl ?_
    refine w_Mo_heat_32 hC k0 hp0 x1 hx1 FU 0 0 N9 q25 N26 hq27 ⟨by decide, by decide⟩ ?_
    refine nv_iload_n hC d_Mo_heat_100 rfl 1 rfl ?_
    refine nv_if_ne hC hx1 d_Mo_heat_101 (tgt := 108) (by decide) (fun c28 => ?_) (fun c28 => ?_)
    · have hm := if_f c28 hm
      refine nv_iload_n hC d_Mo_heat_108 rfl 1 rfl ?_
      refine nv_iconst hC d_Mo_heat_109 ?_
      refine nv_icmp_ne hC hx1 ⟨by decide, by decide⟩ d_Mo_heat_110 (tgt := 120) (by decide) (fun c29 => ?_) (fun c29 => ?_)
      · have hm := if_f c29 hm
        refine nv_iload_n hC d_Mo_heat_120 rfl 1 rfl ?_
        refine nv_iconst hC d_Mo_heat_121 ?_
        refine nv_icmp_ne hC hx1 ⟨by decide, by decide⟩ d_Mo_heat_122 (tgt := 132) (by decide) (fun c30 => ?_) (fun c30 => ?_)
        · have hm := if_f c30 hm
          refine nv_aload_n hC d_Mo_heat_132 rfl 0 rfl ?_
          refine nv_getJ hC (j := 24) hp0.1 rfl in_Mo (by decide) k_233 rfl d_Mo_heat_133 ?_
          obtain ⟨rfl, rfl⟩ := ret_s hm
          exact nv_lret hC hr hlk d_Mo_heat_136
        · have hm := if_t c30 hm
          refine nv_aload_n hC d_Mo_heat_125 rfl 0 rfl ?_
          refine nv_getJ hC (j := 23) hp0.1 rfl in_Mo (by decide) k_270 rfl d_Mo_heat_126 ?_
          refine nv_goto hC d_Mo_heat_129 (tgt := 136) (by decide) ?_
          obtain ⟨rfl, rfl⟩ := ret_s hm
          exact nv_lret hC hr hlk d_Mo_heat_136
      · have hm := if_t c29 hm
        refine nv_aload_n hC d_Mo_heat_113 rfl 0 rfl ?_
        refine nv_getJ hC (j := 22) hp0.1 rfl in_Mo (by decide) k_262 rfl d_Mo_heat_114 ?_
        refine nv_goto hC d_Mo_heat_117 (tgt := 136) (by decide) ?_
        obtain ⟨rfl, rfl⟩ := ret_s hm
        exact nv_lret hC hr hlk d_Mo_heat_136
    · have hm := if_t c28 hm
      refine nv_lload_n hC d_Mo_heat_104 rfl 2 rfl ?_
      refine nv_goto hC d_Mo_heat_105 (tgt := 136) (by decide) ?_
      obtain ⟨rfl, rfl⟩ := ret_s hm
      exact nv_lret hC hr hlk d_Mo_heat_136
def m_Mo_copy_2 (k0 : Nat) (a1 n1 : Nat) (a2 n2 : Nat) : Nat → Int → nS → Option ((Int) × nS)
  | 0, _, _ => none
  | f + 1, x3, N =>
    if ((n1 : Nat) : Int) ≤ x3 then
    some (x3, N)
    else
    if 0 ≤ x3 ∧ x3 < ((n1 : Nat) : Int) then
    if 0 ≤ x3 ∧ x3 < ((n2 : Nat) : Int) then
    nlt (up2 N a2 (Int.toNat x3) (N a1 (Int.toNat x3))) (fun N4 =>
    if rg (x3 + 1) then
    m_Mo_copy_2 k0 a1 n1 a2 n2 f (x3 + 1) N4
    else none)
    else none
    else none
def m_Mo_copy (k0 : Nat) (a1 n1 : Nat) (a2 n2 : Nat) (N : nS) : Option (Int × nS) :=
  nbd (m_Mo_copy_2 k0 a1 n1 a2 n2 FU 0 N) (fun q7 N8 =>
  some (0, N8))
abbrev rm_Mo_copy : Room := { frames := 0, cells := 0, slots := 0, locals := 0 }
set_option maxRecDepth 100000 in
set_option maxHeartbeats 4000000 in
theorem w_Mo_copy_2 {p : Program} {l : Launch} {e : Env} {s : State} {m : MethodId} {args : Array Value} {below : List Frame} {meth : Method} {c : Code} {Q : State → Prop} {D : va_G} {ct : Nat → ClassId} {A : Nat → Prop} {ad : Nat → Nat} {S : nH} (hC : nC p s m args c D vwCl ct A ad S 4 b_Mo_copy R_Mo TT) (k0 : Nat) (hp0 : isM S k0) (a1 n1 : Nat) (hp1 : isA S a1 n1) (a2 n2 : Nat) (hp2 : isA S a2 n2) : ∀ (f : Nat) (x3 : Int) (N : nS) (q : Int) (No : nS), m_Mo_copy_2 k0 a1 n1 a2 n2 f x3 N = some (q, No) → rg x3 → nV p l e rm_Mo_copy s m args below meth c 0 0 Q D vwCl ct A ad S 4 No 20 [(0, .ref (ad k0)), (1, .ref (ad a1)), (2, .ref (ad a2)), (3, .int (iI q))] [] → nV p l e rm_Mo_copy s m args below meth c 0 0 Q D vwCl ct A ad S 4 N 2 [(0, .ref (ad k0)), (1, .ref (ad a1)), (2, .ref (ad a2)), (3, .int (iI x3))] [] := by
  intro f
  induction f with
  | zero =>
    intro x3 N q No hm
    rw [m_Mo_copy_2] at hm
    cases hm
  | succ f ih =>
    intro x3 N q No hm hx3 kx
    rw [m_Mo_copy_2] at hm
    refine nv_iload_n hC d_Mo_copy_2 rfl 3 rfl ?_
    refine nv_aload_n hC d_Mo_copy_3 rfl 1 rfl ?_
    refine nv_alen0 hC hp1.1 d_Mo_copy_4 ?_
    refine nv_icmp_ge hC hx3 (rg_n hp1.2) d_Mo_copy_5 (tgt := 20) (by decide) (fun c1 => ?_) (fun c1 => ?_)
    · have hm := if_t c1 hm
      obtain ⟨rfl, rfl⟩ := ret_s hm
      refine nv_sub (lv' := [(0, .ref (ad k0)), (1, .ref (ad a1)), (2, .ref (ad a2)), (3, .int (iI x3))]) [0, 1, 2, 3] rfl ?_
      exact kx
    · have hm := if_f c1 hm
      refine nv_aload_n hC d_Mo_copy_8 rfl 2 rfl ?_
      refine nv_iload_n hC d_Mo_copy_9 rfl 3 rfl ?_
      refine nv_aload_n hC d_Mo_copy_10 rfl 1 rfl ?_
      refine nv_iload_n hC d_Mo_copy_11 rfl 3 rfl ?_
      obtain ⟨hc2, hm⟩ := ck_s hm
      refine nv_iald hC hp1.1 hp1.2 hc2 d_Mo_copy_12 ?_
      obtain ⟨hc3, hm⟩ := ck_s hm
      obtain ⟨N4, e5, hm⟩ := nlt_s hm
      refine nv_iast hC hp2.1 hp2.2 hc3 e5 d_Mo_copy_13 ?_
      refine nv_iinc (lv' := [(3, .int (iI (x3 + 1))), (0, .ref (ad k0)), (1, .ref (ad a1)), (2, .ref (ad a2))]) hC d_Mo_copy_14 3 rfl (by decide) rfl ?_
      refine nv_goto hC d_Mo_copy_17 (tgt := 2) (by decide) ?_
      obtain ⟨hr6, hm⟩ := ck_s hm
      refine nv_sub (lv' := [(0, .ref (ad k0)), (1, .ref (ad a1)), (2, .ref (ad a2)), (3, .int (iI (x3 + 1)))]) [1, 2, 3, 0] rfl ?_
      exact ih (x3 + 1) N4 q No hm hr6 kx
set_option maxRecDepth 100000 in
set_option maxHeartbeats 4000000 in
theorem c_Mo_copy (l : Launch) {D : va_G} {ct : Nat → ClassId} {A : Nat → Prop} {ad : Nat → Nat} {S : nH} (hD : nD ad A S.length) (k0 : Nat) (hp0 : isM S k0) (a1 n1 : Nat) (hp1 : isA S a1 n1) (a2 n2 : Nat) (hp2 : isA S a2 n2) (N : nS) (r : Int) (No : nS) (hm : m_Mo_copy k0 a1 n1 a2 n2 N = some (r, No)) : nM l y_Mo_copy (Cond.code y_Mo_copy b_Mo_copy 4 none :: TT) rm_Mo_copy D vwCl ct A ad S N [.ref (ad k0), .ref (ad a1), .ref (ad a2)] (nQv D vwCl ct A ad S No) := by
  refine nM_of (cc := b_Mo_copy) (maxL := 4) (ret := none) (by decide) rfl (Nat.le_of_ble_eq_true rfl) hD ?_
  intro p e s m below meth c hC hr hlk
  refine nv_lv (lv' := [(0, .ref (ad k0)), (1, .ref (ad a1)), (2, .ref (ad a2))]) rfl ?_
  rw [m_Mo_copy] at hm
  refine nv_iconst hC d_Mo_copy_0 ?_
  refine nv_istore_n (lv' := [(3, .int (iI 0)), (0, .ref (ad k0)), (1, .ref (ad a1)), (2, .ref (ad a2))]) hC d_Mo_copy_1 rfl (by decide) rfl ?_
  obtain ⟨q7, N8, hq9, hm⟩ := nbd_s hm
  refine nv_sub (lv' := [(0, .ref (ad k0)), (1, .ref (ad a1)), (2, .ref (ad a2)), (3, .int (iI 0))]) [1, 2, 3, 0] rfl ?_
  refine w_Mo_copy_2 hC k0 hp0 a1 n1 hp1 a2 n2 hp2 FU 0 N q7 N8 hq9 ⟨by decide, by decide⟩ ?_
  obtain ⟨rfl, rfl⟩ := ret_s hm
  exact nv_vret hC hr hlk d_Mo_copy_20
def m_Mo_shock_158 (k0 : Nat) (x1 : Int) (x2 : Int) (x3 : Int) (x4 : Int) (x5 : Int) (x6 : Int) (x8 : Int) (x10 : Int) (x12 : Int) : Nat → Int → nS → Option ((Int) × nS)
  | 0, _, _ => none
  | f + 1, x13, N =>
    if 10 ≤ x13 then
    some (x13, N)
    else
    if 0 ≤ x13 ∧ x13 < ((10 : Nat) : Int) then
    nlt (up2 N (k0 + 27) (Int.toNat x13) 0) (fun N59 =>
    if rg (x13 + 1) then
    m_Mo_shock_158 k0 x1 x2 x3 x4 x5 x6 x8 x10 x12 f (x13 + 1) N59
    else none)
    else none
def m_Mo_shock_191 (k0 : Nat) (x1 : Int) (x2 : Int) (x3 : Int) (x4 : Int) (x5 : Int) (x6 : Int) (x8 : Int) (x10 : Int) (x12 : Int) (x13 : Int) : Nat → Int → nS → Option ((Int) × nS)
  | 0, _, _ => none
  | f + 1, x14, N =>
    if rg (N k0 1) then
    if (N k0 1) ≤ x14 then
    some (x14, N)
    else
    if 0 ≤ x14 ∧ x14 < ((10 : Nat) : Int) then
    if rg (N (k0 + 4) (Int.toNat x14)) then
    if (N (k0 + 4) (Int.toNat x14)) = 0 then
    if rg (x14 + 1) then
    m_Mo_shock_191 k0 x1 x2 x3 x4 x5 x6 x8 x10 x12 x13 f (x14 + 1) N
    else none
    else
    nbd (m_Mo_take k0 x14 x2 N) (fun r73 N74 =>
    if rg (N74 (k0 + 27) (Int.toNat x14)) then
    if (N74 (k0 + 27) (Int.toNat x14)) = 0 then
    if rg (N74 k0 33) then
    if (N74 k0 33) < x4 then
    nlt (up2 N74 (k0 + 27) (Int.toNat x14) 0) (fun N83 =>
    if rg (x14 + 1) then
    m_Mo_shock_191 k0 x1 x2 x3 x4 x5 x6 x8 x10 x12 x13 f (x14 + 1) N83
    else none)
    else
    nlt (up2 N74 (k0 + 27) (Int.toNat x14) 1) (fun N86 =>
    if rg (x14 + 1) then
    m_Mo_shock_191 k0 x1 x2 x3 x4 x5 x6 x8 x10 x12 x13 f (x14 + 1) N86
    else none)
    else none
    else
    nlt (up2 N74 (k0 + 27) (Int.toNat x14) 1) (fun N78 =>
    if rg (x14 + 1) then
    m_Mo_shock_191 k0 x1 x2 x3 x4 x5 x6 x8 x10 x12 x13 f (x14 + 1) N78
    else none)
    else none)
    else none
    else none
    else none
def m_Mo_shock_182 (k0 : Nat) (x1 : Int) (x2 : Int) (x3 : Int) (x4 : Int) (x5 : Int) (x6 : Int) (x8 : Int) (x10 : Int) (x12 : Int) : Nat → Int → nS → Option ((Int) × nS)
  | 0, _, _ => none
  | f + 1, x13, N =>
    if x3 ≤ x13 then
    some (x13, N)
    else
    nbd (m_Mo_shock_191 k0 x1 x2 x3 x4 x5 x6 x8 x10 x12 x13 FU 0 N) (fun q89 N90 =>
    nbd (m_Mo_rest k0 N90) (fun r92 N93 =>
    if rg (x13 + 1) then
    m_Mo_shock_182 k0 x1 x2 x3 x4 x5 x6 x8 x10 x12 f (x13 + 1) N93
    else none))
def m_Mo_shock_354 (k0 : Nat) (x1 : Int) (x2 : Int) (x3 : Int) (x4 : Int) (x5 : Int) (x6 : Int) (x8 : Int) (x10 : Int) (x12 : Int) : Nat → Int → Int → nS → Option ((Int × Int × Int × Int) × nS)
  | 0, _, _, _ => none
  | f + 1, x13, x14, N =>
    if rg (N k0 1) then
    if (N k0 1) ≤ x14 then
    some ((0, 0, x13, x14), N)
    else
    if 0 ≤ x14 ∧ x14 < ((10 : Nat) : Int) then
    if rg (N (k0 + 4) (Int.toNat x14)) then
    if (N (k0 + 4) (Int.toNat x14)) = 0 then
    if rg (x13 + 0) then
    if rg (x14 + 1) then
    m_Mo_shock_354 k0 x1 x2 x3 x4 x5 x6 x8 x10 x12 f (x13 + 0) (x14 + 1) N
    else none
    else none
    else
    if rg (N (k0 + 27) (Int.toNat x14)) then
    if (N (k0 + 27) (Int.toNat x14)) = 0 then
    if x13 = x5 then
    some ((1, x14, x13, x14), N)
    else
    if rg (x13 + 1) then
    if rg (x14 + 1) then
    m_Mo_shock_354 k0 x1 x2 x3 x4 x5 x6 x8 x10 x12 f (x13 + 1) (x14 + 1) N
    else none
    else none
    else
    if rg (x13 + 0) then
    if rg (x14 + 1) then
    m_Mo_shock_354 k0 x1 x2 x3 x4 x5 x6 x8 x10 x12 f (x13 + 0) (x14 + 1) N
    else none
    else none
    else none
    else none
    else none
    else none
def m_Mo_shock (k0 : Nat) (x1 : Int) (x2 : Int) (x3 : Int) (x4 : Int) (x5 : Int) (N : nS) : Option (Int × nS) :=
  nbd (m_Mo_in x1 0 10000 N) (fun r1 N2 =>
  if rg r1 then
  if r1 = 0 then
  nlt (up2 N2 k0 0 1) (fun N6 =>
  some (0, N6))
  else
  nbd (m_Mo_in x2 1 100 N2) (fun r9 N10 =>
  if rg r9 then
  if r9 = 0 then
  nlt (up2 N10 k0 0 1) (fun N14 =>
  some (0, N14))
  else
  nbd (m_Mo_in x3 1 30 N10) (fun r17 N18 =>
  if rg r17 then
  if r17 = 0 then
  nlt (up2 N18 k0 0 1) (fun N22 =>
  some (0, N22))
  else
  nbd (m_Mo_in x4 0 10000 N18) (fun r25 N26 =>
  if rg r25 then
  if r25 = 0 then
  nlt (up2 N26 k0 0 1) (fun N30 =>
  some (0, N30))
  else
  if x5 < 0 then
  nlt (up2 N26 k0 0 1) (fun N34 =>
  some (0, N34))
  else
  nlt (up2 N26 k0 0 0) (fun N37 =>
  nbd (m_Mo_copy k0 (k0 + 6) 10 (k0 + 22) 10 N37) (fun r40 N41 =>
  nbd (m_Mo_copy k0 (k0 + 7) 120 (k0 + 23) 120 N41) (fun r43 N44 =>
  nbd (m_Mo_copy k0 (k0 + 8) 120 (k0 + 24) 120 N44) (fun r46 N47 =>
  nbd (m_Mo_copy k0 (k0 + 9) 10 (k0 + 25) 10 N47) (fun r49 N50 =>
  nbd (m_Mo_copy k0 (k0 + 10) 10 (k0 + 26) 10 N50) (fun r52 N53 =>
  nlt (up2 N53 k0 7 x1) (fun N55 =>
  if rg (N53 k0 7) then
  nbd (m_Mo_shock_158 k0 x1 x2 x3 x4 x5 (N53 k0 22) (N53 k0 23) (N53 k0 24) (N53 k0 7) FU 0 N55) (fun q63 N64 =>
  nbd (m_Mo_shock_182 k0 x1 x2 x3 x4 x5 (N53 k0 22) (N53 k0 23) (N53 k0 24) (N53 k0 7) FU 0 N64) (fun q96 N97 =>
  nlt (up2 N97 k0 7 (N53 k0 7)) (fun N99 =>
  nlt (up2 N99 k0 22 (N53 k0 22)) (fun N101 =>
  nlt (up2 N101 k0 23 (N53 k0 23)) (fun N103 =>
  nlt (up2 N103 k0 24 (N53 k0 24)) (fun N105 =>
  nbd (m_Mo_copy k0 (k0 + 22) 10 (k0 + 6) 10 N105) (fun r107 N108 =>
  nbd (m_Mo_copy k0 (k0 + 23) 120 (k0 + 7) 120 N108) (fun r110 N111 =>
  nbd (m_Mo_copy k0 (k0 + 24) 120 (k0 + 8) 120 N111) (fun r113 N114 =>
  nbd (m_Mo_copy k0 (k0 + 25) 10 (k0 + 9) 10 N114) (fun r116 N117 =>
  nbd (m_Mo_copy k0 (k0 + 26) 10 (k0 + 10) 10 N117) (fun r119 N120 =>
  nbd (m_Mo_shock_354 k0 x1 x2 x3 x4 x5 (N53 k0 22) (N53 k0 23) (N53 k0 24) (N53 k0 7) FU 0 0 N120) (fun q142 N143 =>
  if q142.1 = 0 then
  some ((-1), N143)
  else
  some (q142.2.1, N143)))))))))))))
  else none)))))))
  else none)
  else none)
  else none)
  else none)
set_option maxRecDepth 20000 in
theorem k_307 : Cond.fieldLink R_Mo 81 (T_Mo 35).1 (T_Mo 35).2.1 (T_Mo 35).2.2.1 ∈ TT := tt_i 581 (by decide +kernel) (by decide +kernel)
set_option maxRecDepth 20000 in
theorem k_308 : Cond.methodLink R_Mo 177 y_Mo_copy ∈ TT := tt_i 773 (by decide +kernel) (by decide +kernel)
set_option maxRecDepth 20000 in
theorem k_309 : Cond.code y_Mo_copy b_Mo_copy 4 none ∈ TT := tt_i 776 (by decide +kernel) (by decide +kernel)
set_option maxRecDepth 20000 in
theorem k_310 : Cond.instanceMethod y_Mo_copy ∈ TT := tt_i 775 (by decide +kernel) (by decide +kernel)
set_option maxRecDepth 20000 in
theorem k_311 : Cond.selects R_Mo y_Mo_copy y_Mo_copy ∈ TT := tt_i 21 (by decide +kernel) (by decide +kernel)
set_option maxRecDepth 20000 in
theorem k_312 : Cond.fieldLink R_Mo 84 (T_Mo 36).1 (T_Mo 36).2.1 (T_Mo 36).2.2.1 ∈ TT := tt_i 582 (by decide +kernel) (by decide +kernel)
set_option maxRecDepth 20000 in
theorem k_313 : Cond.fieldLink R_Mo 87 (T_Mo 37).1 (T_Mo 37).2.1 (T_Mo 37).2.2.1 ∈ TT := tt_i 583 (by decide +kernel) (by decide +kernel)
set_option maxRecDepth 20000 in
theorem k_314 : Cond.fieldLink R_Mo 90 (T_Mo 38).1 (T_Mo 38).2.1 (T_Mo 38).2.2.1 ∈ TT := tt_i 584 (by decide +kernel) (by decide +kernel)
set_option maxRecDepth 20000 in
theorem k_315 : Cond.fieldLink R_Mo 93 (T_Mo 39).1 (T_Mo 39).2.1 (T_Mo 39).2.2.1 ∈ TT := tt_i 585 (by decide +kernel) (by decide +kernel)
set_option maxRecDepth 20000 in
theorem k_316 : Cond.fieldLink R_Mo 96 (T_Mo 40).1 (T_Mo 40).2.1 (T_Mo 40).2.2.1 ∈ TT := tt_i 586 (by decide +kernel) (by decide +kernel)
abbrev rm_Mo_shock : Room := { frames := 6, cells := 0, slots := 0, locals := 148 }
set_option maxRecDepth 100000 in
set_option maxHeartbeats 4000000 in
theorem w_Mo_shock_158 {p : Program} {l : Launch} {e : Env} {s : State} {m : MethodId} {args : Array Value} {below : List Frame} {meth : Method} {c : Code} {Q : State → Prop} {D : va_G} {ct : Nat → ClassId} {A : Nat → Prop} {ad : Nat → Nat} {S : nH} (hC : nC p s m args c D vwCl ct A ad S 16 b_Mo_shock R_Mo TT) (k0 : Nat) (hp0 : isM S k0) (x1 : Int) (hx1 : rg x1) (x2 : Int) (hx2 : rg x2) (x3 : Int) (hx3 : rg x3) (x4 : Int) (hx4 : rg x4) (x5 : Int) (hx5 : rg x5) (x6 : Int) (x8 : Int) (x10 : Int) (x12 : Int) (hx12 : rg x12) : ∀ (f : Nat) (x13 : Int) (N : nS) (q : Int) (No : nS), m_Mo_shock_158 k0 x1 x2 x3 x4 x5 x6 x8 x10 x12 f x13 N = some (q, No) → rg x13 → nV p l e rm_Mo_shock s m args below meth c 0 0 Q D vwCl ct A ad S 16 No 179 [(0, .ref (ad k0)), (1, .int (iI x1)), (2, .int (iI x2)), (3, .int (iI x3)), (4, .int (iI x4)), (5, .int (iI x5)), (6, .long (lI x6)), (8, .long (lI x8)), (10, .long (lI x10)), (12, .int (iI x12)), (13, .int (iI q))] [] → nV p l e rm_Mo_shock s m args below meth c 0 0 Q D vwCl ct A ad S 16 N 158 [(0, .ref (ad k0)), (1, .int (iI x1)), (2, .int (iI x2)), (3, .int (iI x3)), (4, .int (iI x4)), (5, .int (iI x5)), (6, .long (lI x6)), (8, .long (lI x8)), (10, .long (lI x10)), (12, .int (iI x12)), (13, .int (iI x13))] [] := by
  intro f
  induction f with
  | zero =>
    intro x13 N q No hm
    rw [m_Mo_shock_158] at hm
    cases hm
  | succ f ih =>
    intro x13 N q No hm hx13 kx
    rw [m_Mo_shock_158] at hm
    refine nv_iload hC d_Mo_shock_158 10 rfl ?_
    refine nv_bipush hC (z := 10) d_Mo_shock_160 rfl ?_
    refine nv_icmp_ge hC hx13 ⟨by decide, by decide⟩ d_Mo_shock_162 (tgt := 179) (by decide) (fun c57 => ?_) (fun c57 => ?_)
    · have hm := if_t c57 hm
      obtain ⟨rfl, rfl⟩ := ret_s hm
      refine nv_sub (lv' := [(0, .ref (ad k0)), (1, .int (iI x1)), (2, .int (iI x2)), (3, .int (iI x3)), (4, .int (iI x4)), (5, .int (iI x5)), (6, .long (lI x6)), (8, .long (lI x8)), (10, .long (lI x10)), (12, .int (iI x12)), (13, .int (iI x13))]) [0, 1, 2, 3, 4, 5, 6, 7, 8, 9, 10] rfl ?_
      exact kx
    · have hm := if_f c57 hm
      refine nv_aload_n hC d_Mo_shock_165 rfl 0 rfl ?_
      refine nv_getR hC (j := 40) hp0.1 rfl in_Mo (by decide) k_316 rfl d_Mo_shock_166 ?_
      refine nv_iload hC d_Mo_shock_169 10 rfl ?_
      refine nv_iconst hC d_Mo_shock_171 ?_
      obtain ⟨hc58, hm⟩ := ck_s hm
      obtain ⟨N59, e60, hm⟩ := nlt_s hm
      refine nv_zast hC (isM_27 hp0) (by decide) hc58 (Or.inl rfl) e60 d_Mo_shock_172 ?_
      refine nv_iinc (lv' := [(13, .int (iI (x13 + 1))), (0, .ref (ad k0)), (1, .int (iI x1)), (2, .int (iI x2)), (3, .int (iI x3)), (4, .int (iI x4)), (5, .int (iI x5)), (6, .long (lI x6)), (8, .long (lI x8)), (10, .long (lI x10)), (12, .int (iI x12))]) hC d_Mo_shock_173 10 rfl (by decide) rfl ?_
      refine nv_goto hC d_Mo_shock_176 (tgt := 158) (by decide) ?_
      obtain ⟨hr61, hm⟩ := ck_s hm
      refine nv_sub (lv' := [(0, .ref (ad k0)), (1, .int (iI x1)), (2, .int (iI x2)), (3, .int (iI x3)), (4, .int (iI x4)), (5, .int (iI x5)), (6, .long (lI x6)), (8, .long (lI x8)), (10, .long (lI x10)), (12, .int (iI x12)), (13, .int (iI (x13 + 1)))]) [1, 2, 3, 4, 5, 6, 7, 8, 9, 10, 0] rfl ?_
      exact ih (x13 + 1) N59 q No hm hr61 kx
set_option maxRecDepth 100000 in
set_option maxHeartbeats 4000000 in
theorem w_Mo_shock_191 {p : Program} {l : Launch} {e : Env} {s : State} {m : MethodId} {args : Array Value} {below : List Frame} {meth : Method} {c : Code} {Q : State → Prop} {D : va_G} {ct : Nat → ClassId} {A : Nat → Prop} {ad : Nat → Nat} {S : nH} (hC : nC p s m args c D vwCl ct A ad S 16 b_Mo_shock R_Mo TT) (k0 : Nat) (hp0 : isM S k0) (x1 : Int) (hx1 : rg x1) (x2 : Int) (hx2 : rg x2) (x3 : Int) (hx3 : rg x3) (x4 : Int) (hx4 : rg x4) (x5 : Int) (hx5 : rg x5) (x6 : Int) (x8 : Int) (x10 : Int) (x12 : Int) (hx12 : rg x12) (x13 : Int) (hx13 : rg x13) : ∀ (f : Nat) (x14 : Int) (N : nS) (q : Int) (No : nS), m_Mo_shock_191 k0 x1 x2 x3 x4 x5 x6 x8 x10 x12 x13 f x14 N = some (q, No) → rg x14 → nV p l e rm_Mo_shock s m args below meth c 0 0 Q D vwCl ct A ad S 16 No 254 [(0, .ref (ad k0)), (1, .int (iI x1)), (2, .int (iI x2)), (3, .int (iI x3)), (4, .int (iI x4)), (5, .int (iI x5)), (6, .long (lI x6)), (8, .long (lI x8)), (10, .long (lI x10)), (12, .int (iI x12)), (13, .int (iI x13)), (14, .int (iI q))] [] → nV p l e rm_Mo_shock s m args below meth c 0 0 Q D vwCl ct A ad S 16 N 191 [(0, .ref (ad k0)), (1, .int (iI x1)), (2, .int (iI x2)), (3, .int (iI x3)), (4, .int (iI x4)), (5, .int (iI x5)), (6, .long (lI x6)), (8, .long (lI x8)), (10, .long (lI x10)), (12, .int (iI x12)), (13, .int (iI x13)), (14, .int (iI x14))] [] := by
  intro f
  induction f with
  | zero =>
    intro x14 N q No hm
    rw [m_Mo_shock_191] at hm
    cases hm
  | succ f ih =>
    intro x14 N q No hm hx14 kx
    rw [m_Mo_shock_191] at hm
    refine nv_iload hC d_Mo_shock_191 11 rfl ?_
    refine nv_aload_n hC d_Mo_shock_193 rfl 0 rfl ?_
    refine nv_getI hC (j := 1) hp0.1 rfl in_Mo (by decide) k_225 rfl d_Mo_shock_194 ?_
    obtain ⟨hr67, hm⟩ := ck_s hm
    refine nv_icmp_ge hC hx14 hr67 d_Mo_shock_197 (tgt := 254) (by decide) (fun c68 => ?_) (fun c68 => ?_)
    · have hm := if_t c68 hm
      obtain ⟨rfl, rfl⟩ := ret_s hm
      refine nv_sub (lv' := [(0, .ref (ad k0)), (1, .int (iI x1)), (2, .int (iI x2)), (3, .int (iI x3)), (4, .int (iI x4)), (5, .int (iI x5)), (6, .long (lI x6)), (8, .long (lI x8)), (10, .long (lI x10)), (12, .int (iI x12)), (13, .int (iI x13)), (14, .int (iI x14))]) [0, 1, 2, 3, 4, 5, 6, 7, 8, 9, 10, 11] rfl ?_
      exact kx
    · have hm := if_f c68 hm
      refine nv_aload_n hC d_Mo_shock_200 rfl 0 rfl ?_
      refine nv_getR hC (j := 5) hp0.1 rfl in_Mo (by decide) k_291 rfl d_Mo_shock_201 ?_
      refine nv_iload hC d_Mo_shock_204 11 rfl ?_
      obtain ⟨hc69, hm⟩ := ck_s hm
      refine nv_zald hC (isM_4 hp0) (by decide) hc69 d_Mo_shock_206 ?_
      obtain ⟨hr70, hm⟩ := ck_s hm
      refine nv_if_eq hC hr70 d_Mo_shock_207 (tgt := 248) (by decide) (fun c71 => ?_) (fun c71 => ?_)
      · have hm := if_t c71 hm
        refine nv_iinc (lv' := [(14, .int (iI (x14 + 1))), (0, .ref (ad k0)), (1, .int (iI x1)), (2, .int (iI x2)), (3, .int (iI x3)), (4, .int (iI x4)), (5, .int (iI x5)), (6, .long (lI x6)), (8, .long (lI x8)), (10, .long (lI x10)), (12, .int (iI x12)), (13, .int (iI x13))]) hC d_Mo_shock_248 11 rfl (by decide) rfl ?_
        refine nv_goto hC d_Mo_shock_251 (tgt := 191) (by decide) ?_
        obtain ⟨hr72, hm⟩ := ck_s hm
        refine nv_sub (lv' := [(0, .ref (ad k0)), (1, .int (iI x1)), (2, .int (iI x2)), (3, .int (iI x3)), (4, .int (iI x4)), (5, .int (iI x5)), (6, .long (lI x6)), (8, .long (lI x8)), (10, .long (lI x10)), (12, .int (iI x12)), (13, .int (iI x13)), (14, .int (iI (x14 + 1)))]) [1, 2, 3, 4, 5, 6, 7, 8, 9, 10, 11, 0] rfl ?_
        exact ih (x14 + 1) N q No hm hr72 kx
      · have hm := if_f c71 hm
        refine nv_aload_n hC d_Mo_shock_210 rfl 0 rfl ?_
        refine nv_iload hC d_Mo_shock_211 11 rfl ?_
        refine nv_iload_n hC d_Mo_shock_213 rfl 2 rfl ?_
        obtain ⟨r73, N74, hq75, hm⟩ := nbd_s hm
        refine nv_callv (N' := N74) (nr_V hC (As := [.int (iI x14), .int (iI x2)]) (st := []) hp0.1 rfl (c_Mo_take l hC.2.2.1 k0 hp0 x14 hx14 x2 hx2 N r73 N74 hq75) (cwV 2 hC.1.2.2.2.2 (tt_V k_272 k_274 k_275 k_229 k_273) rfl rfl rfl (by decide +kernel) ⟨Nat.le_of_ble_eq_true rfl, Nat.le_of_ble_eq_true rfl⟩) rfl rfl (Nat.le_of_ble_eq_true rfl) ⟨(Nat.le_of_ble_eq_true rfl), (Nat.le_of_ble_eq_true rfl)⟩ d_Mo_shock_214) ?_
        refine nv_aload_n hC d_Mo_shock_217 rfl 0 rfl ?_
        refine nv_getR hC (j := 40) hp0.1 rfl in_Mo (by decide) k_316 rfl d_Mo_shock_218 ?_
        refine nv_iload hC d_Mo_shock_221 11 rfl ?_
        refine nv_aload_n hC d_Mo_shock_223 rfl 0 rfl ?_
        refine nv_getR hC (j := 40) hp0.1 rfl in_Mo (by decide) k_316 rfl d_Mo_shock_224 ?_
        refine nv_iload hC d_Mo_shock_227 11 rfl ?_
        refine nv_zald hC (isM_27 hp0) (by decide) hc69 d_Mo_shock_229 ?_
        obtain ⟨hr76, hm⟩ := ck_s hm
        refine nv_if_ne hC hr76 d_Mo_shock_230 (tgt := 242) (by decide) (fun c77 => ?_) (fun c77 => ?_)
        · have hm := if_f c77 hm
          refine nv_iconst hC d_Mo_shock_242 ?_
          refine nv_goto hC d_Mo_shock_243 (tgt := 247) (by decide) ?_
          obtain ⟨N78, e79, hm⟩ := nlt_s hm
          refine nv_zast hC (isM_27 hp0) (by decide) hc69 (Or.inr rfl) e79 d_Mo_shock_247 ?_
          refine nv_iinc (lv' := [(14, .int (iI (x14 + 1))), (0, .ref (ad k0)), (1, .int (iI x1)), (2, .int (iI x2)), (3, .int (iI x3)), (4, .int (iI x4)), (5, .int (iI x5)), (6, .long (lI x6)), (8, .long (lI x8)), (10, .long (lI x10)), (12, .int (iI x12)), (13, .int (iI x13))]) hC d_Mo_shock_248 11 rfl (by decide) rfl ?_
          refine nv_goto hC d_Mo_shock_251 (tgt := 191) (by decide) ?_
          obtain ⟨hr80, hm⟩ := ck_s hm
          refine nv_sub (lv' := [(0, .ref (ad k0)), (1, .int (iI x1)), (2, .int (iI x2)), (3, .int (iI x3)), (4, .int (iI x4)), (5, .int (iI x5)), (6, .long (lI x6)), (8, .long (lI x8)), (10, .long (lI x10)), (12, .int (iI x12)), (13, .int (iI x13)), (14, .int (iI (x14 + 1)))]) [1, 2, 3, 4, 5, 6, 7, 8, 9, 10, 11, 0] rfl ?_
          exact ih (x14 + 1) N78 q No hm hr80 kx
        · have hm := if_t c77 hm
          refine nv_aload_n hC d_Mo_shock_233 rfl 0 rfl ?_
          refine nv_getI hC (j := 33) hp0.1 rfl in_Mo (by decide) k_268 rfl d_Mo_shock_234 ?_
          refine nv_iload hC d_Mo_shock_237 4 rfl ?_
          obtain ⟨hr81, hm⟩ := ck_s hm
          refine nv_icmp_lt hC hr81 hx4 d_Mo_shock_239 (tgt := 246) (by decide) (fun c82 => ?_) (fun c82 => ?_)
          · have hm := if_t c82 hm
            refine nv_iconst hC d_Mo_shock_246 ?_
            obtain ⟨N83, e84, hm⟩ := nlt_s hm
            refine nv_zast hC (isM_27 hp0) (by decide) hc69 (Or.inl rfl) e84 d_Mo_shock_247 ?_
            refine nv_iinc (lv' := [(14, .int (iI (x14 + 1))), (0, .ref (ad k0)), (1, .int (iI x1)), (2, .int (iI x2)), (3, .int (iI x3)), (4, .int (iI x4)), (5, .int (iI x5)), (6, .long (lI x6)), (8, .long (lI x8)), (10, .long (lI x10)), (12, .int (iI x12)), (13, .int (iI x13))]) hC d_Mo_shock_248 11 rfl (by decide) rfl ?_
            refine nv_goto hC d_Mo_shock_251 (tgt := 191) (by decide) ?_
            obtain ⟨hr85, hm⟩ := ck_s hm
            refine nv_sub (lv' := [(0, .ref (ad k0)), (1, .int (iI x1)), (2, .int (iI x2)), (3, .int (iI x3)), (4, .int (iI x4)), (5, .int (iI x5)), (6, .long (lI x6)), (8, .long (lI x8)), (10, .long (lI x10)), (12, .int (iI x12)), (13, .int (iI x13)), (14, .int (iI (x14 + 1)))]) [1, 2, 3, 4, 5, 6, 7, 8, 9, 10, 11, 0] rfl ?_
            exact ih (x14 + 1) N83 q No hm hr85 kx
          · have hm := if_f c82 hm
            refine nv_iconst hC d_Mo_shock_242 ?_
            refine nv_goto hC d_Mo_shock_243 (tgt := 247) (by decide) ?_
            obtain ⟨N86, e87, hm⟩ := nlt_s hm
            refine nv_zast hC (isM_27 hp0) (by decide) hc69 (Or.inr rfl) e87 d_Mo_shock_247 ?_
            refine nv_iinc (lv' := [(14, .int (iI (x14 + 1))), (0, .ref (ad k0)), (1, .int (iI x1)), (2, .int (iI x2)), (3, .int (iI x3)), (4, .int (iI x4)), (5, .int (iI x5)), (6, .long (lI x6)), (8, .long (lI x8)), (10, .long (lI x10)), (12, .int (iI x12)), (13, .int (iI x13))]) hC d_Mo_shock_248 11 rfl (by decide) rfl ?_
            refine nv_goto hC d_Mo_shock_251 (tgt := 191) (by decide) ?_
            obtain ⟨hr88, hm⟩ := ck_s hm
            refine nv_sub (lv' := [(0, .ref (ad k0)), (1, .int (iI x1)), (2, .int (iI x2)), (3, .int (iI x3)), (4, .int (iI x4)), (5, .int (iI x5)), (6, .long (lI x6)), (8, .long (lI x8)), (10, .long (lI x10)), (12, .int (iI x12)), (13, .int (iI x13)), (14, .int (iI (x14 + 1)))]) [1, 2, 3, 4, 5, 6, 7, 8, 9, 10, 11, 0] rfl ?_
            exact ih (x14 + 1) N86 q No hm hr88 kx
set_option maxRecDepth 100000 in
set_option maxHeartbeats 4000000 in
theorem w_Mo_shock_182 {p : Program} {l : Launch} {e : Env} {s : State} {m : MethodId} {args : Array Value} {below : List Frame} {meth : Method} {c : Code} {Q : State → Prop} {D : va_G} {ct : Nat → ClassId} {A : Nat → Prop} {ad : Nat → Nat} {S : nH} (hC : nC p s m args c D vwCl ct A ad S 16 b_Mo_shock R_Mo TT) (k0 : Nat) (hp0 : isM S k0) (x1 : Int) (hx1 : rg x1) (x2 : Int) (hx2 : rg x2) (x3 : Int) (hx3 : rg x3) (x4 : Int) (hx4 : rg x4) (x5 : Int) (hx5 : rg x5) (x6 : Int) (x8 : Int) (x10 : Int) (x12 : Int) (hx12 : rg x12) : ∀ (f : Nat) (x13 : Int) (N : nS) (q : Int) (No : nS), m_Mo_shock_182 k0 x1 x2 x3 x4 x5 x6 x8 x10 x12 f x13 N = some (q, No) → rg x13 → nV p l e rm_Mo_shock s m args below meth c 0 0 Q D vwCl ct A ad S 16 No 264 [(0, .ref (ad k0)), (1, .int (iI x1)), (2, .int (iI x2)), (3, .int (iI x3)), (4, .int (iI x4)), (5, .int (iI x5)), (6, .long (lI x6)), (8, .long (lI x8)), (10, .long (lI x10)), (12, .int (iI x12)), (13, .int (iI q))] [] → nV p l e rm_Mo_shock s m args below meth c 0 0 Q D vwCl ct A ad S 16 N 182 [(0, .ref (ad k0)), (1, .int (iI x1)), (2, .int (iI x2)), (3, .int (iI x3)), (4, .int (iI x4)), (5, .int (iI x5)), (6, .long (lI x6)), (8, .long (lI x8)), (10, .long (lI x10)), (12, .int (iI x12)), (13, .int (iI x13))] [] := by
  intro f
  induction f with
  | zero =>
    intro x13 N q No hm
    rw [m_Mo_shock_182] at hm
    cases hm
  | succ f ih =>
    intro x13 N q No hm hx13 kx
    rw [m_Mo_shock_182] at hm
    refine nv_iload hC d_Mo_shock_182 10 rfl ?_
    refine nv_iload_n hC d_Mo_shock_184 rfl 3 rfl ?_
    refine nv_icmp_ge hC hx13 hx3 d_Mo_shock_185 (tgt := 264) (by decide) (fun c66 => ?_) (fun c66 => ?_)
    · have hm := if_t c66 hm
      obtain ⟨rfl, rfl⟩ := ret_s hm
      refine nv_sub (lv' := [(0, .ref (ad k0)), (1, .int (iI x1)), (2, .int (iI x2)), (3, .int (iI x3)), (4, .int (iI x4)), (5, .int (iI x5)), (6, .long (lI x6)), (8, .long (lI x8)), (10, .long (lI x10)), (12, .int (iI x12)), (13, .int (iI x13))]) [0, 1, 2, 3, 4, 5, 6, 7, 8, 9, 10] rfl ?_
      exact kx
    · have hm := if_f c66 hm
      refine nv_iconst hC d_Mo_shock_188 ?_
      refine nv_istore (lv' := [(14, .int (iI 0)), (0, .ref (ad k0)), (1, .int (iI x1)), (2, .int (iI x2)), (3, .int (iI x3)), (4, .int (iI x4)), (5, .int (iI x5)), (6, .long (lI x6)), (8, .long (lI x8)), (10, .long (lI x10)), (12, .int (iI x12)), (13, .int (iI x13))]) hC d_Mo_shock_189 (by decide) rfl ?_
      obtain ⟨q89, N90, hq91, hm⟩ := nbd_s hm
      refine nv_sub (lv' := [(0, .ref (ad k0)), (1, .int (iI x1)), (2, .int (iI x2)), (3, .int (iI x3)), (4, .int (iI x4)), (5, .int (iI x5)), (6, .long (lI x6)), (8, .long (lI x8)), (10, .long (lI x10)), (12, .int (iI x12)), (13, .int (iI x13)), (14, .int (iI 0))]) [1, 2, 3, 4, 5, 6, 7, 8, 9, 10, 11, 0] rfl ?_
      refine w_Mo_shock_191 hC k0 hp0 x1 hx1 x2 hx2 x3 hx3 x4 hx4 x5 hx5 x6 x8 x10 x12 hx12 x13 hx13 FU 0 N q89 N90 hq91 ⟨by decide, by decide⟩ ?_
      refine nv_aload_n hC d_Mo_shock_254 rfl 0 rfl ?_
      obtain ⟨r92, N93, hq94, hm⟩ := nbd_s hm
      refine nv_callv (N' := N93) (nr_V hC (As := []) (st := []) hp0.1 rfl (c_Mo_rest l hC.2.2.1 k0 hp0 N90 r92 N93 hq94) (cwV 0 hC.1.2.2.2.2 (tt_V k_299 k_301 k_302 k_229 k_300) rfl rfl rfl (by decide +kernel) ⟨Nat.le_of_ble_eq_true rfl, Nat.le_of_ble_eq_true rfl⟩) rfl rfl (Nat.le_of_ble_eq_true rfl) ⟨(Nat.le_of_ble_eq_true rfl), (Nat.le_of_ble_eq_true rfl)⟩ d_Mo_shock_255) ?_
      refine nv_iinc (lv' := [(13, .int (iI (x13 + 1))), (0, .ref (ad k0)), (1, .int (iI x1)), (2, .int (iI x2)), (3, .int (iI x3)), (4, .int (iI x4)), (5, .int (iI x5)), (6, .long (lI x6)), (8, .long (lI x8)), (10, .long (lI x10)), (12, .int (iI x12)), (14, .int (iI q89))]) hC d_Mo_shock_258 10 rfl (by decide) rfl ?_
      refine nv_goto hC d_Mo_shock_261 (tgt := 182) (by decide) ?_
      obtain ⟨hr95, hm⟩ := ck_s hm
      refine nv_sub (lv' := [(0, .ref (ad k0)), (1, .int (iI x1)), (2, .int (iI x2)), (3, .int (iI x3)), (4, .int (iI x4)), (5, .int (iI x5)), (6, .long (lI x6)), (8, .long (lI x8)), (10, .long (lI x10)), (12, .int (iI x12)), (13, .int (iI (x13 + 1)))]) [1, 2, 3, 4, 5, 6, 7, 8, 9, 10, 0] rfl ?_
      exact ih (x13 + 1) N93 q No hm hr95 kx
set_option maxRecDepth 100000 in
set_option maxHeartbeats 4000000 in
theorem w_Mo_shock_354 {p : Program} {l : Launch} {e : Env} {s : State} {m : MethodId} {args : Array Value} {below : List Frame} {meth : Method} {c : Code} {Q : State → Prop} {D : va_G} {ct : Nat → ClassId} {A : Nat → Prop} {ad : Nat → Nat} {S : nH} (hC : nC p s m args c D vwCl ct A ad S 16 b_Mo_shock R_Mo TT) (k0 : Nat) (hp0 : isM S k0) (x1 : Int) (hx1 : rg x1) (x2 : Int) (hx2 : rg x2) (x3 : Int) (hx3 : rg x3) (x4 : Int) (hx4 : rg x4) (x5 : Int) (hx5 : rg x5) (x6 : Int) (x8 : Int) (x10 : Int) (x12 : Int) (hx12 : rg x12) : ∀ (f : Nat) (x13 x14 : Int) (N : nS) (q : Int × Int × Int × Int) (No : nS), m_Mo_shock_354 k0 x1 x2 x3 x4 x5 x6 x8 x10 x12 f x13 x14 N = some (q, No) → rg x13 → rg x14 → (q.1 = 0 → nV p l e rm_Mo_shock s m args below meth c 0 0 Q D vwCl ct A ad S 16 No 426 [(0, .ref (ad k0)), (1, .int (iI x1)), (2, .int (iI x2)), (3, .int (iI x3)), (4, .int (iI x4)), (5, .int (iI x5)), (6, .long (lI x6)), (8, .long (lI x8)), (10, .long (lI x10)), (12, .int (iI x12)), (13, .int (iI q.2.2.1)), (14, .int (iI q.2.2.2))] []) → (q.1 = 1 → nV p l e rm_Mo_shock s m args below meth c 0 0 Q D vwCl ct A ad S 16 No 404 [] [.int (iI q.2.1)]) → nV p l e rm_Mo_shock s m args below meth c 0 0 Q D vwCl ct A ad S 16 N 354 [(0, .ref (ad k0)), (1, .int (iI x1)), (2, .int (iI x2)), (3, .int (iI x3)), (4, .int (iI x4)), (5, .int (iI x5)), (6, .long (lI x6)), (8, .long (lI x8)), (10, .long (lI x10)), (12, .int (iI x12)), (13, .int (iI x13)), (14, .int (iI x14))] [] := by
  intro f
  induction f with
  | zero =>
    intro x13 x14 N q No hm
    rw [m_Mo_shock_354] at hm
    cases hm
  | succ f ih =>
    intro x13 x14 N q No hm hx13 hx14 kx kr
    rw [m_Mo_shock_354] at hm
    refine nv_iload hC d_Mo_shock_354 11 rfl ?_
    refine nv_aload_n hC d_Mo_shock_356 rfl 0 rfl ?_
    refine nv_getI hC (j := 1) hp0.1 rfl in_Mo (by decide) k_225 rfl d_Mo_shock_357 ?_
    obtain ⟨hr122, hm⟩ := ck_s hm
    refine nv_icmp_ge hC hx14 hr122 d_Mo_shock_360 (tgt := 426) (by decide) (fun c123 => ?_) (fun c123 => ?_)
    · have hm := if_t c123 hm
      obtain ⟨rfl, rfl⟩ := ret_s hm
      refine nv_sub (lv' := [(0, .ref (ad k0)), (1, .int (iI x1)), (2, .int (iI x2)), (3, .int (iI x3)), (4, .int (iI x4)), (5, .int (iI x5)), (6, .long (lI x6)), (8, .long (lI x8)), (10, .long (lI x10)), (12, .int (iI x12)), (13, .int (iI x13)), (14, .int (iI x14))]) [0, 1, 2, 3, 4, 5, 6, 7, 8, 9, 10, 11] rfl ?_
      exact kx rfl
    · have hm := if_f c123 hm
      refine nv_aload_n hC d_Mo_shock_363 rfl 0 rfl ?_
      refine nv_getR hC (j := 5) hp0.1 rfl in_Mo (by decide) k_291 rfl d_Mo_shock_364 ?_
      refine nv_iload hC d_Mo_shock_367 11 rfl ?_
      obtain ⟨hc124, hm⟩ := ck_s hm
      refine nv_zald hC (isM_4 hp0) (by decide) hc124 d_Mo_shock_369 ?_
      obtain ⟨hr125, hm⟩ := ck_s hm
      refine nv_if_eq hC hr125 d_Mo_shock_370 (tgt := 387) (by decide) (fun c126 => ?_) (fun c126 => ?_)
      · have hm := if_t c126 hm
        refine nv_iconst hC d_Mo_shock_387 ?_
        refine nv_istore (lv' := [(15, .int (iI 0)), (0, .ref (ad k0)), (1, .int (iI x1)), (2, .int (iI x2)), (3, .int (iI x3)), (4, .int (iI x4)), (5, .int (iI x5)), (6, .long (lI x6)), (8, .long (lI x8)), (10, .long (lI x10)), (12, .int (iI x12)), (13, .int (iI x13)), (14, .int (iI x14))]) hC d_Mo_shock_388 (by decide) rfl ?_
        refine nv_iload hC d_Mo_shock_390 0 rfl ?_
        refine nv_if_eq hC ⟨by decide, by decide⟩ d_Mo_shock_392 (tgt := 405) (by decide) (fun _ => ?_) (fun h9 => absurd (by decide) h9)
        refine nv_iload hC d_Mo_shock_405 11 rfl ?_
        refine nv_iload hC d_Mo_shock_407 0 rfl ?_
        refine nv_if_eq hC ⟨by decide, by decide⟩ d_Mo_shock_409 (tgt := 416) (by decide) (fun _ => ?_) (fun h9 => absurd (by decide) h9)
        refine nv_iconst hC d_Mo_shock_416 ?_
        refine nv_iadd hC d_Mo_shock_417 ?_
        refine nv_istore (lv' := [(13, .int (iI (x13 + 0))), (15, .int (iI 0)), (0, .ref (ad k0)), (1, .int (iI x1)), (2, .int (iI x2)), (3, .int (iI x3)), (4, .int (iI x4)), (5, .int (iI x5)), (6, .long (lI x6)), (8, .long (lI x8)), (10, .long (lI x10)), (12, .int (iI x12)), (14, .int (iI x14))]) hC d_Mo_shock_418 (by decide) rfl ?_
        refine nv_iinc (lv' := [(14, .int (iI (x14 + 1))), (13, .int (iI (x13 + 0))), (15, .int (iI 0)), (0, .ref (ad k0)), (1, .int (iI x1)), (2, .int (iI x2)), (3, .int (iI x3)), (4, .int (iI x4)), (5, .int (iI x5)), (6, .long (lI x6)), (8, .long (lI x8)), (10, .long (lI x10)), (12, .int (iI x12))]) hC d_Mo_shock_420 12 rfl (by decide) rfl ?_
        refine nv_goto hC d_Mo_shock_423 (tgt := 354) (by decide) ?_
        obtain ⟨hr129, hm⟩ := ck_s hm
        obtain ⟨hr130, hm⟩ := ck_s hm
        refine nv_sub (lv' := [(0, .ref (ad k0)), (1, .int (iI x1)), (2, .int (iI x2)), (3, .int (iI x3)), (4, .int (iI x4)), (5, .int (iI x5)), (6, .long (lI x6)), (8, .long (lI x8)), (10, .long (lI x10)), (12, .int (iI x12)), (13, .int (iI (x13 + 0))), (14, .int (iI (x14 + 1)))]) [3, 4, 5, 6, 7, 8, 9, 10, 11, 12, 1, 0] rfl ?_
        exact ih (x13 + 0) (x14 + 1) N q No hm hr129 hr130 kx kr
      · have hm := if_f c126 hm
        refine nv_aload_n hC d_Mo_shock_373 rfl 0 rfl ?_
        refine nv_getR hC (j := 40) hp0.1 rfl in_Mo (by decide) k_316 rfl d_Mo_shock_374 ?_
        refine nv_iload hC d_Mo_shock_377 11 rfl ?_
        refine nv_zald hC (isM_27 hp0) (by decide) hc124 d_Mo_shock_379 ?_
        obtain ⟨hr131, hm⟩ := ck_s hm
        refine nv_if_ne hC hr131 d_Mo_shock_380 (tgt := 387) (by decide) (fun c132 => ?_) (fun c132 => ?_)
        · have hm := if_f c132 hm
          refine nv_iconst hC d_Mo_shock_387 ?_
          refine nv_istore (lv' := [(15, .int (iI 0)), (0, .ref (ad k0)), (1, .int (iI x1)), (2, .int (iI x2)), (3, .int (iI x3)), (4, .int (iI x4)), (5, .int (iI x5)), (6, .long (lI x6)), (8, .long (lI x8)), (10, .long (lI x10)), (12, .int (iI x12)), (13, .int (iI x13)), (14, .int (iI x14))]) hC d_Mo_shock_388 (by decide) rfl ?_
          refine nv_iload hC d_Mo_shock_390 0 rfl ?_
          refine nv_if_eq hC ⟨by decide, by decide⟩ d_Mo_shock_392 (tgt := 405) (by decide) (fun _ => ?_) (fun h9 => absurd (by decide) h9)
          refine nv_iload hC d_Mo_shock_405 11 rfl ?_
          refine nv_iload hC d_Mo_shock_407 0 rfl ?_
          refine nv_if_eq hC ⟨by decide, by decide⟩ d_Mo_shock_409 (tgt := 416) (by decide) (fun _ => ?_) (fun h9 => absurd (by decide) h9)
          refine nv_iconst hC d_Mo_shock_416 ?_
          refine nv_iadd hC d_Mo_shock_417 ?_
          refine nv_istore (lv' := [(13, .int (iI (x13 + 0))), (15, .int (iI 0)), (0, .ref (ad k0)), (1, .int (iI x1)), (2, .int (iI x2)), (3, .int (iI x3)), (4, .int (iI x4)), (5, .int (iI x5)), (6, .long (lI x6)), (8, .long (lI x8)), (10, .long (lI x10)), (12, .int (iI x12)), (14, .int (iI x14))]) hC d_Mo_shock_418 (by decide) rfl ?_
          refine nv_iinc (lv' := [(14, .int (iI (x14 + 1))), (13, .int (iI (x13 + 0))), (15, .int (iI 0)), (0, .ref (ad k0)), (1, .int (iI x1)), (2, .int (iI x2)), (3, .int (iI x3)), (4, .int (iI x4)), (5, .int (iI x5)), (6, .long (lI x6)), (8, .long (lI x8)), (10, .long (lI x10)), (12, .int (iI x12))]) hC d_Mo_shock_420 12 rfl (by decide) rfl ?_
          refine nv_goto hC d_Mo_shock_423 (tgt := 354) (by decide) ?_
          obtain ⟨hr135, hm⟩ := ck_s hm
          obtain ⟨hr136, hm⟩ := ck_s hm
          refine nv_sub (lv' := [(0, .ref (ad k0)), (1, .int (iI x1)), (2, .int (iI x2)), (3, .int (iI x3)), (4, .int (iI x4)), (5, .int (iI x5)), (6, .long (lI x6)), (8, .long (lI x8)), (10, .long (lI x10)), (12, .int (iI x12)), (13, .int (iI (x13 + 0))), (14, .int (iI (x14 + 1)))]) [3, 4, 5, 6, 7, 8, 9, 10, 11, 12, 1, 0] rfl ?_
          exact ih (x13 + 0) (x14 + 1) N q No hm hr135 hr136 kx kr
        · have hm := if_t c132 hm
          refine nv_iconst hC d_Mo_shock_383 ?_
          refine nv_goto hC d_Mo_shock_384 (tgt := 388) (by decide) ?_
          refine nv_istore (lv' := [(15, .int (iI 1)), (0, .ref (ad k0)), (1, .int (iI x1)), (2, .int (iI x2)), (3, .int (iI x3)), (4, .int (iI x4)), (5, .int (iI x5)), (6, .long (lI x6)), (8, .long (lI x8)), (10, .long (lI x10)), (12, .int (iI x12)), (13, .int (iI x13)), (14, .int (iI x14))]) hC d_Mo_shock_388 (by decide) rfl ?_
          refine nv_iload hC d_Mo_shock_390 0 rfl ?_
          refine nv_if_eq hC ⟨by decide, by decide⟩ d_Mo_shock_392 (tgt := 405) (by decide) (fun h9 => absurd h9 (by decide)) (fun _ => ?_)
          refine nv_iload hC d_Mo_shock_395 11 rfl ?_
          refine nv_iload hC d_Mo_shock_397 6 rfl ?_
          refine nv_icmp_ne hC hx13 hx5 d_Mo_shock_399 (tgt := 405) (by decide) (fun c138 => ?_) (fun c138 => ?_)
          · have hm := if_f c138 hm
            refine nv_iload hC d_Mo_shock_405 11 rfl ?_
            refine nv_iload hC d_Mo_shock_407 0 rfl ?_
            refine nv_if_eq hC ⟨by decide, by decide⟩ d_Mo_shock_409 (tgt := 416) (by decide) (fun h9 => absurd h9 (by decide)) (fun _ => ?_)
            refine nv_iconst hC d_Mo_shock_412 ?_
            refine nv_goto hC d_Mo_shock_413 (tgt := 417) (by decide) ?_
            refine nv_iadd hC d_Mo_shock_417 ?_
            refine nv_istore (lv' := [(13, .int (iI (x13 + 1))), (15, .int (iI 1)), (0, .ref (ad k0)), (1, .int (iI x1)), (2, .int (iI x2)), (3, .int (iI x3)), (4, .int (iI x4)), (5, .int (iI x5)), (6, .long (lI x6)), (8, .long (lI x8)), (10, .long (lI x10)), (12, .int (iI x12)), (14, .int (iI x14))]) hC d_Mo_shock_418 (by decide) rfl ?_
            refine nv_iinc (lv' := [(14, .int (iI (x14 + 1))), (13, .int (iI (x13 + 1))), (15, .int (iI 1)), (0, .ref (ad k0)), (1, .int (iI x1)), (2, .int (iI x2)), (3, .int (iI x3)), (4, .int (iI x4)), (5, .int (iI x5)), (6, .long (lI x6)), (8, .long (lI x8)), (10, .long (lI x10)), (12, .int (iI x12))]) hC d_Mo_shock_420 12 rfl (by decide) rfl ?_
            refine nv_goto hC d_Mo_shock_423 (tgt := 354) (by decide) ?_
            obtain ⟨hr140, hm⟩ := ck_s hm
            obtain ⟨hr141, hm⟩ := ck_s hm
            refine nv_sub (lv' := [(0, .ref (ad k0)), (1, .int (iI x1)), (2, .int (iI x2)), (3, .int (iI x3)), (4, .int (iI x4)), (5, .int (iI x5)), (6, .long (lI x6)), (8, .long (lI x8)), (10, .long (lI x10)), (12, .int (iI x12)), (13, .int (iI (x13 + 1))), (14, .int (iI (x14 + 1)))]) [3, 4, 5, 6, 7, 8, 9, 10, 11, 12, 1, 0] rfl ?_
            exact ih (x13 + 1) (x14 + 1) N q No hm hr140 hr141 kx kr
          · have hm := if_t c138 hm
            refine nv_iload hC d_Mo_shock_402 12 rfl ?_
            obtain ⟨rfl, rfl⟩ := ret_s hm
            refine nv_sub (lv' := []) [] rfl ?_
            exact kr rfl
set_option maxRecDepth 100000 in
set_option maxHeartbeats 4000000 in
theorem c_Mo_shock (l : Launch) {D : va_G} {ct : Nat → ClassId} {A : Nat → Prop} {ad : Nat → Nat} {S : nH} (hD : nD ad A S.length) (k0 : Nat) (hp0 : isM S k0) (x1 : Int) (hx1 : rg x1) (x2 : Int) (hx2 : rg x2) (x3 : Int) (hx3 : rg x3) (x4 : Int) (hx4 : rg x4) (x5 : Int) (hx5 : rg x5) (N : nS) (r : Int) (No : nS) (hm : m_Mo_shock k0 x1 x2 x3 x4 x5 N = some (r, No)) : nM l y_Mo_shock (Cond.code y_Mo_shock b_Mo_shock 16 (some .int) :: TT) rm_Mo_shock D vwCl ct A ad S N [.ref (ad k0), .int (iI x1), .int (iI x2), .int (iI x3), .int (iI x4), .int (iI x5)] (nQi D vwCl ct A ad S r No) := by
  refine nM_of (cc := b_Mo_shock) (maxL := 16) (ret := (some .int)) (by decide) rfl (Nat.le_of_ble_eq_true rfl) hD ?_
  intro p e s m below meth c hC hr hlk
  refine nv_lv (lv' := [(0, .ref (ad k0)), (1, .int (iI x1)), (2, .int (iI x2)), (3, .int (iI x3)), (4, .int (iI x4)), (5, .int (iI x5))]) rfl ?_
  rw [m_Mo_shock] at hm
  refine nv_aload_n hC d_Mo_shock_0 rfl 0 rfl ?_
  refine nv_iload_n hC d_Mo_shock_1 rfl 1 rfl ?_
  refine nv_iconst hC d_Mo_shock_2 ?_
  refine nv_sipush hC (z := 10000) d_Mo_shock_3 rfl ?_
  obtain ⟨r1, N2, hq3, hm⟩ := nbd_s hm
  refine nv_calli (x := r1) (N' := N2) (nr_S hC (As := [.int (iI x1), .int (iI 0), .int (iI 10000)]) (st := [.ref (ad k0)]) (c_Mo_in l hC.2.2.1 x1 hx1 0 ⟨by decide, by decide⟩ 10000 ⟨by decide, by decide⟩ N r1 N2 hq3) (cwS 3 hC.1.2.2.2.2 (tt_S k_226 k_228 k_229 k_227) rfl rfl rfl (by decide +kernel) ⟨Nat.le_of_ble_eq_true rfl, Nat.le_of_ble_eq_true rfl⟩) rfl rfl (Nat.le_of_ble_eq_true rfl) ⟨(Nat.le_of_ble_eq_true rfl), (Nat.le_of_ble_eq_true rfl)⟩ d_Mo_shock_6) ?_
  obtain ⟨hr4, hm⟩ := ck_s hm
  refine nv_if_eq hC hr4 d_Mo_shock_9 (tgt := 53) (by decide) (fun c5 => ?_) (fun c5 => ?_)
  · have hm := if_t c5 hm
    refine nv_iconst hC d_Mo_shock_53 ?_
    obtain ⟨N6, e7, hm⟩ := nlt_s hm
    refine nv_putI hC (j := 0) hp0.1 rfl in_Mo (by decide) ty_Mo tyok_Mo nm_Mo k_224 rfl rfl (by decide +kernel) e7 d_Mo_shock_54 ?_
    refine nv_aload_n hC d_Mo_shock_57 rfl 0 rfl ?_
    refine nv_getIe (v := 1) hC (j := 0) hp0.1 rfl in_Mo (by decide) k_224 rfl d_Mo_shock_58 (up2_v e7) ?_
    refine nv_if_le hC ⟨by decide, by decide⟩ d_Mo_shock_61 (tgt := 66) (by decide) (fun h9 => absurd h9 (by decide)) (fun _ => ?_)
    refine nv_iconst hC d_Mo_shock_64 ?_
    obtain ⟨rfl, rfl⟩ := ret_s hm
    exact nv_iret hC hr hlk d_Mo_shock_65
  · have hm := if_f c5 hm
    refine nv_iload_n hC d_Mo_shock_12 rfl 2 rfl ?_
    refine nv_iconst hC d_Mo_shock_13 ?_
    refine nv_bipush hC (z := 100) d_Mo_shock_14 rfl ?_
    obtain ⟨r9, N10, hq11, hm⟩ := nbd_s hm
    refine nv_calli (x := r9) (N' := N10) (nr_S hC (As := [.int (iI x2), .int (iI 1), .int (iI 100)]) (st := [.ref (ad k0)]) (c_Mo_in l hC.2.2.1 x2 hx2 1 ⟨by decide, by decide⟩ 100 ⟨by decide, by decide⟩ N2 r9 N10 hq11) (cwS 3 hC.1.2.2.2.2 (tt_S k_226 k_228 k_229 k_227) rfl rfl rfl (by decide +kernel) ⟨Nat.le_of_ble_eq_true rfl, Nat.le_of_ble_eq_true rfl⟩) rfl rfl (Nat.le_of_ble_eq_true rfl) ⟨(Nat.le_of_ble_eq_true rfl), (Nat.le_of_ble_eq_true rfl)⟩ d_Mo_shock_16) ?_
    obtain ⟨hr12, hm⟩ := ck_s hm
    refine nv_if_eq hC hr12 d_Mo_shock_19 (tgt := 53) (by decide) (fun c13 => ?_) (fun c13 => ?_)
    · have hm := if_t c13 hm
      refine nv_iconst hC d_Mo_shock_53 ?_
      obtain ⟨N14, e15, hm⟩ := nlt_s hm
      refine nv_putI hC (j := 0) hp0.1 rfl in_Mo (by decide) ty_Mo tyok_Mo nm_Mo k_224 rfl rfl (by decide +kernel) e15 d_Mo_shock_54 ?_
      refine nv_aload_n hC d_Mo_shock_57 rfl 0 rfl ?_
      refine nv_getIe (v := 1) hC (j := 0) hp0.1 rfl in_Mo (by decide) k_224 rfl d_Mo_shock_58 (up2_v e15) ?_
      refine nv_if_le hC ⟨by decide, by decide⟩ d_Mo_shock_61 (tgt := 66) (by decide) (fun h9 => absurd h9 (by decide)) (fun _ => ?_)
      refine nv_iconst hC d_Mo_shock_64 ?_
      obtain ⟨rfl, rfl⟩ := ret_s hm
      exact nv_iret hC hr hlk d_Mo_shock_65
    · have hm := if_f c13 hm
      refine nv_iload_n hC d_Mo_shock_22 rfl 3 rfl ?_
      refine nv_iconst hC d_Mo_shock_23 ?_
      refine nv_bipush hC (z := 30) d_Mo_shock_24 rfl ?_
      obtain ⟨r17, N18, hq19, hm⟩ := nbd_s hm
      refine nv_calli (x := r17) (N' := N18) (nr_S hC (As := [.int (iI x3), .int (iI 1), .int (iI 30)]) (st := [.ref (ad k0)]) (c_Mo_in l hC.2.2.1 x3 hx3 1 ⟨by decide, by decide⟩ 30 ⟨by decide, by decide⟩ N10 r17 N18 hq19) (cwS 3 hC.1.2.2.2.2 (tt_S k_226 k_228 k_229 k_227) rfl rfl rfl (by decide +kernel) ⟨Nat.le_of_ble_eq_true rfl, Nat.le_of_ble_eq_true rfl⟩) rfl rfl (Nat.le_of_ble_eq_true rfl) ⟨(Nat.le_of_ble_eq_true rfl), (Nat.le_of_ble_eq_true rfl)⟩ d_Mo_shock_26) ?_
      obtain ⟨hr20, hm⟩ := ck_s hm
      refine nv_if_eq hC hr20 d_Mo_shock_29 (tgt := 53) (by decide) (fun c21 => ?_) (fun c21 => ?_)
      · have hm := if_t c21 hm
        refine nv_iconst hC d_Mo_shock_53 ?_
        obtain ⟨N22, e23, hm⟩ := nlt_s hm
        refine nv_putI hC (j := 0) hp0.1 rfl in_Mo (by decide) ty_Mo tyok_Mo nm_Mo k_224 rfl rfl (by decide +kernel) e23 d_Mo_shock_54 ?_
        refine nv_aload_n hC d_Mo_shock_57 rfl 0 rfl ?_
        refine nv_getIe (v := 1) hC (j := 0) hp0.1 rfl in_Mo (by decide) k_224 rfl d_Mo_shock_58 (up2_v e23) ?_
        refine nv_if_le hC ⟨by decide, by decide⟩ d_Mo_shock_61 (tgt := 66) (by decide) (fun h9 => absurd h9 (by decide)) (fun _ => ?_)
        refine nv_iconst hC d_Mo_shock_64 ?_
        obtain ⟨rfl, rfl⟩ := ret_s hm
        exact nv_iret hC hr hlk d_Mo_shock_65
      · have hm := if_f c21 hm
        refine nv_iload hC d_Mo_shock_32 4 rfl ?_
        refine nv_iconst hC d_Mo_shock_34 ?_
        refine nv_sipush hC (z := 10000) d_Mo_shock_35 rfl ?_
        obtain ⟨r25, N26, hq27, hm⟩ := nbd_s hm
        refine nv_calli (x := r25) (N' := N26) (nr_S hC (As := [.int (iI x4), .int (iI 0), .int (iI 10000)]) (st := [.ref (ad k0)]) (c_Mo_in l hC.2.2.1 x4 hx4 0 ⟨by decide, by decide⟩ 10000 ⟨by decide, by decide⟩ N18 r25 N26 hq27) (cwS 3 hC.1.2.2.2.2 (tt_S k_226 k_228 k_229 k_227) rfl rfl rfl (by decide +kernel) ⟨Nat.le_of_ble_eq_true rfl, Nat.le_of_ble_eq_true rfl⟩) rfl rfl (Nat.le_of_ble_eq_true rfl) ⟨(Nat.le_of_ble_eq_true rfl), (Nat.le_of_ble_eq_true rfl)⟩ d_Mo_shock_38) ?_
        obtain ⟨hr28, hm⟩ := ck_s hm
        refine nv_if_eq hC hr28 d_Mo_shock_41 (tgt := 53) (by decide) (fun c29 => ?_) (fun c29 => ?_)
        · have hm := if_t c29 hm
          refine nv_iconst hC d_Mo_shock_53 ?_
          obtain ⟨N30, e31, hm⟩ := nlt_s hm
          refine nv_putI hC (j := 0) hp0.1 rfl in_Mo (by decide) ty_Mo tyok_Mo nm_Mo k_224 rfl rfl (by decide +kernel) e31 d_Mo_shock_54 ?_
          refine nv_aload_n hC d_Mo_shock_57 rfl 0 rfl ?_
          refine nv_getIe (v := 1) hC (j := 0) hp0.1 rfl in_Mo (by decide) k_224 rfl d_Mo_shock_58 (up2_v e31) ?_
          refine nv_if_le hC ⟨by decide, by decide⟩ d_Mo_shock_61 (tgt := 66) (by decide) (fun h9 => absurd h9 (by decide)) (fun _ => ?_)
          refine nv_iconst hC d_Mo_shock_64 ?_
          obtain ⟨rfl, rfl⟩ := ret_s hm
          exact nv_iret hC hr hlk d_Mo_shock_65
        · have hm := if_f c29 hm
          refine nv_iload hC d_Mo_shock_44 5 rfl ?_
          refine nv_if_lt hC hx5 d_Mo_shock_46 (tgt := 53) (by decide) (fun c33 => ?_) (fun c33 => ?_)
          · have hm := if_t c33 hm
            refine nv_iconst hC d_Mo_shock_53 ?_
            obtain ⟨N34, e35, hm⟩ := nlt_s hm
            refine nv_putI hC (j := 0) hp0.1 rfl in_Mo (by decide) ty_Mo tyok_Mo nm_Mo k_224 rfl rfl (by decide +kernel) e35 d_Mo_shock_54 ?_
            refine nv_aload_n hC d_Mo_shock_57 rfl 0 rfl ?_
            refine nv_getIe (v := 1) hC (j := 0) hp0.1 rfl in_Mo (by decide) k_224 rfl d_Mo_shock_58 (up2_v e35) ?_
            refine nv_if_le hC ⟨by decide, by decide⟩ d_Mo_shock_61 (tgt := 66) (by decide) (fun h9 => absurd h9 (by decide)) (fun _ => ?_)
            refine nv_iconst hC d_Mo_shock_64 ?_
            obtain ⟨rfl, rfl⟩ := ret_s hm
            exact nv_iret hC hr hlk d_Mo_shock_65
          · have hm := if_f c33 hm
            refine nv_iconst hC d_Mo_shock_49 ?_
            refine nv_goto hC d_Mo_shock_50 (tgt := 54) (by decide) ?_
            obtain ⟨N37, e38, hm⟩ := nlt_s hm
            refine nv_putI hC (j := 0) hp0.1 rfl in_Mo (by decide) ty_Mo tyok_Mo nm_Mo k_224 rfl rfl (by decide +kernel) e38 d_Mo_shock_54 ?_
            refine nv_aload_n hC d_Mo_shock_57 rfl 0 rfl ?_
            refine nv_getIe (v := 0) hC (j := 0) hp0.1 rfl in_Mo (by decide) k_224 rfl d_Mo_shock_58 (up2_v e38) ?_
            refine nv_if_le hC ⟨by decide, by decide⟩ d_Mo_shock_61 (tgt := 66) (by decide) (fun _ => ?_) (fun h9 => absurd (by decide) h9)
            refine nv_aload_n hC d_Mo_shock_66 rfl 0 rfl ?_
            refine nv_aload_n hC d_Mo_shock_67 rfl 0 rfl ?_
            refine nv_getR hC (j := 10) hp0.1 rfl in_Mo (by decide) k_242 rfl d_Mo_shock_68 ?_
            refine nv_aload_n hC d_Mo_shock_71 rfl 0 rfl ?_
            refine nv_getR hC (j := 35) hp0.1 rfl in_Mo (by decide) k_307 rfl d_Mo_shock_72 ?_
            obtain ⟨r40, N41, hq42, hm⟩ := nbd_s hm
            refine nv_callv (N' := N41) (nr_V hC (As := [.ref (ad (k0 + 6)), .ref (ad (k0 + 22))]) (st := []) hp0.1 rfl (c_Mo_copy l hC.2.2.1 k0 hp0 (k0 + 6) 10 (isA_mk (isM_6 hp0) (by decide)) (k0 + 22) 10 (isA_mk (isM_22 hp0) (by decide)) N37 r40 N41 hq42) (cwV 2 hC.1.2.2.2.2 (tt_V k_308 k_310 k_311 k_229 k_309) rfl rfl rfl (by decide +kernel) ⟨Nat.le_of_ble_eq_true rfl, Nat.le_of_ble_eq_true rfl⟩) rfl rfl (Nat.le_of_ble_eq_true rfl) ⟨(Nat.le_of_ble_eq_true rfl), (Nat.le_of_ble_eq_true rfl)⟩ d_Mo_shock_75) ?_
            refine nv_aload_n hC d_Mo_shock_78 rfl 0 rfl ?_
            refine nv_aload_n hC d_Mo_shock_79 rfl 0 rfl ?_
            refine nv_getR hC (j := 11) hp0.1 rfl in_Mo (by decide) k_243 rfl d_Mo_shock_80 ?_
            refine nv_aload_n hC d_Mo_shock_83 rfl 0 rfl ?_
            refine nv_getR hC (j := 36) hp0.1 rfl in_Mo (by decide) k_312 rfl d_Mo_shock_84 ?_
            obtain ⟨r43, N44, hq45, hm⟩ := nbd_s hm
            refine nv_callv (N' := N44) (nr_V hC (As := [.ref (ad (k0 + 7)), .ref (ad (k0 + 23))]) (st := []) hp0.1 rfl (c_Mo_copy l hC.2.2.1 k0 hp0 (k0 + 7) 120 (isA_mk (isM_7 hp0) (by decide)) (k0 + 23) 120 (isA_mk (isM_23 hp0) (by decide)) N41 r43 N44 hq45) (cwV 2 hC.1.2.2.2.2 (tt_V k_308 k_310 k_311 k_229 k_309) rfl rfl rfl (by decide +kernel) ⟨Nat.le_of_ble_eq_true rfl, Nat.le_of_ble_eq_true rfl⟩) rfl rfl (Nat.le_of_ble_eq_true rfl) ⟨(Nat.le_of_ble_eq_true rfl), (Nat.le_of_ble_eq_true rfl)⟩ d_Mo_shock_87) ?_
            refine nv_aload_n hC d_Mo_shock_90 rfl 0 rfl ?_
            refine nv_aload_n hC d_Mo_shock_91 rfl 0 rfl ?_
            refine nv_getR hC (j := 12) hp0.1 rfl in_Mo (by decide) k_244 rfl d_Mo_shock_92 ?_
            refine nv_aload_n hC d_Mo_shock_95 rfl 0 rfl ?_
            refine nv_getR hC (j := 37) hp0.1 rfl in_Mo (by decide) k_313 rfl d_Mo_shock_96 ?_
            obtain ⟨r46, N47, hq48, hm⟩ := nbd_s hm
            refine nv_callv (N' := N47) (nr_V hC (As := [.ref (ad (k0 + 8)), .ref (ad (k0 + 24))]) (st := []) hp0.1 rfl (c_Mo_copy l hC.2.2.1 k0 hp0 (k0 + 8) 120 (isA_mk (isM_8 hp0) (by decide)) (k0 + 24) 120 (isA_mk (isM_24 hp0) (by decide)) N44 r46 N47 hq48) (cwV 2 hC.1.2.2.2.2 (tt_V k_308 k_310 k_311 k_229 k_309) rfl rfl rfl (by decide +kernel) ⟨Nat.le_of_ble_eq_true rfl, Nat.le_of_ble_eq_true rfl⟩) rfl rfl (Nat.le_of_ble_eq_true rfl) ⟨(Nat.le_of_ble_eq_true rfl), (Nat.le_of_ble_eq_true rfl)⟩ d_Mo_shock_99) ?_
            refine nv_aload_n hC d_Mo_shock_102 rfl 0 rfl ?_
            refine nv_aload_n hC d_Mo_shock_103 rfl 0 rfl ?_
            refine nv_getR hC (j := 13) hp0.1 rfl in_Mo (by decide) k_257 rfl d_Mo_shock_104 ?_
            refine nv_aload_n hC d_Mo_shock_107 rfl 0 rfl ?_
            refine nv_getR hC (j := 38) hp0.1 rfl in_Mo (by decide) k_314 rfl d_Mo_shock_108 ?_
            obtain ⟨r49, N50, hq51, hm⟩ := nbd_s hm
            refine nv_callv (N' := N50) (nr_V hC (As := [.ref (ad (k0 + 9)), .ref (ad (k0 + 25))]) (st := []) hp0.1 rfl (c_Mo_copy l hC.2.2.1 k0 hp0 (k0 + 9) 10 (isA_mk (isM_9 hp0) (by decide)) (k0 + 25) 10 (isA_mk (isM_25 hp0) (by decide)) N47 r49 N50 hq51) (cwV 2 hC.1.2.2.2.2 (tt_V k_308 k_310 k_311 k_229 k_309) rfl rfl rfl (by decide +kernel) ⟨Nat.le_of_ble_eq_true rfl, Nat.le_of_ble_eq_true rfl⟩) rfl rfl (Nat.le_of_ble_eq_true rfl) ⟨(Nat.le_of_ble_eq_true rfl), (Nat.le_of_ble_eq_true rfl)⟩ d_Mo_shock_111) ?_
            refine nv_aload_n hC d_Mo_shock_114 rfl 0 rfl ?_
            refine nv_aload_n hC d_Mo_shock_115 rfl 0 rfl ?_
            refine nv_getR hC (j := 14) hp0.1 rfl in_Mo (by decide) k_278 rfl d_Mo_shock_116 ?_
            refine nv_aload_n hC d_Mo_shock_119 rfl 0 rfl ?_
            refine nv_getR hC (j := 39) hp0.1 rfl in_Mo (by decide) k_315 rfl d_Mo_shock_120 ?_
            obtain ⟨r52, N53, hq54, hm⟩ := nbd_s hm
            refine nv_callv (N' := N53) (nr_V hC (As := [.ref (ad (k0 + 10)), .ref (ad (k0 + 26))]) (st := []) hp0.1 rfl (c_Mo_copy l hC.2.2.1 k0 hp0 (k0 + 10) 10 (isA_mk (isM_10 hp0) (by decide)) (k0 + 26) 10 (isA_mk (isM_26 hp0) (by decide)) N50 r52 N53 hq54) (cwV 2 hC.1.2.2.2.2 (tt_V k_308 k_310 k_311 k_229 k_309) rfl rfl rfl (by decide +kernel) ⟨Nat.le_of_ble_eq_true rfl, Nat.le_of_ble_eq_true rfl⟩) rfl rfl (Nat.le_of_ble_eq_true rfl) ⟨(Nat.le_of_ble_eq_true rfl), (Nat.le_of_ble_eq_true rfl)⟩ d_Mo_shock_123) ?_
            refine nv_aload_n hC d_Mo_shock_126 rfl 0 rfl ?_
            refine nv_getJ hC (j := 22) hp0.1 rfl in_Mo (by decide) k_262 rfl d_Mo_shock_127 ?_
            refine nv_lstore (lv' := [(6, .long (lI (N53 k0 22))), (0, .ref (ad k0)), (1, .int (iI x1)), (2, .int (iI x2)), (3, .int (iI x3)), (4, .int (iI x4)), (5, .int (iI x5))]) hC d_Mo_shock_130 (by decide) rfl ?_
            refine nv_aload_n hC d_Mo_shock_132 rfl 1 rfl ?_
            refine nv_getJ hC (j := 23) hp0.1 rfl in_Mo (by decide) k_270 rfl d_Mo_shock_133 ?_
            refine nv_lstore (lv' := [(8, .long (lI (N53 k0 23))), (6, .long (lI (N53 k0 22))), (0, .ref (ad k0)), (1, .int (iI x1)), (2, .int (iI x2)), (3, .int (iI x3)), (4, .int (iI x4)), (5, .int (iI x5))]) hC d_Mo_shock_136 (by decide) rfl ?_
            refine nv_aload_n hC d_Mo_shock_138 rfl 2 rfl ?_
            refine nv_getJ hC (j := 24) hp0.1 rfl in_Mo (by decide) k_233 rfl d_Mo_shock_139 ?_
            refine nv_lstore (lv' := [(10, .long (lI (N53 k0 24))), (8, .long (lI (N53 k0 23))), (6, .long (lI (N53 k0 22))), (0, .ref (ad k0)), (1, .int (iI x1)), (2, .int (iI x2)), (3, .int (iI x3)), (4, .int (iI x4)), (5, .int (iI x5))]) hC d_Mo_shock_142 (by decide) rfl ?_
            refine nv_aload_n hC d_Mo_shock_144 rfl 3 rfl ?_
            refine nv_getI hC (j := 7) hp0.1 rfl in_Mo (by decide) k_261 rfl d_Mo_shock_145 ?_
            refine nv_istore (lv' := [(12, .int (iI (N53 k0 7))), (10, .long (lI (N53 k0 24))), (8, .long (lI (N53 k0 23))), (6, .long (lI (N53 k0 22))), (0, .ref (ad k0)), (1, .int (iI x1)), (2, .int (iI x2)), (3, .int (iI x3)), (4, .int (iI x4)), (5, .int (iI x5))]) hC d_Mo_shock_148 (by decide) rfl ?_
            refine nv_aload_n hC d_Mo_shock_150 rfl 4 rfl ?_
            refine nv_iload_n hC d_Mo_shock_151 rfl 5 rfl ?_
            obtain ⟨N55, e56, hm⟩ := nlt_s hm
            refine nv_putI hC (j := 7) hp0.1 rfl in_Mo (by decide) ty_Mo tyok_Mo nm_Mo k_261 rfl rfl (by decide +kernel) e56 d_Mo_shock_152 ?_
            refine nv_iconst hC d_Mo_shock_155 ?_
            refine nv_istore (lv' := [(13, .int (iI 0)), (12, .int (iI (N53 k0 7))), (10, .long (lI (N53 k0 24))), (8, .long (lI (N53 k0 23))), (6, .long (lI (N53 k0 22))), (0, .ref (ad k0)), (1, .int (iI x1)), (2, .int (iI x2)), (3, .int (iI x3)), (4, .int (iI x4)), (5, .int (iI x5))]) hC d_Mo_shock_156 (by decide) rfl ?_
            obtain ⟨hr62, hm⟩ := ck_s hm
            obtain ⟨q63, N64, hq65, hm⟩ := nbd_s hm
            refine nv_sub (lv' := [(0, .ref (ad k0)), (1, .int (iI x1)), (2, .int (iI x2)), (3, .int (iI x3)), (4, .int (iI x4)), (5, .int (iI x5)), (6, .long (lI (N53 k0 22))), (8, .long (lI (N53 k0 23))), (10, .long (lI (N53 k0 24))), (12, .int (iI (N53 k0 7))), (13, .int (iI 0))]) [5, 6, 7, 8, 9, 10, 4, 3, 2, 1, 0] rfl ?_
            refine w_Mo_shock_158 hC k0 hp0 x1 hx1 x2 hx2 x3 hx3 x4 hx4 x5 hx5 (N53 k0 22) (N53 k0 23) (N53 k0 24) (N53 k0 7) hr62 FU 0 N55 q63 N64 hq65 ⟨by decide, by decide⟩ ?_
            refine nv_iconst hC d_Mo_shock_179 ?_
            refine nv_istore (lv' := [(13, .int (iI 0)), (0, .ref (ad k0)), (1, .int (iI x1)), (2, .int (iI x2)), (3, .int (iI x3)), (4, .int (iI x4)), (5, .int (iI x5)), (6, .long (lI (N53 k0 22))), (8, .long (lI (N53 k0 23))), (10, .long (lI (N53 k0 24))), (12, .int (iI (N53 k0 7)))]) hC d_Mo_shock_180 (by decide) rfl ?_
            obtain ⟨q96, N97, hq98, hm⟩ := nbd_s hm
            refine nv_sub (lv' := [(0, .ref (ad k0)), (1, .int (iI x1)), (2, .int (iI x2)), (3, .int (iI x3)), (4, .int (iI x4)), (5, .int (iI x5)), (6, .long (lI (N53 k0 22))), (8, .long (lI (N53 k0 23))), (10, .long (lI (N53 k0 24))), (12, .int (iI (N53 k0 7))), (13, .int (iI 0))]) [1, 2, 3, 4, 5, 6, 7, 8, 9, 10, 0] rfl ?_
            refine w_Mo_shock_182 hC k0 hp0 x1 hx1 x2 hx2 x3 hx3 x4 hx4 x5 hx5 (N53 k0 22) (N53 k0 23) (N53 k0 24) (N53 k0 7) hr62 FU 0 N64 q96 N97 hq98 ⟨by decide, by decide⟩ ?_
            refine nv_aload_n hC d_Mo_shock_264 rfl 0 rfl ?_
            refine nv_iload hC d_Mo_shock_265 9 rfl ?_
            obtain ⟨N99, e100, hm⟩ := nlt_s hm
            refine nv_putI hC (j := 7) hp0.1 rfl in_Mo (by decide) ty_Mo tyok_Mo nm_Mo k_261 rfl rfl (by decide +kernel) e100 d_Mo_shock_267 ?_
            refine nv_aload_n hC d_Mo_shock_270 rfl 0 rfl ?_
            refine nv_lload hC d_Mo_shock_271 6 rfl ?_
            obtain ⟨N101, e102, hm⟩ := nlt_s hm
            refine nv_putJ hC (j := 22) hp0.1 rfl in_Mo (by decide) ty_Mo tyok_Mo nm_Mo k_262 rfl rfl (by decide +kernel) e102 d_Mo_shock_273 ?_
            refine nv_aload_n hC d_Mo_shock_276 rfl 0 rfl ?_
            refine nv_lload hC d_Mo_shock_277 7 rfl ?_
            obtain ⟨N103, e104, hm⟩ := nlt_s hm
            refine nv_putJ hC (j := 23) hp0.1 rfl in_Mo (by decide) ty_Mo tyok_Mo nm_Mo k_270 rfl rfl (by decide +kernel) e104 d_Mo_shock_279 ?_
            refine nv_aload_n hC d_Mo_shock_282 rfl 0 rfl ?_
            refine nv_lload hC d_Mo_shock_283 8 rfl ?_
            obtain ⟨N105, e106, hm⟩ := nlt_s hm
            refine nv_putJ hC (j := 24) hp0.1 rfl in_Mo (by decide) ty_Mo tyok_Mo nm_Mo k_233 rfl rfl (by decide +kernel) e106 d_Mo_shock_285 ?_
            refine nv_aload_n hC d_Mo_shock_288 rfl 0 rfl ?_
            refine nv_aload_n hC d_Mo_shock_289 rfl 0 rfl ?_
            refine nv_getR hC (j := 35) hp0.1 rfl in_Mo (by decide) k_307 rfl d_Mo_shock_290 ?_
            refine nv_aload_n hC d_Mo_shock_293 rfl 0 rfl ?_
            refine nv_getR hC (j := 10) hp0.1 rfl in_Mo (by decide) k_242 rfl d_Mo_shock_294 ?_
            obtain ⟨r107, N108, hq109, hm⟩ := nbd_s hm
            refine nv_callv (N' := N108) (nr_V hC (As := [.ref (ad (k0 + 22)), .ref (ad (k0 + 6))]) (st := []) hp0.1 rfl (c_Mo_copy l hC.2.2.1 k0 hp0 (k0 + 22) 10 (isA_mk (isM_22 hp0) (by decide)) (k0 + 6) 10 (isA_mk (isM_6 hp0) (by decide)) N105 r107 N108 hq109) (cwV 2 hC.1.2.2.2.2 (tt_V k_308 k_310 k_311 k_229 k_309) rfl rfl rfl (by decide +kernel) ⟨Nat.le_of_ble_eq_true rfl, Nat.le_of_ble_eq_true rfl⟩) rfl rfl (Nat.le_of_ble_eq_true rfl) ⟨(Nat.le_of_ble_eq_true rfl), (Nat.le_of_ble_eq_true rfl)⟩ d_Mo_shock_297) ?_
            refine nv_aload_n hC d_Mo_shock_300 rfl 0 rfl ?_
            refine nv_aload_n hC d_Mo_shock_301 rfl 0 rfl ?_
            refine nv_getR hC (j := 36) hp0.1 rfl in_Mo (by decide) k_312 rfl d_Mo_shock_302 ?_
            refine nv_aload_n hC d_Mo_shock_305 rfl 0 rfl ?_
            refine nv_getR hC (j := 11) hp0.1 rfl in_Mo (by decide) k_243 rfl d_Mo_shock_306 ?_
            obtain ⟨r110, N111, hq112, hm⟩ := nbd_s hm
            refine nv_callv (N' := N111) (nr_V hC (As := [.ref (ad (k0 + 23)), .ref (ad (k0 + 7))]) (st := []) hp0.1 rfl (c_Mo_copy l hC.2.2.1 k0 hp0 (k0 + 23) 120 (isA_mk (isM_23 hp0) (by decide)) (k0 + 7) 120 (isA_mk (isM_7 hp0) (by decide)) N108 r110 N111 hq112) (cwV 2 hC.1.2.2.2.2 (tt_V k_308 k_310 k_311 k_229 k_309) rfl rfl rfl (by decide +kernel) ⟨Nat.le_of_ble_eq_true rfl, Nat.le_of_ble_eq_true rfl⟩) rfl rfl (Nat.le_of_ble_eq_true rfl) ⟨(Nat.le_of_ble_eq_true rfl), (Nat.le_of_ble_eq_true rfl)⟩ d_Mo_shock_309) ?_
            refine nv_aload_n hC d_Mo_shock_312 rfl 0 rfl ?_
            refine nv_aload_n hC d_Mo_shock_313 rfl 0 rfl ?_
            refine nv_getR hC (j := 37) hp0.1 rfl in_Mo (by decide) k_313 rfl d_Mo_shock_314 ?_
            refine nv_aload_n hC d_Mo_shock_317 rfl 0 rfl ?_
            refine nv_getR hC (j := 12) hp0.1 rfl in_Mo (by decide) k_244 rfl d_Mo_shock_318 ?_
            obtain ⟨r113, N114, hq115, hm⟩ := nbd_s hm
            refine nv_callv (N' := N114) (nr_V hC (As := [.ref (ad (k0 + 24)), .ref (ad (k0 + 8))]) (st := []) hp0.1 rfl (c_Mo_copy l hC.2.2.1 k0 hp0 (k0 + 24) 120 (isA_mk (isM_24 hp0) (by decide)) (k0 + 8) 120 (isA_mk (isM_8 hp0) (by decide)) N111 r113 N114 hq115) (cwV 2 hC.1.2.2.2.2 (tt_V k_308 k_310 k_311 k_229 k_309) rfl rfl rfl (by decide +kernel) ⟨Nat.le_of_ble_eq_true rfl, Nat.le_of_ble_eq_true rfl⟩) rfl rfl (Nat.le_of_ble_eq_true rfl) ⟨(Nat.le_of_ble_eq_true rfl), (Nat.le_of_ble_eq_true rfl)⟩ d_Mo_shock_321) ?_
            refine nv_aload_n hC d_Mo_shock_324 rfl 0 rfl ?_
            refine nv_aload_n hC d_Mo_shock_325 rfl 0 rfl ?_
            refine nv_getR hC (j := 38) hp0.1 rfl in_Mo (by decide) k_314 rfl d_Mo_shock_326 ?_
            refine nv_aload_n hC d_Mo_shock_329 rfl 0 rfl ?_
            refine nv_getR hC (j := 13) hp0.1 rfl in_Mo (by decide) k_257 rfl d_Mo_shock_330 ?_
            obtain ⟨r116, N117, hq118, hm⟩ := nbd_s hm
            refine nv_callv (N' := N117) (nr_V hC (As := [.ref (ad (k0 + 25)), .ref (ad (k0 + 9))]) (st := []) hp0.1 rfl (c_Mo_copy l hC.2.2.1 k0 hp0 (k0 + 25) 10 (isA_mk (isM_25 hp0) (by decide)) (k0 + 9) 10 (isA_mk (isM_9 hp0) (by decide)) N114 r116 N117 hq118) (cwV 2 hC.1.2.2.2.2 (tt_V k_308 k_310 k_311 k_229 k_309) rfl rfl rfl (by decide +kernel) ⟨Nat.le_of_ble_eq_true rfl, Nat.le_of_ble_eq_true rfl⟩) rfl rfl (Nat.le_of_ble_eq_true rfl) ⟨(Nat.le_of_ble_eq_true rfl), (Nat.le_of_ble_eq_true rfl)⟩ d_Mo_shock_333) ?_
            refine nv_aload_n hC d_Mo_shock_336 rfl 0 rfl ?_
            refine nv_aload_n hC d_Mo_shock_337 rfl 0 rfl ?_
            refine nv_getR hC (j := 39) hp0.1 rfl in_Mo (by decide) k_315 rfl d_Mo_shock_338 ?_
            refine nv_aload_n hC d_Mo_shock_341 rfl 0 rfl ?_
            refine nv_getR hC (j := 14) hp0.1 rfl in_Mo (by decide) k_278 rfl d_Mo_shock_342 ?_
            obtain ⟨r119, N120, hq121, hm⟩ := nbd_s hm
            refine nv_callv (N' := N120) (nr_V hC (As := [.ref (ad (k0 + 26)), .ref (ad (k0 + 10))]) (st := []) hp0.1 rfl (c_Mo_copy l hC.2.2.1 k0 hp0 (k0 + 26) 10 (isA_mk (isM_26 hp0) (by decide)) (k0 + 10) 10 (isA_mk (isM_10 hp0) (by decide)) N117 r119 N120 hq121) (cwV 2 hC.1.2.2.2.2 (tt_V k_308 k_310 k_311 k_229 k_309) rfl rfl rfl (by decide +kernel) ⟨Nat.le_of_ble_eq_true rfl, Nat.le_of_ble_eq_true rfl⟩) rfl rfl (Nat.le_of_ble_eq_true rfl) ⟨(Nat.le_of_ble_eq_true rfl), (Nat.le_of_ble_eq_true rfl)⟩ d_Mo_shock_345) ?_
            refine nv_iconst hC d_Mo_shock_348 ?_
            refine nv_istore (lv' := [(13, .int (iI 0)), (0, .ref (ad k0)), (1, .int (iI x1)), (2, .int (iI x2)), (3, .int (iI x3)), (4, .int (iI x4)), (5, .int (iI x5)), (6, .long (lI (N53 k0 22))), (8, .long (lI (N53 k0 23))), (10, .long (lI (N53 k0 24))), (12, .int (iI (N53 k0 7)))]) hC d_Mo_shock_349 (by decide) rfl ?_
            refine nv_iconst hC d_Mo_shock_351 ?_
            refine nv_istore (lv' := [(14, .int (iI 0)), (13, .int (iI 0)), (0, .ref (ad k0)), (1, .int (iI x1)), (2, .int (iI x2)), (3, .int (iI x3)), (4, .int (iI x4)), (5, .int (iI x5)), (6, .long (lI (N53 k0 22))), (8, .long (lI (N53 k0 23))), (10, .long (lI (N53 k0 24))), (12, .int (iI (N53 k0 7)))]) hC d_Mo_shock_352 (by decide) rfl ?_
            obtain ⟨q142, N143, hq144, hm⟩ := nbd_s hm
            refine nv_sub (lv' := [(0, .ref (ad k0)), (1, .int (iI x1)), (2, .int (iI x2)), (3, .int (iI x3)), (4, .int (iI x4)), (5, .int (iI x5)), (6, .long (lI (N53 k0 22))), (8, .long (lI (N53 k0 23))), (10, .long (lI (N53 k0 24))), (12, .int (iI (N53 k0 7))), (13, .int (iI 0)), (14, .int (iI 0))]) [2, 3, 4, 5, 6, 7, 8, 9, 10, 11, 1, 0] rfl ?_
            by_cases c145 : q142.1 = 0
            · have hm := if_t c145 hm
              refine w_Mo_shock_354 hC k0 hp0 x1 hx1 x2 hx2 x3 hx3 x4 hx4 x5 hx5 (N53 k0 22) (N53 k0 23) (N53 k0 24) (N53 k0 7) hr62 FU 0 0 N120 q142 N143 hq144 ⟨by decide, by decide⟩ ⟨by decide, by decide⟩ (fun _ => ?_) (fun h9 => absurd (c145.symm.trans h9) (by decide))
              refine nv_iconst hC d_Mo_shock_426 ?_
              obtain ⟨rfl, rfl⟩ := ret_s hm
              exact nv_iret hC hr hlk d_Mo_shock_427
            · have hm := if_f c145 hm
              refine w_Mo_shock_354 hC k0 hp0 x1 hx1 x2 hx2 x3 hx3 x4 hx4 x5 hx5 (N53 k0 22) (N53 k0 23) (N53 k0 24) (N53 k0 7) hr62 FU 0 0 N120 q142 N143 hq144 ⟨by decide, by decide⟩ ⟨by decide, by decide⟩ (fun h9 => absurd h9 c145) (fun _ => ?_)
              obtain ⟨rfl, rfl⟩ := ret_s hm
              exact nv_iret hC hr hlk d_Mo_shock_404
