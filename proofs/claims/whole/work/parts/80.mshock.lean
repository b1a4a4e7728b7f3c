/-! ===== shock: the reference ===== -/
section
variable {h k a : Nat} {N : nS} {cnt dn : Nat} {g d : Nat → Nat → Int} {mi ht air : Int} {s : St}
theorem ok_copy_2 {b c n : Nat} (hbc : b ≠ c) (hn : n ≤ 199) : ∀ (f i : Nat) (N : nS), n < f + i → i ≤ n → (∀ q, q < i → N c q = N b q) → Ok (m_Mo_copy_2 k b n c n f (i : Int) N) (fun _ N' => (∀ q, q < n → N' c q = N b q) ∧ ∀ j, j ≠ c → N' j = N j) := by
  intro f
  induction f with
  | zero => intro i N h1 h2; omega
  | succ f ih =>
    intro i N h1 h2 hq
    rw [m_Mo_copy_2]
    refine ok_if (fun c1 => ok_ret ⟨fun q hq' => hq q (by omega), fun _ _ => rfl⟩) (fun c1 => ?_)
    refine ok_ck ⟨by omega, by omega⟩ ?_
    refine ok_ck ⟨by omega, by omega⟩ ?_
    rw [Int.toNat_natCast]
    refine ok_nlt (fun N4 e4 => ?_)
    refine ok_ck ⟨by omega, by omega⟩ ?_
    rw [show (i : Int) + 1 = ((i + 1 : Nat) : Int) by omega]
    refine ok_mono (ih (i + 1) N4 (by omega) (by omega) (fun q hq' => ?_)) (fun q N' t => ⟨fun q hq' => by rw [t.1 q hq', up2_n e4 hbc], fun j hj => by rw [t.2 j hj, up2_n e4 hj]⟩)
    rw [up2_at e4, up2_n e4 hbc]
    by_cases e : q = i
    · subst e; rw [va_up_self]
    · rw [va_up_ne _ _ e]; exact hq q (by omega)
theorem ok_copy {b c n : Nat} (hbc : b ≠ c) (hn : n ≤ 199) : Ok (m_Mo_copy k b n c n N) (fun _ N' => (∀ q, q < n → N' c q = N b q) ∧ ∀ j, j ≠ c → N' j = N j) := by
  rw [m_Mo_copy]
  exact ok_nbd (ok_copy_2 hbc hn FU 0 N (by show n < 200 + 0; omega) (by omega) (fun q hq => by omega)) (fun q N' t => ok_ret t)
theorem ok_msh_158 {x1 x2 x3 x4 x5 x6 x8 x10 x12 : Int} : ∀ (f i : Nat) (N : nS), 10 < f + i → i ≤ 10 → (∀ q, q < i → N (k + 27) q = 0) → Ok (m_Mo_shock_158 k x1 x2 x3 x4 x5 x6 x8 x10 x12 f (i : Int) N) (fun _ N' => (∀ q, q < 10 → N' (k + 27) q = 0) ∧ ∀ j, j ≠ k + 27 → N' j = N j) := by
  intro f
  induction f with
  | zero => intro i N h1 h2; omega
  | succ f ih =>
    intro i N h1 h2 hq
    rw [m_Mo_shock_158]
    refine ok_if (fun c1 => ok_ret ⟨fun q hq' => hq q (by omega), fun _ _ => rfl⟩) (fun c1 => ?_)
    refine ok_ck ⟨by omega, by omega⟩ ?_
    rw [Int.toNat_natCast]
    refine ok_nlt (fun N4 e4 => ?_)
    refine ok_ck ⟨by omega, by omega⟩ ?_
    rw [show (i : Int) + 1 = ((i + 1 : Nat) : Int) by omega]
    refine ok_mono (ih (i + 1) N4 (by omega) (by omega) (fun q hq' => ?_)) (fun q N' t => ⟨t.1, fun j hj => by rw [t.2 j hj, up2_n e4 hj]⟩)
    rw [up2_at e4]
    by_cases e : q = i
    · subst e; rw [va_up_self]
    · rw [va_up_ne _ _ e]; exact hq q (by omega)
/-- the reference while it tries -/
def TmI (k : Nat) (N : nS) (cnt : Nat) (g : Nat → Nat → Int) (x1 air mi : Int) (q : Qs) : Prop := NR N k cnt (g 0) (g 1) (g 2) (g 3) ∧ (∀ p, p < 10 → N (k + 4) p = g 4 p) ∧ CR N k cnt q.1 ∧ N k 9 = mi ∧ N k 7 = x1 ∧ N k 8 = air ∧ ∀ p, p < cnt → ¬ g 4 p = 0 → N (k + 27) p = (if q.2 p = 0 then 1 else 0)
/-- what stays while it tries -/
def FX (k : Nat) (N N' : nS) : Prop := (∀ i, i ≠ k → i ≠ k + 27 → (i < k + 6 ∨ k + 11 ≤ i) → (i < k + 17 ∨ k + 22 ≤ i) → N' i = N i) ∧ ∀ j, j < 22 → N' k j = N k j
theorem FX_rf : FX k N N := ⟨fun _ _ _ _ _ => rfl, fun _ _ => rfl⟩
theorem FX_tr {N1 N2 : nS} (u : FX k N N1) (v : FX k N1 N2) : FX k N N2 := ⟨fun i a b c e => (v.1 i a b c e).trans (u.1 i a b c e), fun j a => (v.2 j a).trans (u.2 j a)⟩
theorem ok_msh_191 {x1 x2 x3 x4 x5 x6 x8 x10 x12 x13 : Int} (hP : PN cnt (g 0) (g 1) (g 2) (g 3)) (h4 : ∀ p, p < 10 → g 4 p = 0 ∨ g 4 p = 1) (h1 : 0 ≤ x1 ∧ x1 ≤ 10000) (h2 : 1 ≤ x2 ∧ x2 ≤ 100) : ∀ (f n i : Nat) (N : nS) (q : Qs), n < f → i + n = cnt → OKR (sR q.1) cnt (g 1) → TmI k N cnt g x1 air mi q → Ok (m_Mo_shock_191 k x1 x2 x3 x4 x5 x6 x8 x10 x12 x13 f (i : Int) N) (fun _ N' => TmI k N' cnt g x1 air mi (shS g x1 x2 x4 mi n i q) ∧ FX k N N') := by
  have hc := hP.1
  intro f
  induction f with
  | zero => intro n i N q h1; omega
  | succ f ih =>
    intro n i N q hn hin hok H
    have H' := H
    obtain ⟨a1, a2, a3, a4, a5, a6, a7⟩ := H
    rw [m_Mo_shock_191, a1.1]
    refine ok_ck ⟨by omega, by omega⟩ ?_
    refine ok_if (fun c1 => ?_) (fun c1 => ?_)
    · have e : n = 0 := by omega
      subst e
      exact ok_ret ⟨H', FX_rf⟩
    · obtain ⟨n, rfl⟩ : ∃ m, n = m + 1 := ⟨n - 1, by omega⟩
      have b4 := h4 i (by omega)
      refine ok_ck ⟨by omega, by omega⟩ ?_
      rw [Int.toNat_natCast, a2 i (by omega)]
      refine ok_ck ⟨by omega, by omega⟩ ?_
      rw [show (i : Int) + 1 = ((i + 1 : Nat) : Int) by omega, shS, shQ]
      refine ok_if (fun c2 => ?_) (fun c2 => ?_)
      · refine ok_ck ⟨by omega, by omega⟩ ?_
        rw [if_pos c2]
        exact ih n (i + 1) N q (by omega) (by omega) hok H'
      · rw [if_neg c2]
        obtain ⟨t1, t2, t3, t4, t5, t6, t7⟩ := TK_ok (p := i) (v := x2) hP.2.1 hc (by omega) hok (by omega) h1
        have wb := mnL_le _ 10000 (by omega) (by omega) t2
        refine ok_nbd (ok_mtake (k := k) (p := i) (v := x2) hP (by omega) a1 a3 hok (by omega) a5 h1 a4) (fun r7 N8 u => ?_)
        obtain ⟨u1, _, u3, _, f1, f2⟩ := u
        have m27 : N8 (k + 27) i = (if q.2 i = 0 then 1 else 0) := by rw [f1 _ (by omega) (by omega) (by omega)]; exact a7 i (by omega) c2
        rw [m27, u3]
        have fin : ∀ (mk : Nat → Int) (z : Int) (N9 : nS), N9 = up2 N8 (k + 27) i z → (z = if mk i = 0 then 1 else 0) → (∀ p, p ≠ i → mk p = q.2 p) → Ok (m_Mo_shock_191 k x1 x2 x3 x4 x5 x6 x8 x10 x12 x13 f ((i + 1 : Nat) : Int) N9) (fun _ N' => TmI k N' cnt g x1 air mi (shS g x1 x2 x4 mi n (i + 1) (tkS (g 0) (g 1) x1 mi i x2 q.1, mk)) ∧ FX k N N') := fun mk z N9 e9 ez em => by
          have v1 : ∀ j, j ≠ k + 27 → N9 j = N8 j := fun j hj => up2_n e9 hj
          refine ok_mono (ih n (i + 1) N9 (tkS (g 0) (g 1) x1 mi i x2 q.1, mk) (by omega) (by omega) t1 ⟨NR_of a1 (by rw [v1 _ (by omega), f2 1 (by omega)]) (fun j _ _ => by rw [v1 j (by omega), f1 j (by omega) (by omega) (by omega)]), fun p hp => ?_, CR_of u1 (fun j _ _ => v1 j (by omega)) (fun j _ => by rw [v1 _ (by omega)]), ?_, ?_, ?_, fun p hp ht => ?_⟩) (fun r N' t => ⟨t.1, FX_tr ⟨fun j j0 j1 j2 j3 => by rw [v1 j j1, f1 j j0 (by omega) j3], fun j hj => by rw [v1 _ (by omega), f2 j (by omega)]⟩ t.2⟩)
          · rw [v1 _ (by omega), f1 _ (by omega) (by omega) (by omega)]; exact a2 p hp
          · rw [v1 _ (by omega), f2 _ (by omega)]; exact a4
          · rw [v1 _ (by omega), f2 _ (by omega)]; exact a5
          · rw [v1 _ (by omega), f2 _ (by omega)]; exact a6
          · rw [up2_at e9]
            show va_up (N8 (k + 27)) i z p = (if mk p = 0 then 1 else 0)
            by_cases e : p = i
            · subst e; rw [va_up_self, ez]
            · rw [va_up_ne _ _ e, em p e, f1 _ (by omega) (by omega) (by omega)]; exact a7 p hp ht
        by_cases cz : q.2 i = 0
        · rw [if_pos cz]
          refine ok_ck ⟨by omega, by omega⟩ ?_
          refine ok_f (by decide) ?_
          refine ok_nlt (fun N9 e9 => ?_)
          refine ok_ck ⟨by omega, by omega⟩ ?_
          split
          · exact fin q.2 1 N9 e9 (by rw [if_pos cz]) (fun _ _ => rfl)
          · exact fin (va_up q.2 i 0) 1 N9 e9 (by rw [va_up_self, if_pos rfl]) (fun p hp => va_up_ne _ _ hp)
        · rw [if_neg cz]
          refine ok_ck ⟨by omega, by omega⟩ ?_
          refine ok_t rfl ?_
          refine ok_ck ⟨by omega, by omega⟩ ?_
          refine ok_if (fun c3 => ?_) (fun c3 => ?_)
          · refine ok_nlt (fun N9 e9 => ?_)
            refine ok_ck ⟨by omega, by omega⟩ ?_
            rw [if_pos c3]
            exact fin q.2 0 N9 e9 (by rw [if_neg cz]) (fun _ _ => rfl)
          · refine ok_nlt (fun N9 e9 => ?_)
            refine ok_ck ⟨by omega, by omega⟩ ?_
            rw [if_neg c3]
            exact fin (va_up q.2 i 0) 1 N9 e9 (by rw [va_up_self, if_pos rfl]) (fun p hp => va_up_ne _ _ hp)
theorem ok_msh_182 {x1 x2 x3 x4 x5 x6 x8 x10 x12 : Int} (hP : PN cnt (g 0) (g 1) (g 2) (g 3)) (h4 : ∀ p, p < 10 → g 4 p = 0 ∨ g 4 p = 1) (h1 : 0 ≤ x1 ∧ x1 ≤ 10000) (h2 : 1 ≤ x2 ∧ x2 ≤ 100) (ha : 0 ≤ air ∧ air ≤ 10000) (h3 : x3 ≤ 30) : ∀ (f n : Nat) (j : Int) (N : nS) (q : Qs), n < f → 0 ≤ j → j + n = x3 → OKR (sR q.1) cnt (g 1) → TmI k N cnt g x1 air mi q → Ok (m_Mo_shock_182 k x1 x2 x3 x4 x5 x6 x8 x10 x12 f j N) (fun _ N' => TmI k N' cnt g x1 air mi (shN g cnt x1 x2 x4 air 0 n mi q) ∧ FX k N N') := by
  have hc := hP.1
  intro f
  induction f with
  | zero => intro n j N q h1; omega
  | succ f ih =>
    intro n j N q hn hj hjn hok H
    rw [m_Mo_shock_182]
    refine ok_if (fun c1 => ?_) (fun c1 => ?_)
    · have e : n = 0 := by omega
      subst e
      exact ok_ret ⟨H, FX_rf⟩
    · obtain ⟨n, rfl⟩ : ∃ m, n = m + 1 := ⟨n - 1, by omega⟩
      refine ok_nbd (ok_msh_191 hP h4 h1 h2 FU cnt 0 N q (by show cnt < 200; omega) (by omega) hok H) (fun q89 N90 t => ?_)
      obtain ⟨⟨a1, a2, a3, a4, a5, a6, a7⟩, t2⟩ := t
      refine ok_nbd (ok_rest hP h1 ha a1 a3 (shS_okr hP h1 h2 cnt 0 q (by omega) hok) a5 a6 a4) (fun r92 N93 u => ?_)
      obtain ⟨q1, q2, q3, q4⟩ := u
      refine ok_ck ⟨by omega, by omega⟩ ?_
      have := ih n (j + 1) N93 (shM g cnt x1 x2 x4 air mi q) (by omega) (by omega) (by omega) q2 ⟨NR_of a1 (q4 1 (by omega)) (fun i _ _ => q3 i (by omega) (by omega) (by omega)), fun p hp => by rw [q3 _ (by omega) (by omega) (by omega)]; exact a2 p hp, q1, by rw [q4 _ (by omega)]; exact a4, by rw [q4 _ (by omega)]; exact a5, by rw [q4 _ (by omega)]; exact a6, fun p hp hz => by rw [q3 _ (by omega) (by omega) (by omega)]; exact a7 p hp hz⟩
      rw [shN, show mi + 0 = mi by omega]
      exact ok_mono this (fun r N' t => ⟨t.1, FX_tr t2 (FX_tr ⟨fun i i0 i1 i2 i3 => q3 i i0 i2 i3, fun j hj => q4 j (by omega)⟩ t.2)⟩)
theorem ok_msh_354 {x1 x2 x3 x4 x5 x6 x8 x10 x12 : Int} {mk : Nat → Int} (hc : cnt ≤ 10) : ∀ (f n i : Nat) (c : Int) (N : nS), n < f → i + n = cnt → N k 1 = (cnt : Int) → (∀ q, q < cnt → rg (N (k + 4) q) ∧ (¬ N (k + 4) q = 0 → rg (N (k + 27) q)) ∧ (mk q = 0 ↔ (N (k + 4) q = 0 ∨ ¬ N (k + 27) q = 0))) → 0 ≤ c → c ≤ (i : Int) → Ok (m_Mo_shock_354 k x1 x2 x3 x4 x5 x6 x8 x10 x12 f c (i : Int) N) (fun q N' => ((q.1 = 0 ∧ nth mk x5 n i c = -1) ∨ (q.1 = 1 ∧ q.2.1 = nth mk x5 n i c)) ∧ N' = N) := by
  intro f
  induction f with
  | zero => intro n i c N h1; omega
  | succ f ih =>
    intro n i c N h1 h2 hN hm c0 c1
    rw [m_Mo_shock_354, hN]
    refine ok_ck ⟨by omega, by omega⟩ ?_
    refine ok_if (fun c => ?_) (fun c => ?_)
    · have e : n = 0 := by omega
      subst e
      exact ok_ret ⟨Or.inl ⟨rfl, rfl⟩, rfl⟩
    · obtain ⟨n, rfl⟩ : ∃ k, n = k + 1 := ⟨n - 1, by omega⟩
      obtain ⟨r4, r27, m1⟩ := hm i (by omega)
      refine ok_ck ⟨by omega, by omega⟩ ?_
      rw [Int.toNat_natCast]
      refine ok_ck r4 ?_
      rw [show (i : Int) + 1 = ((i + 1 : Nat) : Int) by omega, nth]
      refine ok_if (fun c2 => ?_) (fun c2 => ?_)
      · refine ok_ck ⟨by omega, by omega⟩ ?_
        refine ok_ck ⟨by omega, by omega⟩ ?_
        rw [if_pos (m1.mpr (Or.inl c2)), Int.add_zero]
        exact ih n (i + 1) _ N (by omega) (by omega) hN hm c0 (by omega)
      · refine ok_ck (r27 c2) ?_
        refine ok_if (fun c3 => ?_) (fun c3 => ?_)
        · rw [if_neg (fun e => (m1.mp e).elim c2 (fun u => u c3))]
          refine ok_if (fun c4 => ?_) (fun c4 => ?_)
          · rw [if_pos c4]
            exact ok_ret ⟨Or.inr ⟨rfl, rfl⟩, rfl⟩
          · rw [if_neg c4]
            refine ok_ck ⟨by omega, by omega⟩ ?_
            refine ok_ck ⟨by omega, by omega⟩ ?_
            exact ih n (i + 1) _ N (by omega) (by omega) hN hm (by omega) (by omega)
        · refine ok_ck ⟨by omega, by omega⟩ ?_
          refine ok_ck ⟨by omega, by omega⟩ ?_
          rw [if_pos (m1.mpr (Or.inr c3)), Int.add_zero]
          exact ih n (i + 1) _ N (by omega) (by omega) hN hm c0 (by omega)
theorem ref_shock {x1 x2 x3 x4 x5 : Int} {n : Nat} (h1 : 0 ≤ x1 ∧ x1 ≤ 10000) (h2 : 1 ≤ x2 ∧ x2 ≤ 100) (h3 : 1 ≤ x3 ∧ x3 ≤ 30) (hn : x3 = (n : Int)) (h4 : 0 ≤ x4 ∧ x4 ≤ 10000) (h5 : 0 ≤ x5) (hP : PurI cnt g mi ht air s dn d) (H : RefI k N cnt g mi ht air s dn d) : Ok (m_Mo_shock k x1 x2 x3 x4 x5 N) (MoQ k N 0 (nth (shN g cnt x1 x2 x4 air 0 n 0 (s, g 4)).2 x5 cnt 0 0) cnt g mi ht air s dn d) := by
  obtain ⟨p1, p2, p3, p4, p5, p6, p7, _⟩ := hP
  have hc := p1.1
  rw [m_Mo_shock]
  refine gateI (fun _ => ?_) (fun n => absurd h1 n)
  refine gateI (fun _ => ?_) (fun n => absurd h2 n)
  refine gateI (fun _ => ?_) (fun n => absurd h3 n)
  refine gateI (fun _ => ?_) (fun n => absurd h4 n)
  refine ok_f (by omega) ?_
  refine ok_nlt (fun N37 e37 => ?_)
  have H37 := RefI_thr H e37
  obtain ⟨a1, a2, a3, a4, a5, a6, a7, a8, a9⟩ := H37
  obtain ⟨c1, c2, c3, c4, c5, c6⟩ := a3
  refine ok_nbd (ok_copy (k := k) (b := k + 6) (c := k + 22) (n := 10) (by omega) (by omega)) (fun r40 N41 t => ?_)
  obtain ⟨s1, z1⟩ := t
  refine ok_nbd (ok_copy (k := k) (b := k + 7) (c := k + 23) (n := 120) (by omega) (by omega)) (fun r43 N44 t => ?_)
  obtain ⟨s2, z2⟩ := t
  refine ok_nbd (ok_copy (k := k) (b := k + 8) (c := k + 24) (n := 120) (by omega) (by omega)) (fun r46 N47 t => ?_)
  obtain ⟨s3, z3⟩ := t
  refine ok_nbd (ok_copy (k := k) (b := k + 9) (c := k + 25) (n := 10) (by omega) (by omega)) (fun r49 N50 t => ?_)
  obtain ⟨s4, z4⟩ := t
  refine ok_nbd (ok_copy (k := k) (b := k + 10) (c := k + 26) (n := 10) (by omega) (by omega)) (fun r52 N53 t => ?_)
  obtain ⟨s5, z5⟩ := t
  have zz : ∀ j, j < k + 22 ∨ k + 27 ≤ j → N53 j = N37 j := fun j hj => by rw [z5 j (by omega), z4 j (by omega), z3 j (by omega), z2 j (by omega), z1 j (by omega)]
  have w22 : ∀ q, q < 10 → N53 (k + 22) q = N37 (k + 6) q := fun q hq => by rw [z5 _ (by omega), z4 _ (by omega), z3 _ (by omega), z2 _ (by omega)]; exact s1 q hq
  have w23 : ∀ q, q < 120 → N53 (k + 23) q = N37 (k + 7) q := fun q hq => by rw [z5 _ (by omega), z4 _ (by omega), z3 _ (by omega), s2 q hq, z1 _ (by omega)]
  have w24 : ∀ q, q < 120 → N53 (k + 24) q = N37 (k + 8) q := fun q hq => by rw [z5 _ (by omega), z4 _ (by omega), s3 q hq, z2 _ (by omega), z1 _ (by omega)]
  have w25 : ∀ q, q < 10 → N53 (k + 25) q = N37 (k + 9) q := fun q hq => by rw [z5 _ (by omega), s4 q hq, z3 _ (by omega), z2 _ (by omega), z1 _ (by omega)]
  have w26 : ∀ q, q < 10 → N53 (k + 26) q = N37 (k + 10) q := fun q hq => by rw [s5 q hq, z4 _ (by omega), z3 _ (by omega), z2 _ (by omega), z1 _ (by omega)]
  refine ok_nlt (fun N55 e55 => ?_)
  rw [zz k (by omega), a5]
  refine ok_ck ⟨by omega, by omega⟩ ?_
  refine ok_nbd (ok_msh_158 (k := k) FU 0 N55 (by show 10 < 200 + 0; omega) (by omega) (fun q hq => by omega)) (fun q63 N64 t => ?_)
  obtain ⟨o1, o2⟩ := t
  have zk : ∀ j, j ≠ 7 → N64 k j = N37 k j := fun j hj => by rw [o2 k (by omega), up2_at e55, va_up_ne _ _ hj, zz k (by omega)]
  have zj : ∀ j, j ≠ k → j < k + 22 → N64 j = N37 j := fun j j0 hj => by rw [o2 j (by omega), up2_n e55 j0, zz j (by omega)]
  have hT : TmI k N64 cnt g x1 air mi (s, g 4) := by
    refine ⟨NR_of a1 (zk 1 (by omega)) (fun i _ _ => zj i (by omega) (by omega)), fun p hp => ?_, CR_of ⟨c1, c2, c3, c4, c5, c6⟩ (fun i _ _ => zj i (by omega) (by omega)) (fun j hj => zk j (by omega)), ?_, ?_, ?_, fun p hp hz => ?_⟩
    · rw [zj _ (by omega) (by omega)]; exact (a2 p hp).2
    · rw [zk _ (by omega)]; exact a4
    · rw [o2 k (by omega), up2_v e55]
    · rw [zk _ (by omega)]; exact a6
    · rw [o1 p (by omega)]
      show (0 : Int) = if g 4 p = 0 then 1 else 0
      rw [if_neg hz]
  refine ok_nbd (ok_msh_182 p1 p3 h1 h2 p7 h3.2 FU n 0 N64 (s, g 4) (by show n < 200; omega) (by omega) (by omega) p4 hT) (fun q96 N97 t => ?_)
  obtain ⟨⟨b1, b2, b3, b4, b5, b6, b7⟩, f1, f2⟩ := t
  refine ok_nlt (fun N99 e99 => ?_)
  refine ok_nlt (fun N101 e101 => ?_)
  refine ok_nlt (fun N103 e103 => ?_)
  refine ok_nlt (fun N105 e105 => ?_)
  have y : ∀ j, j ≠ k → N105 j = N97 j := fun j hj => by rw [up2_n e105 hj, up2_n e103 hj, up2_n e101 hj, up2_n e99 hj]
  refine ok_nbd (ok_copy (k := k) (b := k + 22) (c := k + 6) (n := 10) (by omega) (by omega)) (fun r107 N108 t => ?_)
  obtain ⟨v1, y1⟩ := t
  refine ok_nbd (ok_copy (k := k) (b := k + 23) (c := k + 7) (n := 120) (by omega) (by omega)) (fun r110 N111 t => ?_)
  obtain ⟨v2, y2⟩ := t
  refine ok_nbd (ok_copy (k := k) (b := k + 24) (c := k + 8) (n := 120) (by omega) (by omega)) (fun r113 N114 t => ?_)
  obtain ⟨v3, y3⟩ := t
  refine ok_nbd (ok_copy (k := k) (b := k + 25) (c := k + 9) (n := 10) (by omega) (by omega)) (fun r116 N117 t => ?_)
  obtain ⟨v4, y4⟩ := t
  refine ok_nbd (ok_copy (k := k) (b := k + 26) (c := k + 10) (n := 10) (by omega) (by omega)) (fun r119 N120 t => ?_)
  obtain ⟨v5, y5⟩ := t
  have yy : ∀ j, j < k + 6 ∨ k + 11 ≤ j → N120 j = N105 j := fun j hj => by rw [y5 j (by omega), y4 j (by omega), y3 j (by omega), y2 j (by omega), y1 j (by omega)]
  have q6 : ∀ q, q < 10 → N120 (k + 6) q = N37 (k + 6) q := fun q hq => by rw [y5 _ (by omega), y4 _ (by omega), y3 _ (by omega), y2 _ (by omega), v1 q hq, y _ (by omega), f1 _ (by omega) (by omega) (by omega) (by omega), o2 _ (by omega), up2_n e55 (by omega)]; exact w22 q hq
  have q7 : ∀ q, q < 120 → N120 (k + 7) q = N37 (k + 7) q := fun q hq => by rw [y5 _ (by omega), y4 _ (by omega), y3 _ (by omega), v2 q hq, y1 _ (by omega), y _ (by omega), f1 _ (by omega) (by omega) (by omega) (by omega), o2 _ (by omega), up2_n e55 (by omega)]; exact w23 q hq
  have q8 : ∀ q, q < 120 → N120 (k + 8) q = N37 (k + 8) q := fun q hq => by rw [y5 _ (by omega), y4 _ (by omega), v3 q hq, y2 _ (by omega), y1 _ (by omega), y _ (by omega), f1 _ (by omega) (by omega) (by omega) (by omega), o2 _ (by omega), up2_n e55 (by omega)]; exact w24 q hq
  have q9 : ∀ q, q < 10 → N120 (k + 9) q = N37 (k + 9) q := fun q hq => by rw [y5 _ (by omega), v4 q hq, y3 _ (by omega), y2 _ (by omega), y1 _ (by omega), y _ (by omega), f1 _ (by omega) (by omega) (by omega) (by omega), o2 _ (by omega), up2_n e55 (by omega)]; exact w25 q hq
  have q10 : ∀ q, q < 10 → N120 (k + 10) q = N37 (k + 10) q := fun q hq => by rw [v5 q hq, y4 _ (by omega), y3 _ (by omega), y2 _ (by omega), y1 _ (by omega), y _ (by omega), f1 _ (by omega) (by omega) (by omega) (by omega), o2 _ (by omega), up2_n e55 (by omega)]; exact w26 q hq
  have ek : N120 k = va_up (va_up (va_up (va_up (N97 k) 7 ht) 22 (N37 k 22)) 23 (N37 k 23)) 24 (N37 k 24) := by rw [yy k (by omega), up2_at e105, up2_at e103, up2_at e101, up2_at e99]
  have kk : ∀ j, j ≠ 7 → j < 22 → N120 k j = N37 k j := fun j j7 hj => by rw [ek, va_up_ne _ _ (by omega), va_up_ne _ _ (by omega), va_up_ne _ _ (by omega), va_up_ne _ _ (by omega), f2 j (by omega), zk j j7]
  have st : ∀ j, j ≠ k → j < k + 6 ∨ (k + 11 ≤ j ∧ j < k + 17) → N120 j = N37 j := fun j j0 hj => by rw [yy j (by omega), y j j0, f1 j j0 (by omega) (by omega) (by omega), zj j j0 (by omega)]
  have HR : RefI k N120 cnt g mi ht air s dn d := by
    refine ⟨NR_of a1 (kk 1 (by omega) (by omega)) (fun i _ _ => st i (by omega) (by omega)), fun p hp => ?_, ⟨fun p hp => ?_, ?_, ?_, ?_, fun q hq => ?_, fun q hq => ?_⟩, ?_, ?_, ?_, ?_, fun i hi => ?_, fun i hi => ?_⟩
    · rw [st _ (by omega) (by omega), st _ (by omega) (by omega)]; exact a2 p hp
    · obtain ⟨r1, r2, r3⟩ := c1 p hp
      refine ⟨by rw [q6 p (by omega)]; exact r1, r2, Ls_cg r3 (fun i hi => ⟨q7 _ (by omega), q8 _ (by omega)⟩)⟩
    · rw [ek, va_up_ne _ _ (by omega), va_up_ne _ _ (by omega), va_up_self]; exact c2
    · rw [ek, va_up_ne _ _ (by omega), va_up_self]; exact c3
    · rw [ek, va_up_self]; exact c4
    · rw [q9 q (by omega)]; exact c5 q hq
    · rw [q10 q hq]; exact c6 q hq
    · rw [kk _ (by omega) (by omega)]; exact a4
    · rw [ek, va_up_ne _ _ (by omega), va_up_ne _ _ (by omega), va_up_ne _ _ (by omega), va_up_self]
    · rw [kk _ (by omega) (by omega)]; exact a6
    · rw [kk _ (by omega) (by omega)]; exact a7
    · rw [st _ (by omega) (by omega), st _ (by omega) (by omega), st _ (by omega) (by omega)]; exact a8 i hi
    · rw [st _ (by omega) (by omega), st _ (by omega) (by omega), st _ (by omega) (by omega)]; exact a9 i hi
  have tp := shN_tp (g := g) (cnt := cnt) (x1 := x1) (x2 := x2) (x4 := x4) (air := air) (dl := 0) n mi (s, g 4) (fun i e => e)
  have cg := shN_cg (g := g) (cnt := cnt) (x1 := x1) (x2 := x2) (x4 := x4) (air := air) (dl := 0) (dl' := 0) n mi 0 (s, g 4) (s, g 4) ⟨rfl, rfl⟩
  have hmk : ∀ q, q < cnt → rg (N120 (k + 4) q) ∧ (¬ N120 (k + 4) q = 0 → rg (N120 (k + 27) q)) ∧ ((shN g cnt x1 x2 x4 air 0 n mi (s, g 4)).2 q = 0 ↔ (N120 (k + 4) q = 0 ∨ ¬ N120 (k + 27) q = 0)) := fun q hq => by
    have b := p3 q (by omega)
    rw [st (k + 4) (by omega) (by omega), (a2 q (by omega)).2, yy (k + 27) (by omega), y (k + 27) (by omega)]
    refine ⟨⟨by omega, by omega⟩, fun hz => ?_, ?_⟩
    · rw [b7 q hq hz]; split <;> exact ⟨by decide, by decide⟩
    · by_cases hz : g 4 q = 0
      · exact ⟨fun _ => Or.inl hz, fun _ => tp q hz⟩
      · rw [b7 q hq hz]
        constructor
        · intro e; rw [if_pos e]; exact Or.inr (by decide)
        · intro e
          rcases e with e | e
          · exact absurd e hz
          · by_cases u : (shN g cnt x1 x2 x4 air 0 n mi (s, g 4)).2 q = 0
            · exact u
            · rw [if_neg u] at e; exact absurd rfl e
  rw [← cg.2]
  refine ok_nbd (ok_msh_354 (mk := (shN g cnt x1 x2 x4 air 0 n mi (s, g 4)).2) hc FU cnt 0 0 N120 (by show cnt < 200; omega) (by omega) HR.1.1 hmk (by omega) (by omega)) (fun q142 N143 t => ?_)
  obtain ⟨t1, rfl⟩ := t
  have fr : ∀ i, i < k ∨ k + 28 ≤ i → N143 i = N i := fun i hi => by rw [yy i (by omega), y i (by omega), f1 i (by omega) (by omega) (by omega) (by omega), o2 i (by omega), up2_n e55 (by omega), zz i (by omega), up2_n e37 (by omega)]
  have k0 : N143 k 0 = 0 := by rw [kk 0 (by omega) (by omega), up2_v e37]
  rcases t1 with ⟨t2, t3⟩ | ⟨t2, t3⟩
  · exact ok_t t2 (ok_ret ⟨k0, fun _ => t3.symm, HR, fr⟩)
  · exact ok_f (by omega) (ok_ret ⟨k0, fun _ => t3, HR, fr⟩)
theorem both_shock {x1 x2 x3 x4 x5 : Int} (ha : h + 103 ≤ a) (hP : PurI cnt g mi ht air s dn d) (HC : ClsI h N cnt g mi ht air s dn d) : Both h k a N (m_Law_shock h x1 x2 x3 x4 x5 a N) (fun N3 => m_Mo_shock k x1 x2 x3 x4 x5 N3) cnt g mi ht air s dn d := by
  have hc := hP.1.1
  by_cases hx : (0 ≤ x1 ∧ x1 ≤ 10000) ∧ (1 ≤ x2 ∧ x2 ≤ 100) ∧ (1 ≤ x3 ∧ x3 ≤ 30) ∧ (0 ≤ x4 ∧ x4 ≤ 10000) ∧ 0 ≤ x5
  · obtain ⟨e1, e2, e3, e4, e5⟩ := hx
    obtain ⟨n, rfl⟩ : ∃ n : Nat, x3 = (n : Int) := ⟨x3.toNat, by omega⟩
    have r := nth_rg (mk := (shN g cnt x1 x2 x4 air 0 n 0 (s, g 4)).2) (y := x5) cnt 0 0
    have hv : (0 : Int) = 0 → rg (nth (shN g cnt x1 x2 x4 air 0 n 0 (s, g 4)).2 x5 cnt 0 0) := fun _ => ⟨by omega, by omega⟩
    exact ⟨0, nth (shN g cnt x1 x2 x4 air 0 n 0 (s, g 4)).2 x5 cnt 0 0, cnt, g, mi, ht, air, s, dn, d, Or.inl rfl, hv, hP, wrap1 hc ha hv (Or.inl rfl) (cls_shock e1 e2 e3 rfl e4 e5 hP HC), fun N3 H3 => ref_shock e1 e2 e3 rfl e4 e5 hP H3⟩
  · refine ⟨1, 0, cnt, g, mi, ht, air, s, dn, d, Or.inr (Or.inl rfl), fun q => absurd q (by decide), hP, wrap1 hc ha (fun q => absurd q (by decide)) (Or.inr rfl) ?_, fun N3 H3 => ?_⟩
    · rw [m_HL_shock]
      exact gateW (fun c1 => gateW (fun c2 => gateW (fun c3 => gateW (fun c4 => gateZ (fun c5 => absurd ⟨c1, c2, c3, c4, c5⟩ hx) (fun _ => HQ_bad HC)) (fun _ => HQ_bad HC)) (fun _ => HQ_bad HC)) (fun _ => HQ_bad HC)) (fun _ => HQ_bad HC)
    · show Ok (m_Mo_shock k x1 x2 x3 x4 x5 N3) _
      rw [m_Mo_shock]
      exact gateI (fun c1 => gateI (fun c2 => gateI (fun c3 => gateI (fun c4 => ok_t (by by_cases u : x5 < 0; exact u; exact absurd ⟨c1, c2, c3, c4, by omega⟩ hx) (ok_nlt (fun N' e => ok_ret (MoQ_bad (by decide) H3 e)))) (fun _ N' e => MoQ_bad (by decide) H3 e)) (fun _ N' e => MoQ_bad (by decide) H3 e)) (fun _ N' e => MoQ_bad (by decide) H3 e)) (fun _ N' e => MoQ_bad (by decide) H3 e)
end
