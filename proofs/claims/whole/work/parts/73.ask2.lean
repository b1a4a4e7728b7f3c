/-! ===== heat ===== -/
def hsR (rows : Nat → Rw) : Nat → Nat → Int → Int
  | 0, _, a => a
  | n + 1, i, a => hsR rows n (i + 1) (a + vw (rows i))
theorem vw_le : ∀ l : Rw, wl l → 0 ≤ vw l ∧ vw l ≤ tv l * 10000 := by
  intro l
  induction l with
  | nil => intro _; exact ⟨Int.le_refl _, by show (0 : Int) ≤ 0 * 10000; omega⟩
  | cons p l ih =>
    intro w
    obtain ⟨w1, w2⟩ := wl_cons w
    have := ih w2
    have m1 : 0 ≤ p.1 * p.2 := Int.mul_nonneg (by omega) w1.2.1
    have m2 : p.1 * p.2 ≤ p.1 * 10000 := Int.mul_le_mul_of_nonneg_left w1.2.2 (by omega)
    have e1 : vw (p :: l) = p.1 * p.2 + vw l := rfl
    have e2 : tv (p :: l) = p.1 + tv l := rfl
    omega
theorem hsR_le {rows : Nat → Rw} {cnt : Nat} {vol : Nat → Int} (h : OKR rows cnt vol) : ∀ (n i : Nat) (a : Int), i + n ≤ cnt → a ≤ hsR rows n i a ∧ hsR rows n i a ≤ a + n * 10000000 := by
  intro n
  induction n with
  | zero => intro i a _; exact ⟨Int.le_refl _, by show a ≤ a + ((0 : Nat) : Int) * 10000000; omega⟩
  | succ n ih =>
    intro i a hi
    obtain ⟨o1, o2, o3, o4, o5, o6⟩ := h i (by omega)
    have := vw_le _ o1
    have := ih (i + 1) (a + vw (rows i)) (by omega)
    show a ≤ hsR rows n (i + 1) (a + vw (rows i)) ∧ hsR rows n (i + 1) (a + vw (rows i)) ≤ _
    omega
theorem ok_held_4 {w nn cnt : Nat} {vol : Nat → Int} {rows : Nat → Rw} (hc : cnt ≤ 10) (hok : OKR rows cnt vol) : ∀ (f n i : Nat) (a : Int) (N : nS), n < f → i + n = cnt → N nn 5 = (cnt : Int) → WS N w cnt rows → Ok (m_Water_held_4 w nn f a (i : Int) N) (fun q N' => q.1 = hsR rows n i a ∧ N' = N) := by
  intro f
  induction f with
  | zero => intro n i a N h1; omega
  | succ f ih =>
    intro n i a N h1 h2 hN hW
    rw [m_Water_held_4]
    refine ok_ck (by rw [hN]; exact ⟨by omega, by omega⟩) ?_
    rw [hN]
    refine ok_if (fun c => ?_) (fun c => ?_)
    · have e : n = 0 := by omega
      subst e
      exact ok_ret ⟨rfl, rfl⟩
    · obtain ⟨n, rfl⟩ : ∃ k, n = k + 1 := ⟨n - 1, by omega⟩
      obtain ⟨o1, o2, o3, o4, o5, o6⟩ := hok i (by omega)
      refine ok_ck ⟨by omega, by omega⟩ ?_
      rw [Int.toNat_natCast]
      refine ok_nbd (ok_Plugs_vtw (by omega) (hW i (by omega)) o1 (by omega)) (fun r N5 q => ?_)
      obtain ⟨rfl, rfl⟩ := q
      refine ok_ck ⟨by omega, by omega⟩ ?_
      rw [show (i : Int) + 1 = ((i + 1 : Nat) : Int) by omega]
      exact ih n (i + 1) (a + vw (rows i)) N5 (by omega) (by omega) hN hW
theorem ok_heat_44 {k p : Nat} {x1 : Int} (hp : p < 10) : ∀ (f i : Nat) (N : nS) (l : Rw) (a : Int), l.length < f + i → i ≤ l.length → RR N k p l → wl l → tv l ≤ 100000 → Ok (m_Mo_heat_44 k x1 (p : Int) f a (i : Int) N) (fun q N' => q.1 = a + vw (l.drop i) ∧ N' = N) := by
  intro f
  induction f with
  | zero => intro i N l a h1 h2; exact absurd h1 (by omega)
  | succ f ih =>
    intro i N l a h1 h2 hr hw ht
    rw [m_Mo_heat_44]
    have hl := hr.2.1
    refine ok_ck ⟨by omega, by omega⟩ ?_
    rw [Int.toNat_natCast]
    refine ok_ck (by rw [hr.1]; exact ⟨by omega, by omega⟩) ?_
    rw [hr.1]
    refine ok_if (fun c => ?_) (fun c => ?_)
    · have e : i = l.length := by omega
      subst e
      rw [List.drop_length]
      exact ok_ret ⟨by show a = a + 0; omega, rfl⟩
    · have hi : i < l.length := by omega
      have g := hr.2.2 i hi
      have hm := hw _ (gv_mem hi)
      have hb := tv_le hw _ (gv_mem hi)
      refine ok_ck ⟨by omega, by omega⟩ ?_
      rw [show Int.toNat (12 * (p : Int) + (i : Int)) = 12 * p + i by omega, g.1, g.2]
      refine ok_ck ⟨by omega, by omega⟩ ?_
      refine ok_ck ⟨by omega, by omega⟩ ?_
      refine ok_ck ⟨by omega, by omega⟩ ?_
      rw [show (i : Int) + 1 = ((i + 1 : Nat) : Int) by omega, drop_gv hi]
      refine ok_mono (ih (i + 1) N l _ (by omega) (by omega) hr hw ht) (fun q N' h => ⟨?_, h.2⟩)
      rw [h.1]
      show _ = a + ((gv l i).1 * (gv l i).2 + vw (l.drop (i + 1)))
      omega
theorem ok_heat_32 {k cnt : Nat} {x1 : Int} {vol : Nat → Int} {rows : Nat → Rw} (hc : cnt ≤ 10) (hok : OKR rows cnt vol) : ∀ (f n i : Nat) (a : Int) (N : nS), n < f → i + n = cnt → N k 1 = (cnt : Int) → RS N k cnt rows → Ok (m_Mo_heat_32 k x1 f a (i : Int) N) (fun q N' => q.1 = hsR rows n i a ∧ N' = N) := by
  intro f
  induction f with
  | zero => intro n i a N h1; omega
  | succ f ih =>
    intro n i a N h1 h2 hN hW
    rw [m_Mo_heat_32]
    refine ok_ck (by rw [hN]; exact ⟨by omega, by omega⟩) ?_
    rw [hN]
    refine ok_if (fun c => ?_) (fun c => ?_)
    · have e : n = 0 := by omega
      subst e
      exact ok_ret ⟨rfl, rfl⟩
    · obtain ⟨n, rfl⟩ : ∃ k, n = k + 1 := ⟨n - 1, by omega⟩
      obtain ⟨o1, o2, o3, o4, o5, o6⟩ := hok i (by omega)
      refine ok_nbd (ok_heat_44 (by omega) FU 0 N (rows i) a (by show _ < 200 + 0; omega) (Nat.zero_le _) (hW i (by omega)) o1 (by omega)) (fun r N5 q => ?_)
      obtain ⟨q1, rfl⟩ := q
      rw [q1, List.drop_zero]
      refine ok_ck ⟨by omega, by omega⟩ ?_
      rw [show (i : Int) + 1 = ((i + 1 : Nat) : Int) by omega]
      exact ih n (i + 1) (a + vw (rows i)) N5 (by omega) (by omega) hN hW
section
variable {h k a : Nat} {N : nS} {cnt dn : Nat} {g d : Nat → Nat → Int} {mi ht air : Int} {s : St}
theorem wrapH {c v : Int} {o : Option ((Int × Int) × nS)} (hcnt : cnt ≤ 10) (ha : h + 103 ≤ a) (hc : c = 0 ∨ c = 1) (H : Ok o (HQ h N c v cnt g mi ht air s dn d)) : Ok (nbd o (fun q1 N2 => if q1.1 = 0 then nlt (up2 N2 a (Int.toNat 0) q1.2) (fun N5 => some ((0 : Int), N5)) else if q1.1 = 1 then some (1, N2) else none)) (LQ h N c v a cnt g mi ht air s dn d) := by
  refine ok_nbd H (fun q N' hq => ?_)
  obtain ⟨h1, h2, h3, h4⟩ := hq
  rw [h1]
  rcases hc with rfl | rfl
  · rw [h2 rfl]
    exact ok_t rfl (ok_nlt (fun N6 e6 => ok_ret ⟨rfl, fun _ => up2_v e6, ClsI_of hcnt h3 (fun i _ _ => up2_n e6 (by omega)), fun i i1 i2 => by rw [up2_n e6 i2, h4 i i1]⟩))
  · exact ok_f (by decide) (ok_t rfl (ok_ret ⟨rfl, fun q => absurd q (by decide), h3, fun i i1 _ => h4 i i1⟩))
theorem fin_heat {c v r5 : Int} {N9 : nS} (hc : c = 0 ∨ c = 1) (hv : c = 0 → rl v) (h5 : c = 0 → r5 = v) (h9 : c = 0 → N9 a 0 = v) : (if rg c then if rg c then if c = c then if c = 0 then if rl (N9 a (Int.toNat 0)) then if rl r5 then if (if r5 < (N9 a (Int.toNat 0)) then 1 else if (N9 a (Int.toNat 0)) = r5 then 0 else -1) = 0 then some ((1 : Int), N9) else some (0, N9) else none else none else some (1, N9) else some (0, N9) else none else none) = some (1, N9) := by
  have r : rg c := by rcases hc with rfl | rfl <;> exact ⟨by decide, by decide⟩
  rw [if_pos r, if_pos r, if_pos rfl]
  by_cases q : c = 0
  · have e9 : N9 a (Int.toNat 0) = v := h9 q
    have r2 := hv q
    rw [if_pos q, h5 q, e9, if_pos r2, if_pos r2, if_neg (Int.lt_irrefl v), if_pos rfl, if_pos rfl]
  · rw [if_neg q]
def aHeat (cnt : Nat) (s : St) (x : Int) : Int := if x = 0 then hsR (sR s) cnt 0 0 else if x = 1 then sG s else if x = 2 then sO s else sL s
theorem step_heat {x : Int} (hk : h + 103 ≤ k) (ha : k + 28 ≤ a) (hP : PurI cnt g mi ht air s dn d) (HC : ClsI h N cnt g mi ht air s dn d) (HR : RefI k N cnt g mi ht air s dn d) : ∃ No, nbd (m_Law_heat h x a N) (fun r192 N193 => nbd (m_Mo_heat k x N193) (fun r195 N196 => nbd (m_Mo_thrown k N196) (fun r198 N199 => if rg r198 then if rg r192 then if r198 = r192 then if r192 = 0 then if rl (N199 a (Int.toNat 0)) then if rl r195 then if (if r195 < (N199 a (Int.toNat 0)) then 1 else if (N199 a (Int.toNat 0)) = r195 then 0 else -1) = 0 then some ((1 : Int), N199) else some (0, N199) else none else none else some (1, N199) else some (0, N199) else none else none))) = some (1, No) ∧ RelG h k No := by
  have hc := hP.1.1
  have hok := hP.2.2.2.1
  have hmi := hP.2.2.2.2.1
  by_cases hx : 0 ≤ x ∧ x ≤ 3
  · have hb := hP.2.2.2.2.2.2.2.2.2.2.1
    have hl := hsR_le hok cnt 0 0 (by omega)
    have hv : (0 : Int) = 0 → rl (aHeat cnt s x) := fun _ => by
      obtain ⟨⟨b1, b2⟩, ⟨b3, b4⟩, ⟨b5, b6⟩⟩ := hb
      unfold aHeat
      repeat' split
      all_goals exact ⟨by omega, by omega⟩
    refine law_end (c := 0) (v := aHeat cnt s x) (F := fun r2 r5 r8 N9 => if rg r8 then if rg r2 then if r8 = r2 then if r2 = 0 then if rl (N9 a (Int.toNat 0)) then if rl r5 then if (if r5 < (N9 a (Int.toNat 0)) then 1 else if (N9 a (Int.toNat 0)) = r5 then 0 else -1) = 0 then some ((1 : Int), N9) else some (0, N9) else none else none else some (1, N9) else some (0, N9) else none else none) hk ha hP (wrapH hc (by omega) (Or.inl rfl) ?_) HR (fun N3 H3 => ?_) (fun r5 N9 b1 b2 => fin_heat (Or.inl rfl) hv b1 b2)
    · rw [m_HL_heat]
      refine gateW (fun _ => ?_) (fun n => absurd hx n)
      have fin : ∀ r : Int, r = aHeat cnt s x → HQ h N 0 (aHeat cnt s x) cnt g mi ht air s dn d (0, r) N := fun r hr => ⟨rfl, fun _ => hr, HC, fun _ _ => rfl⟩
      obtain ⟨w1, w2, w3, w4, w5, w6⟩ := HC.2.2.1
      refine ok_if (fun c1 => ?_) (fun c1 => ?_)
      · have hh : Ok (m_Water_held (h + 7) (h + 1) N) (fun r N' => r = hsR (sR s) cnt 0 0 ∧ N' = N) := by
          rw [m_Water_held]
          refine ok_nbd (ok_held_4 hc hok FU cnt 0 0 N (by show cnt < 200; omega) (by omega) HC.1.1 w1) (fun q N' g => ok_ret g)
        refine ok_nbd hh (fun r N' q => ?_)
        obtain ⟨rfl, rfl⟩ := q
        exact ok_ret (fin _ (by unfold aHeat; rw [if_pos c1]))
      · refine ok_if (fun c2 => ok_ret (fin _ (by unfold aHeat; rw [if_neg c1, if_pos c2, w2]))) (fun c2 => ?_)
        exact ok_if (fun c3 => ok_ret (fin _ (by unfold aHeat; rw [if_neg c1, if_neg c2, if_pos c3, w3]))) (fun c3 => ok_ret (fin _ (by unfold aHeat; rw [if_neg c1, if_neg c2, if_neg c3, w4])))
    · show Ok (m_Mo_heat k x N3) _
      rw [m_Mo_heat]
      refine gateI (fun _ => ?_) (fun n => absurd hx n)
      refine ok_nlt (fun N17 e17 => ?_)
      have R17 := RefI_thr H3 e17
      have fin : ∀ r : Int, r = aHeat cnt s x → MoQ k N3 0 (aHeat cnt s x) cnt g mi ht air s dn d r N17 := fun r hr => ⟨up2_v e17, fun _ => hr, R17, fun i hi => up2_n e17 (by omega)⟩
      obtain ⟨w1, w2, w3, w4, w5, w6⟩ := R17.2.2.1
      refine ok_nbd (ok_heat_32 hc hok FU cnt 0 0 N17 (by show cnt < 200; omega) (by omega) R17.1.1 w1) (fun q N' g => ?_)
      obtain ⟨g1, rfl⟩ := g
      refine ok_if (fun c1 => ok_ret (fin _ (by unfold aHeat; rw [if_pos c1, g1]))) (fun c1 => ?_)
      refine ok_if (fun c2 => ok_ret (fin _ (by unfold aHeat; rw [if_neg c1, if_pos c2, w2]))) (fun c2 => ?_)
      exact ok_if (fun c3 => ok_ret (fin _ (by unfold aHeat; rw [if_neg c1, if_neg c2, if_pos c3, w3]))) (fun c3 => ok_ret (fin _ (by unfold aHeat; rw [if_neg c1, if_neg c2, if_neg c3, w4])))
  · refine law_end (c := 1) (v := 0) (F := fun r2 r5 r8 N9 => if rg r8 then if rg r2 then if r8 = r2 then if r2 = 0 then if rl (N9 a (Int.toNat 0)) then if rl r5 then if (if r5 < (N9 a (Int.toNat 0)) then 1 else if (N9 a (Int.toNat 0)) = r5 then 0 else -1) = 0 then some ((1 : Int), N9) else some (0, N9) else none else none else some (1, N9) else some (0, N9) else none else none) hk ha hP (wrapH hc (by omega) (Or.inr rfl) ?_) HR (fun N3 H3 => ?_) (fun r5 N9 b1 b2 => fin_heat (Or.inr rfl) (fun q => absurd q (by decide)) b1 b2)
    · rw [m_HL_heat]
      exact gateW (fun c => absurd c hx) (fun _ => HQ_bad HC)
    · show Ok (m_Mo_heat k x N3) _
      rw [m_Mo_heat]
      exact gateI (fun c => absurd c hx) (fun _ N' e => MoQ_bad (by decide) H3 e)
/-! ===== the n-th marked pipe ===== -/
def nth (mk : Nat → Int) (y : Int) : Nat → Nat → Int → Int
  | 0, _, _ => -1
  | n + 1, i, c => if mk i = 0 then nth mk y n (i + 1) c else if c = y then (i : Int) else nth mk y n (i + 1) (c + 1)
theorem nth_rg {mk : Nat → Int} {y : Int} : ∀ (n i : Nat) (c : Int), -1 ≤ nth mk y n i c ∧ nth mk y n i c < ((i + n + 1 : Nat) : Int) := by
  intro n
  induction n with
  | zero => intro i c; exact ⟨Int.le_refl _, by show (-1 : Int) < _; omega⟩
  | succ n ih =>
    intro i c
    show -1 ≤ (if mk i = 0 then nth mk y n (i + 1) c else if c = y then (i : Int) else nth mk y n (i + 1) (c + 1)) ∧ (if mk i = 0 then nth mk y n (i + 1) c else if c = y then (i : Int) else nth mk y n (i + 1) (c + 1)) < _
    have h1 := ih (i + 1) c
    have h2 := ih (i + 1) (c + 1)
    split
    · omega
    · split <;> omega
theorem nth_cg {mk mk' : Nat → Int} {y : Int} : ∀ (n i : Nat) (c : Int), (∀ q, i ≤ q → q < i + n → (mk q = 0 ↔ mk' q = 0)) → nth mk y n i c = nth mk' y n i c := by
  intro n
  induction n with
  | zero => intro i c _; rfl
  | succ n ih =>
    intro i c hq
    show (if mk i = 0 then nth mk y n (i + 1) c else if c = y then (i : Int) else nth mk y n (i + 1) (c + 1)) = (if mk' i = 0 then nth mk' y n (i + 1) c else if c = y then (i : Int) else nth mk' y n (i + 1) (c + 1))
    rw [ih (i + 1) c (fun q q1 q2 => hq q (by omega) (by omega)), ih (i + 1) (c + 1) (fun q q1 q2 => hq q (by omega) (by omega))]
    by_cases e : mk i = 0
    · rw [if_pos e, if_pos ((hq i (by omega) (by omega)).mp e)]
    · rw [if_neg e, if_neg (fun e2 => e ((hq i (by omega) (by omega)).mpr e2))]
theorem ok_marked_4 {y : Int} {mk : Nat → Int} (hc : cnt ≤ 10) : ∀ (f n i : Nat) (c : Int) (N : nS), n < f → i + n = cnt → N (h + 1) 5 = (cnt : Int) → (∀ q, q < cnt → N (h + 102) q = mk q ∧ rg (mk q)) → 0 ≤ c → c ≤ (i : Int) → Ok (m_HL_markedPipe_4 h y f c (i : Int) N) (fun q N' => ((q.1 = 0 ∧ nth mk y n i c = -1) ∨ (q.1 = 1 ∧ q.2.1 = nth mk y n i c)) ∧ N' = N) := by
  intro f
  induction f with
  | zero => intro n i c N h1; omega
  | succ f ih =>
    intro n i c N h1 h2 hN hm c0 c1
    rw [m_HL_markedPipe_4]
    refine ok_ck (by rw [hN]; exact ⟨by omega, by omega⟩) ?_
    rw [hN]
    refine ok_if (fun c => ?_) (fun c => ?_)
    · have e : n = 0 := by omega
      subst e
      exact ok_ret ⟨Or.inl ⟨rfl, rfl⟩, rfl⟩
    · obtain ⟨n, rfl⟩ : ∃ k, n = k + 1 := ⟨n - 1, by omega⟩
      have m1 := hm i (by omega)
      refine ok_ck ⟨by omega, by omega⟩ ?_
      rw [Int.toNat_natCast, m1.1]
      refine ok_ck m1.2 ?_
      rw [show (i : Int) + 1 = ((i + 1 : Nat) : Int) by omega, nth]
      refine ok_if (fun c2 => ?_) (fun c2 => ?_)
      · refine ok_ck ⟨by omega, by omega⟩ ?_
        rw [if_pos c2]
        exact ih n (i + 1) _ N (by omega) (by omega) hN hm c0 (by omega)
      · rw [if_neg c2]
        refine ok_if (fun c3 => ?_) (fun c3 => ?_)
        · rw [if_pos c3]
          exact ok_ret ⟨Or.inr ⟨rfl, rfl⟩, rfl⟩
        · rw [if_neg c3]
          refine ok_ck ⟨by omega, by omega⟩ ?_
          refine ok_ck ⟨by omega, by omega⟩ ?_
          exact ih n (i + 1) _ N (by omega) (by omega) hN hm (by omega) (by omega)
theorem ok_marked {y : Int} {mk : Nat → Int} (hc : cnt ≤ 10) (hN : N (h + 1) 5 = (cnt : Int)) (hm : ∀ q, q < cnt → N (h + 102) q = mk q ∧ rg (mk q)) : Ok (m_HL_markedPipe h y N) (fun r N' => r = nth mk y cnt 0 0 ∧ N' = N) := by
  rw [m_HL_markedPipe]
  refine ok_nbd (ok_marked_4 hc FU cnt 0 0 N (by show cnt < 200; omega) (by omega) hN hm (by omega) (by omega)) (fun q N' g => ?_)
  obtain ⟨g1, rfl⟩ := g
  rcases g1 with ⟨e1, e2⟩ | ⟨e1, e2⟩
  · exact ok_t e1 (ok_ret ⟨e2.symm, rfl⟩)
  · exact ok_f (by omega) (ok_ret ⟨e2, rfl⟩)
/-! ===== dead ===== -/
def stl (mi y fl : Int) : Int := if fl = -1 then 1 else if mi - 1 - fl < y then 0 else 1
theorem ok_dead_10 {x y : Int} (hP : PurI cnt g mi ht air s dn d) : ∀ (f n i : Nat) (N : nS), n < f → i + n = cnt → ClsI h N cnt g mi ht air s dn d → (∀ q, q < i → N (h + 102) q = stl mi x (sF s q)) → Ok (m_HL_dead_10 h x y f (i : Int) N) (fun _ N' => (∀ q, q < cnt → N' (h + 102) q = stl mi x (sF s q)) ∧ ∀ j, j ≠ h + 102 → N' j = N j) := by
  have hc := hP.1.1
  have hmi := hP.2.2.2.2.1
  intro f
  induction f with
  | zero => intro n i N h1; omega
  | succ f ih =>
    intro n i N h1 h2 H hd
    rw [m_HL_dead_10]
    refine ok_ck (by rw [H.1.1]; exact ⟨by omega, by omega⟩) ?_
    rw [H.1.1]
    refine ok_if (fun c => ?_) (fun c => ?_)
    · have e : i = cnt := by omega
      exact ok_ret ⟨fun q hq => hd q (by omega), fun _ _ => rfl⟩
    · obtain ⟨n, rfl⟩ : ∃ k, n = k + 1 := ⟨n - 1, by omega⟩
      have fb := hP.2.2.2.2.2.2.2.2.2.2.2.1 i (by omega)
      have hst : Ok (m_Water_stoodStill (h + 7) (h + 1) (i : Int) x N) (fun r N' => r = stl mi x (sF s i) ∧ N' = N) := by
        rw [m_Water_stoodStill]
        refine ok_ck ⟨by omega, by omega⟩ ?_
        rw [Int.toNat_natCast, H.2.2.1.2.2.2.2.1 i]
        refine ok_ck ⟨by omega, by omega⟩ ?_
        refine ok_if (fun c2 => ok_ret ⟨by unfold stl; rw [if_pos c2], rfl⟩) (fun c2 => ?_)
        rw [m_Water_minutesSinceFlow, if_pos ⟨by omega, by omega⟩, nbd_sm, Int.toNat_natCast, H.2.2.1.2.2.2.2.1 i, H.2.2.2.1]
        refine ok_ck ⟨by omega, by omega⟩ ?_
        exact ok_if (fun c3 => ok_ret ⟨by unfold stl; rw [if_neg c2, if_pos c3], rfl⟩) (fun c3 => ok_ret ⟨by unfold stl; rw [if_neg c2, if_neg c3], rfl⟩)
      refine ok_nbd hst (fun r N12 q => ?_)
      obtain ⟨rfl, rfl⟩ := q
      refine ok_ck ⟨by omega, by omega⟩ ?_
      refine ok_ck (by unfold stl; repeat' split; all_goals omega) ?_
      refine ok_nlt (fun N16 e16 => ?_)
      rw [Int.toNat_natCast] at e16
      refine ok_ck ⟨by omega, by omega⟩ ?_
      rw [show (i : Int) + 1 = ((i + 1 : Nat) : Int) by omega]
      have st : ∀ j, j ≠ h + 102 → N16 j = N12 j := fun j hj => up2_n e16 hj
      refine ok_mono (ih n (i + 1) N16 (by omega) (by omega) (ClsI_of hc H (fun i _ _ => st i (by omega))) (fun q hq => ?_)) (fun q N' g => ⟨g.1, fun j hj => (g.2 j hj).trans (st j hj)⟩)
      rw [up2_at e16]
      by_cases e : q = i
      · subst e; rw [va_up_self]
      · rw [va_up_ne _ _ e]; exact hd q (by omega)
theorem ok_dead_31 {x y : Int} (hP : PurI cnt g mi ht air s dn d) (H : RefI k N cnt g mi ht air s dn d) : ∀ (f n i : Nat) (c : Int), n < f → i + n = cnt → 0 ≤ c → c ≤ (i : Int) → Ok (m_Mo_dead_31 k x y f c (i : Int) N) (fun q N' => ((q.1 = 0 ∧ nth (fun q => stl mi x (sF s q)) y n i c = -1) ∨ (q.1 = 1 ∧ q.2.1 = nth (fun q => stl mi x (sF s q)) y n i c)) ∧ N' = N) := by
  have hc := hP.1.1
  have hmi := hP.2.2.2.2.1
  intro f
  induction f with
  | zero => intro n i c h1; omega
  | succ f ih =>
    intro n i c h1 h2 c0 c1
    rw [m_Mo_dead_31]
    refine ok_ck (by rw [H.1.1]; exact ⟨by omega, by omega⟩) ?_
    rw [H.1.1]
    refine ok_if (fun c => ?_) (fun c => ?_)
    · have e : n = 0 := by omega
      subst e
      exact ok_ret ⟨Or.inl ⟨rfl, rfl⟩, rfl⟩
    · obtain ⟨n, rfl⟩ : ∃ k, n = k + 1 := ⟨n - 1, by omega⟩
      have fb := hP.2.2.2.2.2.2.2.2.2.2.2.1 i (by omega)
      refine ok_ck ⟨by omega, by omega⟩ ?_
      rw [Int.toNat_natCast, H.2.2.1.2.2.2.2.1 i (by omega), H.2.2.2.1]
      refine ok_ck ⟨by omega, by omega⟩ ?_
      rw [show (i : Int) + 1 = ((i + 1 : Nat) : Int) by omega, nth]
      refine ok_if (fun c2 => ?_) (fun c2 => ?_)
      · have e : stl mi x (sF s i) = 1 := by unfold stl; rw [if_pos c2]
        rw [e, if_neg (show ¬ (1 : Int) = 0 by decide)]
        refine ok_if (fun c3 => ?_) (fun c3 => ?_)
        · rw [if_pos c3]
          exact ok_ret ⟨Or.inr ⟨rfl, rfl⟩, rfl⟩
        · rw [if_neg c3]
          refine ok_ck ⟨by omega, by omega⟩ ?_
          refine ok_ck ⟨by omega, by omega⟩ ?_
          exact ih n (i + 1) _ (by omega) (by omega) (by omega) (by omega)
      · refine ok_ck ⟨by omega, by omega⟩ ?_
        refine ok_if (fun c4 => ?_) (fun c4 => ?_)
        · have e : stl mi x (sF s i) = 0 := by unfold stl; rw [if_neg c2, if_pos c4]
          rw [e, if_pos rfl]
          refine ok_ck ⟨by omega, by omega⟩ ?_
          refine ok_ck ⟨by omega, by omega⟩ ?_
          rw [Int.add_zero]
          exact ih n (i + 1) _ (by omega) (by omega) (by omega) (by omega)
        · have e : stl mi x (sF s i) = 1 := by unfold stl; rw [if_neg c2, if_neg c4]
          rw [e, if_neg (show ¬ (1 : Int) = 0 by decide)]
          refine ok_if (fun c3 => ?_) (fun c3 => ?_)
          · rw [if_pos c3]
            exact ok_ret ⟨Or.inr ⟨rfl, rfl⟩, rfl⟩
          · rw [if_neg c3]
            refine ok_ck ⟨by omega, by omega⟩ ?_
            refine ok_ck ⟨by omega, by omega⟩ ?_
            exact ih n (i + 1) _ (by omega) (by omega) (by omega) (by omega)
theorem both_dead {x y : Int} (ha : h + 103 ≤ a) (hP : PurI cnt g mi ht air s dn d) (HC : ClsI h N cnt g mi ht air s dn d) : Both h k a N (m_Law_dead h x y a N) (fun N3 => m_Mo_dead k x y N3) cnt g mi ht air s dn d := by
  have hc := hP.1.1
  by_cases hx : 0 ≤ x ∧ 0 ≤ y
  · have hn := nth_rg (mk := fun q => stl mi x (sF s q)) (y := y) cnt 0 0
    have hv : (0 : Int) = 0 → rg (nth (fun q => stl mi x (sF s q)) y cnt 0 0) := fun _ => ⟨by omega, by omega⟩
    refine ⟨0, nth (fun q => stl mi x (sF s q)) y cnt 0 0, cnt, g, mi, ht, air, s, dn, d, Or.inl rfl, hv, hP, wrap1 hc ha hv (Or.inl rfl) ?_, fun N3 H3 => ?_⟩
    · rw [m_HL_dead]
      refine gateZ (fun _ => ?_) (fun n => absurd hx.1 n)
      refine gateZ (fun _ => ?_) (fun n => absurd hx.2 n)
      refine ok_nbd (ok_dead_10 hP FU cnt 0 N (by show cnt < 200; omega) (by omega) HC (fun q hq => absurd hq (Nat.not_lt_zero _))) (fun q N20 g20 => ?_)
      have H20 := ClsI_of hc HC (N' := N20) (fun i _ _ => g20.2 i (by omega))
      refine ok_nbd (ok_marked (mk := fun q => stl mi x (sF s q)) hc H20.1.1 (fun q hq => ⟨g20.1 q hq, ?_⟩)) (fun r N' q => ?_)
      · show rg (stl mi x (sF s q))
        unfold stl
        repeat' split
        all_goals exact ⟨by decide, by decide⟩
      · obtain ⟨rfl, rfl⟩ := q
        exact ok_ret ⟨rfl, fun _ => rfl, H20, fun i hi => g20.2 i (by omega)⟩
    · show Ok (m_Mo_dead k x y N3) _
      rw [m_Mo_dead]
      refine ok_f (by omega) ?_
      refine ok_f (by omega) ?_
      refine ok_nlt (fun N9 e9 => ?_)
      have R9 := RefI_thr H3 e9
      refine ok_nbd (ok_dead_31 hP R9 FU cnt 0 0 (by show cnt < 200; omega) (by omega) (by omega) (by omega)) (fun q N' g => ?_)
      obtain ⟨g1, rfl⟩ := g
      have fin : ∀ r : Int, r = nth (fun q => stl mi x (sF s q)) y cnt 0 0 → MoQ k N3 0 (nth (fun q => stl mi x (sF s q)) y cnt 0 0) cnt g mi ht air s dn d r N' := fun r hr => ⟨up2_v e9, fun _ => hr, R9, fun i hi => up2_n e9 (by omega)⟩
      rcases g1 with ⟨e1, e2⟩ | ⟨e1, e2⟩
      · exact ok_t e1 (ok_ret (fin _ e2.symm))
      · exact ok_f (by omega) (ok_ret (fin _ e2))
  · refine ⟨1, 0, cnt, g, mi, ht, air, s, dn, d, Or.inr (Or.inl rfl), fun q => absurd q (by decide), hP, wrap1 hP.1.1 ha (fun q => absurd q (by decide)) (Or.inr rfl) ?_, fun N3 H3 => ?_⟩
    · rw [m_HL_dead]
      exact gateZ (fun c => gateZ (fun c2 => absurd ⟨c, c2⟩ hx) (fun _ => HQ_bad HC)) (fun _ => HQ_bad HC)
    · show Ok (m_Mo_dead k x y N3) _
      rw [m_Mo_dead]
      refine ok_if (fun c1 => ok_nlt (fun N' e => ok_ret (MoQ_bad (by decide) H3 e))) (fun c1 => ?_)
      refine ok_if (fun c1 => ok_nlt (fun N' e => ok_ret (MoQ_bad (by decide) H3 e))) (fun c2 => ?_)
      exact absurd ⟨by omega, by omega⟩ hx
end
