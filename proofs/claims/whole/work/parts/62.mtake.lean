/-! ===== the reference: taking ===== -/
theorem ok_take_5 {k cnt : Nat} {x1 x2 : Int} {fr : Nat → Int} (hf : frw fr cnt) (hc : cnt ≤ 10) : ∀ (f i g : Nat) (a : Int) (N : nS), (ch fr g a).length < f → a < (g : Int) → -1 ≤ a → a < (cnt : Int) → i + (ch fr g a).length ≤ 10 → (∀ p, p < cnt → N (k + 1) p = fr p) → Ok (m_Mo_take_5 k x1 x2 f (i : Int) a N) (fun q N' => q.1 = ((i + (ch fr g a).length : Nat) : Int) ∧ (∀ j, j < (ch fr g a).length → N' (k + 21) (i + j) = (((ch fr g a).getD j 0 : Nat) : Int)) ∧ (∀ j, j < i → N' (k + 21) j = N (k + 21) j) ∧ ∀ j, j ≠ k + 21 → N' j = N j) := by
  intro f
  induction f with
  | zero => intro i g a N h1; exact absurd h1 (Nat.not_lt_zero _)
  | succ f ih =>
    intro i g a N h1 h2 h3 h4 h5 hfr
    rw [m_Mo_take_5]
    refine ok_if (fun c2 => ?_) (fun c2 => ?_)
    · rw [ch_neg (by omega)]
      exact ok_ret ⟨by simp, fun j hj => absurd hj (Nat.not_lt_zero _), fun _ _ => rfl, fun _ _ => rfl⟩
    obtain ⟨g', rfl⟩ : ∃ g', g = g' + 1 := ⟨g - 1, by omega⟩
    have e := ch_pos (fr := fr) (f := g') (a := a) (by omega)
    rw [e] at h1 h5 ⊢
    rw [List.length_cons] at h1 h5
    refine ok_ck ⟨by omega, by omega⟩ ?_
    refine ok_nlt (fun N6 e6 => ?_)
    rw [Int.toNat_natCast] at e6
    have hq := hf a.toNat (by omega)
    have n6 : N6 (k + 1) a.toNat = fr a.toNat := by rw [up2_n e6 (by omega)]; exact hfr _ (by omega)
    refine ok_ck ⟨by omega, by omega⟩ ?_
    refine ok_ck ⟨by omega, by omega⟩ ?_
    rw [n6]
    refine ok_ck ⟨by omega, by omega⟩ ?_
    rw [show (i : Int) + 1 = ((i + 1 : Nat) : Int) by omega]
    have h9 := ih (i + 1) g' (fr a.toNat) N6 (by omega) (by omega) hq.1 (by omega) (by omega) (fun p hp => by rw [up2_n e6 (by omega)]; exact hfr p hp)
    refine ok_mono h9 (fun q N' h => ⟨?_, fun j hj => ?_, fun j hj => ?_, fun j hk => ?_⟩)
    · rw [h.1, List.length_cons]; omega
    · rw [List.length_cons] at hj
      cases j with
      | zero =>
        show N' (k + 21) i = _
        rw [h.2.2.1 i (by omega), up2_v e6]
        show a = ((a.toNat : Nat) : Int)
        omega
      | succ j =>
        rw [show i + (j + 1) = i + 1 + j by omega, h.2.1 j (by omega)]
        rfl
    · rw [h.2.2.1 j (by omega), up2_at e6, va_up_ne _ _ (by omega)]
    · rw [h.2.2.2 j hk, up2_n e6 hk]
set_option maxHeartbeats 1000000 in
theorem ok_take_78 {k cnt : Nat} {x1 x2 x3 : Int} {vol : Nat → Int} (hc : cnt ≤ 10) (c : List Nat) (hcl : c.length ≤ 10) (hx : ∀ x ∈ c, x < cnt) : ∀ (f n : Nat) (N : nS) (rows : Nat → Rw) (t T : Rw), n < f → n ≤ c.length → (∀ j, j < n → N (k + 21) j = ((c.getD j 0 : Nat) : Int)) → RS N k cnt rows → TM N k T → (∀ p, p < cnt → N (k + 2) p = vol p) → OKR rows cnt vol → wl t → nmr t → tv t ≤ 1000 → wl T → ex t = ex T → tv T = tv t → T.length + 12 * n ≤ 150 → t.length + 12 * n ≤ 121 →
    Ok (m_Mo_take_78 k x1 x2 x3 f ((n : Int) - 1) N) (fun _ N' => RS N' k cnt (tk vol (c.take n).reverse rows t (N k 24)).1 ∧ (∃ T', TM N' k T' ∧ wl T' ∧ ex T' = ex (tk vol (c.take n).reverse rows t (N k 24)).2.1 ∧ T'.length ≤ 150) ∧ N' k 24 = (tk vol (c.take n).reverse rows t (N k 24)).2.2 ∧ (∀ q, N' (k + 9) q = if q ∈ c.take n then N k 9 else N (k + 9) q) ∧ FP k N N') := by
  intro f
  induction f with
  | zero => intro n N rows t T h1; exact absurd h1 (by omega)
  | succ f ih =>
    intro n N rows t T h1 h2 hway hW hT hvol hok wt nt tt wT hex tT hl hl2
    rw [m_Mo_take_78]
    refine ok_if (fun c1 => ?_) (fun c1 => ?_)
    · have e : n = 0 := by omega
      subst e
      exact ok_ret ⟨hW, ⟨T, hT, wT, hex.symm, by omega⟩, rfl, fun q => by simp, ⟨fun _ _ _ _ _ _ _ _ _ _ => rfl, fun _ _ _ _ => rfl⟩⟩
    · obtain ⟨m, rfl⟩ : ∃ k, n = k + 1 := ⟨n - 1, by omega⟩
      have e1 : ((m + 1 : Nat) : Int) - 1 = (m : Int) := by omega
      rw [e1, Int.toNat_natCast, hway m (by omega)]
      have hm : c.getD m 0 ∈ c := by
        rw [List.getD_eq_getElem?_getD, List.getElem?_eq_getElem (show m < c.length by omega)]
        exact List.getElem_mem _
      have hp := hx _ hm
      generalize hpd : c.getD m 0 = p at hm hp
      refine ok_ck ⟨by omega, by omega⟩ ?_
      refine ok_ck ⟨by omega, by omega⟩ ?_
      obtain ⟨a, b, c3, d, e2, e3⟩ := hok p hp
      have kp := psh_ok wt a ⟨e2, e3⟩ c3 tt (by omega)
      refine ok_nbd (ok_Mo_push hp hc hW hT (hvol p hp) ⟨e2, e3⟩ wT a c3 (by omega) (by omega) wt hex) (fun r N20 h20 => ?_)
      obtain ⟨g1, ⟨T', g2, g3, g4, g5, g6⟩, g7, g8, g9⟩ := h20
      refine ok_ck ⟨by omega, by omega⟩ ?_
      rw [show (m : Int) + (-1) = (m : Int) - 1 by omega]
      have h9 := ih m N20 (va_up rows p (psh (vol p) t (rows p)).1) (psh (vol p) t (rows p)).2.1 T' (by omega) (by omega) (fun j hj => by rw [g9.1 (k + 21) (by omega) (by omega) (by omega) (by omega) (by omega) (by omega) (by omega) (by omega) (by omega)]; exact hway j (by omega)) g1 g2 (fun q hq => by rw [g9.1 (k + 2) (by omega) (by omega) (by omega) (by omega) (by omega) (by omega) (by omega) (by omega) (by omega)]; exact hvol q hq) (OKR_up hok hp wt tt (by omega)) kp.2.2.2.2.1 kp.2.2.2.2.2.1 (by have := kp.2.2.2.2.2.2.1; omega) g3 g4.symm (by have := kp.2.2.2.2.2.2.1; omega) (by omega) (by have := kp.2.2.2.2.2.2.2.1; omega)
      rw [g7] at h9
      refine ok_mono h9 (fun q N' h => ?_)
      obtain ⟨m1, m2, m3, m4, m5⟩ := h
      rw [take_rev (show m < c.length by omega), hpd]
      refine ⟨m1, m2, m3, fun q => ?_, FP_tr g9 m5⟩
      rw [m4 q, g9.2 9 (by decide) (by decide) (by decide), g8]
      by_cases q1 : q ∈ c.take m
      · rw [if_pos q1, if_pos ((mem_take_succ (by omega)).mpr (Or.inl q1))]
      · rw [if_neg q1]
        by_cases q2 : q = p
        · subst q2
          rw [va_up_self, if_pos ((mem_take_succ (by omega)).mpr (Or.inr hpd.symm))]
        · rw [va_up_ne _ _ q2, if_neg (fun h => ((mem_take_succ (by omega)).mp h).elim q1 (fun h => q2 (h.trans hpd)))]
theorem ok_take_128 {k : Nat} {x1 x2 x3 : Int} : ∀ (f i : Nat) (N : nS) (T : Rw), T.length < f + i → i ≤ T.length → TM N k T → wl T → tv T ≤ 100000 → rg (N k 33) → rg (N k 34) → Ok (m_Mo_take_128 k x1 x2 x3 f (i : Int) N) (fun _ N' => N' k 32 = N k 32 + vw (T.drop i) ∧ N' k 33 = mnL (N k 33) (T.drop i) ∧ N' k 34 = mxL (N k 34) (T.drop i) ∧ (∀ j, j ≠ k → N' j = N j) ∧ ∀ j, j ≠ 32 → j ≠ 33 → j ≠ 34 → N' k j = N k j) := by
  intro f
  induction f with
  | zero => intro i N T h1 h2; exact absurd h1 (by omega)
  | succ f ih =>
    intro i N T h1 h2 hT hw ht r33 r34
    rw [m_Mo_take_128]
    have hl := hT.2.1
    refine ok_ck (by rw [hT.1]; exact ⟨by omega, by omega⟩) ?_
    rw [hT.1]
    refine ok_if (fun c => ?_) (fun c => ?_)
    · have e : i = T.length := by omega
      subst e
      rw [List.drop_length]
      exact ok_ret ⟨by show _ = _ + 0; omega, rfl, rfl, fun _ _ => rfl, fun _ _ _ _ => rfl⟩
    · have hi : i < T.length := by omega
      have g := hT.2.2 i hi
      rw [Nat.zero_add] at g
      have hm := hw _ (gv_mem hi)
      have hb := tv_le hw _ (gv_mem hi)
      have fin : ∀ N9 : nS, (∀ j, j ≠ k → N9 j = N j) → N9 k 32 = N k 32 + (gv T i).1 * (gv T i).2 → N9 k 33 = (if (gv T i).2 < N k 33 then (gv T i).2 else N k 33) → N9 k 34 = (if N k 34 < (gv T i).2 then (gv T i).2 else N k 34) → (∀ j, j ≠ 32 → j ≠ 33 → j ≠ 34 → N9 k j = N k j) → Ok (if rg ((i : Int) + 1) then m_Mo_take_128 k x1 x2 x3 f ((i : Int) + 1) N9 else none) (fun _ N' => N' k 32 = N k 32 + vw (T.drop i) ∧ N' k 33 = mnL (N k 33) (T.drop i) ∧ N' k 34 = mxL (N k 34) (T.drop i) ∧ (∀ j, j ≠ k → N' j = N j) ∧ ∀ j, j ≠ 32 → j ≠ 33 → j ≠ 34 → N' k j = N k j) := fun N9 q1 q2 q3 q4 q5 => by
        refine ok_ck ⟨by omega, by omega⟩ ?_
        rw [show (i : Int) + 1 = ((i + 1 : Nat) : Int) by omega]
        have T9 : TM N9 k T := ⟨by rw [q5 25 (by decide) (by decide) (by decide)]; exact hT.1, hl, by rw [q1 _ (by omega), q1 _ (by omega)]; exact hT.2.2⟩
        obtain ⟨ra, rb⟩ := r33
        obtain ⟨rc, rd⟩ := r34
        refine ok_mono (ih (i + 1) N9 T (by omega) (by omega) T9 hw ht (by rw [q3]; split <;> exact ⟨by omega, by omega⟩) (by rw [q4]; split <;> exact ⟨by omega, by omega⟩)) (fun q N' h => ?_)
        obtain ⟨m1, m2, m3, m4, m5⟩ := h
        rw [drop_gv hi]
        refine ⟨?_, ?_, ?_, fun j hj => (m4 j hj).trans (q1 j hj), fun j j1 j2 j3 => (m5 j j1 j2 j3).trans (q5 j j1 j2 j3)⟩
        · rw [m1, q2]
          show _ = _ + ((gv T i).1 * (gv T i).2 + vw (T.drop (i + 1)))
          omega
        · rw [m2, q3]; rfl
        · rw [m3, q4]; rfl
      refine ok_ck ⟨by omega, by omega⟩ ?_
      rw [Int.toNat_natCast, g.1, g.2]
      refine ok_ck ⟨by omega, by omega⟩ ?_
      refine ok_ck ⟨by omega, by omega⟩ ?_
      refine ok_nlt (fun N43 e43 => ?_)
      have z43 : ∀ j, j ≠ k → N43 j = N j := fun j hj => up2_n e43 hj
      have k43 : N43 k = va_up (N k) 32 (N k 32 + (gv T i).1 * (gv T i).2) := up2_at e43
      have a33 : N43 k 33 = N k 33 := by rw [k43, va_up_ne _ _ (by decide)]
      have a34 : N43 k 34 = N k 34 := by rw [k43, va_up_ne _ _ (by decide)]
      rw [z43 (k + 18) (by omega), g.2, a33]
      refine ok_ck ⟨by omega, by omega⟩ ?_
      refine ok_ck r33 ?_
      refine ok_if (fun c3 => ?_) (fun c3 => ?_)
      · refine ok_nlt (fun N48 e48 => ?_)
        have z48 : ∀ j, j ≠ k → N48 j = N j := fun j hj => by rw [up2_n e48 hj, z43 j hj]
        have k48 : N48 k = va_up (N43 k) 33 (N k 33) := up2_at e48
        have b34 : N48 k 34 = N k 34 := by rw [k48, va_up_ne _ _ (by decide), a34]
        rw [z48 (k + 18) (by omega), g.2, b34]
        refine ok_ck ⟨by omega, by omega⟩ ?_
        refine ok_ck r34 ?_
        refine ok_if (fun c4 => ?_) (fun c4 => ?_)
        · refine ok_nlt (fun N53 e53 => ?_)
          have k53 : N53 k = va_up (N48 k) 34 (N k 34) := up2_at e53
          refine fin N53 (fun j hj => by rw [up2_n e53 hj, z48 j hj]) (by rw [k53, va_up_ne _ _ (by decide), k48, va_up_ne _ _ (by decide), k43, va_up_self]) (by rw [k53, va_up_ne _ _ (by decide), k48, va_up_self, if_neg (by omega)]) (by rw [k53, va_up_self, if_neg (by omega)]) (fun j j1 j2 j3 => by rw [k53, va_up_ne _ _ j3, k48, va_up_ne _ _ j2, k43, va_up_ne _ _ j1])
        · refine ok_nlt (fun N53 e53 => ?_)
          have k53 : N53 k = va_up (N48 k) 34 (gv T i).2 := up2_at e53
          refine fin N53 (fun j hj => by rw [up2_n e53 hj, z48 j hj]) (by rw [k53, va_up_ne _ _ (by decide), k48, va_up_ne _ _ (by decide), k43, va_up_self]) (by rw [k53, va_up_ne _ _ (by decide), k48, va_up_self, if_neg (by omega)]) (by rw [k53, va_up_self, if_pos (by omega)]) (fun j j1 j2 j3 => by rw [k53, va_up_ne _ _ j3, k48, va_up_ne _ _ j2, k43, va_up_ne _ _ j1])
      · refine ok_nlt (fun N48 e48 => ?_)
        have z48 : ∀ j, j ≠ k → N48 j = N j := fun j hj => by rw [up2_n e48 hj, z43 j hj]
        have k48 : N48 k = va_up (N43 k) 33 (gv T i).2 := up2_at e48
        have b34 : N48 k 34 = N k 34 := by rw [k48, va_up_ne _ _ (by decide), a34]
        rw [z48 (k + 18) (by omega), g.2, b34]
        refine ok_ck ⟨by omega, by omega⟩ ?_
        refine ok_ck r34 ?_
        refine ok_if (fun c4 => ?_) (fun c4 => ?_)
        · refine ok_nlt (fun N53 e53 => ?_)
          have k53 : N53 k = va_up (N48 k) 34 (N k 34) := up2_at e53
          refine fin N53 (fun j hj => by rw [up2_n e53 hj, z48 j hj]) (by rw [k53, va_up_ne _ _ (by decide), k48, va_up_ne _ _ (by decide), k43, va_up_self]) (by rw [k53, va_up_ne _ _ (by decide), k48, va_up_self, if_pos (by omega)]) (by rw [k53, va_up_self, if_neg (by omega)]) (fun j j1 j2 j3 => by rw [k53, va_up_ne _ _ j3, k48, va_up_ne _ _ j2, k43, va_up_ne _ _ j1])
        · refine ok_nlt (fun N53 e53 => ?_)
          have k53 : N53 k = va_up (N48 k) 34 (gv T i).2 := up2_at e53
          refine fin N53 (fun j hj => by rw [up2_n e53 hj, z48 j hj]) (by rw [k53, va_up_ne _ _ (by decide), k48, va_up_ne _ _ (by decide), k43, va_up_self]) (by rw [k53, va_up_ne _ _ (by decide), k48, va_up_self, if_pos (by omega)]) (by rw [k53, va_up_self, if_pos (by omega)]) (fun j j1 j2 j3 => by rw [k53, va_up_ne _ _ j3, k48, va_up_ne _ _ j2, k43, va_up_ne _ _ j1])
/-! sums, least and greatest depend on the water alone, not on how it is cut into plugs -/
def xs (l : List Int) : Int := l.foldr (fun a b => a + b) 0
theorem xs_app (a b : List Int) : xs (a ++ b) = xs a + xs b := by
  induction a with
  | nil => show xs b = 0 + xs b; omega
  | cons x a ih =>
    show x + xs (a ++ b) = (x + xs a) + xs b
    omega
theorem xs_rep (n : Nat) (w : Int) : xs (List.replicate n w) = (n : Int) * w := by
  induction n with
  | zero => show (0 : Int) = ((0 : Nat) : Int) * w; simp
  | succ n ih =>
    show w + xs (List.replicate n w) = _
    rw [ih, show ((n + 1 : Nat) : Int) = (n : Int) + 1 by omega, Int.add_mul]
    omega
theorem vw_ex : ∀ l : Rw, wl l → vw l = xs (ex l) := by
  intro l
  induction l with
  | nil => intro _; rfl
  | cons p l ih =>
    intro h
    obtain ⟨h1, h2⟩ := wl_cons h
    rw [ex_cons, xs_app, xs_rep, ← ih h2, show ((p.1.toNat : Nat) : Int) = p.1 by omega]
    rfl
theorem fold_rep {f : Int → Int → Int} (hf : ∀ a w, f (f a w) w = f a w) : ∀ (n : Nat) (a w : Int), (List.replicate (n + 1) w).foldl f a = f a w := by
  intro n
  induction n with
  | zero => intro a w; rfl
  | succ n ih =>
    intro a w
    show (List.replicate (n + 1) w).foldl f (f a w) = _
    rw [ih, hf]
theorem mn_ex : ∀ (l : Rw) (a : Int), wl l → mnL a l = (ex l).foldl (fun a w => if w < a then w else a) a := by
  intro l
  induction l with
  | nil => intro a _; rfl
  | cons p l ih =>
    intro a h
    obtain ⟨h1, h2⟩ := wl_cons h
    have e : p.1.toNat = (p.1.toNat - 1) + 1 := by omega
    rw [ex_cons, List.foldl_append, e, fold_rep (fun a w => by
      show (if w < (if w < a then w else a) then w else (if w < a then w else a)) = (if w < a then w else a)
      repeat' split
      all_goals omega), ← ih _ h2]
    rfl
theorem mx_ex : ∀ (l : Rw) (a : Int), wl l → mxL a l = (ex l).foldl (fun a w => if a < w then w else a) a := by
  intro l
  induction l with
  | nil => intro a _; rfl
  | cons p l ih =>
    intro a h
    obtain ⟨h1, h2⟩ := wl_cons h
    have e : p.1.toNat = (p.1.toNat - 1) + 1 := by omega
    rw [ex_cons, List.foldl_append, e, fold_rep (fun a w => by
      show (if (if a < w then w else a) < w then w else (if a < w then w else a)) = (if a < w then w else a)
      repeat' split
      all_goals omega), ← ih _ h2]
    rfl
theorem mn_st {l : Rw} (h : wl l) (hl : 0 < l.length) : mnL (gv l 0).2 l = mnL 10000 l ∧ mnL (gv l 0).2 (l.drop 1) = mnL 10000 l := by
  cases l with
  | nil => exact absurd hl (Nat.lt_irrefl _)
  | cons p l =>
    obtain ⟨h1, h2⟩ := wl_cons h
    have e1 : mnL 10000 (p :: l) = mnL p.2 l := by
      show mnL (if p.2 < 10000 then p.2 else 10000) l = _
      congr 1
      split <;> omega
    have e2 : mnL p.2 (p :: l) = mnL p.2 l := by
      show mnL (if p.2 < p.2 then p.2 else p.2) l = _
      congr 1
      split <;> rfl
    exact ⟨e2.trans e1.symm, e1.symm⟩
theorem mx_st {l : Rw} (h : wl l) (hl : 0 < l.length) : mxL (gv l 0).2 l = mxL 0 l ∧ mxL (gv l 0).2 (l.drop 1) = mxL 0 l := by
  cases l with
  | nil => exact absurd hl (Nat.lt_irrefl _)
  | cons p l =>
    obtain ⟨h1, h2⟩ := wl_cons h
    have e1 : mxL 0 (p :: l) = mxL p.2 l := by
      show mxL (if 0 < p.2 then p.2 else 0) l = _
      congr 1
      split <;> omega
    have e2 : mxL p.2 (p :: l) = mxL p.2 l := by
      show mxL (if p.2 < p.2 then p.2 else p.2) l = _
      congr 1
      split <;> rfl
    exact ⟨e2.trans e1.symm, e1.symm⟩
theorem wl_pos {l : Rw} (h : 0 < tv l) : 0 < l.length := by
  cases l with
  | nil => exact absurd h (Int.lt_irrefl _)
  | cons p l => rw [List.length_cons]; omega
theorem ex_len : ∀ l : Rw, wl l → ((ex l).length : Int) = tv l := by
  intro l
  induction l with
  | nil => intro _; rfl
  | cons p l ih =>
    intro h
    obtain ⟨h1, h2⟩ := wl_cons h
    rw [ex_cons, List.length_append, List.length_replicate]
    have := ih h2
    show ((p.1.toNat + (ex l).length : Nat) : Int) = p.1 + tv l
    omega
/-- the reference's state -/
def CR (N : nS) (k cnt : Nat) (s : St) : Prop := RS N k cnt (sR s) ∧ N k 22 = sG s ∧ N k 23 = sO s ∧ N k 24 = sL s ∧ (∀ q, q < cnt → N (k + 9) q = sF s q) ∧ ∀ q, q < 10 → N (k + 10) q = sT s q
def NR (N : nS) (k cnt : Nat) (fr vol ld lp : Nat → Int) : Prop := N k 1 = (cnt : Int) ∧ (∀ p, p < cnt → N (k + 1) p = fr p) ∧ (∀ p, p < cnt → N (k + 2) p = vol p) ∧ (∀ p, p < cnt → N (k + 3) p = ld p) ∧ (∀ p, p < cnt → N (k + 5) p = lp p)
def FT (k : Nat) (N N' : nS) : Prop := (∀ i, i ≠ k → (i < k + 6 ∨ k + 10 ≤ i) → (i < k + 17 ∨ k + 22 ≤ i) → N' i = N i) ∧ ∀ j, j < 22 ∨ j = 26 → N' k j = N k j
theorem FT_rf {k : Nat} {N : nS} : FT k N N := ⟨fun _ _ _ _ => rfl, fun _ _ => rfl⟩
theorem FT_tr {k : Nat} {N N1 N2 : nS} (h : FT k N N1) (g : FT k N1 N2) : FT k N N2 := ⟨fun i a b c => (g.1 i a b c).trans (h.1 i a b c), fun j a => (g.2 j a).trans (h.2 j a)⟩
theorem NR_of {N N' : nS} {k cnt : Nat} {fr vol ld lp : Nat → Int} (h : NR N k cnt fr vol ld lp) (h1 : N' k 1 = N k 1) (g : ∀ i, k < i → i < k + 6 → N' i = N i) : NR N' k cnt fr vol ld lp := by
  obtain ⟨a, b, c, d, e⟩ := h
  refine ⟨by rw [h1]; exact a, fun p hp => ?_, fun p hp => ?_, fun p hp => ?_, fun p hp => ?_⟩
  · rw [g _ (by omega) (by omega)]; exact b p hp
  · rw [g _ (by omega) (by omega)]; exact c p hp
  · rw [g _ (by omega) (by omega)]; exact d p hp
  · rw [g _ (by omega) (by omega)]; exact e p hp
set_option maxHeartbeats 2000000 in
theorem ok_mtake {k cnt p : Nat} {fr vol ld lp : Nat → Int} {N : nS} {s : St} {v h mi : Int} (hP : PN cnt fr vol ld lp) (hp : p < cnt) (hN : NR N k cnt fr vol ld lp) (hW : CR N k cnt s) (hok : OKR (sR s) cnt vol) (hv : 1 ≤ v ∧ v ≤ 1000) (h7 : N k 7 = h) (hh : 0 ≤ h ∧ h ≤ 10000) (h9 : N k 9 = mi) :
    Ok (m_Mo_take k (p : Int) v N) (fun _ N' => CR N' k cnt (tkS fr vol h mi p v s) ∧ N' k 32 = vw (TK fr vol h p v (sR s)).2.1 ∧ N' k 33 = mnL 10000 (TK fr vol h p v (sR s)).2.1 ∧ N' k 34 = mxL 0 (TK fr vol h p v (sR s)).2.1 ∧ FT k N N') := by
  obtain ⟨hc, hf, hvo, hld, hlp⟩ := hP
  obtain ⟨a1, a2, a3, a4, a5⟩ := hN
  obtain ⟨b1, b2, b3, b4, b5, b6⟩ := hW
  obtain ⟨c1, c2⟩ := ch_ok hf 10 (p : Int) (by omega) (by omega) (by omega)
  rw [m_Mo_take]
  refine ok_nbd (ok_take_5 hf hc FU 0 10 (p : Int) N (by show _ < 200; omega) (by omega) (by omega) (by omega) (by omega) a2) (fun q8 N9 g9 => ?_)
  obtain ⟨g1, g2, g3, g4⟩ := g9
  rw [Nat.zero_add] at g1
  refine ok_nlt (fun N11 e11 => ?_)
  refine ok_nlt (fun N13 e13 => ?_)
  have k13 : N13 k = va_up (N k) 25 1 := by rw [up2_n e13 (by omega), up2_at e11, g4 k (by omega)]
  have f13 : N13 k 7 = h := by rw [k13, va_up_ne _ _ (by decide), h7]
  rw [f13]
  refine ok_nlt (fun N15 e15 => ?_)
  have k15 : N15 k = va_up (N k) 25 1 := by rw [up2_n e15 (by omega), k13]
  have f15 : N15 k 7 = h := by rw [k15, va_up_ne _ _ (by decide), h7]
  rw [f15]
  refine ok_ck ⟨by omega, by omega⟩ ?_
  refine ok_nlt (fun N18 e18 => ?_)
  rw [g1]
  refine ok_ck ⟨by omega, by omega⟩ ?_
  refine ok_ck ⟨by omega, by omega⟩ ?_
  have k18 : N18 k = va_up (va_up (N k) 25 1) 22 (sG s + v * h) := by rw [up2_at e18, k15, va_up_ne _ _ (by decide), b2]
  have s18 : ∀ i, i ≠ k → i ≠ k + 17 → i ≠ k + 18 → i ≠ k + 21 → N18 i = N i := fun i i0 i1 i2 i3 => by rw [up2_n e18 i0, up2_n e15 i2, up2_n e13 i1, up2_n e11 i0, g4 i i3]
  have x17 : N18 (k + 17) 0 = v := by rw [up2_n e18 (by omega), up2_n e15 (by omega)]; exact up2_v e13
  have x18 : N18 (k + 18) 0 = h := by rw [up2_n e18 (by omega)]; exact up2_v e15
  have x21 : ∀ j, j < (ch fr 10 (p : Int)).length → N18 (k + 21) j = (((ch fr 10 (p : Int)).getD j 0 : Nat) : Int) := fun j hj => by
    rw [up2_n e18 (by omega), up2_n e15 (by omega), up2_n e13 (by omega), up2_n e11 (by omega)]
    have := g2 j hj
    rw [Nat.zero_add] at this
    exact this
  have T18 : TM N18 k [(v, h)] := ⟨by rw [k18, va_up_ne _ _ (by decide), va_up_self]; rfl, by simp, fun i hi => by
    have : i = 0 := by simpa using hi
    subst this
    exact ⟨x17, x18⟩⟩
  have wt : wl [(v, h)] := fun q hq => by rw [List.mem_singleton.mp hq]; exact ⟨by show 0 < v; omega, hh⟩
  have tt : tv [(v, h)] = v := by show v + 0 = v; omega
  have R18 : RS N18 k cnt (sR s) := fun q hq => RR_of (b1 q hq) (s18 _ (by omega) (by omega) (by omega) (by omega)) (s18 _ (by omega) (by omega) (by omega) (by omega)) (s18 _ (by omega) (by omega) (by omega) (by omega))
  refine ok_nbd (ok_take_78 (vol := vol) (x1 := (p : Int)) (x2 := v) (x3 := ((ch fr 10 (p : Int)).length : Int)) hc (ch fr 10 (p : Int)) (by omega) c1 FU (ch fr 10 (p : Int)).length N18 (sR s) [(v, h)] [(v, h)] (by show _ < 200; omega) (Nat.le_refl _) x21 R18 T18 (fun q hq => by rw [s18 (k + 2) (by omega) (by omega) (by omega) (by omega)]; exact a3 q hq) hok wt trivial (by omega) wt rfl rfl (by simp; omega) (by simp; omega)) (fun q29 N30 g30 => ?_)
  rw [List.take_length] at g30
  obtain ⟨m1, ⟨T, m2, m3, m4, m5⟩, m6, m7, m8⟩ := g30
  obtain ⟨l1, l2, l3⟩ := tk_ls (vol := vol) (ch fr 10 (p : Int)).reverse (sR s) [(v, h)] (N18 k 24)
  have l1' : (tk vol (ch fr 10 (p : Int)).reverse (sR s) [(v, h)] (N18 k 24)).1 = (TK fr vol h p v (sR s)).1 := l1
  have l2' : (tk vol (ch fr 10 (p : Int)).reverse (sR s) [(v, h)] (N18 k 24)).2.1 = (TK fr vol h p v (sR s)).2.1 := l2
  have l3' : (tk vol (ch fr 10 (p : Int)).reverse (sR s) [(v, h)] (N18 k 24)).2.2 = N18 k 24 + (TK fr vol h p v (sR s)).2.2 := l3
  have n24 : N18 k 24 = sL s := by rw [k18, va_up_ne _ _ (by decide), va_up_ne _ _ (by decide), b4]
  rw [l1'] at m1
  rw [l2'] at m4
  rw [l3', n24] at m6
  obtain ⟨t1, t2, t3, t4, t5, t6, t7⟩ := TK_ok (vol := vol) hf hc hp hok hv hh
  generalize hX : (TK fr vol h p v (sR s)).2.1 = X at *
  have tT : tv T = v := by
    have q1 := ex_len T m3
    have q2 := ex_len X t2
    rw [m4] at q1
    omega
  have T0 : 0 < T.length := wl_pos (by omega)
  have gT := m2.2.2 0 T0
  rw [Nat.zero_add] at gT
  have wT0 := m3 _ (gv_mem T0)
  refine ok_nlt (fun N32 e32 => ?_)
  have s32 : ∀ i, i ≠ k → N32 i = N30 i := fun i hi => up2_n e32 hi
  refine ok_nlt (fun N34 e34 => ?_)
  have s34 : ∀ i, i ≠ k → N34 i = N30 i := fun i hi => by rw [up2_n e34 hi, s32 i hi]
  refine ok_nlt (fun N36 e36 => ?_)
  have s36 : ∀ i, i ≠ k → N36 i = N30 i := fun i hi => by rw [up2_n e36 hi, s34 i hi]
  have k36 : N36 k = va_up (va_up (va_up (N30 k) 32 0) 33 (gv T 0).2) 34 (gv T 0).2 := by
    rw [up2_at e36, s34 (k + 18) (by omega), up2_at e34, s32 (k + 18) (by omega), up2_at e32]
    show va_up (va_up (va_up (N30 k) 32 0) 33 (N30 (k + 18) 0)) 34 (N30 (k + 18) 0) = _
    rw [gT.2]
  have T36 : TM N36 k T := ⟨by rw [k36, va_up_ne _ _ (by decide), va_up_ne _ _ (by decide), va_up_ne _ _ (by decide)]; exact m2.1, m2.2.1, by rw [s36 _ (by omega), s36 _ (by omega)]; exact m2.2.2⟩
  have c33 : N36 k 33 = (gv T 0).2 := by rw [k36, va_up_ne _ _ (by decide), va_up_self]
  have c34 : N36 k 34 = (gv T 0).2 := by rw [k36, va_up_self]
  have c32 : N36 k 32 = 0 := by rw [k36, va_up_ne _ _ (by decide), va_up_ne _ _ (by decide), va_up_self]
  refine ok_nbd (ok_take_128 FU 0 N36 T (by show T.length < 200 + 0; omega) (Nat.zero_le _) T36 m3 (by omega) (by rw [c33]; exact ⟨by omega, by omega⟩) (by rw [c34]; exact ⟨by omega, by omega⟩)) (fun q70 N71 g71 => ?_)
  rw [List.drop_zero, c32, c33, c34, (mn_st m3 T0).1, (mx_st m3 T0).1, mn_ex T _ m3, mx_ex T _ m3, vw_ex T m3, m4, ← mn_ex X _ t2, ← mx_ex X _ t2, ← vw_ex X t2] at g71
  obtain ⟨u1, u2, u3, u4, u5⟩ := g71
  refine ok_nlt (fun N73 e73 => ?_)
  have s73 : ∀ i, i ≠ k → N73 i = N30 i := fun i hi => by rw [up2_n e73 hi, u4 i hi, s36 i hi]
  have k73 : ∀ j, j ≠ 23 → N73 k j = N71 k j := fun j hj => by rw [up2_at e73, va_up_ne _ _ hj]
  have k71 : ∀ j, j ≠ 32 → j ≠ 33 → j ≠ 34 → N71 k j = N30 k j := fun j j1 j2 j3 => by rw [u5 j j1 j2 j3, k36, va_up_ne _ _ j3, va_up_ne _ _ j2, va_up_ne _ _ j1]
  have n18 : ∀ j, j ≠ 22 → j ≠ 25 → N18 k j = N k j := fun j j1 j2 => by rw [k18, va_up_ne _ _ j1, va_up_ne _ _ j2]
  refine ok_ret ⟨⟨fun q hq => ?_, ?_, ?_, ?_, fun q hq => ?_, fun q hq => ?_⟩, ?_, ?_, ?_, ⟨fun i i0 i1 i2 => ?_, fun j hj => ?_⟩⟩
  · exact RR_of (m1 q hq) (s73 _ (by omega)) (s73 _ (by omega)) (s73 _ (by omega))
  · rw [k73 22 (by decide), k71 22 (by decide) (by decide) (by decide), m8.2 22 (by decide) (by decide) (by decide), k18, va_up_self]; rfl
  · rw [up2_v e73, k71 23 (by decide) (by decide) (by decide), m8.2 23 (by decide) (by decide) (by decide), n18 23 (by decide) (by decide), b3, u1, Int.zero_add]
    show _ = sO s + vw (TK fr vol h p v (sR s)).2.1
    rw [hX]
  · rw [k73 24 (by decide), k71 24 (by decide) (by decide) (by decide), m6]; rfl
  · rw [s73 (k + 9) (by omega), m7 q, n18 9 (by decide) (by decide), h9, s18 (k + 9) (by omega) (by omega) (by omega) (by omega), b5 q hq]; rfl
  · rw [s73 (k + 10) (by omega), m8.1 (k + 10) (by omega) (by omega) (by omega) (by omega) (by omega) (by omega) (by omega) (by omega) (by omega), s18 (k + 10) (by omega) (by omega) (by omega) (by omega), b6 q hq]; rfl
  · rw [k73 32 (by decide), u1, Int.zero_add]
  · rw [k73 33 (by decide), u2]
  · rw [k73 34 (by decide), u3]
  · rw [s73 i i0, m8.1 i i0 (by omega) (by omega) (by omega) (by omega) (by omega) (by omega) (by omega) (by omega), s18 i i0 (by omega) (by omega) (by omega)]
  · rw [k73 j (by omega), k71 j (by omega) (by omega) (by omega), m8.2 j (by omega) (by omega) (by omega), n18 j (by omega) (by omega)]
