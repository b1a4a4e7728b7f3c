/-! ===== the way from a pipe to the heater ===== -/
def ch (fr : Nat → Int) : Nat → Int → List Nat
  | 0, _ => []
  | f + 1, a => if a < 0 then [] else a.toNat :: ch fr f (fr a.toNat)
def frw (fr : Nat → Int) (cnt : Nat) : Prop := ∀ p, p < cnt → -1 ≤ fr p ∧ fr p < (p : Int)
theorem ch_neg {fr : Nat → Int} {f : Nat} {a : Int} (h : a < 0) : ch fr f a = [] := by
  cases f with
  | zero => rfl
  | succ f => exact if_pos h
theorem ch_pos {fr : Nat → Int} {f : Nat} {a : Int} (h : ¬ a < 0) : ch fr (f + 1) a = a.toNat :: ch fr f (fr a.toNat) := if_neg h
theorem ch_ok {fr : Nat → Int} {cnt : Nat} (hf : frw fr cnt) : ∀ (f : Nat) (a : Int), a < (f : Int) → a < (cnt : Int) → -1 ≤ a → (∀ x ∈ ch fr f a, x < cnt) ∧ ((ch fr f a).length : Int) ≤ a + 1 := by
  intro f
  induction f with
  | zero => intro a h1 h2 h3; exact ⟨fun x hx => (by cases hx), by show (0 : Int) ≤ _; omega⟩
  | succ f ih =>
    intro a h1 h2 h3
    by_cases q : a < 0
    · rw [ch_neg q]
      exact ⟨fun x hx => (by cases hx), by show (0 : Int) ≤ _; omega⟩
    · rw [ch_pos q]
      have hq := hf a.toNat (by omega)
      obtain ⟨k1, k2⟩ := ih (fr a.toNat) (by omega) (by omega) hq.1
      refine ⟨fun x hx => ?_, ?_⟩
      · rcases List.mem_cons.mp hx with rfl | hx
        · omega
        · exact k1 x hx
      · rw [List.length_cons]; omega
theorem ok_findWay_4 {w nn cnt : Nat} {x1 : Int} {fr : Nat → Int} (hf : frw fr cnt) (hc : cnt ≤ 10) (hnw : nn + 5 < w) : ∀ (f i g : Nat) (a : Int) (N : nS), (ch fr g a).length < f → a < (g : Int) → -1 ≤ a → a < (cnt : Int) → i + (ch fr g a).length ≤ 10 → N nn 5 = (cnt : Int) → (∀ p, p < cnt → N (nn + 1) p = fr p) → Ok (m_Water_findWay_4 w nn x1 f (i : Int) a N) (fun q N' => q.1 = ((i + (ch fr g a).length : Nat) : Int) ∧ (∀ j, j < (ch fr g a).length → N' (w + 11) (i + j) = (((ch fr g a).getD j 0 : Nat) : Int)) ∧ (∀ j, j < i → N' (w + 11) j = N (w + 11) j) ∧ ∀ k, k ≠ w + 11 → N' k = N k) := by
  intro f
  induction f with
  | zero => intro i g a N h1; exact absurd h1 (Nat.not_lt_zero _)
  | succ f ih =>
    intro i g a N h1 h2 h3 h4 h5 hn hfr
    rw [m_Water_findWay_4]
    have done : (ch fr g a) = [] → Ok (some (((i : Int), a), N)) (fun q N' => q.1 = ((i + (ch fr g a).length : Nat) : Int) ∧ (∀ j, j < (ch fr g a).length → N' (w + 11) (i + j) = (((ch fr g a).getD j 0 : Nat) : Int)) ∧ (∀ j, j < i → N' (w + 11) j = N (w + 11) j) ∧ ∀ k, k ≠ w + 11 → N' k = N k) := fun e => by
      rw [e]
      exact ok_ret ⟨by simp, fun j hj => absurd hj (Nat.not_lt_zero _), fun _ _ => rfl, fun _ _ => rfl⟩
    refine ok_if (fun c1 => done (List.eq_nil_of_length_eq_zero (by omega))) (fun c1 => ?_)
    refine ok_if (fun c2 => done (ch_neg c2)) (fun c2 => ?_)
    obtain ⟨g', rfl⟩ : ∃ g', g = g' + 1 := ⟨g - 1, by omega⟩
    have e := ch_pos (fr := fr) (f := g') c2
    rw [e] at h1 h5 ⊢
    rw [List.length_cons] at h1 h5
    refine ok_ck (by rw [hn]; exact ⟨by omega, by omega⟩) ?_
    refine ok_f (by rw [hn]; omega) ?_
    refine ok_ck ⟨by omega, by omega⟩ ?_
    refine ok_nlt (fun N6 e6 => ?_)
    rw [Int.toNat_natCast] at e6
    have hq := hf a.toNat (by omega)
    have n6 : N6 (nn + 1) a.toNat = fr a.toNat := by rw [up2_n e6 (by omega)]; exact hfr _ (by omega)
    refine ok_ck ⟨by omega, by omega⟩ ?_
    refine ok_ck ⟨by omega, by omega⟩ ?_
    rw [n6]
    refine ok_ck ⟨by omega, by omega⟩ ?_
    rw [show (i : Int) + 1 = ((i + 1 : Nat) : Int) by omega]
    have h9 := ih (i + 1) g' (fr a.toNat) N6 (by omega) (by omega) hq.1 (by omega) (by omega) (by rw [up2_n e6 (by omega)]; exact hn) (fun p hp => by rw [up2_n e6 (by omega)]; exact hfr p hp)
    refine ok_mono h9 (fun q N' h => ⟨?_, fun j hj => ?_, fun j hj => ?_, fun k hk => ?_⟩)
    · rw [h.1, List.length_cons]; omega
    · rw [List.length_cons] at hj
      cases j with
      | zero =>
        show N' (w + 11) i = _
        rw [h.2.2.1 i (by omega), up2_v e6]
        show a = ((a.toNat : Nat) : Int)
        omega
      | succ j =>
        rw [show i + (j + 1) = i + 1 + j by omega, h.2.1 j (by omega)]
        rfl
    · rw [h.2.2.1 j (by omega), up2_at e6, va_up_ne _ _ (by omega)]
    · rw [h.2.2.2 k hk, up2_n e6 hk]
theorem ok_findWay {w nn cnt p : Nat} {fr : Nat → Int} {N : nS} (hf : frw fr cnt) (hc : cnt ≤ 10) (hnw : nn + 5 < w) (hp : p < cnt) (hn : N nn 5 = (cnt : Int)) (hfr : ∀ p, p < cnt → N (nn + 1) p = fr p) : Ok (m_Water_findWay w nn (p : Int) N) (fun r N' => r = ((ch fr 10 (p : Int)).length : Int) ∧ (∀ j, j < (ch fr 10 (p : Int)).length → N' (w + 11) j = (((ch fr 10 (p : Int)).getD j 0 : Nat) : Int)) ∧ ∀ k, k ≠ w + 11 → N' k = N k) := by
  rw [m_Water_findWay]
  obtain ⟨k1, k2⟩ := ch_ok hf 10 (p : Int) (by omega) (by omega) (by omega)
  refine ok_nbd (ok_findWay_4 hf hc hnw FU 0 10 (p : Int) N (by show _ < 200; omega) (by omega) (by omega) (by omega) (by omega) hn hfr) (fun q N' h => ?_)
  refine ok_ret ⟨by rw [h.1, Nat.zero_add], fun j hj => ?_, h.2.2.2⟩
  have := h.2.1 j hj
  rw [Nat.zero_add] at this
  exact this
/-! ===== taking ===== -/
def OKR (rows : Nat → Rw) (cnt : Nat) (vol : Nat → Int) : Prop := ∀ p, p < cnt → wl (rows p) ∧ nmr (rows p) ∧ tv (rows p) = vol p ∧ (rows p).length ≤ 12 ∧ 1 ≤ vol p ∧ vol p ≤ 1000
def tk (vol : Nat → Int) : List Nat → (Nat → Rw) → Rw → Int → (Nat → Rw) × Rw × Int
  | [], rows, t, ls => (rows, t, ls)
  | p :: ws, rows, t, ls => tk vol ws (va_up rows p (psh (vol p) t (rows p)).1) (psh (vol p) t (rows p)).2.1 (ls + (psh (vol p) t (rows p)).2.2)
theorem OKR_up {rows : Nat → Rw} {cnt p : Nat} {vol : Nat → Int} {t : Rw} (h : OKR rows cnt vol) (hp : p < cnt) (wt : wl t) (tt : tv t ≤ 1000) (hl : t.length ≤ 121) : OKR (va_up rows p (psh (vol p) t (rows p)).1) cnt vol := by
  intro q hq
  by_cases e : q = p
  · subst e
    obtain ⟨a, b, c, d, e1, e2⟩ := h q hq
    have k := psh_ok wt a ⟨e1, e2⟩ c tt (by omega)
    rw [va_up_self]
    exact ⟨k.1, k.2.1, k.2.2.1, k.2.2.2.1, e1, e2⟩
  · rw [va_up_ne _ _ e]
    exact h q hq
theorem tk_ok {vol : Nat → Int} {cnt : Nat} : ∀ (ws : List Nat) (rows : Nat → Rw) (t : Rw) (ls : Int), (∀ x ∈ ws, x < cnt) → OKR rows cnt vol → wl t → nmr t → tv t ≤ 1000 → t.length + 12 * ws.length ≤ 121 → OKR (tk vol ws rows t ls).1 cnt vol ∧ wl (tk vol ws rows t ls).2.1 ∧ nmr (tk vol ws rows t ls).2.1 ∧ tv (tk vol ws rows t ls).2.1 = tv t ∧ (tk vol ws rows t ls).2.1.length ≤ 121 ∧ ls ≤ (tk vol ws rows t ls).2.2 ∧ (tk vol ws rows t ls).2.2 ≤ ls + 2000000 * ws.length := by
  intro ws
  induction ws with
  | nil => intro rows t ls _ h wt nt tt hl; exact ⟨h, wt, nt, rfl, by show t.length ≤ 121; have := hl; simp only [List.length_nil] at this; omega, Int.le_refl _, by show ls ≤ ls + 2000000 * 0; omega⟩
  | cons p ws ih =>
    intro rows t ls hx h wt nt tt hl
    rw [List.length_cons] at hl
    have hp := hx p List.mem_cons_self
    obtain ⟨a, b, c, d, e1, e2⟩ := h p hp
    have k := psh_ok wt a ⟨e1, e2⟩ c tt (by omega)
    obtain ⟨k1, k2, k3, k4, k5, k6, k7, k8, k9, k10⟩ := k
    have h9 := ih (va_up rows p (psh (vol p) t (rows p)).1) (psh (vol p) t (rows p)).2.1 (ls + (psh (vol p) t (rows p)).2.2) (fun x q => hx x (List.mem_cons_of_mem _ q)) (OKR_up h hp wt tt (by omega)) k5 k6 (by omega) (by omega)
    obtain ⟨m1, m2, m3, m4, m5, m6, m7⟩ := h9
    refine ⟨m1, m2, m3, m4.trans k7, m5, ?_, ?_⟩
    · show ls ≤ (tk vol ws _ _ _).2.2
      omega
    · show (tk vol ws _ _ _).2.2 ≤ _
      rw [List.length_cons]
      omega
theorem take_rev {c : List Nat} {n : Nat} (h : n < c.length) : (c.take (n + 1)).reverse = c.getD n 0 :: (c.take n).reverse := by
  rw [List.take_succ, List.getElem?_eq_getElem h, List.reverse_append]
  simp [List.getD_eq_getElem?_getD, List.getElem?_eq_getElem h]
theorem mem_take_succ {c : List Nat} {n q : Nat} (h : n < c.length) : q ∈ c.take (n + 1) ↔ q ∈ c.take n ∨ q = c.getD n 0 := by
  rw [List.take_succ, List.getElem?_eq_getElem h, List.mem_append]
  simp [List.getD_eq_getElem?_getD, List.getElem?_eq_getElem h]
set_option maxHeartbeats 1000000 in
theorem ok_takeOut_43 {w nn cnt : Nat} {x1 x2 : Int} {vol : Nat → Int} (hc : cnt ≤ 10) (hnw : nn + 5 < w) (c : List Nat) (hcl : c.length ≤ 10) (hx : ∀ x ∈ c, x < cnt) : ∀ (f n : Nat) (N : nS) (rows : Nat → Rw) (t : Rw), n < f → n ≤ c.length → (∀ j, j < n → N (w + 11) j = ((c.getD j 0 : Nat) : Int)) → WS N w cnt rows → RP N (w + 2) 121 t → (∀ p, p < cnt → N (nn + 2) p = vol p) → OKR rows cnt vol → wl t → nmr t → tv t ≤ 1000 → t.length + 12 * n ≤ 121 →
    Ok (m_Water_takeOut_43 w nn x1 x2 f ((n : Int) - 1) N) (fun _ N' => WS N' w cnt (tk vol (c.take n).reverse rows t (N w 13)).1 ∧ RP N' (w + 2) 121 (tk vol (c.take n).reverse rows t (N w 13)).2.1 ∧ N' w 13 = (tk vol (c.take n).reverse rows t (N w 13)).2.2 ∧ (∀ q, N' (w + 12) q = if q ∈ c.take n then N w 8 else N (w + 12) q) ∧ FWt w N N' ∧ N' w 11 = N w 11 ∧ N' w 12 = N w 12) := by
  intro f
  induction f with
  | zero => intro n N rows t h1; exact absurd h1 (by omega)
  | succ f ih =>
    intro n N rows t h1 h2 hway hW hT hvol hok wt nt tt hl
    rw [m_Water_takeOut_43]
    refine ok_if (fun c1 => ?_) (fun c1 => ?_)
    · have e : n = 0 := by omega
      subst e
      exact ok_ret ⟨hW, hT, rfl, fun q => by simp, ⟨fun _ _ => rfl, rfl, fun _ _ _ _ => rfl⟩, rfl, rfl⟩
    · obtain ⟨k, rfl⟩ : ∃ k, n = k + 1 := ⟨n - 1, by omega⟩
      have e1 : ((k + 1 : Nat) : Int) - 1 = (k : Int) := by omega
      rw [e1, Int.toNat_natCast, hway k (by omega)]
      have hm : c.getD k 0 ∈ c := by
        rw [List.getD_eq_getElem?_getD, List.getElem?_eq_getElem (show k < c.length by omega)]
        exact List.getElem_mem _
      have hp := hx _ hm
      generalize hpd : c.getD k 0 = p at hm hp
      refine ok_ck ⟨by omega, by omega⟩ ?_
      refine ok_ck ⟨by omega, by omega⟩ ?_
      obtain ⟨a, b, c3, d, e2, e3⟩ := hok p hp
      have kp := psh_ok wt a ⟨e2, e3⟩ c3 tt (by omega)
      refine ok_nbd (ok_push hp hc hnw hW hT (hvol p hp) ⟨e2, e3⟩ wt a c3 tt (by omega)) (fun r N20 h20 => ?_)
      obtain ⟨g1, g2, g3, g4, g5, g6, g7, g8⟩ := h20
      refine ok_ck ⟨by omega, by omega⟩ ?_
      rw [show (k : Int) + (-1) = (k : Int) - 1 by omega]
      have h9 := ih k N20 (va_up rows p (psh (vol p) t (rows p)).1) (psh (vol p) t (rows p)).2.1 (by omega) (by omega) (fun j hj => by rw [g5]; exact hway j (by omega)) g1 g2 (fun q hq => by rw [g6.1 _ (by omega)]; exact hvol q hq) (OKR_up hok hp wt tt (by omega)) kp.2.2.2.2.1 kp.2.2.2.2.2.1 (by have := kp.2.2.2.2.2.2.1; omega) (by have := kp.2.2.2.2.2.2.2.1; omega)
      rw [g3] at h9
      refine ok_mono h9 (fun q N' h => ?_)
      obtain ⟨m1, m2, m3, m4, m5, m6, m7⟩ := h
      rw [take_rev (show k < c.length by omega), hpd]
      refine ⟨m1, m2, m3, fun q => ?_, FWt_tr g6 m5, m6.trans g7, m7.trans g8⟩
      rw [m4 q, g6.2.2 8 (by decide) (by decide) (by decide), g4]
      by_cases q1 : q ∈ c.take k
      · rw [if_pos q1, if_pos ((mem_take_succ (by omega)).mpr (Or.inl q1))]
      · rw [if_neg q1]
        by_cases q2 : q = p
        · subst q2
          rw [va_up_self, if_pos ((mem_take_succ (by omega)).mpr (Or.inr hpd.symm))]
        · rw [va_up_ne _ _ q2, if_neg (fun h => ((mem_take_succ (by omega)).mp h).elim q1 (fun h => q2 (h.trans hpd)))]
/-- what taking v at a pipe does -/
def tke (fr vol : Nat → Int) (rows : Nat → Rw) (p : Nat) (v h ls : Int) : (Nat → Rw) × Rw × Int := tk vol (ch fr 10 (p : Int)).reverse rows [(v, h)] ls
set_option maxHeartbeats 1000000 in
theorem ok_takeOut {w nn cnt p : Nat} {fr vol : Nat → Int} {N : nS} {rows : Nat → Rw} {v : Int} (hf : frw fr cnt) (hc : cnt ≤ 10) (hnw : nn + 5 < w) (hp : p < cnt) (hn : N nn 5 = (cnt : Int)) (hfr : ∀ p, p < cnt → N (nn + 1) p = fr p) (hvol : ∀ p, p < cnt → N (nn + 2) p = vol p) (hW : WS N w cnt rows) (hok : OKR rows cnt vol) (hv : 1 ≤ v ∧ v ≤ 1000) (hh : 0 ≤ N w 9 ∧ N w 9 ≤ 10000) :
    Ok (m_Water_takeOut w nn (p : Int) v N) (fun _ N' => WS N' w cnt (tke fr vol rows p v (N w 9) (N w 13)).1 ∧ RP N' (w + 2) 121 (tke fr vol rows p v (N w 9) (N w 13)).2.1 ∧ N' w 13 = (tke fr vol rows p v (N w 9) (N w 13)).2.2 ∧ (∀ q, N' (w + 12) q = if q ∈ ch fr 10 (p : Int) then N w 8 else N (w + 12) q) ∧ FWt w N N' ∧ N' w 11 = N w 11 + v * N w 9 ∧ N' w 12 = N w 12 + vw (tke fr vol rows p v (N w 9) (N w 13)).2.1) := by
  rw [m_Water_takeOut]
  refine ok_nbd ok_Plugs_clear (fun r1 N2 h2 => ?_)
  have w2 : N2 w = N w := h2.2.1 w (by omega) (by omega) (by omega)
  rw [w2]
  refine ok_ck ⟨by omega, by omega⟩ ?_
  have ea : addL [] v (N w 9) = [(v, N w 9)] := addL_nil v _ (by omega)
  refine ok_nbd (ok_Plugs_add h2.1 (fun p hp => by cases hp) (by omega) (by rw [ea]; simp)) (fun r5 N6 h6 => ?_)
  rw [ea] at h6
  have wt : wl [(v, N w 9)] := fun q hq => by rw [List.mem_singleton.mp hq]; exact ⟨by show 0 < v; omega, hh⟩
  have tt : tv [(v, N w 9)] = v := by show v + 0 = v; omega
  refine ok_nbd (ok_Plugs_vtw (by omega) h6.1 wt (by omega)) (fun r8 N9 h9 => ?_)
  obtain ⟨rfl, rfl⟩ := h9
  refine ok_nlt (fun N11 e11 => ?_)
  have w6 : N9 w = N w := (h6.2.1 w (by omega) (by omega) (by omega)).trans w2
  have st9 : ∀ k, k ≠ w + 2 → k ≠ w + 3 → k ≠ w + 4 → N9 k = N k := fun k k1 k2 k3 => by rw [h6.2.1 k (by omega) (by omega) (by omega), h2.2.1 k (by omega) (by omega) (by omega)]
  have st11 : ∀ k, k ≠ w → k ≠ w + 2 → k ≠ w + 3 → k ≠ w + 4 → N11 k = N k := fun k k0 k1 k2 k3 => by rw [up2_n e11 k0, st9 k k1 k2 k3]
  have w11 : N11 w = va_up (N w) 11 (N w 11 + vw [(v, N w 9)]) := by rw [up2_at e11, w6]
  refine ok_nbd (ok_findWay hf hc hnw hp (by rw [st11 nn (by omega) (by omega) (by omega) (by omega)]; exact hn) (fun q hq => by rw [st11 (nn + 1) (by omega) (by omega) (by omega) (by omega)]; exact hfr q hq)) (fun r13 N14 h14 => ?_)
  obtain ⟨rfl, hway, h14⟩ := h14
  obtain ⟨k1, k2⟩ := ch_ok hf 10 (p : Int) (by omega) (by omega) (by omega)
  refine ok_ck ⟨by omega, by omega⟩ ?_
  have st14 : ∀ k, k ≠ w → k ≠ w + 2 → k ≠ w + 3 → k ≠ w + 4 → k ≠ w + 11 → N14 k = N k := fun k k0 k1 k2 k3 k4 => by rw [h14 k k4, st11 k k0 k1 k2 k3]
  have w14 : N14 w = va_up (N w) 11 (N w 11 + vw [(v, N w 9)]) := by rw [h14 w (by omega), w11]
  have T14 : RP N14 (w + 2) 121 [(v, N w 9)] := RP_of h6.1 (by rw [h14 _ (by omega), up2_n e11 (by omega)]) (by rw [h14 _ (by omega), up2_n e11 (by omega)]) (by rw [h14 _ (by omega), up2_n e11 (by omega)])
  have W14 : WS N14 w cnt rows := WS_of hW hc (fun k a b => st14 k (by omega) (by omega) (by omega) (by omega) (by omega))
  refine ok_nbd (ok_takeOut_43 (vol := vol) hc hnw (ch fr 10 (p : Int)) (by omega) k1 FU (ch fr 10 (p : Int)).length N14 rows [(v, N w 9)] (by show _ < 200; omega) (Nat.le_refl _) hway W14 T14 (fun q hq => by rw [st14 (nn + 2) (by omega) (by omega) (by omega) (by omega) (by omega)]; exact hvol q hq) hok wt trivial (by omega) (by simp; omega)) (fun q24 N25 h25 => ?_)
  rw [List.take_length, w14, va_up_ne _ _ (by decide), va_up_ne _ _ (by decide)] at h25
  obtain ⟨m1, m2, m3, m4, m5, m6, m7⟩ := h25
  obtain ⟨t1, t2, t3, t4, t5, t6, t7⟩ := tk_ok (vol := vol) (cnt := cnt) (ch fr 10 (p : Int)).reverse rows [(v, N w 9)] (N w 13) (fun x hx => k1 x (List.mem_reverse.mp hx)) hok wt trivial (by omega) (by simp; omega)
  refine ok_nbd (ok_Plugs_vtw (by omega) m2 t2 (by omega)) (fun r27 N28 h28 => ?_)
  obtain ⟨rfl, rfl⟩ := h28
  refine ok_nlt (fun N30 e30 => ?_)
  have z30 : ∀ k, k ≠ w → N30 k = N28 k := fun k hk => up2_n e30 hk
  have w30 : N30 w = va_up (N28 w) 12 (N28 w 12 + vw (tke fr vol rows p v (N w 9) (N w 13)).2.1) := up2_at e30
  refine ok_ret ⟨?_, ?_, ?_, fun q => ?_, ⟨fun k hk => ?_, ?_, fun j j1 j2 j3 => ?_⟩, ?_, ?_⟩
  · exact WS_of m1 hc (fun k a b => z30 k (by omega))
  · exact RP_of m2 (z30 _ (by omega)) (z30 _ (by omega)) (z30 _ (by omega))
  · rw [w30, va_up_ne _ _ (by decide)]; exact m3
  · rw [z30 _ (by omega), m4 q, st14 (w + 12) (by omega) (by omega) (by omega) (by omega) (by omega)]
  · rw [z30 k (by omega), m5.1 k hk, st14 k (by omega) (by omega) (by omega) (by omega) (by omega)]
  · rw [z30 _ (by omega), m5.2.1, st14 (w + 13) (by omega) (by omega) (by omega) (by omega) (by omega)]
  · rw [w30, va_up_ne _ _ j2, m5.2.2 j j1 j2 j3, w14, va_up_ne _ _ j1]
  · rw [w30, va_up_ne _ _ (by decide), m6, va_up_self]
    show N w 11 + (v * N w 9 + 0) = _
    omega
  · rw [w30, va_up_self, m7, va_up_ne _ _ (by decide)]
