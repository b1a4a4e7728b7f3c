/-! ===== Water: one pipe is pushed through ===== -/
theorem thC_ok : ∀ (n : Nat) (l : Rw), wl l → tv l ≤ 10000 → (l.length = n + 12 ∨ (n = 0 ∧ l.length ≤ 12)) → wl (thC n l).1 ∧ tv (thC n l).1 = tv l ∧ (thC n l).1.length ≤ 12 ∧ 0 ≤ (thC n l).2 ∧ (thC n l).2 ≤ n * 10000 := by
  intro n
  induction n with
  | zero => intro l hw ht hl; exact ⟨hw, rfl, by show l.length ≤ 12; omega, Int.le_refl _, by show (0 : Int) ≤ _; omega⟩
  | succ n ih =>
    intro l hw ht hl
    have hk := lk_rng (show 1 < l.length by omega)
    have hj := jn_ok hw hk.1 (by omega)
    have hjl := jn_len hk.1
    have hr := jn_rg hw hk.1 (by omega)
    obtain ⟨a, b, c, d, e⟩ := ih (jn l (lk l)) hj.1 (by rw [hj.2]; exact ht) (by omega)
    refine ⟨a, by show tv (thC n (jn l (lk l))).1 = tv l; rw [b, hj.2], c, ?_, ?_⟩
    · show 0 ≤ jr l (lk l) + (thC n (jn l (lk l))).2
      omega
    · show jr l (lk l) + (thC n (jn l (lk l))).2 ≤ _
      omega
/-- what a push does: the pipe's row, what is taken, what is rounded away -/
def psh (V : Int) (t r : Rw) : Rw × Rw × Int := ((thR 200 (spl [] [] V (adds [] (t ++ r))).1).1, (spl [] [] V (adds [] (t ++ r))).2, (thR 200 (spl [] [] V (adds [] (t ++ r))).1).2)
theorem psh_ok {V : Int} {t r : Rw} (wt : wl t) (wr : wl r) (hV : 1 ≤ V ∧ V ≤ 1000) (hr : tv r = V) (ht : tv t ≤ 1000) (hl : t.length + r.length ≤ 200) : wl (psh V t r).1 ∧ nmr (psh V t r).1 ∧ tv (psh V t r).1 = V ∧ (psh V t r).1.length ≤ 12 ∧ wl (psh V t r).2.1 ∧ nmr (psh V t r).2.1 ∧ tv (psh V t r).2.1 = tv t ∧ (psh V t r).2.1.length ≤ t.length + r.length ∧ 0 ≤ (psh V t r).2.2 ∧ (psh V t r).2.2 ≤ 2000000 := by
  obtain ⟨a1, a2, a3⟩ := adds_ok (t ++ r) [] wl_nil (wl_app wt wr)
  have a4 := adds_len (t ++ r) []
  rw [tv_app] at a2
  have e0 : tv ([] : Rw) = 0 := rfl
  have n1 := tv_nn wt
  obtain ⟨b1, b2, b3, b4, b5, b6⟩ := spl_ok (adds [] (t ++ r)) [] [] V a1 wl_nil wl_nil (by omega)
  obtain ⟨c1, c2⟩ := nmr_spl (adds [] (t ++ r)) [] [] V trivial trivial
  have c3 := spl_len (adds [] (t ++ r)) [] [] V
  have hF : tv (spl [] [] V (adds [] (t ++ r))).1 = V := by
    rw [b3, e0]
    split <;> omega
  rw [List.length_append] at a4
  simp only [List.length_nil, Nat.zero_add] at a4 c3
  obtain ⟨d1, d2, d3, d4, d5, d6⟩ := thR_ok 200 (spl [] [] V (adds [] (t ++ r))).1 b1 c1 (by omega) (by omega)
  refine ⟨d1, d2, d3.trans hF, d4, b2, c2, ?_, ?_, d5, ?_⟩
  · show tv (spl [] [] V (adds [] (t ++ r))).2 = tv t
    omega
  · show (spl [] [] V (adds [] (t ++ r))).2.length ≤ _
    omega
  · show (thR 200 (spl [] [] V (adds [] (t ++ r))).1).2 ≤ _
    omega
def WS (N : nS) (w cnt : Nat) (rows : Nat → Rw) : Prop := ∀ p, p < cnt → RP N (w + 1 + 13 + 3 * p) 12 (rows p)
theorem WS_F3 {N N' : nS} {w cnt o : Nat} {rows : Nat → Rw} (h : WS N w cnt rows) (k : F3 o N N') (hd : o + 2 < w + 14) : WS N' w cnt rows := fun p hp => RP_F3 (h p hp) k (by omega)
theorem WS_of {N N' : nS} {w cnt : Nat} {rows : Nat → Rw} (h : WS N w cnt rows) (hc : cnt ≤ 10) (k : ∀ i, w + 14 ≤ i → i < w + 44 → N' i = N i) : WS N' w cnt rows := fun p hp => by
  obtain ⟨a, b, c⟩ := h p hp
  refine ⟨by rw [k _ (by omega) (by omega)]; exact a, b, ?_⟩
  rw [k _ (by omega) (by omega), k _ (by omega) (by omega)]
  exact c
theorem RP_of {N N' : nS} {o cap : Nat} {l : Rw} (h : RP N o cap l) (k0 : N' o = N o) (k1 : N' (o + 1) = N (o + 1)) (k2 : N' (o + 2) = N (o + 2)) : RP N' o cap l := by
  obtain ⟨a, b, c⟩ := h
  exact ⟨by rw [k0]; exact a, b, by rw [k1, k2]; exact c⟩
def FWt (w : Nat) (N N' : nS) : Prop := (∀ k, k < w ∨ w + 44 ≤ k → N' k = N k) ∧ N' (w + 13) = N (w + 13) ∧ ∀ j, j ≠ 11 → j ≠ 12 → j ≠ 13 → N' w j = N w j
theorem FWt_tr {w : Nat} {N N1 N2 : nS} (h : FWt w N N1) (k : FWt w N1 N2) : FWt w N N2 := ⟨fun i hi => (k.1 i hi).trans (h.1 i hi), k.2.1.trans h.2.1, fun j a b c => (k.2.2 j a b c).trans (h.2.2 j a b c)⟩
set_option maxHeartbeats 1000000 in
theorem ok_push {w nn cnt p : Nat} {N : nS} {rows : Nat → Rw} {t : Rw} {V : Int} (hp : p < cnt) (hc : cnt ≤ 10) (hnw : nn + 5 < w) (hW : WS N w cnt rows) (hT : RP N (w + 2) 121 t) (hV : N (nn + 2) p = V) (hV1 : 1 ≤ V ∧ V ≤ 1000) (wt : wl t) (wr : wl (rows p)) (tr : tv (rows p) = V) (tt : tv t ≤ 1000) (hl : t.length + 12 ≤ 121) :
    Ok (m_Water_pushThrough w nn (p : Int) N) (fun _ N' => WS N' w cnt (va_up rows p (psh V t (rows p)).1) ∧ RP N' (w + 2) 121 (psh V t (rows p)).2.1 ∧ N' w 13 = N w 13 + (psh V t (rows p)).2.2 ∧ N' (w + 12) = va_up (N (w + 12)) p (N w 8) ∧ N' (w + 11) = N (w + 11) ∧ FWt w N N' ∧ N' w 11 = N w 11 ∧ N' w 12 = N w 12) := by
  rw [m_Water_pushThrough]
  have hR := hW p hp
  have hrl := hR.2.1
  have hpi : Int.toNat (p : Int) = p := Int.toNat_natCast p
  refine ok_ck ⟨by omega, by omega⟩ ?_
  rw [hpi]
  refine ok_nbd ok_Plugs_clear (fun r2 N3 h3 => ?_)
  have T3 := RP_F3 hT h3.2.1 (by omega)
  refine ok_nbd (ok_Plugs_addAll (by omega) (by omega) (by omega) h3.1 T3 wl_nil wt (by simp; omega) (by show 0 + tv t ≤ _; omega)) (fun r5 N6 h6 => ?_)
  have R6 := RP_F3 (RP_F3 hR h3.2.1 (by omega)) h6.2 (by omega)
  obtain ⟨a1, a2, a3⟩ := adds_ok t [] wl_nil wt
  have a4 := adds_len t []
  have e0 : tv ([] : Rw) = 0 := rfl
  simp only [List.length_nil, Nat.zero_add] at a4
  refine ok_nbd (ok_Plugs_addAll (by omega) (by omega) (by omega) h6.1 R6 a1 wr (by omega) (by omega)) (fun r8 N9 h9 => ?_)
  rw [← adds_app] at h9
  obtain ⟨b1, b2, b3⟩ := adds_ok (t ++ rows p) [] wl_nil (wl_app wt wr)
  have b4 := adds_len (t ++ rows p) []
  rw [tv_app] at b2
  rw [List.length_append] at b4
  simp only [List.length_nil, Nat.zero_add] at b4
  have hV9 : N9 (nn + 2) p = V := by
    rw [h9.2 _ (by omega) (by omega) (by omega), h6.2 _ (by omega) (by omega) (by omega), h3.2.1 _ (by omega) (by omega) (by omega)]
    exact hV
  rw [hV9]
  refine ok_ck ⟨by omega, by omega⟩ ?_
  refine ok_nbd (ok_Plugs_split (by omega) (by omega) (by omega) (by omega) (by omega) (by omega) h9.1 b1 ⟨by omega, by omega⟩ (by omega) (by omega) (by omega)) (fun r12 N13 h13 => ?_)
  obtain ⟨c1, c2, c3, c4, c5, c6⟩ := spl_ok (adds [] (t ++ rows p)) [] [] V b1 wl_nil wl_nil (by omega)
  obtain ⟨n1, n2⟩ := nmr_spl (adds [] (t ++ rows p)) [] [] V trivial trivial
  have c7 := spl_len (adds [] (t ++ rows p)) [] [] V
  simp only [List.length_nil, Nat.zero_add] at c7
  have nt := tv_nn wt
  have hF : tv (spl [] [] V (adds [] (t ++ rows p))).1 = V := by
    rw [c3, e0]
    split <;> omega
  generalize hf : (spl [] [] V (adds [] (t ++ rows p))).1 = F at h13 c1 c3 c4 c5 n1 c7 hF
  refine ok_nbd (ok_Plugs_thin (by omega) h13.1 c1 (by omega)) (fun r15 N16 h16 => ?_)
  obtain ⟨rfl, h16a, h16b⟩ := h16
  have hn12 : F.length = (F.length - 12) + 12 ∨ (F.length - 12 = 0 ∧ F.length ≤ 12) := by omega
  obtain ⟨d1, d2, d3, d4, d5⟩ := thC_ok (F.length - 12) F c1 (by omega) hn12
  refine ok_ck ⟨by omega, by omega⟩ ?_
  refine ok_nlt (fun N19 e19 => ?_)
  refine ok_nbd ok_Plugs_clear (fun r21 N22 h22 => ?_)
  have q19 : ∀ k, k ≠ w → N19 k = N16 k := fun k hk => up2_n e19 hk
  have S22 : RP N22 (w + 8) 121 (thC (F.length - 12) F).1 := RP_F3 (RP_of h16a (q19 _ (by omega)) (q19 _ (by omega)) (q19 _ (by omega))) h22.2.1 (by omega)
  refine ok_nbd (ok_Plugs_addAll (by omega) (by omega) (by omega) h22.1 S22 wl_nil d1 (by simp; omega) (by omega)) (fun r24 N25 h25 => ?_)
  refine ok_nlt (fun N27 e27 => ?_)
  obtain ⟨x1, x2⟩ := thin_eq (F.length - 12) F 200 c1 (by omega) hn12 (by omega)
  rw [adds_self c1 n1] at x1 x2
  -- from N to N16: what stays
  have st16 : ∀ k, (k < w + 2 ∨ w + 11 ≤ k) → N16 k = N k := fun k hk => by
    rw [h16b k (by omega) (by omega) (by omega), h13.2.2 k (by omega) (by omega) (by omega) (by omega) (by omega) (by omega), h9.2 k (by omega) (by omega) (by omega), h6.2 k (by omega) (by omega) (by omega), h3.2.1 k (by omega) (by omega) (by omega)]
  have st25 : ∀ k, k ≠ w → (k < w + 2 ∨ w + 11 ≤ k) → k ≠ w + 1 + 13 + 3 * p → k ≠ w + 1 + 13 + 3 * p + 1 → k ≠ w + 1 + 13 + 3 * p + 2 → N25 k = N k := fun k k0 hk k1 k2 k3 => by
    rw [h25.2 k k1 k2 k3, h22.2.1 k k1 k2 k3, q19 k k0, st16 k hk]
  have w25 : N25 w = va_up (N w) 13 (N w 13 + (thC (F.length - 12) F).2) := by
    rw [h25.2 w (by omega) (by omega) (by omega), h22.2.1 w (by omega) (by omega) (by omega), up2_at e19, st16 w (by omega)]
    congr 1
    rw [h13.2.2 w (by omega) (by omega) (by omega) (by omega) (by omega) (by omega), h9.2 w (by omega) (by omega) (by omega), h6.2 w (by omega) (by omega) (by omega), h3.2.1 w (by omega) (by omega) (by omega)]
  have z27 : ∀ k, k ≠ w + 12 → N27 k = N25 k := fun k hk => up2_n e27 hk
  have w27 : N27 w = va_up (N w) 13 (N w 13 + (thC (F.length - 12) F).2) := (z27 w (by omega)).trans w25
  have epsh1 : (psh V t (rows p)).1 = (thR 200 F).1 := by show (thR 200 (spl [] [] V (adds [] (t ++ rows p))).1).1 = _; rw [hf]
  have epsh3 : (psh V t (rows p)).2.2 = (thR 200 F).2 := by show (thR 200 (spl [] [] V (adds [] (t ++ rows p))).1).2 = _; rw [hf]
  refine ok_ret ⟨fun q hq => ?_, ?_, ?_, ?_, ?_, ⟨fun k hk => ?_, ?_, fun j j1 j2 j3 => ?_⟩, ?_, ?_⟩
  · by_cases hqp : q = p
    · subst hqp
      rw [va_up_self, epsh1, ← x1]
      exact RP_of h25.1 (z27 _ (by omega)) (z27 _ (by omega)) (z27 _ (by omega))
    · rw [va_up_ne _ _ hqp]
      have e9 : ∀ k, w + 14 + 3 * q ≤ k → k ≤ w + 16 + 3 * q → N27 k = N k := fun k k1 k2 => by
        rw [z27 k (by omega), st25 k (by omega) (by omega) (by omega) (by omega) (by omega)]
      exact RP_of (hW q hq) (e9 _ (by omega) (by omega)) (e9 _ (by omega) (by omega)) (e9 _ (by omega) (by omega))
  · have h2 : RP N16 (w + 2) 121 (spl [] [] V (adds [] (t ++ rows p))).2 := RP_F3 h13.2.1 h16b (by omega)
    have e9 : ∀ k, w + 2 ≤ k → k ≤ w + 4 → N27 k = N16 k := fun k k1 k2 => by
      rw [z27 k (by omega), h25.2 k (by omega) (by omega) (by omega), h22.2.1 k (by omega) (by omega) (by omega), q19 k (by omega)]
    exact RP_of h2 (e9 _ (by omega) (by omega)) (e9 _ (by omega) (by omega)) (e9 _ (by omega) (by omega))
  · rw [w27, va_up_self, epsh3, x2]
  · rw [up2_at e27, w25, st25 (w + 12) (by omega) (by omega) (by omega) (by omega) (by omega), va_up_ne _ _ (by decide)]
  · rw [z27 _ (by omega), st25 (w + 11) (by omega) (by omega) (by omega) (by omega) (by omega)]
  · rw [z27 k (by omega), st25 k (by omega) (by omega) (by omega) (by omega) (by omega)]
  · rw [z27 _ (by omega), st25 (w + 13) (by omega) (by omega) (by omega) (by omega) (by omega)]
  · rw [w27, va_up_ne _ _ j3]
  · rw [w27, va_up_ne _ _ (by decide)]
  · rw [w27, va_up_ne _ _ (by decide)]
