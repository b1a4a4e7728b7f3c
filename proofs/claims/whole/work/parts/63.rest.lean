/-! ===== the reference: the end of a minute ===== -/
theorem ok_rest_2 {k cnt : Nat} {fr vol ld lp : Nat → Int} {h mi : Int} (hP : PN cnt fr vol ld lp) (hh : 0 ≤ h ∧ h ≤ 10000) : ∀ (f n i : Nat) (N : nS) (s : St), n < f → i + n = cnt → NR N k cnt fr vol ld lp → CR N k cnt s → OKR (sR s) cnt vol → N k 7 = h → N k 9 = mi → Ok (m_Mo_rest_2 k f (i : Int) N) (fun _ N' => CR N' k cnt (loS fr vol lp h mi n i s) ∧ OKR (sR (loS fr vol lp h mi n i s)) cnt vol ∧ FT k N N') := by
  intro f
  induction f with
  | zero => intro n i N s h1; omega
  | succ f ih =>
    intro n i N s h1 h2 hN hW hok h7 h9
    have hc := hP.1
    rw [m_Mo_rest_2]
    refine ok_ck (by rw [hN.1]; exact ⟨by omega, by omega⟩) ?_
    rw [hN.1]
    refine ok_if (fun c1 => ?_) (fun c1 => ?_)
    · have e : n = 0 := by omega
      subst e
      exact ok_ret ⟨hW, hok, FT_rf⟩
    · obtain ⟨n, rfl⟩ : ∃ k, n = k + 1 := ⟨n - 1, by omega⟩
      have hi : i < cnt := by omega
      have hl := hP.2.2.2.2 i hi
      refine ok_ck ⟨by omega, by omega⟩ ?_
      rw [Int.toNat_natCast, hN.2.2.2.2 i hi]
      refine ok_ck ⟨by omega, by omega⟩ ?_
      rw [show (i : Int) + 1 = ((i + 1 : Nat) : Int) by omega, loS]
      refine ok_if (fun c2 => ?_) (fun c2 => ?_)
      · refine ok_ck ⟨by omega, by omega⟩ ?_
        rw [if_pos c2]
        exact ih n (i + 1) N s (by omega) (by omega) hN hW hok h7 h9
      · rw [if_neg c2]
        refine ok_nbd (ok_mtake hP hi hN hW hok (by omega) h7 hh h9) (fun r N8 g => ?_)
        refine ok_ck ⟨by omega, by omega⟩ ?_
        obtain ⟨g1, _, _, _, g3⟩ := g
        refine ok_mono (ih n (i + 1) N8 _ (by omega) (by omega) (NR_of hN (g3.2 1 (by omega)) (fun k _ _ => g3.1 k (by omega) (by omega) (by omega))) g1 (TK_ok hP.2.1 hc hi hok (by omega) hh).1 ((g3.2 7 (by omega)).trans h7) ((g3.2 9 (by omega)).trans h9)) (fun q N' g => ⟨g.1, g.2.1, FT_tr g3 g.2.2⟩)
theorem ok_leastOf_12 {k p : Nat} (hp : p < 10) : ∀ (f i : Nat) (N : nS) (l : Rw) (a : Int), l.length < f + i → i ≤ l.length → RR N k p l → wl l → rg a → Ok (m_Mo_leastOf_12 k (p : Int) f a (i : Int) N) (fun q N' => q.1 = mnL a (l.drop i) ∧ N' = N) := by
  intro f
  induction f with
  | zero => intro i N l a h1 h2; exact absurd h1 (by omega)
  | succ f ih =>
    intro i N l a h1 h2 hr hw ha
    rw [m_Mo_leastOf_12]
    have hl := hr.2.1
    refine ok_ck ⟨by omega, by omega⟩ ?_
    rw [Int.toNat_natCast]
    refine ok_ck (by rw [hr.1]; exact ⟨by omega, by omega⟩) ?_
    rw [hr.1]
    refine ok_if (fun c => ?_) (fun c => ?_)
    · have e : i = l.length := by omega
      subst e
      rw [List.drop_length]
      exact ok_ret ⟨rfl, rfl⟩
    · have hi : i < l.length := by omega
      have g := hr.2.2 i hi
      have hm := hw _ (gv_mem hi)
      refine ok_ck ⟨by omega, by omega⟩ ?_
      rw [show Int.toNat (12 * (p : Int) + (i : Int)) = 12 * p + i by omega, g.2]
      refine ok_ck ⟨by omega, by omega⟩ ?_
      rw [show (i : Int) + 1 = ((i + 1 : Nat) : Int) by omega, drop_gv hi]
      refine ok_if (fun c2 => ?_) (fun c2 => ?_)
      · refine ok_ck ⟨by omega, by omega⟩ ?_
        refine ok_mono (ih (i + 1) N l a (by omega) (by omega) hr hw ha) (fun q N' h => ⟨?_, h.2⟩)
        rw [h.1]
        show _ = mnL (if (gv l i).2 < a then (gv l i).2 else a) (l.drop (i + 1))
        rw [if_neg (by omega)]
      · refine ok_ck ⟨by omega, by omega⟩ ?_
        refine ok_mono (ih (i + 1) N l (gv l i).2 (by omega) (by omega) hr hw ⟨by omega, by omega⟩) (fun q N' h => ⟨?_, h.2⟩)
        rw [h.1]
        show _ = mnL (if (gv l i).2 < a then (gv l i).2 else a) (l.drop (i + 1))
        rw [if_pos (by omega)]
theorem ok_leastOf {k p : Nat} {N : nS} {l : Rw} (hp : p < 10) (hr : RR N k p l) (hw : wl l) (hl : 0 < l.length) : Ok (m_Mo_leastOf k (p : Int) N) (fun r N' => r = mnL 10000 l ∧ N' = N) := by
  rw [m_Mo_leastOf]
  have h12 := hr.2.1
  have g : N (k + 7) (12 * p) = (gv l 0).1 ∧ N (k + 8) (12 * p) = (gv l 0).2 := hr.2.2 0 hl
  have hm := hw _ (gv_mem hl)
  refine ok_ck ⟨by omega, by omega⟩ ?_
  rw [show Int.toNat (12 * (p : Int)) = 12 * p by omega, g.2]
  refine ok_ck ⟨by omega, by omega⟩ ?_
  refine ok_nbd (ok_leastOf_12 hp FU 1 N l (gv l 0).2 (by show l.length < 200 + 1; omega) hl hr hw ⟨by omega, by omega⟩) (fun q N' h => ?_)
  exact ok_ret ⟨h.1.trans (mn_st hw hl).2, h.2⟩
theorem ok_mostOf_12 {k p : Nat} (hp : p < 10) : ∀ (f i : Nat) (N : nS) (l : Rw) (a : Int), l.length < f + i → i ≤ l.length → RR N k p l → wl l → rg a → Ok (m_Mo_mostOf_12 k (p : Int) f a (i : Int) N) (fun q N' => q.1 = mxL a (l.drop i) ∧ N' = N) := by
  intro f
  induction f with
  | zero => intro i N l a h1 h2; exact absurd h1 (by omega)
  | succ f ih =>
    intro i N l a h1 h2 hr hw ha
    rw [m_Mo_mostOf_12]
    have hl := hr.2.1
    refine ok_ck ⟨by omega, by omega⟩ ?_
    rw [Int.toNat_natCast]
    refine ok_ck (by rw [hr.1]; exact ⟨by omega, by omega⟩) ?_
    rw [hr.1]
    refine ok_if (fun c => ?_) (fun c => ?_)
    · have e : i = l.length := by omega
      subst e
      rw [List.drop_length]
      exact ok_ret ⟨rfl, rfl⟩
    · have hi : i < l.length := by omega
      have g := hr.2.2 i hi
      have hm := hw _ (gv_mem hi)
      refine ok_ck ⟨by omega, by omega⟩ ?_
      rw [show Int.toNat (12 * (p : Int) + (i : Int)) = 12 * p + i by omega, g.2]
      refine ok_ck ⟨by omega, by omega⟩ ?_
      rw [show (i : Int) + 1 = ((i + 1 : Nat) : Int) by omega, drop_gv hi]
      refine ok_if (fun c2 => ?_) (fun c2 => ?_)
      · refine ok_ck ⟨by omega, by omega⟩ ?_
        refine ok_mono (ih (i + 1) N l a (by omega) (by omega) hr hw ha) (fun q N' h => ⟨?_, h.2⟩)
        rw [h.1]
        show _ = mxL (if a < (gv l i).2 then (gv l i).2 else a) (l.drop (i + 1))
        rw [if_neg (by omega)]
      · refine ok_ck ⟨by omega, by omega⟩ ?_
        refine ok_mono (ih (i + 1) N l (gv l i).2 (by omega) (by omega) hr hw ⟨by omega, by omega⟩) (fun q N' h => ⟨?_, h.2⟩)
        rw [h.1]
        show _ = mxL (if a < (gv l i).2 then (gv l i).2 else a) (l.drop (i + 1))
        rw [if_pos (by omega)]
theorem ok_mostOf {k p : Nat} {N : nS} {l : Rw} (hp : p < 10) (hr : RR N k p l) (hw : wl l) (hl : 0 < l.length) : Ok (m_Mo_mostOf k (p : Int) N) (fun r N' => r = mxL 0 l ∧ N' = N) := by
  rw [m_Mo_mostOf]
  have h12 := hr.2.1
  have g : N (k + 7) (12 * p) = (gv l 0).1 ∧ N (k + 8) (12 * p) = (gv l 0).2 := hr.2.2 0 hl
  have hm := hw _ (gv_mem hl)
  refine ok_ck ⟨by omega, by omega⟩ ?_
  rw [show Int.toNat (12 * (p : Int)) = 12 * p by omega, g.2]
  refine ok_ck ⟨by omega, by omega⟩ ?_
  refine ok_nbd (ok_mostOf_12 hp FU 1 N l (gv l 0).2 (by show l.length < 200 + 1; omega) hl hr hw ⟨by omega, by omega⟩) (fun q N' h => ?_)
  exact ok_ret ⟨h.1.trans (mx_st hw hl).2, h.2⟩
theorem RM_of {N N' : nS} {k : Nat} {l : Rw} (h : RM N k l) (e : N' k 28 = N k 28) (e1 : N' (k + 19) = N (k + 19)) (e2 : N' (k + 20) = N (k + 20)) : RM N' k l := by
  obtain ⟨a, b, c⟩ := h
  exact ⟨by rw [e]; exact a, b, by rw [e1, e2]; exact c⟩
theorem ok_rest_53 {k p : Nat} {air d : Int} (hp : p < 10) (hd : 1 ≤ d ∧ d ≤ 1000) (ha : 0 ≤ air ∧ air ≤ 10000) : ∀ (f i : Nat) (N : nS) (l acc : Rw), l.length < f + i → i ≤ l.length → RR N k p l → RM N k acc → N k 8 = air → N (k + 3) p = d → wl l → wl acc → acc.length ≤ i → tv acc + tv (l.drop i) ≤ 100000 → Ok (m_Mo_rest_53 k (p : Int) f (i : Int) N) (fun _ N' => RM N' k (adds acc ((l.drop i).map (clp air d))) ∧ N' k 24 = N k 24 + cll air d (l.drop i) ∧ FJ k N N') := by
  intro f
  induction f with
  | zero => intro i N l acc h1 h2; exact absurd h1 (by omega)
  | succ f ih =>
    intro i N l acc h1 h2 hr hA h8 h3 hw wa hal ht
    rw [m_Mo_rest_53]
    have hl := hr.2.1
    refine ok_ck ⟨by omega, by omega⟩ ?_
    rw [Int.toNat_natCast]
    refine ok_ck (by rw [hr.1]; exact ⟨by omega, by omega⟩) ?_
    rw [hr.1]
    refine ok_if (fun c => ?_) (fun c => ?_)
    · have e : i = l.length := by omega
      subst e
      rw [List.drop_length]
      exact ok_ret ⟨hA, by show _ = _ + 0; omega, FJ_rf⟩
    · have hi : i < l.length := by omega
      have g := hr.2.2 i hi
      have hm := hw _ (gv_mem hi)
      have n1 := tv_nn wa
      have n3 := tv_nn (l := l.drop (i + 1)) (fun p hp => hw p (List.mem_of_mem_drop hp))
      rw [drop_gv hi] at ht
      have ht3 : tv acc + ((gv l i).1 + tv (l.drop (i + 1))) ≤ 100000 := ht
      have hk := clp_rg (p := gv l i) hd.1 ha hm.2
      have hk2 : (clp air d (gv l i)).2 = (gv l i).2 - Int.tdiv ((gv l i).2 - air) d := rfl
      refine ok_ck ⟨by omega, by omega⟩ ?_
      rw [show Int.toNat (12 * (p : Int) + (i : Int)) = 12 * p + i by omega, g.1, g.2, h8, h3]
      refine ok_ck ⟨by omega, by omega⟩ ?_
      refine ok_ck ⟨by omega, by omega⟩ ?_
      refine ok_ck (by omega) ?_
      refine ok_ck ⟨by omega, by omega⟩ ?_
      refine ok_ck ⟨by omega, by omega⟩ ?_
      refine ok_nlt (fun N27 e27 => ?_)
      rw [up2_n e27 (show k + 8 ≠ k by omega), g.2]
      refine ok_ck ⟨by omega, by omega⟩ ?_
      have s27 : ∀ j, j ≠ k → N27 j = N j := fun j hj => up2_n e27 hj
      have k27 : N27 k = va_up (N k) 24 (N k 24 + (gv l i).1 * Int.tdiv ((gv l i).2 - air) d) := up2_at e27
      have A27 : RM N27 k acc := RM_of hA (by rw [k27, va_up_ne _ _ (by decide)]) (s27 _ (by omega)) (s27 _ (by omega))
      have b2 := addL_len acc (gv l i).1 ((gv l i).2 - Int.tdiv ((gv l i).2 - air) d)
      have t1 := tv_addL acc (gv l i).1 ((gv l i).2 - Int.tdiv ((gv l i).2 - air) d) (by omega)
      refine ok_nbd (ok_lay A27 (bd_of wa (by omega)) (by omega)) (fun r N31 g31 => ?_)
      obtain ⟨q1, q2, _⟩ := g31
      refine ok_ck ⟨by omega, by omega⟩ ?_
      have s31 : ∀ j, j ≠ k → j ≠ k + 19 → j ≠ k + 20 → N31 j = N j := fun j j0 j1 j2 => by rw [q2.1 j j0 j1 j2, s27 j j0]
      have k31 : ∀ j, j ≠ 28 → j ≠ 24 → N31 k j = N k j := fun j j1 j2 => by rw [q2.2 j j1, k27, va_up_ne _ _ j2]
      rw [show (i : Int) + 1 = ((i + 1 : Nat) : Int) by omega, drop_gv hi]
      refine ok_mono (ih (i + 1) N31 l (addL acc (gv l i).1 ((gv l i).2 - Int.tdiv ((gv l i).2 - air) d)) (by omega) (by omega) (RR_of hr (s31 _ (by omega) (by omega) (by omega)) (s31 _ (by omega) (by omega) (by omega)) (s31 _ (by omega) (by omega) (by omega))) q1 ((k31 8 (by decide) (by decide)).trans h8) (by rw [s31 _ (by omega) (by omega) (by omega)]; exact h3) hw (wl_addL wa ⟨by omega, by omega⟩) (by omega) (by omega)) (fun q N' h => ⟨h.1, ?_, FJ_tr ⟨s31, k31⟩ h.2.2⟩)
      rw [h.2.1, q2.2 24 (by decide), k27, va_up_self]
      show _ = _ + ((gv l i).1 * Int.tdiv ((gv l i).2 - air) d + cll air d (l.drop (i + 1)))
      omega
theorem ok_in {x a b : Int} {N : nS} : Ok (m_Mo_in x a b N) (fun r N' => r = (if a ≤ x ∧ x ≤ b then 1 else 0) ∧ N' = N) := by
  rw [m_Mo_in]
  refine ok_if (fun c => ok_ret ⟨by rw [if_neg (by omega)], rfl⟩) (fun c => ?_)
  exact ok_if (fun c2 => ok_ret ⟨by rw [if_neg (by omega)], rfl⟩) (fun c2 => ok_ret ⟨by rw [if_pos (by omega)], rfl⟩)
def FR (k : Nat) (N N' : nS) : Prop := (∀ i, i ≠ k → (i < k + 6 ∨ k + 11 ≤ i) → (i < k + 17 ∨ k + 22 ≤ i) → N' i = N i) ∧ ∀ j, j < 22 ∨ j = 26 → N' k j = N k j
theorem FR_rf {k : Nat} {N : nS} : FR k N N := ⟨fun _ _ _ _ => rfl, fun _ _ => rfl⟩
theorem FR_tr {k : Nat} {N N1 N2 : nS} (h : FR k N N1) (g : FR k N1 N2) : FR k N N2 := ⟨fun i a b c => (g.1 i a b c).trans (h.1 i a b c), fun j a => (g.2 j a).trans (h.2 j a)⟩
theorem FR_FT {k : Nat} {N N' : nS} (h : FT k N N') : FR k N N' := ⟨fun i a b c => h.1 i a (by omega) c, h.2⟩
set_option maxHeartbeats 1000000 in
theorem ok_rest_38 {k cnt : Nat} {fr vol ld lp : Nat → Int} {air : Int} (hP : PN cnt fr vol ld lp) (ha : 0 ≤ air ∧ air ≤ 10000) : ∀ (f n i : Nat) (N : nS) (s : St), n < f → i + n = cnt → NR N k cnt fr vol ld lp → CR N k cnt s → OKR (sR s) cnt vol → N k 8 = air → Ok (m_Mo_rest_38 k f (i : Int) N) (fun _ N' => CR N' k cnt (coS air ld n i s) ∧ OKR (sR (coS air ld n i s)) cnt vol ∧ FR k N N') := by
  intro f
  induction f with
  | zero => intro n i N s h1; omega
  | succ f ih =>
    intro n i N s h1 h2 hN hW hok h8
    have hc := hP.1
    rw [m_Mo_rest_38]
    refine ok_ck (by rw [hN.1]; exact ⟨by omega, by omega⟩) ?_
    rw [hN.1]
    refine ok_if (fun c1 => ?_) (fun c1 => ?_)
    · have e : n = 0 := by omega
      subst e
      exact ok_ret ⟨hW, hok, FR_rf⟩
    · obtain ⟨n, rfl⟩ : ∃ k, n = k + 1 := ⟨n - 1, by omega⟩
      have hi : i < cnt := by omega
      have hl := hP.2.2.2.1 i hi
      obtain ⟨o1, o2, o3, o4, o5, o6⟩ := hok i hi
      obtain ⟨W1, W2, W3, W4, W5, W6⟩ := hW
      refine ok_nlt (fun N16 e16 => ?_)
      have s16 : ∀ j, j ≠ k → N16 j = N j := fun j hj => up2_n e16 hj
      have k16 : N16 k = va_up (N k) 28 0 := up2_at e16
      have R16 : RM N16 k [] := ⟨by rw [k16, va_up_self]; rfl, Nat.zero_le _, Ls_nil⟩
      refine ok_nbd (ok_rest_53 (air := air) (d := ld i) (by omega) hl ha FU 0 N16 (sR s i) [] (by show _ < 200 + 0; omega) (Nat.zero_le _) (RR_of (W1 i hi) (s16 _ (by omega)) (s16 _ (by omega)) (s16 _ (by omega))) R16 (by rw [k16, va_up_ne _ _ (by decide)]; exact h8) (by rw [s16 _ (by omega)]; exact hN.2.2.2.1 i hi) o1 wl_nil (Nat.le_refl _) (by rw [List.drop_zero]; show 0 + tv _ ≤ _; omega)) (fun q34 N35 g35 => ?_)
      rw [List.drop_zero] at g35
      obtain ⟨g1, g2, g3⟩ := g35
      obtain ⟨k1, k2, k3, k4⟩ := coR_ok (air := air) (d := ld i) hl.1 ha o1
      have hR : adds [] ((sR s i).map (clp air (ld i))) = coR air (ld i) (sR s i) := rfl
      rw [hR] at g1
      refine ok_nbd (ok_putBack (by omega) (by omega) g1) (fun r37 N38 g38 => ?_)
      obtain ⟨v1, v2, v3⟩ := g38
      refine ok_ck ⟨by omega, by omega⟩ ?_
      refine ok_nbd (ok_leastOf (by omega) v1 k1 (wl_pos (by omega))) (fun r41 N42 g42 => ?_)
      obtain ⟨rfl, rfl⟩ := g42
      have hm := mnL_le (coR air (ld i) (sR s i)) 10000 (by omega) (by omega) k1
      refine ok_ck ⟨by omega, by omega⟩ ?_
      refine ok_nbd ok_in (fun r45 N46 g46 => ?_)
      obtain ⟨rfl, rfl⟩ := g46
      have s35 : ∀ j, j ≠ k → j ≠ k + 19 → j ≠ k + 20 → N35 j = N j := fun j j0 j1 j2 => by rw [g3.1 j j0 j1 j2, s16 j j0]
      have s38 : ∀ j, j ≠ k → j ≠ k + 19 → j ≠ k + 20 → j ≠ k + 6 → j ≠ k + 7 → j ≠ k + 8 → N46 j = N j := fun j j0 j1 j2 j3 j4 j5 => by rw [v3 j j3 j4 j5, s35 j j0 j1 j2]
      have k38 : ∀ j, j ≠ 28 → j ≠ 24 → N46 k j = N k j := fun j j1 j2 => by rw [v3 k (by omega) (by omega) (by omega), g3.2 j j1 j2, k16, va_up_ne _ _ j1]
      have l38 : N46 k 24 = sL s + cll air (ld i) (sR s i) := by rw [v3 k (by omega) (by omega) (by omega), g2, k16, va_up_ne _ _ (by decide), W4]
      have fin : ∀ (N9 : nS) (T : Nat → Int), (if mnL 10000 (coR air (ld i) (sR s i)) < 2500 then sT s else if 4500 < mnL 10000 (coR air (ld i) (sR s i)) then sT s else va_up (sT s) i (sT s i + 1)) = T → (∀ j, j ≠ k + 10 → N9 j = N46 j) → (∀ q, q < 10 → N9 (k + 10) q = T q) → Ok (if rg ((i : Int) + 1) then m_Mo_rest_38 k f ((i : Int) + 1) N9 else none) (fun _ N' => CR N' k cnt (coS air ld (n + 1) i s) ∧ OKR (sR (coS air ld (n + 1) i s)) cnt vol ∧ FR k N N') := fun N9 T hT q1 q2 => by
        refine ok_ck ⟨by omega, by omega⟩ ?_
        rw [show (i : Int) + 1 = ((i + 1 : Nat) : Int) by omega]
        have F9 : FR k N N9 := ⟨fun j j0 j1 j2 => by rw [q1 j (by omega), s38 j j0 (by omega) (by omega) (by omega) (by omega) (by omega)], fun j hj => by rw [q1 k (by omega), k38 j (by omega) (by omega)]⟩
        have C9 : CR N9 k cnt (coP air (ld i) i s) := by
          refine ⟨fun q hq => ?_, ?_, ?_, ?_, fun q hq => ?_, fun q hq => ?_⟩
          · show RR N9 k q (va_up (sR s) i (coR air (ld i) (sR s i)) q)
            by_cases e : q = i
            · subst e
              rw [va_up_self]
              exact RR_of v1 (q1 _ (by omega)) (q1 _ (by omega)) (q1 _ (by omega))
            · rw [va_up_ne _ _ e]
              exact RR_of (v2 q _ e (RR_of (W1 q hq) (s35 _ (by omega) (by omega) (by omega)) (s35 _ (by omega) (by omega) (by omega)) (s35 _ (by omega) (by omega) (by omega)))) (q1 _ (by omega)) (q1 _ (by omega)) (q1 _ (by omega))
          · rw [q1 k (by omega), k38 22 (by decide) (by decide), W2]; rfl
          · rw [q1 k (by omega), k38 23 (by decide) (by decide), W3]; rfl
          · rw [q1 k (by omega), l38]; rfl
          · rw [q1 (k + 9) (by omega), s38 (k + 9) (by omega) (by omega) (by omega) (by omega) (by omega) (by omega), W5 q hq]; rfl
          · rw [q2 q hq]
            show T q = (if mnL 10000 (coR air (ld i) (sR s i)) < 2500 then sT s else if 4500 < mnL 10000 (coR air (ld i) (sR s i)) then sT s else va_up (sT s) i (sT s i + 1)) q
            rw [hT]
        exact ok_mono (ih n (i + 1) N9 (coP air (ld i) i s) (by omega) (by omega) (NR_of hN (F9.2 1 (by omega)) (fun j _ _ => F9.1 j (by omega) (by omega) (by omega))) C9 (coP_ok hl.1 ha hok) ((F9.2 8 (by omega)).trans h8)) (fun q N' g => ⟨g.1, g.2.1, FR_tr F9 g.2.2⟩)
      have t10 : ∀ q, q < 10 → N46 (k + 10) q = sT s q := fun q hq => by rw [s38 (k + 10) (by omega) (by omega) (by omega) (by omega) (by omega) (by omega), W6 q hq]
      rw [Int.toNat_natCast, t10 i (by omega)]
      refine ok_ck (by split <;> exact ⟨by omega, by omega⟩) ?_
      refine ok_if (fun c2 => ?_) (fun c2 => ?_)
      · have hq : ¬ (2500 ≤ mnL 10000 (coR air (ld i) (sR s i)) ∧ mnL 10000 (coR air (ld i) (sR s i)) ≤ 4500) := fun h => by rw [if_pos h] at c2; omega
        refine ok_nlt (fun N50 e50 => ?_)
        refine fin N50 (sT s) ?_ (fun j hj => up2_n e50 hj) (fun q hq => ?_)
        · split
          · rfl
          · rw [if_pos (by omega)]
        · rw [up2_at e50]
          by_cases e : q = i
          · subst e; rw [va_up_self]; omega
          · rw [va_up_ne _ _ e]; exact t10 q hq
      · have hq : 2500 ≤ mnL 10000 (coR air (ld i) (sR s i)) ∧ mnL 10000 (coR air (ld i) (sR s i)) ≤ 4500 := Decidable.byContradiction (fun h => c2 (if_neg h))
        refine ok_nlt (fun N50 e50 => ?_)
        refine fin N50 (va_up (sT s) i (sT s i + 1)) ?_ (fun j hj => up2_n e50 hj) (fun q hq => ?_)
        · rw [if_neg (by omega), if_neg (by omega)]
        · rw [up2_at e50]
          by_cases e : q = i
          · subst e; rw [va_up_self, va_up_self]
          · rw [va_up_ne _ _ e, va_up_ne _ _ e]; exact t10 q hq
theorem ok_rest {k cnt : Nat} {fr vol ld lp : Nat → Int} {h air mi : Int} {N : nS} {s : St} (hP : PN cnt fr vol ld lp) (hh : 0 ≤ h ∧ h ≤ 10000) (ha : 0 ≤ air ∧ air ≤ 10000) (hN : NR N k cnt fr vol ld lp) (hW : CR N k cnt s) (hok : OKR (sR s) cnt vol) (h7 : N k 7 = h) (h8 : N k 8 = air) (h9 : N k 9 = mi) :
    Ok (m_Mo_rest k N) (fun _ N' => CR N' k cnt (emS fr vol ld lp cnt h air mi s) ∧ OKR (sR (emS fr vol ld lp cnt h air mi s)) cnt vol ∧ FR k N N') := by
  have hc := hP.1
  rw [m_Mo_rest]
  refine ok_nbd (ok_rest_2 hP hh FU cnt 0 N s (by show cnt < 200; omega) (by omega) hN hW hok h7 h9) (fun q N12 g => ?_)
  obtain ⟨g1, g2, g3⟩ := g
  refine ok_nbd (ok_rest_38 hP ha FU cnt 0 N12 _ (by show cnt < 200; omega) (by omega) (NR_of hN (g3.2 1 (by omega)) (fun j _ _ => g3.1 j (by omega) (by omega) (by omega))) g1 g2 ((g3.2 8 (by omega)).trans h8)) (fun q N36 g => ?_)
  obtain ⟨k1, k2, k3⟩ := g
  exact ok_ret ⟨k1, k2, FR_tr (FR_FT g3) k3⟩
