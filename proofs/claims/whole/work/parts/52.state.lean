/-! ===== the water's state, and what a minute does to it ===== -/
abbrev St : Type := (Nat → Rw) × Int × Int × Int × (Nat → Int) × (Nat → Int)
def sR (s : St) : Nat → Rw := s.1
def sG (s : St) : Int := s.2.1
def sO (s : St) : Int := s.2.2.1
def sL (s : St) : Int := s.2.2.2.1
def sF (s : St) : Nat → Int := s.2.2.2.2.1
def sT (s : St) : Nat → Int := s.2.2.2.2.2
theorem tk_ls {vol : Nat → Int} : ∀ (ws : List Nat) (rows : Nat → Rw) (t : Rw) (ls : Int), (tk vol ws rows t ls).1 = (tk vol ws rows t 0).1 ∧ (tk vol ws rows t ls).2.1 = (tk vol ws rows t 0).2.1 ∧ (tk vol ws rows t ls).2.2 = ls + (tk vol ws rows t 0).2.2 := by
  intro ws
  induction ws with
  | nil => intro rows t ls; exact ⟨rfl, rfl, by show ls = ls + 0; omega⟩
  | cons p ws ih =>
    intro rows t ls
    obtain ⟨a, b, c⟩ := ih (va_up rows p (psh (vol p) t (rows p)).1) (psh (vol p) t (rows p)).2.1 (ls + (psh (vol p) t (rows p)).2.2)
    obtain ⟨d, e, f⟩ := ih (va_up rows p (psh (vol p) t (rows p)).1) (psh (vol p) t (rows p)).2.1 (0 + (psh (vol p) t (rows p)).2.2)
    refine ⟨a.trans d.symm, b.trans e.symm, ?_⟩
    show (tk vol ws _ _ (ls + (psh (vol p) t (rows p)).2.2)).2.2 = ls + (tk vol ws _ _ (0 + (psh (vol p) t (rows p)).2.2)).2.2
    omega
def TK (fr vol : Nat → Int) (h : Int) (p : Nat) (v : Int) (rows : Nat → Rw) : (Nat → Rw) × Rw × Int := tk vol (ch fr 10 (p : Int)).reverse rows [(v, h)] 0
def tkS (fr vol : Nat → Int) (h mi : Int) (p : Nat) (v : Int) (s : St) : St := ((TK fr vol h p v (sR s)).1, sG s + v * h, sO s + vw (TK fr vol h p v (sR s)).2.1, sL s + (TK fr vol h p v (sR s)).2.2, (fun q => if q ∈ ch fr 10 (p : Int) then mi else sF s q), sT s)
def CW (N : nS) (w cnt : Nat) (s : St) : Prop := WS N w cnt (sR s) ∧ N w 11 = sG s ∧ N w 12 = sO s ∧ N w 13 = sL s ∧ (∀ q, N (w + 12) q = sF s q) ∧ ∀ q, N (w + 13) q = sT s q
def NT (N : nS) (nn cnt : Nat) (fr vol ld lp : Nat → Int) : Prop := N nn 5 = (cnt : Int) ∧ (∀ p, p < cnt → N (nn + 1) p = fr p) ∧ (∀ p, p < cnt → N (nn + 2) p = vol p) ∧ (∀ p, p < cnt → N (nn + 3) p = ld p) ∧ (∀ p, p < cnt → N (nn + 4) p = lp p)
def PN (cnt : Nat) (fr vol ld lp : Nat → Int) : Prop := cnt ≤ 10 ∧ frw fr cnt ∧ (∀ p, p < cnt → 1 ≤ vol p ∧ vol p ≤ 1000) ∧ (∀ p, p < cnt → 1 ≤ ld p ∧ ld p ≤ 1000) ∧ (∀ p, p < cnt → 0 ≤ lp p ∧ lp p ≤ 500)
theorem NT_of {N N' : nS} {nn cnt : Nat} {fr vol ld lp : Nat → Int} (h : NT N nn cnt fr vol ld lp) (k : ∀ i, nn ≤ i → i < nn + 5 → N' i = N i) : NT N' nn cnt fr vol ld lp := by
  obtain ⟨a, b, c, d, e⟩ := h
  refine ⟨?_, fun p hp => ?_, fun p hp => ?_, fun p hp => ?_, fun p hp => ?_⟩
  · rw [k nn (by omega) (by omega)]; exact a
  · rw [k _ (by omega) (by omega)]; exact b p hp
  · rw [k _ (by omega) (by omega)]; exact c p hp
  · rw [k _ (by omega) (by omega)]; exact d p hp
  · rw [k _ (by omega) (by omega)]; exact e p hp
/-- what stays: all that is not of this water, its minute, heat and air -/
def FS (w : Nat) (N N' : nS) : Prop := (∀ k, k < w ∨ w + 44 ≤ k → N' k = N k) ∧ N' w 8 = N w 8 ∧ N' w 9 = N w 9 ∧ N' w 10 = N w 10
theorem FS_rf {w : Nat} {N : nS} : FS w N N := ⟨fun _ _ => rfl, rfl, rfl, rfl⟩
theorem FS_tr {w : Nat} {N N1 N2 : nS} (h : FS w N N1) (k : FS w N1 N2) : FS w N N2 := ⟨fun i hi => (k.1 i hi).trans (h.1 i hi), k.2.1.trans h.2.1, k.2.2.1.trans h.2.2.1, k.2.2.2.trans h.2.2.2⟩
theorem TK_ok {fr vol : Nat → Int} {cnt p : Nat} {h v : Int} {rows : Nat → Rw} (hf : frw fr cnt) (hc : cnt ≤ 10) (hp : p < cnt) (hok : OKR rows cnt vol) (hv : 1 ≤ v ∧ v ≤ 1000) (hh : 0 ≤ h ∧ h ≤ 10000) : OKR (TK fr vol h p v rows).1 cnt vol ∧ wl (TK fr vol h p v rows).2.1 ∧ nmr (TK fr vol h p v rows).2.1 ∧ tv (TK fr vol h p v rows).2.1 = v ∧ (TK fr vol h p v rows).2.1.length ≤ 121 ∧ 0 ≤ (TK fr vol h p v rows).2.2 ∧ (TK fr vol h p v rows).2.2 ≤ 20000000 := by
  obtain ⟨k1, k2⟩ := ch_ok hf 10 (p : Int) (by omega) (by omega) (by omega)
  have wt : wl [(v, h)] := fun q hq => by rw [List.mem_singleton.mp hq]; exact ⟨by show 0 < v; omega, hh⟩
  have tt : tv [(v, h)] = v := by show v + 0 = v; omega
  obtain ⟨t1, t2, t3, t4, t5, t6, t7⟩ := tk_ok (vol := vol) (cnt := cnt) (ch fr 10 (p : Int)).reverse rows [(v, h)] 0 (fun x hx => k1 x (List.mem_reverse.mp hx)) hok wt trivial (by omega) (by simp; omega)
  rw [List.length_reverse] at t7
  exact ⟨t1, t2, t3, t4.trans tt, t5, t6, by show (tk _ _ _ _ _).2.2 ≤ _; omega⟩
theorem ok_takeS {w nn cnt p : Nat} {fr vol ld lp : Nat → Int} {N : nS} {s : St} {v h mi : Int} (hP : PN cnt fr vol ld lp) (hnw : nn + 5 < w) (hp : p < cnt) (hN : NT N nn cnt fr vol ld lp) (hW : CW N w cnt s) (hok : OKR (sR s) cnt vol) (hv : 1 ≤ v ∧ v ≤ 1000) (h9 : N w 9 = h) (hh : 0 ≤ h ∧ h ≤ 10000) (h8 : N w 8 = mi) :
    Ok (m_Water_takeOut w nn (p : Int) v N) (fun _ N' => CW N' w cnt (tkS fr vol h mi p v s) ∧ RP N' (w + 2) 121 (TK fr vol h p v (sR s)).2.1 ∧ FS w N N') := by
  obtain ⟨hc, hf, hvo, hld, hlp⟩ := hP
  obtain ⟨a1, a2, a3, a4, a5⟩ := hN
  obtain ⟨b1, b2, b3, b4, b5, b6⟩ := hW
  subst h9 h8
  refine ok_mono (ok_takeOut hf hc hnw hp a1 a2 a3 b1 hok hv hh) (fun q N' h => ?_)
  obtain ⟨c1, c2, c3, c4, c5, c6, c7⟩ := h
  obtain ⟨e1, e2, e3⟩ := tk_ls (vol := vol) (ch fr 10 (p : Int)).reverse (sR s) [(v, N w 9)] (N w 13)
  have e1' : (tke fr vol (sR s) p v (N w 9) (N w 13)).1 = (TK fr vol (N w 9) p v (sR s)).1 := e1
  have e2' : (tke fr vol (sR s) p v (N w 9) (N w 13)).2.1 = (TK fr vol (N w 9) p v (sR s)).2.1 := e2
  have e3' : (tke fr vol (sR s) p v (N w 9) (N w 13)).2.2 = N w 13 + (TK fr vol (N w 9) p v (sR s)).2.2 := e3
  rw [e1'] at c1
  rw [e2'] at c2 c7
  rw [e3'] at c3
  refine ⟨⟨c1, ?_, ?_, ?_, fun q => ?_, fun q => ?_⟩, c2, ⟨c5.1, c5.2.2 8 (by decide) (by decide) (by decide), c5.2.2 9 (by decide) (by decide) (by decide), c5.2.2 10 (by decide) (by decide) (by decide)⟩⟩
  · rw [c6, b2]; rfl
  · rw [c7, b3]; rfl
  · rw [c3, b4]; rfl
  · rw [c4 q, b5 q]; rfl
  · rw [c5.2.1, b6 q]; rfl
/-! the loops of a minute -/
def loS (fr vol lp : Nat → Int) (h mi : Int) : Nat → Nat → St → St
  | 0, _, s => s
  | n + 1, i, s => loS fr vol lp h mi n (i + 1) (if lp i ≤ 0 then s else tkS fr vol h mi i (lp i) s)
theorem ok_em2 {w nn cnt : Nat} {fr vol ld lp : Nat → Int} {h mi : Int} (hP : PN cnt fr vol ld lp) (hnw : nn + 5 < w) (hh : 0 ≤ h ∧ h ≤ 10000) : ∀ (f n i : Nat) (N : nS) (s : St), n < f → i + n = cnt → NT N nn cnt fr vol ld lp → CW N w cnt s → OKR (sR s) cnt vol → N w 9 = h → N w 8 = mi → Ok (m_Water_endMinute_2 w nn f (i : Int) N) (fun _ N' => CW N' w cnt (loS fr vol lp h mi n i s) ∧ OKR (sR (loS fr vol lp h mi n i s)) cnt vol ∧ FS w N N') := by
  intro f
  induction f with
  | zero => intro n i N s h1; omega
  | succ f ih =>
    intro n i N s h1 h2 hN hW hok h9 h8
    have hc := hP.1
    rw [m_Water_endMinute_2]
    refine ok_ck (by rw [hN.1]; exact ⟨by omega, by omega⟩) ?_
    rw [hN.1]
    refine ok_if (fun c1 => ?_) (fun c1 => ?_)
    · have e : n = 0 := by omega
      subst e
      exact ok_ret ⟨hW, hok, FS_rf⟩
    · obtain ⟨n, rfl⟩ : ∃ k, n = k + 1 := ⟨n - 1, by omega⟩
      have hi : i < cnt := by omega
      have hl := hP.2.2.2.2 i hi
      refine ok_ck ⟨by omega, by omega⟩ ?_
      rw [Int.toNat_natCast, hN.2.2.2.2 i hi]
      refine ok_ck ⟨by omega, by omega⟩ ?_
      rw [show (i : Int) + 1 = ((i + 1 : Nat) : Int) by omega, loS]
      refine ok_if (fun c2 => ?_) (fun c2 => ?_)
      · refine ok_ck ⟨by omega, by omega⟩ ?_
        rw [if_pos c2]
        exact ih n (i + 1) N s (by omega) (by omega) hN hW hok h9 h8
      · rw [if_neg c2]
        refine ok_nbd (ok_takeS hP hnw hi hN hW hok (by omega) h9 hh h8) (fun r N8 g => ?_)
        refine ok_ck ⟨by omega, by omega⟩ ?_
        obtain ⟨g1, g2, g3⟩ := g
        refine ok_mono (ih n (i + 1) N8 _ (by omega) (by omega) (NT_of hN (fun k _ _ => g3.1 k (by omega))) g1 (TK_ok hP.2.1 hc hi hok (by omega) hh).1 (g3.2.2.1.trans h9) (g3.2.1.trans h8)) (fun q N' g => ⟨g.1, g.2.1, FS_tr g3 g.2.2⟩)
/-! cooling -/
def coR (air d : Int) (l : Rw) : Rw := adds [] (l.map (clp air d))
def coP (air d : Int) (i : Nat) (s : St) : St := (va_up (sR s) i (coR air d (sR s i)), sG s, sO s, sL s + cll air d (sR s i), sF s, if mnL 10000 (coR air d (sR s i)) < 2500 then sT s else if 4500 < mnL 10000 (coR air d (sR s i)) then sT s else va_up (sT s) i (sT s i + 1))
def coS (air : Int) (ld : Nat → Int) : Nat → Nat → St → St
  | 0, _, s => s
  | n + 1, i, s => coS air ld n (i + 1) (coP air (ld i) i s)
theorem clp_l {air d : Int} (hd : 1 ≤ d) (ha : 0 ≤ air ∧ air ≤ 10000) : ∀ l : Rw, wl l → wl (l.map (clp air d)) ∧ tv (l.map (clp air d)) = tv l ∧ -(tv l * 10000) ≤ cll air d l ∧ cll air d l ≤ tv l * 10000 := by
  intro l
  induction l with
  | nil => intro _; exact ⟨wl_nil, rfl, by show -(0 * 10000) ≤ (0 : Int); omega, by show (0 : Int) ≤ 0 * 10000; omega⟩
  | cons p l ih =>
    intro h
    obtain ⟨h1, h2⟩ := wl_cons h
    obtain ⟨a, b, c, e⟩ := ih h2
    obtain ⟨k1, k2, k3, k4⟩ := clp_rg hd ha h1.2
    have m1 : p.1 * (-10000) ≤ p.1 * Int.tdiv (p.2 - air) d := Int.mul_le_mul_of_nonneg_left k3 (by omega)
    have m2 : p.1 * Int.tdiv (p.2 - air) d ≤ p.1 * 10000 := Int.mul_le_mul_of_nonneg_left k4 (by omega)
    have et : tv (p :: l) = p.1 + tv l := rfl
    have ec : cll air d (p :: l) = p.1 * Int.tdiv (p.2 - air) d + cll air d l := rfl
    refine ⟨fun q hq => ?_, ?_, by omega, by omega⟩
    · rw [List.map_cons] at hq
      rcases List.mem_cons.mp hq with rfl | hq
      · exact ⟨h1.1, k1, k2⟩
      · exact a q hq
    · show p.1 + tv (l.map (clp air d)) = _
      omega
theorem coR_ok {air d : Int} {l : Rw} (hd : 1 ≤ d) (ha : 0 ≤ air ∧ air ≤ 10000) (h : wl l) : wl (coR air d l) ∧ nmr (coR air d l) ∧ tv (coR air d l) = tv l ∧ (coR air d l).length ≤ l.length := by
  obtain ⟨a, b, _, _⟩ := clp_l hd ha l h
  obtain ⟨c, e, _⟩ := adds_ok (l.map (clp air d)) [] wl_nil a
  have g := adds_len (l.map (clp air d)) []
  rw [List.length_map] at g
  simp only [List.length_nil, Nat.zero_add] at g
  refine ⟨c, nmr_adds _ _ trivial, ?_, g.1⟩
  show tv (adds [] _) = _
  rw [e, b]
  show 0 + tv l = tv l
  omega
theorem coP_ok {air d : Int} {i cnt : Nat} {s : St} {vol : Nat → Int} (hd : 1 ≤ d) (ha : 0 ≤ air ∧ air ≤ 10000) (h : OKR (sR s) cnt vol) : OKR (sR (coP air d i s)) cnt vol := by
  intro p hp
  obtain ⟨a, b, c, e, f⟩ := h p hp
  by_cases q : p = i
  · subst q
    obtain ⟨k1, k2, k3, k4⟩ := coR_ok hd ha a
    show wl (va_up (sR s) p (coR air d (sR s p)) p) ∧ nmr (va_up (sR s) p (coR air d (sR s p)) p) ∧ tv (va_up (sR s) p (coR air d (sR s p)) p) = _ ∧ (va_up (sR s) p (coR air d (sR s p)) p).length ≤ 12 ∧ _
    rw [va_up_self]
    exact ⟨k1, k2, k3.trans c, by omega, f⟩
  · show wl (va_up (sR s) i (coR air d (sR s i)) p) ∧ nmr (va_up (sR s) i (coR air d (sR s i)) p) ∧ tv (va_up (sR s) i (coR air d (sR s i)) p) = _ ∧ (va_up (sR s) i (coR air d (sR s i)) p).length ≤ 12 ∧ _
    rw [va_up_ne _ _ q]
    exact ⟨a, b, c, e, f⟩
theorem mnL_le : ∀ (l : Rw) (a : Int), 0 ≤ a → a ≤ 10000 → wl l → 0 ≤ mnL a l ∧ mnL a l ≤ a := by
  intro l
  induction l with
  | nil => intro a h k _; exact ⟨h, Int.le_refl _⟩
  | cons p l ih =>
    intro a h k w
    obtain ⟨w1, w2⟩ := wl_cons w
    show 0 ≤ mnL (if p.2 < a then p.2 else a) l ∧ mnL (if p.2 < a then p.2 else a) l ≤ a
    split
    · have := ih p.2 (by omega) (by omega) w2
      omega
    · exact ih a h k w2
theorem mxL_le : ∀ (l : Rw) (a : Int), 0 ≤ a → a ≤ 10000 → wl l → a ≤ mxL a l ∧ mxL a l ≤ 10000 := by
  intro l
  induction l with
  | nil => intro a h k _; exact ⟨Int.le_refl _, k⟩
  | cons p l ih =>
    intro a h k w
    obtain ⟨w1, w2⟩ := wl_cons w
    show a ≤ mxL (if a < p.2 then p.2 else a) l ∧ mxL (if a < p.2 then p.2 else a) l ≤ 10000
    split
    · have := ih p.2 (by omega) (by omega) w2
      omega
    · exact ih a h k w2
set_option maxHeartbeats 1000000 in
theorem ok_em47 {w nn cnt : Nat} {fr vol ld lp : Nat → Int} {air : Int} (hP : PN cnt fr vol ld lp) (hnw : nn + 5 < w) (ha : 0 ≤ air ∧ air ≤ 10000) : ∀ (f n i : Nat) (N : nS) (s : St), n < f → i + n = cnt → NT N nn cnt fr vol ld lp → CW N w cnt s → OKR (sR s) cnt vol → N w 10 = air → Ok (m_Water_endMinute_47 w nn f (i : Int) N) (fun _ N' => CW N' w cnt (coS air ld n i s) ∧ OKR (sR (coS air ld n i s)) cnt vol ∧ FS w N N') := by
  intro f
  induction f with
  | zero => intro n i N s h1; omega
  | succ f ih =>
    intro n i N s h1 h2 hN hW hok h10
    have hc := hP.1
    rw [m_Water_endMinute_47]
    refine ok_ck (by rw [hN.1]; exact ⟨by omega, by omega⟩) ?_
    rw [hN.1]
    refine ok_if (fun c1 => ?_) (fun c1 => ?_)
    · have e : n = 0 := by omega
      subst e
      exact ok_ret ⟨hW, hok, FS_rf⟩
    · obtain ⟨n, rfl⟩ : ∃ k, n = k + 1 := ⟨n - 1, by omega⟩
      have hi : i < cnt := by omega
      have hl := hP.2.2.2.1 i hi
      obtain ⟨o1, o2, o3, o4, o5, o6⟩ := hok i hi
      obtain ⟨W1, W2, W3, W4, W5, W6⟩ := hW
      refine ok_ck ⟨by omega, by omega⟩ ?_
      rw [Int.toNat_natCast, h10]
      refine ok_ck ⟨by omega, by omega⟩ ?_
      rw [hN.2.2.2.1 i hi]
      refine ok_ck ⟨by omega, by omega⟩ ?_
      refine ok_nbd (ok_Plugs_cool (by omega) (by omega) ha (W1 i hi) o1 (by omega)) (fun r19 N20 g20 => ?_)
      obtain ⟨rfl, g1, g2⟩ := g20
      refine ok_nlt (fun N22 e22 => ?_)
      obtain ⟨k1, k2, k3, k4⟩ := coR_ok (air := air) (d := ld i) hl.1 ha o1
      have z22 : ∀ k, k ≠ w → k ≠ w + 1 + 13 + 3 * i → k ≠ w + 1 + 13 + 3 * i + 1 → k ≠ w + 1 + 13 + 3 * i + 2 → N22 k = N k := fun k k0 k1 k2 k3 => by rw [up2_n e22 k0, g2 k k1 k2 k3]
      have w22 : N22 w = va_up (N w) 13 (N w 13 + cll air (ld i) (sR s i)) := by rw [up2_at e22, g2 w (by omega) (by omega) (by omega)]
      have R22 : RP N22 (w + 1 + 13 + 3 * i) 12 (coR air (ld i) (sR s i)) := RP_of g1 (up2_n e22 (by omega)) (up2_n e22 (by omega)) (up2_n e22 (by omega))
      refine ok_nbd (ok_Plugs_least (by omega) R22 k1) (fun r24 N25 g25 => ?_)
      obtain ⟨rfl, rfl⟩ := g25
      have hm := mnL_le (coR air (ld i) (sR s i)) 10000 (by omega) (by omega) k1
      have W22 : WS N25 w cnt (va_up (sR s) i (coR air (ld i) (sR s i))) := fun q hq => by
        by_cases e : q = i
        · subst e
          rw [va_up_self]
          exact R22
        · rw [va_up_ne _ _ e]
          exact RP_of (W1 q hq) (z22 _ (by omega) (by omega) (by omega) (by omega)) (z22 _ (by omega) (by omega) (by omega) (by omega)) (z22 _ (by omega) (by omega) (by omega) (by omega))
      have F22 : FS w N N25 := ⟨fun k hk => z22 k (by omega) (by omega) (by omega) (by omega), by rw [w22, va_up_ne _ _ (by decide)], by rw [w22, va_up_ne _ _ (by decide)], by rw [w22, va_up_ne _ _ (by decide)]⟩
      have hgo : ∀ N9 : nS, CW N9 w cnt (coP air (ld i) i s) → FS w N N9 → Ok (m_Water_endMinute_47 w nn f ((i : Int) + 1) N9) (fun _ N' => CW N' w cnt (coS air ld (n + 1) i s) ∧ OKR (sR (coS air ld (n + 1) i s)) cnt vol ∧ FS w N N') := fun N9 q1 q2 => by
        rw [show (i : Int) + 1 = ((i + 1 : Nat) : Int) by omega]
        exact ok_mono (ih n (i + 1) N9 (coP air (ld i) i s) (by omega) (by omega) (NT_of hN (fun k _ _ => q2.1 k (by omega))) q1 (coP_ok hl.1 ha hok) (q2.2.2.2.trans h10)) (fun q N' g => ⟨g.1, g.2.1, FS_tr q2 g.2.2⟩)
      have hb : ∀ T : Nat → Int, (if mnL 10000 (coR air (ld i) (sR s i)) < 2500 then sT s else if 4500 < mnL 10000 (coR air (ld i) (sR s i)) then sT s else va_up (sT s) i (sT s i + 1)) = T → ∀ N9 : nS, (∀ k, k ≠ w + 13 → N9 k = N25 k) → (∀ q, N9 (w + 13) q = T q) → CW N9 w cnt (coP air (ld i) i s) := fun T hT N9 q1 q2 => by
        refine ⟨WS_of W22 hc (fun k _ _ => q1 k (by omega)), ?_, ?_, ?_, fun q => ?_, fun q => ?_⟩
        · rw [q1 w (by omega), w22, va_up_ne _ _ (by decide), W2]; rfl
        · rw [q1 w (by omega), w22, va_up_ne _ _ (by decide), W3]; rfl
        · rw [q1 w (by omega), w22, va_up_self, W4]; rfl
        · rw [q1 (w + 12) (by omega), z22 (w + 12) (by omega) (by omega) (by omega) (by omega), W5 q]; rfl
        · rw [q2 q]
          show T q = (if mnL 10000 (coR air (ld i) (sR s i)) < 2500 then sT s else if 4500 < mnL 10000 (coR air (ld i) (sR s i)) then sT s else va_up (sT s) i (sT s i + 1)) q
          rw [hT]
      have t13 : ∀ q, N25 (w + 13) q = sT s q := fun q => by rw [z22 (w + 13) (by omega) (by omega) (by omega) (by omega), W6 q]
      refine ok_ck ⟨by omega, by omega⟩ ?_
      refine ok_if (fun c2 => ?_) (fun c2 => ?_)
      · refine ok_ck ⟨by omega, by omega⟩ ?_
        exact hgo N25 (hb (sT s) (if_pos c2) N25 (fun _ _ => rfl) t13) F22
      · refine ok_if (fun c3 => ?_) (fun c3 => ?_)
        · refine ok_ck ⟨by omega, by omega⟩ ?_
          exact hgo N25 (hb (sT s) (by rw [if_neg c2, if_pos c3]) N25 (fun _ _ => rfl) t13) F22
        · refine ok_nlt (fun N32 e32 => ?_)
          refine ok_ck ⟨by omega, by omega⟩ ?_
          refine hgo N32 (hb (va_up (sT s) i (sT s i + 1)) (by rw [if_neg c2, if_neg c3]) N32 (fun k hk => up2_n e32 hk) (fun q => ?_)) (FS_tr F22 ⟨fun k hk => up2_n e32 (by omega), by rw [up2_n e32 (by omega)], by rw [up2_n e32 (by omega)], by rw [up2_n e32 (by omega)]⟩)
          rw [up2_at e32, t13 i]
          by_cases e : q = i
          · subst e; rw [va_up_self, va_up_self]
          · rw [va_up_ne _ _ e, va_up_ne _ _ e, t13 q]
/-- the end of a minute -/
def emS (fr vol ld lp : Nat → Int) (cnt : Nat) (h air mi : Int) (s : St) : St := coS air ld cnt 0 (loS fr vol lp h mi cnt 0 s)
theorem ok_endMinute {w nn cnt : Nat} {fr vol ld lp : Nat → Int} {h air mi : Int} {N : nS} {s : St} (hP : PN cnt fr vol ld lp) (hnw : nn + 5 < w) (hh : 0 ≤ h ∧ h ≤ 10000) (ha : 0 ≤ air ∧ air ≤ 10000) (hN : NT N nn cnt fr vol ld lp) (hW : CW N w cnt s) (hok : OKR (sR s) cnt vol) (h8 : N w 8 = mi) (h9 : N w 9 = h) (h10 : N w 10 = air) :
    Ok (m_Water_endMinute w nn N) (fun _ N' => CW N' w cnt (emS fr vol ld lp cnt h air mi s) ∧ OKR (sR (emS fr vol ld lp cnt h air mi s)) cnt vol ∧ (∀ k, k < w ∨ w + 44 ≤ k → N' k = N k) ∧ N' w 8 = mi + 1 ∧ N' w 9 = h ∧ N' w 10 = air) := by
  have hc := hP.1
  rw [m_Water_endMinute]
  refine ok_nbd (ok_em2 hP hnw hh FU cnt 0 N s (by show cnt < 200; omega) (by omega) hN hW hok h9 h8) (fun q N12 g => ?_)
  obtain ⟨g1, g2, g3⟩ := g
  refine ok_nbd (ok_em47 hP hnw ha FU cnt 0 N12 _ (by show cnt < 200; omega) (by omega) (NT_of hN (fun k _ _ => g3.1 k (by omega))) g1 g2 (g3.2.2.2.trans h10)) (fun q N36 g => ?_)
  obtain ⟨k1, k2, k3⟩ := g
  have k4 := FS_tr g3 k3
  refine ok_nlt (fun N38 e38 => ?_)
  have w38 : ∀ j, j ≠ 8 → N38 w j = N36 w j := fun j hj => by rw [up2_at e38, va_up_ne _ _ hj]
  have z : ∀ k, k ≠ w → N38 k = N36 k := fun k hk => up2_n e38 hk
  obtain ⟨W1, W2, W3, W4, W5, W6⟩ := k1
  refine ok_ret ⟨⟨WS_of W1 hc (fun k _ _ => z k (by omega)), ?_, ?_, ?_, fun q => ?_, fun q => ?_⟩, k2, fun k hk => ?_, ?_, ?_, ?_⟩
  · rw [w38 11 (by decide)]; exact W2
  · rw [w38 12 (by decide)]; exact W3
  · rw [w38 13 (by decide)]; exact W4
  · rw [z _ (by omega)]; exact W5 q
  · rw [z _ (by omega)]; exact W6 q
  · rw [z k (by omega)]; exact k4.1 k hk
  · rw [up2_v e38, k4.2.1, h8]
  · rw [w38 9 (by decide), k4.2.2.1, h9]
  · rw [w38 10 (by decide), k4.2.2.2, h10]
