/-! ===== warm ===== -/
def wbN (y : Int) (l : Rw) : Nat → Int → Int × Int
  | 0, a => (0, a)
  | n + 1, a => if (gv l n).2 < y then wbN y l n (a + (gv l n).1) else (1, a)
def wbC (y : Int) (rows : Nat → Rw) : List Nat → Int → Int × Int
  | [], a => (0, a)
  | p :: c, a => if (wbN y (rows p) (rows p).length a).1 = 0 then wbC y rows c (wbN y (rows p) (rows p).length a).2 else (1, (wbN y (rows p) (rows p).length a).2)
theorem wbN_rg {y : Int} {l : Rw} (hw : wl l) (ht : tv l ≤ 1000) : ∀ (n : Nat) (a : Int), n ≤ l.length → a ≤ (wbN y l n a).2 ∧ (wbN y l n a).2 ≤ a + 1000 * n ∧ ((wbN y l n a).1 = 0 ∨ (wbN y l n a).1 = 1) := by
  intro n
  induction n with
  | zero => intro a _; exact ⟨Int.le_refl _, by show a ≤ a + 1000 * ((0 : Nat) : Int); omega, Or.inl rfl⟩
  | succ n ih =>
    intro a hn
    have hm := hw _ (gv_mem (show n < l.length by omega))
    have hb := tv_le hw _ (gv_mem (show n < l.length by omega))
    rw [wbN]
    split
    · have := ih (a + (gv l n).1) (by omega)
      exact ⟨by omega, by omega, this.2.2⟩
    · exact ⟨Int.le_refl _, by omega, Or.inr rfl⟩
theorem wbC_rg {y : Int} {rows : Nat → Rw} {cnt : Nat} {vol : Nat → Int} (hok : OKR rows cnt vol) : ∀ (c : List Nat) (a : Int), (∀ x ∈ c, x < cnt) → a ≤ (wbC y rows c a).2 ∧ (wbC y rows c a).2 ≤ a + 12000 * c.length ∧ ((wbC y rows c a).1 = 0 ∨ (wbC y rows c a).1 = 1) := by
  intro c
  induction c with
  | nil => intro a _; exact ⟨Int.le_refl _, by show a ≤ a + 12000 * ((0 : Nat) : Int); omega, Or.inl rfl⟩
  | cons p c ih =>
    intro a hx
    obtain ⟨o1, o2, o3, o4, o5, o6⟩ := hok p (hx p List.mem_cons_self)
    have hr := wbN_rg (y := y) o1 (by omega) (rows p).length a (Nat.le_refl _)
    rw [wbC, List.length_cons]
    split
    · have := ih (wbN y (rows p) (rows p).length a).2 (fun x hx2 => hx x (List.mem_cons_of_mem _ hx2))
      exact ⟨by omega, by omega, this.2.2⟩
    · exact ⟨hr.1, by show (wbN y (rows p) (rows p).length a).2 ≤ _; omega, Or.inr rfl⟩
theorem ok_vb_42 {w nn o cap : Nat} {x1 y x4 x5 : Int} {l : Rw} (hcap : cap ≤ 100) (hw : wl l) (ht : tv l ≤ 1000) : ∀ (f n : Nat) (a : Int) (N : nS), n < f → n ≤ l.length → RP N o cap l → 0 ≤ a → a + 1000 * n ≤ 1000000 → Ok (m_Water_volumeBefore_42 w nn x1 y x4 x5 o cap f a ((n : Int) - 1) N) (fun q N' => q.1 = (wbN y l n a).1 ∧ ((wbN y l n a).1 = 1 → q.2.1 = (wbN y l n a).2) ∧ ((wbN y l n a).1 = 0 → q.2.2.1 = (wbN y l n a).2) ∧ N' = N) := by
  intro f
  induction f with
  | zero => intro n a N h1; omega
  | succ f ih =>
    intro n a N h1 h2 hr a0 a1
    rw [m_Water_volumeBefore_42]
    have hl := hr.2.1
    refine ok_if (fun c => ?_) (fun c => ?_)
    · have e : n = 0 := by omega
      subst e
      exact ok_ret ⟨rfl, fun q => absurd (show (0 : Int) = 1 from q) (by decide), fun _ => rfl, rfl⟩
    · obtain ⟨n, rfl⟩ : ∃ k, n = k + 1 := ⟨n - 1, by omega⟩
      have hi : n < l.length := by omega
      have gg := hr.2.2 n hi
      rw [Nat.zero_add] at gg
      have hm := hw _ (gv_mem hi)
      have hb := tv_le hw _ (gv_mem hi)
      rw [show ((n + 1 : Nat) : Int) - 1 = (n : Int) by omega]
      refine ok_ck ⟨by omega, by omega⟩ ?_
      rw [Int.toNat_natCast, gg.1, gg.2]
      refine ok_ck ⟨by omega, by omega⟩ ?_
      rw [wbN]
      refine ok_if (fun c2 => ?_) (fun c2 => ?_)
      · rw [if_pos c2]
        refine ok_ck ⟨by omega, by omega⟩ ?_
        refine ok_ck ⟨by omega, by omega⟩ ?_
        rw [show (n : Int) + (-1) = (n : Int) - 1 by omega]
        exact ih n _ N (by omega) (by omega) hr (by omega) (by omega)
      · rw [if_neg c2]
        exact ok_ret ⟨rfl, fun _ => rfl, fun q => absurd (show (1 : Int) = 0 from q) (by decide), rfl⟩
theorem drop_getD {c : List Nat} {i : Nat} (h : i < c.length) : c.drop i = c.getD i 0 :: c.drop (i + 1) := by
  rw [List.drop_eq_getElem_cons h]
  congr 1
  simp [List.getD_eq_getElem?_getD, List.getElem?_eq_getElem h]
theorem getD_mem {c : List Nat} {i : Nat} (h : i < c.length) : c.getD i 0 ∈ c := by
  rw [List.getD_eq_getElem?_getD, List.getElem?_eq_getElem h]
  exact List.getElem_mem _
theorem ok_vb_12 {w nn cnt : Nat} {x1 y : Int} {vol : Nat → Int} {rows : Nat → Rw} (hc : cnt ≤ 10) (hok : OKR rows cnt vol) (c : List Nat) (hcl : c.length ≤ 10) (hx : ∀ x ∈ c, x < cnt) : ∀ (f i : Nat) (a : Int) (N : nS), c.length < f + i → i ≤ c.length → (∀ j, j < c.length → N (w + 11) j = ((c.getD j 0 : Nat) : Int)) → WS N w cnt rows → 0 ≤ a → a ≤ 12000 * i → Ok (m_Water_volumeBefore_12 w nn x1 y (c.length : Int) f a (i : Int) N) (fun q N' => q.1 = (wbC y rows (c.drop i) a).1 ∧ ((wbC y rows (c.drop i) a).1 = 1 → q.2.1 = (wbC y rows (c.drop i) a).2) ∧ ((wbC y rows (c.drop i) a).1 = 0 → q.2.2.1 = (wbC y rows (c.drop i) a).2) ∧ N' = N) := by
  intro f
  induction f with
  | zero => intro i a N h1 h2; exact absurd h1 (by omega)
  | succ f ih =>
    intro i a N h1 h2 hway hW a0 a1
    rw [m_Water_volumeBefore_12]
    refine ok_if (fun c1 => ?_) (fun c1 => ?_)
    · have e : i = c.length := by omega
      subst e
      rw [List.drop_length]
      exact ok_ret ⟨rfl, fun q => absurd (show (0 : Int) = 1 from q) (by decide), fun _ => rfl, rfl⟩
    · have hi : i < c.length := by omega
      have hm := hx _ (getD_mem hi)
      rw [drop_getD hi]
      refine ok_ck ⟨by omega, by omega⟩ ?_
      rw [Int.toNat_natCast, hway i hi]
      generalize c.getD i 0 = p at hm
      obtain ⟨o1, o2, o3, o4, o5, o6⟩ := hok p hm
      have hr := hW p hm
      refine ok_ck ⟨by omega, by omega⟩ ?_
      rw [Int.toNat_natCast, hr.1]
      refine ok_ck ⟨by omega, by omega⟩ ?_
      refine ok_nbd (ok_vb_42 (by omega) o1 (by omega) FU (rows p).length a N (by show _ < 200; omega) (Nat.le_refl _) hr a0 (by omega)) (fun q N' g => ?_)
      obtain ⟨g1, g2, g3, rfl⟩ := g
      have rr := wbN_rg (y := y) o1 (by omega) (rows p).length a (Nat.le_refl _)
      rw [wbC]
      refine ok_if (fun c2 => ?_) (fun c2 => ?_)
      · have e0 : (wbN y (rows p) (rows p).length a).1 = 0 := g1.symm.trans c2
        rw [if_pos e0, g3 e0]
        refine ok_ck ⟨by omega, by omega⟩ ?_
        refine ok_ck ⟨by omega, by omega⟩ ?_
        rw [show (i : Int) + 1 = ((i + 1 : Nat) : Int) by omega]
        exact ih (i + 1) _ N' (by omega) (by omega) hway hW (by omega) (by omega)
      · have e1 : (wbN y (rows p) (rows p).length a).1 = 1 := by rcases rr.2.2 with e | e; exact absurd (g1.trans e) c2; exact e
        rw [if_neg (by omega)]
        exact ok_ret ⟨rfl, fun _ => g2 e1, fun q => absurd (show (1 : Int) = 0 from q) (by decide), rfl⟩
theorem ok_warm_59 {k p : Nat} {x1 y : Int} {l : Rw} (hp : p < 10) (hw : wl l) (ht : tv l ≤ 1000) : ∀ (f n : Nat) (a : Int) (N : nS), n < f → n ≤ l.length → RR N k p l → 0 ≤ a → a + 1000 * n ≤ 1000000 → Ok (m_Mo_warm_59 k x1 y (p : Int) f a ((n : Int) - 1) N) (fun q N' => q.1 = (wbN y l n a).1 ∧ ((wbN y l n a).1 = 1 → q.2.1 = (wbN y l n a).2) ∧ ((wbN y l n a).1 = 0 → q.2.2.1 = (wbN y l n a).2) ∧ N' = N) := by
  intro f
  induction f with
  | zero => intro n a N h1; omega
  | succ f ih =>
    intro n a N h1 h2 hr a0 a1
    rw [m_Mo_warm_59]
    have hl := hr.2.1
    refine ok_if (fun c => ?_) (fun c => ?_)
    · have e : n = 0 := by omega
      subst e
      exact ok_ret ⟨rfl, fun q => absurd (show (0 : Int) = 1 from q) (by decide), fun _ => rfl, rfl⟩
    · obtain ⟨n, rfl⟩ : ∃ k, n = k + 1 := ⟨n - 1, by omega⟩
      have hi : n < l.length := by omega
      have gg := hr.2.2 n hi
      have hm := hw _ (gv_mem hi)
      have hb := tv_le hw _ (gv_mem hi)
      rw [show ((n + 1 : Nat) : Int) - 1 = (n : Int) by omega]
      refine ok_ck ⟨by omega, by omega⟩ ?_
      rw [show Int.toNat (12 * (p : Int) + (n : Int)) = 12 * p + n by omega, gg.1, gg.2]
      refine ok_ck ⟨by omega, by omega⟩ ?_
      rw [wbN]
      refine ok_if (fun c2 => ?_) (fun c2 => ?_)
      · rw [if_pos c2]
        refine ok_ck ⟨by omega, by omega⟩ ?_
        refine ok_ck ⟨by omega, by omega⟩ ?_
        rw [show (n : Int) + (-1) = (n : Int) - 1 by omega]
        exact ih n _ N (by omega) (by omega) hr (by omega) (by omega)
      · rw [if_neg c2]
        exact ok_ret ⟨rfl, fun _ => rfl, fun q => absurd (show (1 : Int) = 0 from q) (by decide), rfl⟩
theorem ok_warm_42 {k cnt : Nat} {x1 y : Int} {fr vol : Nat → Int} {rows : Nat → Rw} (hf : frw fr cnt) (hc : cnt ≤ 10) (hok : OKR rows cnt vol) : ∀ (f gg : Nat) (b a : Int) (N : nS), (ch fr gg b).length < f → b < (gg : Int) → -1 ≤ b → b < (cnt : Int) → (∀ p, p < cnt → N (k + 1) p = fr p) → RS N k cnt rows → 0 ≤ a → a + 12000 * gg ≤ 200000 → Ok (m_Mo_warm_42 k x1 y f a b N) (fun q N' => q.1 = (wbC y rows (ch fr gg b) a).1 ∧ ((wbC y rows (ch fr gg b) a).1 = 1 → q.2.1 = (wbC y rows (ch fr gg b) a).2) ∧ ((wbC y rows (ch fr gg b) a).1 = 0 → q.2.2.1 = (wbC y rows (ch fr gg b) a).2) ∧ N' = N) := by
  intro f
  induction f with
  | zero => intro gg b a N h1; exact absurd h1 (Nat.not_lt_zero _)
  | succ f ih =>
    intro gg b a N h1 h2 h3 h4 hfr hW a0 a1
    rw [m_Mo_warm_42]
    refine ok_if (fun c1 => ?_) (fun c1 => ?_)
    · rw [ch_neg (by omega)]
      exact ok_ret ⟨rfl, fun q => absurd (show (0 : Int) = 1 from q) (by decide), fun _ => rfl, rfl⟩
    · obtain ⟨gg, rfl⟩ : ∃ g', gg = g' + 1 := ⟨gg - 1, by omega⟩
      obtain ⟨p, rfl⟩ : ∃ p : Nat, b = (p : Int) := ⟨b.toNat, by omega⟩
      have e := ch_pos (fr := fr) (f := gg) (a := (p : Int)) (by omega)
      rw [Int.toNat_natCast] at e
      rw [e] at h1 ⊢
      rw [List.length_cons] at h1
      have hp : p < cnt := by omega
      have hq := hf p hp
      obtain ⟨o1, o2, o3, o4, o5, o6⟩ := hok p hp
      have hr := hW p hp
      refine ok_ck ⟨by omega, by omega⟩ ?_
      rw [Int.toNat_natCast, hr.1]
      refine ok_ck ⟨by omega, by omega⟩ ?_
      refine ok_nbd (ok_warm_59 (by omega) o1 (by omega) FU (rows p).length a N (by show _ < 200; omega) (Nat.le_refl _) hr a0 (by omega)) (fun q N' g => ?_)
      obtain ⟨g1, g2, g3, rfl⟩ := g
      have rr := wbN_rg (y := y) o1 (by omega) (rows p).length a (Nat.le_refl _)
      rw [wbC]
      refine ok_if (fun c2 => ?_) (fun c2 => ?_)
      · have e0 : (wbN y (rows p) (rows p).length a).1 = 0 := g1.symm.trans c2
        rw [if_pos e0, g3 e0, hfr p hp]
        refine ok_ck ⟨by omega, by omega⟩ ?_
        refine ok_ck ⟨by omega, by omega⟩ ?_
        exact ih gg (fr p) _ N' (by omega) (by omega) hq.1 (by omega) hfr hW (by omega) (by omega)
      · have e1 : (wbN y (rows p) (rows p).length a).1 = 1 := by rcases rr.2.2 with e | e; exact absurd (g1.trans e) c2; exact e
        rw [if_neg (by omega)]
        exact ok_ret ⟨rfl, fun _ => g2 e1, fun q => absurd (show (1 : Int) = 0 from q) (by decide), rfl⟩
def aWarm (g : Nat → Nat → Int) (ht : Int) (s : St) (p : Nat) (y : Int) : Int := if (wbC y (sR s) (ch (g 0) 10 (p : Int)) 0).1 = 0 then (if ht < y then -1 else (wbC y (sR s) (ch (g 0) 10 (p : Int)) 0).2) else (wbC y (sR s) (ch (g 0) 10 (p : Int)) 0).2
section
variable {h k a : Nat} {N : nS} {cnt dn : Nat} {g d : Nat → Nat → Int} {mi ht air : Int} {s : St}
theorem both_warm {x y : Int} (ha : h + 103 ≤ a) (hP : PurI cnt g mi ht air s dn d) (HC : ClsI h N cnt g mi ht air s dn d) : Both h k a N (m_Law_warm h x y a N) (fun N3 => m_Mo_warm k x y N3) cnt g mi ht air s dn d := by
  have hc := hP.1.1
  have hf := hP.1.2.1
  have hok := hP.2.2.2.1
  have hht := hP.2.2.2.2.2.1
  by_cases hx : (0 ≤ x ∧ x < (cnt : Int)) ∧ (0 ≤ y ∧ y ≤ 10000)
  · obtain ⟨p, rfl⟩ : ∃ p : Nat, x = (p : Int) := ⟨x.toNat, by omega⟩
    have hp : p < cnt := by omega
    obtain ⟨k1, k2⟩ := ch_ok hf 10 (p : Int) (by omega) (by omega) (by omega)
    have rr := wbC_rg (y := y) hok (ch (g 0) 10 (p : Int)) 0 k1
    have hv : (0 : Int) = 0 → rg (aWarm g ht s p y) := fun _ => by
      unfold aWarm
      repeat' split
      all_goals exact ⟨by omega, by omega⟩
    refine ⟨0, aWarm g ht s p y, cnt, g, mi, ht, air, s, dn, d, Or.inl rfl, hv, hP, wrap1 hc ha hv (Or.inl rfl) ?_, fun N3 H3 => ?_⟩
    · rw [m_HL_warm]
      refine gateP HC.1.1 hc (fun _ => ?_) (fun n => absurd hx.1 n)
      refine gateW (fun _ => ?_) (fun n => absurd hx.2 n)
      have hh : Ok (m_Water_volumeBefore (h + 7) (h + 1) (p : Int) y N) (fun r N' => r = aWarm g ht s p y ∧ ∀ j, j ≠ h + 7 + 11 → N' j = N j) := by
        rw [m_Water_volumeBefore]
        refine ok_nbd (ok_findWay hf hc (by omega) hp HC.1.1 HC.1.2.1) (fun r N2 g2 => ?_)
        obtain ⟨rfl, g3, g4⟩ := g2
        refine ok_ck ⟨by omega, by omega⟩ ?_
        have H2 := WS_of HC.2.2.1.1 hc (N' := N2) (fun i _ _ => g4 i (by omega))
        refine ok_nbd (ok_vb_12 hc hok (ch (g 0) 10 (p : Int)) (by omega) k1 FU 0 0 N2 (by show _ < 200 + 0; omega) (Nat.zero_le _) g3 H2 (by omega) (by omega)) (fun q N' gq => ?_)
        rw [List.drop_zero] at gq
        obtain ⟨q1, q2, q3, rfl⟩ := gq
        rw [g4 (h + 7) (by omega), HC.2.2.2.2.1]
        refine ok_if (fun c1 => ?_) (fun c1 => ?_)
        · have e0 := q1.symm.trans c1
          refine ok_ck ⟨by omega, by omega⟩ ?_
          refine ok_if (fun c2 => ok_ret ⟨by unfold aWarm; rw [if_pos e0, if_pos c2], g4⟩) (fun c2 => ok_ret ⟨by unfold aWarm; rw [if_pos e0, if_neg c2, q3 e0], g4⟩)
        · have e1 : (wbC y (sR s) (ch (g 0) 10 (p : Int)) 0).1 = 1 := by rcases rr.2.2 with e | e; exact absurd (q1.trans e) c1; exact e
          exact ok_ret ⟨by unfold aWarm; rw [if_neg (by omega), q2 e1], g4⟩
      refine ok_nbd hh (fun r N' q => ?_)
      obtain ⟨rfl, q2⟩ := q
      refine ok_ret ⟨rfl, fun _ => rfl, ?_, fun i hi => q2 i (by omega)⟩
      obtain ⟨a1, a2, a3, a4, a5, a6, a7, a8, a9⟩ := HC
      obtain ⟨w1, w2, w3, w4, w5, w6⟩ := a3
      refine ⟨NT_of a1 (fun i _ _ => q2 i (by omega)), fun q hq => ?_, ⟨WS_of w1 hc (fun i _ _ => q2 i (by omega)), ?_, ?_, ?_, fun q => ?_, fun q => ?_⟩, ?_, ?_, ?_, ?_, fun i hi => ?_, fun i hi => ?_⟩
      · rw [q2 _ (by omega), q2 _ (by omega)]; exact a2 q hq
      · rw [q2 _ (by omega)]; exact w2
      · rw [q2 _ (by omega)]; exact w3
      · rw [q2 _ (by omega)]; exact w4
      · rw [q2 _ (by omega)]; exact w5 q
      · rw [q2 _ (by omega)]; exact w6 q
      · rw [q2 _ (by omega)]; exact a4
      · rw [q2 _ (by omega)]; exact a5
      · rw [q2 _ (by omega)]; exact a6
      · rw [q2 _ (by omega)]; exact a7
      · rw [q2 _ (by omega), q2 _ (by omega), q2 _ (by omega)]; exact a8 i hi
      · rw [q2 _ (by omega), q2 _ (by omega), q2 _ (by omega)]; exact a9 i hi
    · show Ok (m_Mo_warm k (p : Int) y N3) _
      rw [m_Mo_warm]
      refine gateM H3.1.1 hc (fun _ => ?_) (fun n => absurd hx.1 n)
      refine gateI (fun _ => ?_) (fun n => absurd hx.2 n)
      refine ok_nlt (fun N17 e17 => ?_)
      have R17 := RefI_thr H3 e17
      have fin : ∀ r : Int, r = aWarm g ht s p y → MoQ k N3 0 (aWarm g ht s p y) cnt g mi ht air s dn d r N17 := fun r hr => ⟨up2_v e17, fun _ => hr, R17, fun i hi => up2_n e17 (by omega)⟩
      refine ok_nbd (ok_warm_42 hf hc hok FU 10 (p : Int) 0 N17 (by show _ < 200; omega) (by omega) (by omega) (by omega) R17.1.2.1 R17.2.2.1.1 (by omega) (by omega)) (fun q N' gq => ?_)
      obtain ⟨q1, q2, q3, rfl⟩ := gq
      rw [R17.2.2.2.2.1]
      refine ok_if (fun c1 => ?_) (fun c1 => ?_)
      · have e0 := q1.symm.trans c1
        refine ok_ck ⟨by omega, by omega⟩ ?_
        refine ok_if (fun c2 => ok_ret (fin _ (by unfold aWarm; rw [if_pos e0, if_pos c2]))) (fun c2 => ok_ret (fin _ (by unfold aWarm; rw [if_pos e0, if_neg c2, q3 e0])))
      · have e1 : (wbC y (sR s) (ch (g 0) 10 (p : Int)) 0).1 = 1 := by rcases rr.2.2 with e | e; exact absurd (q1.trans e) c1; exact e
        exact ok_ret (fin _ (by unfold aWarm; rw [if_neg (by omega), q2 e1]))
  · refine ⟨1, 0, cnt, g, mi, ht, air, s, dn, d, Or.inr (Or.inl rfl), fun q => absurd q (by decide), hP, wrap1 hP.1.1 ha (fun q => absurd q (by decide)) (Or.inr rfl) ?_, fun N3 H3 => ?_⟩
    · rw [m_HL_warm]
      exact gateP HC.1.1 hP.1.1 (fun c => gateW (fun c2 => absurd ⟨c, c2⟩ hx) (fun _ => HQ_bad HC)) (fun _ => HQ_bad HC)
    · show Ok (m_Mo_warm k x y N3) _
      rw [m_Mo_warm]
      exact gateM H3.1.1 hP.1.1 (fun c => gateI (fun c2 => absurd ⟨c, c2⟩ hx) (fun _ N' e => MoQ_bad (by decide) H3 e)) (fun _ N' e => MoQ_bad (by decide) H3 e)
end
