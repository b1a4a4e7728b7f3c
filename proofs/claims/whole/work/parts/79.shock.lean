/-! ===== shock: the trial, as a function ===== -/
abbrev Qs : Type := St × (Nat → Int)
def shQ (g : Nat → Nat → Int) (x1 x2 x4 mi : Int) (i : Nat) (q : Qs) : Qs := if g 4 i = 0 then q else (tkS (g 0) (g 1) x1 mi i x2 q.1, if mnL 10000 (TK (g 0) (g 1) x1 i x2 (sR q.1)).2.1 < x4 then q.2 else va_up q.2 i 0)
def shS (g : Nat → Nat → Int) (x1 x2 x4 mi : Int) : Nat → Nat → Qs → Qs
  | 0, _, q => q
  | n + 1, i, q => shS g x1 x2 x4 mi n (i + 1) (shQ g x1 x2 x4 mi i q)
def shM (g : Nat → Nat → Int) (cnt : Nat) (x1 x2 x4 air mi : Int) (q : Qs) : Qs := (emS (g 0) (g 1) (g 2) (g 3) cnt x1 air mi (shS g x1 x2 x4 mi cnt 0 q).1, (shS g x1 x2 x4 mi cnt 0 q).2)
def shN (g : Nat → Nat → Int) (cnt : Nat) (x1 x2 x4 air dl : Int) : Nat → Int → Qs → Qs
  | 0, _, q => q
  | n + 1, mi, q => shN g cnt x1 x2 x4 air dl n (mi + dl) (shM g cnt x1 x2 x4 air mi q)
/-! what becomes of the rows hangs on the rows alone -/
def Eq2 (q q' : Qs) : Prop := sR q.1 = sR q'.1 ∧ q.2 = q'.2
theorem loS_cg {fr vol lp : Nat → Int} {h mi mi' : Int} : ∀ (n i : Nat) (s s' : St), sR s = sR s' → sR (loS fr vol lp h mi n i s) = sR (loS fr vol lp h mi' n i s') := by
  intro n
  induction n with
  | zero => intro i s s' e; exact e
  | succ n ih =>
    intro i s s' e
    rw [loS, loS]
    refine ih (i + 1) _ _ ?_
    split
    · exact e
    · show (TK fr vol h i (lp i) (sR s)).1 = (TK fr vol h i (lp i) (sR s')).1
      rw [e]
theorem coS_cg {ld : Nat → Int} {air : Int} : ∀ (n i : Nat) (s s' : St), sR s = sR s' → sR (coS air ld n i s) = sR (coS air ld n i s') := by
  intro n
  induction n with
  | zero => intro i s s' e; exact e
  | succ n ih =>
    intro i s s' e
    rw [coS, coS]
    refine ih (i + 1) _ _ ?_
    show va_up (sR s) i (coR air (ld i) (sR s i)) = va_up (sR s') i (coR air (ld i) (sR s' i))
    rw [e]
theorem shS_cg {g : Nat → Nat → Int} {x1 x2 x4 mi mi' : Int} : ∀ (n i : Nat) (q q' : Qs), Eq2 q q' → Eq2 (shS g x1 x2 x4 mi n i q) (shS g x1 x2 x4 mi' n i q') := by
  intro n
  induction n with
  | zero => intro i q q' e; exact e
  | succ n ih =>
    intro i q q' e
    rw [shS, shS]
    refine ih (i + 1) _ _ ?_
    rw [shQ, shQ]
    split
    · exact e
    · refine ⟨?_, ?_⟩
      · show (TK (g 0) (g 1) x1 i x2 (sR q.1)).1 = (TK (g 0) (g 1) x1 i x2 (sR q'.1)).1
        rw [e.1]
      · show (if mnL 10000 (TK (g 0) (g 1) x1 i x2 (sR q.1)).2.1 < x4 then q.2 else va_up q.2 i 0) = (if mnL 10000 (TK (g 0) (g 1) x1 i x2 (sR q'.1)).2.1 < x4 then q'.2 else va_up q'.2 i 0)
        rw [e.1, e.2]
theorem shM_cg {g : Nat → Nat → Int} {cnt : Nat} {x1 x2 x4 air mi mi' : Int} {q q' : Qs} (e : Eq2 q q') : Eq2 (shM g cnt x1 x2 x4 air mi q) (shM g cnt x1 x2 x4 air mi' q') := by
  have := shS_cg (g := g) (x1 := x1) (x2 := x2) (x4 := x4) (mi := mi) (mi' := mi') cnt 0 q q' e
  exact ⟨coS_cg _ _ _ _ (loS_cg _ _ _ _ this.1), this.2⟩
theorem shN_cg {g : Nat → Nat → Int} {cnt : Nat} {x1 x2 x4 air dl dl' : Int} : ∀ (n : Nat) (mi mi' : Int) (q q' : Qs), Eq2 q q' → Eq2 (shN g cnt x1 x2 x4 air dl n mi q) (shN g cnt x1 x2 x4 air dl' n mi' q') := by
  intro n
  induction n with
  | zero => intro mi mi' q q' e; exact e
  | succ n ih => intro mi mi' q q' e; exact ih _ _ _ _ (shM_cg e)
/-! only taps are marked -/
def TpI (g : Nat → Nat → Int) (mk : Nat → Int) : Prop := ∀ i, g 4 i = 0 → mk i = 0
theorem shS_tp {g : Nat → Nat → Int} {x1 x2 x4 mi : Int} : ∀ (n i : Nat) (q : Qs), TpI g q.2 → TpI g (shS g x1 x2 x4 mi n i q).2 := by
  intro n
  induction n with
  | zero => intro i q e; exact e
  | succ n ih =>
    intro i q e
    rw [shS]
    refine ih (i + 1) _ ?_
    rw [shQ]
    split
    · exact e
    · show TpI g (if mnL 10000 (TK (g 0) (g 1) x1 i x2 (sR q.1)).2.1 < x4 then q.2 else va_up q.2 i 0)
      split
      · exact e
      · intro j hj
        by_cases u : j = i
        · subst u; exact va_up_self _ _ _
        · rw [va_up_ne _ _ u]; exact e j hj
theorem shN_tp {g : Nat → Nat → Int} {cnt : Nat} {x1 x2 x4 air dl : Int} : ∀ (n : Nat) (mi : Int) (q : Qs), TpI g q.2 → TpI g (shN g cnt x1 x2 x4 air dl n mi q).2 := by
  intro n
  induction n with
  | zero => intro mi q e; exact e
  | succ n ih => intro mi q e; exact ih _ _ (shS_tp cnt 0 q e)
/-! the marks are 0 or 1 -/
theorem shS_rg {g : Nat → Nat → Int} {x1 x2 x4 mi : Int} : ∀ (n i : Nat) (q : Qs), (∀ j, j < 10 → q.2 j = 0 ∨ q.2 j = 1) → ∀ j, j < 10 → (shS g x1 x2 x4 mi n i q).2 j = 0 ∨ (shS g x1 x2 x4 mi n i q).2 j = 1 := by
  intro n
  induction n with
  | zero => intro i q e; exact e
  | succ n ih =>
    intro i q e
    rw [shS]
    refine ih (i + 1) _ ?_
    rw [shQ]
    split
    · exact e
    · show ∀ j, j < 10 → (if mnL 10000 (TK (g 0) (g 1) x1 i x2 (sR q.1)).2.1 < x4 then q.2 else va_up q.2 i 0) j = 0 ∨ (if mnL 10000 (TK (g 0) (g 1) x1 i x2 (sR q.1)).2.1 < x4 then q.2 else va_up q.2 i 0) j = 1
      split
      · exact e
      · intro j hj
        by_cases u : j = i
        · subst u; exact Or.inl (va_up_self _ _ _)
        · rw [va_up_ne _ _ u]; exact e j hj
theorem shN_rg {g : Nat → Nat → Int} {cnt : Nat} {x1 x2 x4 air dl : Int} (n : Nat) : ∀ (mi : Int) (q : Qs), (∀ j, j < 10 → q.2 j = 0 ∨ q.2 j = 1) → ∀ j, j < 10 → rg ((shN g cnt x1 x2 x4 air dl n mi q).2 j) := by
  induction n with
  | zero => intro mi q e j hj; show rg (q.2 j); rcases e j hj with u | u <;> rw [u] <;> exact ⟨by decide, by decide⟩
  | succ n ih => intro mi q e; exact ih _ _ (shS_rg cnt 0 q e)
section
variable {h k a : Nat} {N : nS} {cnt dn : Nat} {g d : Nat → Nat → Int} {mi ht air : Int} {s : St}
theorem shS_okr {x1 x2 x4 : Int} (hP : PN cnt (g 0) (g 1) (g 2) (g 3)) (h1 : 0 ≤ x1 ∧ x1 ≤ 10000) (h2 : 1 ≤ x2 ∧ x2 ≤ 100) : ∀ (n i : Nat) (q : Qs), i + n ≤ cnt → OKR (sR q.1) cnt (g 1) → OKR (sR (shS g x1 x2 x4 mi n i q).1) cnt (g 1) := by
  intro n
  induction n with
  | zero => intro i q _ e; exact e
  | succ n ih =>
    intro i q hi e
    rw [shS]
    refine ih (i + 1) _ (by omega) ?_
    rw [shQ]
    split
    · exact e
    · exact (TK_ok (p := i) hP.2.1 hP.1 (by omega) e (by omega) h1).1
/-! the class's trial -/
theorem ok_copyFrom_2 {w0 nn w1 nn1 : Nat} {vol : Nat → Int} {rows : Nat → Rw} (hc : cnt ≤ 10) (hnw : nn + 5 < w1) (hw : w1 + 44 ≤ w0) (hok : OKR rows cnt vol) : ∀ (f n i : Nat) (N : nS), n < f → i + n = cnt → N nn 5 = (cnt : Int) → WS N w1 cnt rows → (∀ q, q < i → RP N (w0 + 1 + 13 + 3 * q) 12 (rows q)) → Ok (m_Water_copyFrom_2 w0 nn w1 nn1 f (i : Int) N) (fun _ N' => WS N' w0 cnt rows ∧ ∀ j, j < w0 + 14 ∨ w0 + 44 ≤ j → N' j = N j) := by
  intro f
  induction f with
  | zero => intro n i N h1; omega
  | succ f ih =>
    intro n i N h1 h2 h5 hW hq
    rw [m_Water_copyFrom_2, h5]
    refine ok_ck ⟨by omega, by omega⟩ ?_
    refine ok_if (fun c1 => ok_ret ⟨fun q hq' => hq q (by omega), fun _ _ => rfl⟩) (fun c1 => ?_)
    refine ok_ck ⟨by omega, by omega⟩ ?_
    rw [Int.toNat_natCast]
    obtain ⟨o1, o2, o3, o4, o5, o6⟩ := hok i (by omega)
    refine ok_nbd ok_Plugs_clear (fun r N5 g5 => ?_)
    obtain ⟨g1, g2, _, _⟩ := g5
    refine ok_nbd (ok_Plugs_addAll (by omega) (by omega) (by omega) g1 (RP_F3 (hW i (by omega)) g2 (by omega)) (fun p hp => by cases hp) o1 (by simpa using o4) (by show 0 + tv (rows i) ≤ 100000; omega)) (fun r7 N8 g8 => ?_)
    rw [adds_self o1 o2] at g8
    obtain ⟨k1, k2⟩ := g8
    have kk := F3_tr g2 k2
    refine ok_ck ⟨by omega, by omega⟩ ?_
    rw [show (i : Int) + 1 = ((i + 1 : Nat) : Int) by omega]
    refine ok_mono (ih (n - 1) (i + 1) N8 (by omega) (by omega) (by rw [kk nn (by omega) (by omega) (by omega)]; exact h5) (fun q hq' => RP_F3 (hW q hq') kk (by omega)) (fun q hq' => ?_)) (fun q N' t => ⟨t.1, fun j hj => by rw [t.2 j hj, kk j (by omega) (by omega) (by omega)]⟩)
    by_cases e : q = i
    · subst e; exact k1
    · exact RP_F3 (hq q (by omega)) kk (by omega)
theorem ok_mm_23 {x1 x2 x3 x4 : Int} (hc : cnt ≤ 10) (h4 : ∀ p, p < 10 → g 4 p = 0 ∨ g 4 p = 1) : ∀ (f n i : Nat) (N : nS), n < f → i + n = cnt → N (h + 1) 5 = (cnt : Int) → (∀ p, p < 10 → N (h + 1 + 5) p = g 4 p) → (∀ q, q < i → N (h + 102) q = g 4 q) → Ok (m_HL_markMissed_23 h x1 x2 x3 x4 f (i : Int) N) (fun _ N' => (∀ q, q < cnt → N' (h + 102) q = g 4 q) ∧ ∀ j, j ≠ h + 102 → N' j = N j) := by
  intro f
  induction f with
  | zero => intro n i N h1; omega
  | succ f ih =>
    intro n i N h1 h2 h5 ht hq
    rw [m_HL_markMissed_23, h5]
    refine ok_ck ⟨by omega, by omega⟩ ?_
    refine ok_if (fun c1 => ok_ret ⟨fun q hq' => hq q (by omega), fun _ _ => rfl⟩) (fun c1 => ?_)
    refine ok_ck ⟨by omega, by omega⟩ ?_
    rw [Int.toNat_natCast, ht i (by omega)]
    refine ok_ck (h4 i (by omega)) ?_
    refine ok_nlt (fun N11 e11 => ?_)
    refine ok_ck ⟨by omega, by omega⟩ ?_
    rw [show (i : Int) + 1 = ((i + 1 : Nat) : Int) by omega]
    refine ok_mono (ih (n - 1) (i + 1) N11 (by omega) (by omega) (by rw [up2_n e11 (by omega)]; exact h5) (fun p hp => by rw [up2_n e11 (by omega)]; exact ht p hp) (fun q hq' => ?_)) (fun q N' t => ⟨t.1, fun j hj => by rw [t.2 j hj, up2_n e11 hj]⟩)
    rw [up2_at e11]
    by_cases e : q = i
    · subst e; rw [va_up_self]
    · rw [va_up_ne _ _ e]; exact hq q (by omega)
/-- the trial water of the class -/
def TrI (h : Nat) (N : nS) (cnt : Nat) (g : Nat → Nat → Int) (x1 air mi : Int) (q : Qs) : Prop := NT N (h + 1) cnt (g 0) (g 1) (g 2) (g 3) ∧ (∀ p, p < 10 → N (h + 1 + 5) p = g 4 p) ∧ CW N (h + 51) cnt q.1 ∧ N (h + 51) 8 = mi ∧ N (h + 51) 9 = x1 ∧ N (h + 51) 10 = air ∧ ∀ p, p < cnt → N (h + 102) p = q.2 p
theorem ok_ts_2 {x1 x2 x4 : Int} (hP : PN cnt (g 0) (g 1) (g 2) (g 3)) (h4 : ∀ p, p < 10 → g 4 p = 0 ∨ g 4 p = 1) (h1 : 0 ≤ x1 ∧ x1 ≤ 10000) (h2 : 1 ≤ x2 ∧ x2 ≤ 100) : ∀ (f n i : Nat) (N : nS) (q : Qs), n < f → i + n = cnt → OKR (sR q.1) cnt (g 1) → TrI h N cnt g x1 air mi q → Ok (m_HL_takeShock_2 h x2 x4 f (i : Int) N) (fun _ N' => TrI h N' cnt g x1 air mi (shS g x1 x2 x4 mi n i q) ∧ ∀ j, j < h + 51 ∨ h + 95 ≤ j → j ≠ h + 102 → N' j = N j) := by
  have hc := hP.1
  intro f
  induction f with
  | zero => intro n i N q h1; omega
  | succ f ih =>
    intro n i N q hn hin hok H
    have H' := H
    obtain ⟨a1, a2, a3, a4, a5, a6, a7⟩ := H
    rw [m_HL_takeShock_2, a1.1]
    refine ok_ck ⟨by omega, by omega⟩ ?_
    refine ok_if (fun c1 => ?_) (fun c1 => ?_)
    · have e : n = 0 := by omega
      subst e
      exact ok_ret ⟨H', fun _ _ _ => rfl⟩
    · obtain ⟨n, rfl⟩ : ∃ m, n = m + 1 := ⟨n - 1, by omega⟩
      have b4 := h4 i (by omega)
      refine ok_ck ⟨by omega, by omega⟩ ?_
      rw [Int.toNat_natCast, a2 i (by omega)]
      refine ok_ck ⟨by omega, by omega⟩ ?_
      rw [show (i : Int) + 1 = ((i + 1 : Nat) : Int) by omega, shS, shQ]
      refine ok_if (fun c2 => ?_) (fun c2 => ?_)
      · refine ok_ck ⟨by omega, by omega⟩ ?_
        rw [if_pos c2]
        exact ih n (i + 1) N q (by omega) (by omega) hok H'
      · rw [if_neg c2]
        obtain ⟨t1, t2, t3, t4, t5, t6, t7⟩ := TK_ok (p := i) (v := x2) hP.2.1 hc (by omega) hok (by omega) h1
        have wb := mnL_le _ 10000 (by omega) (by omega) t2
        refine ok_nbd (ok_takeS (w := h + 51) (nn := h + 1) (p := i) (v := x2) hP (by omega) (by omega) a1 a3 hok (by omega) a5 h1 a4) (fun r7 N8 u => ?_)
        obtain ⟨u1, u2, u3⟩ := u
        refine ok_nbd (ok_Plugs_least (by omega) u2 t2) (fun r10 N11 u => ?_)
        obtain ⟨rfl, rfl⟩ := u
        refine ok_ck ⟨by omega, by omega⟩ ?_
        have s3 := u3.1
        have fin : ∀ (mk : Nat → Int) (N9 : nS), (∀ j, j ≠ h + 102 → N9 j = N11 j) → (∀ p, p < cnt → N9 (h + 102) p = mk p) → TrI h N9 cnt g x1 air mi (tkS (g 0) (g 1) x1 mi i x2 q.1, mk) := fun mk N9 v1 v2 => by
          refine ⟨NT_of a1 (fun j _ _ => by rw [v1 j (by omega), s3 j (by omega)]), fun p hp => ?_, CW_of hc u1 (fun j _ _ => v1 j (by omega)), ?_, ?_, ?_, v2⟩
          · rw [v1 _ (by omega), s3 _ (by omega)]; exact a2 p hp
          · rw [v1 _ (by omega), u3.2.1]; exact a4
          · rw [v1 _ (by omega), u3.2.2.1]; exact a5
          · rw [v1 _ (by omega), u3.2.2.2]; exact a6
        refine ok_if (fun c3 => ?_) (fun c3 => ?_)
        · refine ok_ck ⟨by omega, by omega⟩ ?_
          rw [if_pos c3]
          refine ok_mono (ih n (i + 1) N11 (tkS (g 0) (g 1) x1 mi i x2 q.1, q.2) (by omega) (by omega) t1 (fin q.2 N11 (fun _ _ => rfl) (fun p hp => by rw [s3 _ (by omega)]; exact a7 p hp))) (fun r N' t => ⟨t.1, fun j j1 j2 => by rw [t.2 j j1 j2, s3 j (by omega)]⟩)
        · rw [if_neg c3]
          refine ok_nlt (fun N16 e16 => ?_)
          refine ok_ck ⟨by omega, by omega⟩ ?_
          refine ok_mono (ih n (i + 1) N16 (tkS (g 0) (g 1) x1 mi i x2 q.1, va_up q.2 i 0) (by omega) (by omega) t1 (fin (va_up q.2 i 0) N16 (fun j hj => up2_n e16 hj) (fun p hp => ?_))) (fun r N' t => ⟨t.1, fun j j1 j2 => by rw [t.2 j j1 j2, up2_n e16 j2, s3 j (by omega)]⟩)
          rw [up2_at e16]
          by_cases e : p = i
          · subst e; rw [va_up_self, va_up_self]
          · rw [va_up_ne _ _ e, va_up_ne _ _ e, s3 _ (by omega)]; exact a7 p hp
theorem ok_mm_61 {x1 x2 x3 x4 : Int} (hP : PN cnt (g 0) (g 1) (g 2) (g 3)) (h4 : ∀ p, p < 10 → g 4 p = 0 ∨ g 4 p = 1) (h1 : 0 ≤ x1 ∧ x1 ≤ 10000) (h2 : 1 ≤ x2 ∧ x2 ≤ 100) (ha : 0 ≤ air ∧ air ≤ 10000) (h3 : x3 ≤ 30) : ∀ (f n : Nat) (j : Int) (N : nS) (mi : Int) (q : Qs), n < f → 0 ≤ j → j + n = x3 → OKR (sR q.1) cnt (g 1) → TrI h N cnt g x1 air mi q → Ok (m_HL_markMissed_61 h x1 x2 x3 x4 f j N) (fun _ N' => TrI h N' cnt g x1 air (mi + n) (shN g cnt x1 x2 x4 air 1 n mi q) ∧ ∀ j, j < h + 51 ∨ h + 95 ≤ j → j ≠ h + 102 → N' j = N j) := by
  have hc := hP.1
  intro f
  induction f with
  | zero => intro n j N mi q h1; omega
  | succ f ih =>
    intro n j N mi q hn hj hjn hok H
    rw [m_HL_markMissed_61]
    refine ok_if (fun c1 => ?_) (fun c1 => ?_)
    · have e : n = 0 := by omega
      subst e
      refine ok_ret ⟨?_, fun _ _ _ => rfl⟩
      rw [show mi + ((0 : Nat) : Int) = mi by omega]
      exact H
    · obtain ⟨n, rfl⟩ : ∃ m, n = m + 1 := ⟨n - 1, by omega⟩
      rw [m_HL_takeShock]
      refine ok_nbd (R := fun _ N' => TrI h N' cnt g x1 air mi (shS g x1 x2 x4 mi cnt 0 q) ∧ ∀ j, j < h + 51 ∨ h + 95 ≤ j → j ≠ h + 102 → N' j = N j) (ok_nbd (ok_ts_2 hP h4 h1 h2 FU cnt 0 N q (by show cnt < 200; omega) (by omega) hok H) (fun q N' t => ok_ret t)) (fun r18 N19 t => ?_)
      obtain ⟨⟨a1, a2, a3, a4, a5, a6, a7⟩, t2⟩ := t
      refine ok_nbd (ok_endMinute hP (by omega) h1 ha a1 a3 (shS_okr hP h1 h2 cnt 0 q (by omega) hok) a4 a5 a6) (fun r21 N22 u => ?_)
      obtain ⟨q1, q2, q3, q4, q5, q6⟩ := u
      refine ok_ck ⟨by omega, by omega⟩ ?_
      refine ok_mono (ih n (j + 1) N22 (mi + 1) (shM g cnt x1 x2 x4 air mi q) (by omega) (by omega) (by omega) q2 ⟨NT_of a1 (fun i _ _ => q3 i (by omega)), fun p hp => ?_, q1, q4, q5, q6, fun p hp => ?_⟩) (fun r N' t => ⟨?_, fun j j1 j2 => by rw [t.2 j j1 j2, q3 j (by omega), t2 j j1 j2]⟩)
      · rw [q3 _ (by omega)]; exact a2 p hp
      · rw [q3 _ (by omega)]; exact a7 p hp
      · have := t.1
        rw [show mi + 1 + (n : Int) = mi + ((n + 1 : Nat) : Int) by omega] at this
        exact this
theorem cls_shock {x1 x2 x3 x4 x5 : Int} {n : Nat} (h1 : 0 ≤ x1 ∧ x1 ≤ 10000) (h2 : 1 ≤ x2 ∧ x2 ≤ 100) (h3 : 1 ≤ x3 ∧ x3 ≤ 30) (hn : x3 = (n : Int)) (h4 : 0 ≤ x4 ∧ x4 ≤ 10000) (h5 : 0 ≤ x5) (hP : PurI cnt g mi ht air s dn d) (H : ClsI h N cnt g mi ht air s dn d) : Ok (m_HL_shock h x1 x2 x3 x4 x5 N) (HQ h N 0 (nth (shN g cnt x1 x2 x4 air 0 n 0 (s, g 4)).2 x5 cnt 0 0) cnt g mi ht air s dn d) := by
  obtain ⟨p1, p2, p3, p4, p5, p6, p7, _⟩ := hP
  have hc := p1.1
  rw [m_HL_shock]
  refine gateW (fun _ => ?_) (fun n => absurd h1 n)
  refine gateW (fun _ => ?_) (fun n => absurd h2 n)
  refine gateW (fun _ => ?_) (fun n => absurd h3 n)
  refine gateW (fun _ => ?_) (fun n => absurd h4 n)
  refine gateZ (fun _ => ?_) (fun n => absurd h5 n)
  have key : Ok (m_HL_markMissed h x1 x2 x3 x4 N) (fun _ N' => (∀ p, p < cnt → N' (h + 102) p = (shN g cnt x1 x2 x4 air 0 n 0 (s, g 4)).2 p ∧ rg ((shN g cnt x1 x2 x4 air 0 n 0 (s, g 4)).2 p)) ∧ ∀ j, j < h + 51 ∨ h + 95 ≤ j → j ≠ h + 102 → N' j = N j) := by
    obtain ⟨a1, a2, a3, a4, a5, a6, a7, a8, a9⟩ := H
    rw [m_HL_markMissed, m_Water_copyFrom]
    refine ok_nbd (R := fun _ N' => WS N' (h + 51) cnt (sR s) ∧ N' (h + 51) 10 = air ∧ ∀ j, j < h + 51 ∨ h + 95 ≤ j → N' j = N j) (ok_nbd (ok_copyFrom_2 (w0 := h + 51) (w1 := h + 7) (nn := h + 1) (nn1 := h + 1) hc (by omega) (by omega) p4 FU cnt 0 N (by show cnt < 200; omega) (by omega) a1.1 a3.1 (fun q hq => by omega)) (fun q N12 t => ?_)) (fun r1 N2 t => ?_)
    · refine ok_nlt (fun N14 e14 => ok_ret ⟨WS_of t.1 hc (fun i _ _ => up2_n e14 (by omega)), ?_, fun j hj => by rw [up2_n e14 (by omega), t.2 j (by omega)]⟩)
      rw [up2_v e14, t.2 (h + 7) (by omega), a6]
    · obtain ⟨t1, t2, t3⟩ := t
      rw [m_Water_changeHeat]
      obtain ⟨N5, e5⟩ : ∃ N5, N5 = up2 N2 (h + 51) 9 x1 := ⟨_, rfl⟩
      show Ok (nbd (some ((N2 (h + 51) 9), up2 N2 (h + 51) 9 x1)) _) _
      rw [← e5, nbd_sm]
      have z5 : ∀ j, j < h + 51 ∨ h + 95 ≤ j → N5 j = N j := fun j hj => by rw [up2_n e5 (by omega), t3 j hj]
      refine ok_nbd (ok_mm_23 (g := g) (h := h) hc p3 FU cnt 0 N5 (by show cnt < 200; omega) (by omega) (by rw [z5 _ (by omega)]; exact a1.1) (fun p hp => by rw [z5 _ (by omega)]; exact (a2 p hp).2) (fun q hq => by omega)) (fun q14 N15 t => ?_)
      obtain ⟨v1, v2⟩ := t
      have hT : TrI h N15 cnt g x1 air (N15 (h + 51) 8) ((sR s, N15 (h + 51) 11, N15 (h + 51) 12, N15 (h + 51) 13, N15 (h + 51 + 12), N15 (h + 51 + 13)), g 4) := by
        refine ⟨NT_of a1 (fun i _ _ => by rw [v2 i (by omega), z5 i (by omega)]), fun p hp => ?_, ⟨WS_of t1 hc (fun i _ _ => by rw [v2 i (by omega), up2_n e5 (by omega)]), rfl, rfl, rfl, fun _ => rfl, fun _ => rfl⟩, rfl, ?_, ?_, v1⟩
        · rw [v2 _ (by omega), z5 _ (by omega)]; exact (a2 p hp).2
        · rw [v2 _ (by omega), up2_v e5]
        · rw [v2 _ (by omega), up2_at e5, va_up_ne _ _ (by decide), t2]
      refine ok_nbd (ok_mm_61 p1 p3 h1 h2 p7 h3.2 FU n 0 N15 _ _ (by show n < 200; omega) (by omega) (by omega) p4 hT) (fun q25 N26 t => ok_ret ⟨fun p hp => ?_, fun j j1 j2 => by rw [t.2 j j1 j2, v2 j j2, z5 j j1]⟩)
      obtain ⟨⟨b1, b2, b3, b4, b5, b6, b7⟩, _⟩ := t
      have cg := shN_cg (g := g) (cnt := cnt) (x1 := x1) (x2 := x2) (x4 := x4) (air := air) (dl := 1) (dl' := 0) n (N15 (h + 51) 8) 0 ((sR s, N15 (h + 51) 11, N15 (h + 51) 12, N15 (h + 51) 13, N15 (h + 51 + 12), N15 (h + 51 + 13)), g 4) (s, g 4) ⟨rfl, rfl⟩
      have e7 := b7 p hp
      rw [cg.2] at e7
      refine ⟨e7, ?_⟩
      exact shN_rg n 0 (s, g 4) p3 p (by omega)
  refine ok_nbd key (fun r21 N22 t => ?_)
  obtain ⟨t1, t2⟩ := t
  refine ok_nbd (ok_marked (h := h) hc (by rw [t2 _ (by omega) (by omega)]; exact H.1.1) t1) (fun r24 N25 t => ?_)
  obtain ⟨rfl, rfl⟩ := t
  exact ok_ret ⟨rfl, fun _ => rfl, ClsI_of hc H (fun i _ hi => t2 i (by omega) (by omega)), fun i hi => t2 i (by omega) (by omega)⟩
end
