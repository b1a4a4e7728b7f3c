/-! ===== set ===== -/
section
variable {h k a : Nat} {N : nS} {cnt dn : Nat} {g d : Nat → Nat → Int} {mi ht air : Int} {s : St}
def sAir (s : St) (vol : Nat → Int) (A : Int) : St := (fun p => [(vol p, A)], sG s, sO s, sL s, sF s, sT s)
theorem ok_changeAir_19 {w nn : Nat} {vol : Nat → Int} {rows : Nat → Rw} {A x1 x2 : Int} (hc : cnt ≤ 10) (hnw : nn + 5 < w) (hV : ∀ p, p < cnt → 1 ≤ vol p ∧ vol p ≤ 1000) (hA : 0 ≤ A ∧ A ≤ 10000) : ∀ (f n i : Nat) (N : nS), n < f → i + n = cnt → N nn 5 = (cnt : Int) → (∀ p, p < cnt → N (nn + 2) p = vol p) → N w 10 = A → (∀ q, q < cnt → RP N (w + 1 + 13 + 3 * q) 12 (if q < i then [(vol q, A)] else rows q)) → Ok (m_Water_changeAir_19 w nn x1 x2 f (i : Int) N) (fun _ N' => WS N' w cnt (fun q => [(vol q, A)]) ∧ ∀ j, j < w + 14 ∨ w + 44 ≤ j → N' j = N j) := by
  intro f
  induction f with
  | zero => intro n i N h1; omega
  | succ f ih =>
    intro n i N h1 h2 h5 hv h10 hW
    rw [m_Water_changeAir_19, h5]
    refine ok_ck ⟨by omega, by omega⟩ ?_
    refine ok_if (fun c1 => ok_ret ⟨fun q hq => ?_, fun _ _ => rfl⟩) (fun c1 => ?_)
    · have := hW q hq
      rw [if_pos (show q < i by omega)] at this
      exact this
    · refine ok_nbd (ok_fillWithAir (cnt := cnt) (rows := fun q => if q < i then [(vol q, A)] else rows q) (by omega) hc hnw h5 (hv i (by omega)) (hV i (by omega)) h10 hA (fun q hq _ => hW q hq)) (fun r N8 q => ?_)
      obtain ⟨f1, f2⟩ := q
      refine ok_ck ⟨by omega, by omega⟩ ?_
      rw [show (i : Int) + 1 = ((i + 1 : Nat) : Int) by omega]
      refine ok_mono (ih (n - 1) (i + 1) N8 (by omega) (by omega) (by rw [f2 _ (by omega)]; exact h5) (fun p hp => by rw [f2 _ (by omega)]; exact hv p hp) (by rw [f2 _ (by omega)]; exact h10) (fun q hq => ?_)) (fun q N' t => ⟨t.1, fun j hj => by rw [t.2 j hj, f2 j hj]⟩)
      have := f1 q hq
      by_cases e : q = i
      · subst e
        rw [va_up_self] at this
        rw [if_pos (by omega)]
        exact this
      · rw [va_up_ne _ _ e] at this
        by_cases e2 : q < i
        · rw [if_pos e2] at this
          rw [if_pos (by omega)]
          exact this
        · rw [if_neg e2] at this
          rw [if_neg (by omega)]
          exact this
theorem ok_mset_90 {vol : Nat → Int} {rows : Nat → Rw} {A x2 x3 : Int} (hc : cnt ≤ 10) : ∀ (f n i : Nat) (N : nS), n < f → i + n = cnt → N k 1 = (cnt : Int) → N k 9 = 0 → (∀ p, p < cnt → N (k + 2) p = vol p) → N k 8 = A → (∀ q, q < cnt → RR N k q (if q < i then [(vol q, A)] else rows q)) → Ok (m_Mo_set_90 k 1 x2 x3 f (i : Int) N) (fun _ N' => RS N' k cnt (fun q => [(vol q, A)]) ∧ ∀ j, j ≠ k + 6 → j ≠ k + 7 → j ≠ k + 8 → N' j = N j) := by
  intro f
  induction f with
  | zero => intro n i N h1; omega
  | succ f ih =>
    intro n i N h1 h2 h5 h9 hv h8 hW
    rw [m_Mo_set_90, h5, h9]
    refine ok_ck ⟨by omega, by omega⟩ ?_
    refine ok_if (fun c1 => ok_ret ⟨fun q hq => ?_, fun _ _ _ _ => rfl⟩) (fun c1 => ?_)
    · have := hW q hq
      rw [if_pos (show q < i by omega)] at this
      exact this
    · refine ok_t rfl ?_
      refine ok_ck ⟨by omega, by omega⟩ ?_
      refine ok_t rfl ?_
      refine ok_nbd (ok_mfill (by omega) (hv i (by omega)) h8) (fun r N8 q => ?_)
      obtain ⟨f1, f2, f3⟩ := q
      refine ok_ck ⟨by omega, by omega⟩ ?_
      rw [show (i : Int) + 1 = ((i + 1 : Nat) : Int) by omega]
      have fk := f3 k (by omega) (by omega) (by omega)
      refine ok_mono (ih (n - 1) (i + 1) N8 (by omega) (by omega) (by rw [fk]; exact h5) (by rw [fk]; exact h9) (fun p hp => by rw [f3 _ (by omega) (by omega) (by omega)]; exact hv p hp) (by rw [fk]; exact h8) (fun q hq => ?_)) (fun q N' t => ⟨t.1, fun j j1 j2 j3 => by rw [t.2 j j1 j2 j3, f3 j j1 j2 j3]⟩)
      by_cases e : q = i
      · subst e
        rw [if_pos (by omega)]
        exact f1
      · have := f2 q _ e (hW q hq)
        by_cases e2 : q < i
        · rw [if_pos e2] at this
          rw [if_pos (by omega)]
          exact this
        · rw [if_neg e2] at this
          rw [if_neg (by omega)]
          exact this
theorem ok_mset_90e {x1 x2 x3 : Int} (hc : cnt ≤ 10) (h1 : N k 1 = (cnt : Int)) (h9 : rg (N k 9)) (hx : ¬ (x1 = 1 ∧ N k 9 = 0)) : Ok (m_Mo_set_90 k x1 x2 x3 FU 0 N) (fun _ N' => N' = N) := by
  show Ok (m_Mo_set_90 k x1 x2 x3 (199 + 1) 0 N) _
  rw [m_Mo_set_90, h1]
  refine ok_ck ⟨by omega, by omega⟩ ?_
  refine ok_if (fun _ => ok_ret rfl) (fun _ => ?_)
  refine ok_if (fun c => ?_) (fun _ => ok_ret rfl)
  refine ok_ck h9 ?_
  exact ok_f (fun q => hx ⟨c, q⟩) (ok_ret rfl)
theorem cls_set0 {y : Int} (hy : 0 ≤ y ∧ y ≤ 10000) (hP : PurI cnt g mi ht air s dn d) (H : ClsI h N cnt g mi ht air s dn d) : Ok (m_HL_set h 0 y N) (HQ h N 0 ht cnt g mi y air s dn d) := by
  have hc := hP.1.1
  obtain ⟨a1, a2, a3, a4, a5, a6, a7, a8, a9⟩ := H
  rw [m_HL_set]
  refine gateW (fun _ => ?_) (fun n => absurd ⟨by omega, by omega⟩ n)
  refine gateW (fun _ => ?_) (fun n => absurd hy n)
  refine ok_t rfl ?_
  rw [m_Water_changeHeat, a5]
  obtain ⟨N', e⟩ : ∃ N', N' = up2 N (h + 7) 9 y := ⟨_, rfl⟩
  show Ok (some ((0, ht), up2 N (h + 7) 9 y)) _
  rw [← e]
  have st : ∀ i, i ≠ h + 7 → N' i = N i := fun i hi => up2_n e hi
  have sk : ∀ j, j ≠ 9 → N' (h + 7) j = N (h + 7) j := fun j hj => by rw [up2_at e, va_up_ne _ _ hj]
  obtain ⟨c1, c2, c3, c4, c5, c6⟩ := a3
  refine ok_ret ⟨rfl, fun _ => rfl, ⟨NT_of a1 (fun i _ _ => st i (by omega)), fun q hq => ?_, ⟨WS_of c1 hc (fun i _ _ => st i (by omega)), ?_, ?_, ?_, fun q => ?_, fun q => ?_⟩, ?_, ?_, ?_, ?_, fun i hi => ?_, fun i hi => ?_⟩, fun i hi => st i (by omega)⟩
  · rw [st _ (by omega), st _ (by omega)]; exact a2 q hq
  · rw [sk _ (by decide)]; exact c2
  · rw [sk _ (by decide)]; exact c3
  · rw [sk _ (by decide)]; exact c4
  · rw [st _ (by omega)]; exact c5 q
  · rw [st _ (by omega)]; exact c6 q
  · rw [sk _ (by decide)]; exact a4
  · exact up2_v e
  · rw [sk _ (by decide)]; exact a6
  · rw [st _ (by omega)]; exact a7
  · rw [st _ (by omega), st _ (by omega), st _ (by omega)]; exact a8 i hi
  · rw [st _ (by omega), st _ (by omega), st _ (by omega)]; exact a9 i hi
def sSet (s : St) (vol : Nat → Int) (mi A : Int) : St := if mi = 0 then sAir s vol A else s
theorem cls_set1 {y : Int} (hy : 0 ≤ y ∧ y ≤ 10000) (hP : PurI cnt g mi ht air s dn d) (H : ClsI h N cnt g mi ht air s dn d) : Ok (m_HL_set h 1 y N) (HQ h N 0 air cnt g mi ht y (sSet s (g 1) mi y) dn d) := by
  have hc := hP.1.1
  have hmi := hP.2.2.2.2.1
  have hair := hP.2.2.2.2.2.2.1
  have hvo := hP.1.2.2.1
  obtain ⟨a1, a2, a3, a4, a5, a6, a7, a8, a9⟩ := H
  rw [m_HL_set]
  refine gateW (fun _ => ?_) (fun n => absurd ⟨by omega, by omega⟩ n)
  refine gateW (fun _ => ?_) (fun n => absurd hy n)
  refine ok_f (by decide) ?_
  obtain ⟨c1, c2, c3, c4, c5, c6⟩ := a3
  have key : Ok (m_Water_changeAir (h + 7) (h + 1) y N) (fun r N' => r = air ∧ WS N' (h + 7) cnt (sR (sSet s (g 1) mi y)) ∧ N' (h + 7) = va_up (N (h + 7)) 10 y ∧ ∀ i, i ≠ h + 7 → i < h + 21 ∨ h + 51 ≤ i → N' i = N i) := by
    rw [m_Water_changeAir, a6]
    refine ok_nlt (fun N1 e1 => ?_)
    have n8 : N1 (h + 7) 8 = mi := by rw [up2_at e1, va_up_ne _ _ (by decide), a4]
    rw [n8]
    refine ok_ck ⟨by omega, by omega⟩ ?_
    refine ok_if (fun cm => ?_) (fun cm => ?_)
    · refine ok_ck ⟨by omega, by omega⟩ ?_
      refine ok_nbd (ok_changeAir_19 (nn := h + 1) (vol := g 1) (rows := sR s) hc (by omega) hvo hy FU cnt 0 N1 (by show cnt < 200; omega) (by omega) (by rw [up2_n e1 (by omega)]; exact a1.1) (fun p hp => by rw [up2_n e1 (by omega)]; exact a1.2.2.1 p hp) (up2_v e1) (fun q hq => by rw [if_neg (by omega)]; exact WS_of c1 hc (fun i _ _ => up2_n e1 (by omega)) q hq)) (fun r N' t => ok_ret ⟨rfl, ?_, ?_, fun i i1 i2 => ?_⟩)
      · rw [sSet, if_pos cm]; exact t.1
      · rw [t.2 _ (by omega), up2_at e1]
      · rw [t.2 _ (by omega), up2_n e1 i1]
    · refine ok_ret ⟨rfl, ?_, up2_at e1, fun i i1 i2 => up2_n e1 i1⟩
      rw [sSet, if_neg cm]
      exact WS_of c1 hc (fun i _ _ => up2_n e1 (by omega))
  refine ok_nbd key (fun r N' t => ?_)
  obtain ⟨rfl, t1, t2, st⟩ := t
  have sk : ∀ j, j ≠ 10 → N' (h + 7) j = N (h + 7) j := fun j hj => by rw [t2, va_up_ne _ _ hj]
  have sr : ∀ s1 : St, s1 = sSet s (g 1) mi y → sG s1 = sG s ∧ sO s1 = sO s ∧ sL s1 = sL s ∧ sF s1 = sF s ∧ sT s1 = sT s := fun s1 e => by
    rw [e, sSet]
    split <;> exact ⟨rfl, rfl, rfl, rfl, rfl⟩
  obtain ⟨r1, r2, r3, r4, r5⟩ := sr _ rfl
  refine ok_ret ⟨rfl, fun _ => rfl, ⟨NT_of a1 (fun i _ _ => st i (by omega) (by omega)), fun q hq => ?_, ⟨t1, ?_, ?_, ?_, fun q => ?_, fun q => ?_⟩, ?_, ?_, ?_, ?_, fun i hi => ?_, fun i hi => ?_⟩, fun i hi => st i (by omega) (by omega)⟩
  · rw [st _ (by omega) (by omega), st _ (by omega) (by omega)]; exact a2 q hq
  · rw [sk _ (by decide), r1]; exact c2
  · rw [sk _ (by decide), r2]; exact c3
  · rw [sk _ (by decide), r3]; exact c4
  · rw [st _ (by omega) (by omega), r4]; exact c5 q
  · rw [st _ (by omega) (by omega), r5]; exact c6 q
  · rw [sk _ (by decide)]; exact a4
  · rw [sk _ (by decide)]; exact a5
  · rw [t2, va_up_self]
  · rw [st _ (by omega) (by omega)]; exact a7
  · rw [st _ (by omega) (by omega), st _ (by omega) (by omega), st _ (by omega) (by omega)]; exact a8 i hi
  · rw [st _ (by omega) (by omega), st _ (by omega) (by omega), st _ (by omega) (by omega)]; exact a9 i hi
theorem ref_set0 {y : Int} (hy : 0 ≤ y ∧ y ≤ 10000) (hP : PurI cnt g mi ht air s dn d) (H : RefI k N cnt g mi ht air s dn d) : Ok (m_Mo_set k 0 y N) (MoQ k N 0 ht cnt g mi y air s dn d) := by
  have hc := hP.1.1
  have hmi := hP.2.2.2.2.1
  have hht := hP.2.2.2.2.2.1
  have a1 := H.1
  have a4 := H.2.2.2.1
  have a5 := H.2.2.2.2.1
  rw [m_Mo_set]
  refine gateI (fun _ => ?_) (fun n => absurd ⟨by omega, by omega⟩ n)
  refine gateI (fun _ => ?_) (fun n => absurd hy n)
  refine ok_nlt (fun N17 e17 => ?_)
  refine ok_t rfl ?_
  refine ok_nlt (fun N47 e47 => ?_)
  refine ok_f (by decide) ?_
  refine ok_nlt (fun N' e => ?_)
  have n7 : N17 k 7 = ht := by rw [up2_at e17, va_up_ne _ _ (by decide), a5]
  rw [n7]
  refine ok_ck ⟨by omega, by omega⟩ ?_
  have st : ∀ i, i ≠ k → N' i = N i := fun i hi => by rw [up2_n e hi, up2_n e47 hi, up2_n e17 hi]
  have n8 : N' k 8 = N47 k 8 := up2_v e
  have sj : ∀ j, N' k j = N47 k j := fun j => by
    by_cases q : j = 8
    · subst q; exact n8
    · rw [up2_at e, va_up_ne _ _ q]
  have sk : ∀ j, j ≠ 0 → j ≠ 7 → N' k j = N k j := fun j j0 j7 => by rw [sj, up2_at e47, va_up_ne _ _ j7, up2_at e17, va_up_ne _ _ j0]
  refine ok_nbd (ok_mset_90e hc (by rw [sk 1 (by decide) (by decide)]; exact a1.1) (by rw [sk 9 (by decide) (by decide), a4]; exact ⟨by omega, by omega⟩) (fun q => absurd q.1 (by decide))) (fun r N2 t => ?_)
  subst t
  obtain ⟨a1, a2, a3, a4, a5, a6, a7, a8, a9⟩ := H
  refine ok_ret ⟨?_, fun _ => rfl, ⟨NR_of a1 (sk 1 (by decide) (by decide)) (fun i _ _ => st i (by omega)), fun q hq => ?_, CR_of a3 (fun i _ _ => st i (by omega)) (fun j hj => sk j (by omega) (by omega)), ?_, ?_, ?_, ?_, fun i hi => ?_, fun i hi => ?_⟩, fun i hi => st i (by omega)⟩
  · rw [sj, up2_at e47, va_up_ne _ _ (by decide), up2_v e17]
  · rw [st _ (by omega), st _ (by omega)]; exact a2 q hq
  · rw [sk _ (by decide) (by decide)]; exact a4
  · rw [sj, up2_v e47]
  · rw [sk _ (by decide) (by decide)]; exact a6
  · rw [sk _ (by decide) (by decide)]; exact a7
  · rw [st _ (by omega), st _ (by omega), st _ (by omega)]; exact a8 i hi
  · rw [st _ (by omega), st _ (by omega), st _ (by omega)]; exact a9 i hi
theorem ref_set1 {y : Int} (hy : 0 ≤ y ∧ y ≤ 10000) (hP : PurI cnt g mi ht air s dn d) (H : RefI k N cnt g mi ht air s dn d) : Ok (m_Mo_set k 1 y N) (MoQ k N 0 air cnt g mi ht y (sSet s (g 1) mi y) dn d) := by
  have hc := hP.1.1
  have hmi := hP.2.2.2.2.1
  have hair := hP.2.2.2.2.2.2.1
  obtain ⟨a1, a2, a3, a4, a5, a6, a7, a8, a9⟩ := H
  obtain ⟨c1, c2, c3, c4, c5, c6⟩ := a3
  rw [m_Mo_set]
  refine gateI (fun _ => ?_) (fun n => absurd ⟨by omega, by omega⟩ n)
  refine gateI (fun _ => ?_) (fun n => absurd hy n)
  refine ok_nlt (fun N17 e17 => ?_)
  refine ok_f (by decide) ?_
  refine ok_nlt (fun N22 e22 => ?_)
  refine ok_t rfl ?_
  refine ok_nlt (fun N' e => ?_)
  have n8 : N17 k 8 = air := by rw [up2_at e17, va_up_ne _ _ (by decide), a6]
  rw [n8]
  refine ok_ck ⟨by omega, by omega⟩ ?_
  have st : ∀ i, i ≠ k → N' i = N i := fun i hi => by rw [up2_n e hi, up2_n e22 hi, up2_n e17 hi]
  have sj : ∀ j, N22 k j = N17 k j := fun j => by
    by_cases q : j = 7
    · subst q; exact up2_v e22
    · rw [up2_at e22, va_up_ne _ _ q]
  have sk : ∀ j, j ≠ 0 → j ≠ 8 → N' k j = N k j := fun j j0 j8 => by rw [up2_at e, va_up_ne _ _ j8, sj, up2_at e17, va_up_ne _ _ j0]
  have k0 : N' k 0 = 0 := by rw [up2_at e, va_up_ne _ _ (by decide), sj, up2_v e17]
  have key : Ok (m_Mo_set_90 k 1 y air FU 0 N') (fun _ N2 => RS N2 k cnt (sR (sSet s (g 1) mi y)) ∧ ∀ j, j ≠ k + 6 → j ≠ k + 7 → j ≠ k + 8 → N2 j = N' j) := by
    by_cases cm : mi = 0
    · rw [sSet, if_pos cm]
      exact ok_mset_90 (vol := g 1) (rows := sR s) (A := y) hc FU cnt 0 N' (by show cnt < 200; omega) (by omega) (by rw [sk 1 (by decide) (by decide)]; exact a1.1) (by rw [sk 9 (by decide) (by decide), a4]; exact cm) (fun p hp => by rw [st _ (by omega)]; exact a1.2.2.1 p hp) (up2_v e) (fun q hq => by rw [if_neg (by omega)]; exact RR_of (c1 q hq) (st _ (by omega)) (st _ (by omega)) (st _ (by omega)))
    · rw [sSet, if_neg cm]
      refine ok_mono (ok_mset_90e hc (by rw [sk 1 (by decide) (by decide)]; exact a1.1) (by rw [sk 9 (by decide) (by decide), a4]; exact ⟨by omega, by omega⟩) (fun q => cm (by rw [← a4, ← sk 9 (by decide) (by decide)]; exact q.2))) (fun r N2 t => ?_)
      subst t
      exact ⟨fun q hq => RR_of (c1 q hq) (st _ (by omega)) (st _ (by omega)) (st _ (by omega)), fun _ _ _ _ => rfl⟩
  refine ok_nbd key (fun r N2 t => ?_)
  obtain ⟨t1, t2⟩ := t
  have s2 : ∀ i, i ≠ k → i ≠ k + 6 → i ≠ k + 7 → i ≠ k + 8 → N2 i = N i := fun i i0 i6 i7 i8 => by rw [t2 i i6 i7 i8, st i i0]
  have tk := t2 k (by omega) (by omega) (by omega)
  have sr : ∀ s1 : St, s1 = sSet s (g 1) mi y → sG s1 = sG s ∧ sO s1 = sO s ∧ sL s1 = sL s ∧ sF s1 = sF s ∧ sT s1 = sT s := fun s1 e => by
    rw [e, sSet]
    split <;> exact ⟨rfl, rfl, rfl, rfl, rfl⟩
  obtain ⟨r1, r2, r3, r4, r5⟩ := sr _ rfl
  refine ok_ret ⟨by rw [tk]; exact k0, fun _ => rfl, ⟨NR_of a1 (by rw [tk]; exact sk 1 (by decide) (by decide)) (fun i _ _ => s2 i (by omega) (by omega) (by omega) (by omega)), fun q hq => ?_, ⟨t1, ?_, ?_, ?_, fun q hq => ?_, fun q hq => ?_⟩, ?_, ?_, ?_, ?_, fun i hi => ?_, fun i hi => ?_⟩, fun i hi => s2 i (by omega) (by omega) (by omega) (by omega)⟩
  · rw [s2 _ (by omega) (by omega) (by omega) (by omega), s2 _ (by omega) (by omega) (by omega) (by omega)]; exact a2 q hq
  · rw [tk, sk _ (by decide) (by decide), r1]; exact c2
  · rw [tk, sk _ (by decide) (by decide), r2]; exact c3
  · rw [tk, sk _ (by decide) (by decide), r3]; exact c4
  · rw [s2 _ (by omega) (by omega) (by omega) (by omega), r4]; exact c5 q hq
  · rw [s2 _ (by omega) (by omega) (by omega) (by omega), r5]; exact c6 q hq
  · rw [tk, sk _ (by decide) (by decide)]; exact a4
  · rw [tk, sk _ (by decide) (by decide)]; exact a5
  · rw [tk, up2_v e]
  · rw [tk, sk _ (by decide) (by decide)]; exact a7
  · rw [s2 _ (by omega) (by omega) (by omega) (by omega), s2 _ (by omega) (by omega) (by omega) (by omega), s2 _ (by omega) (by omega) (by omega) (by omega)]; exact a8 i hi
  · rw [s2 _ (by omega) (by omega) (by omega) (by omega), s2 _ (by omega) (by omega) (by omega) (by omega), s2 _ (by omega) (by omega) (by omega) (by omega)]; exact a9 i hi
theorem pur_set1 {y : Int} (hy : 0 ≤ y ∧ y ≤ 10000) (hP : PurI cnt g mi ht air s dn d) : PurI cnt g mi ht y (sSet s (g 1) mi y) dn d := by
  obtain ⟨a1, a2, a3, a4, a5, a6, a7, a8, a9, a10, a11, a12, a13⟩ := hP
  rw [sSet]
  split
  · refine ⟨a1, a2, a3, fun p hp => ?_, a5, a6, hy, a8, a9, a10, a11, a12, a13⟩
    have hv := a1.2.2.1 p hp
    exact ⟨fun q hq => by rw [List.mem_singleton.mp hq]; exact ⟨by show 0 < g 1 p; omega, hy⟩, trivial, by show g 1 p + 0 = g 1 p; omega, by show 1 ≤ 12; omega, hv⟩
  · exact ⟨a1, a2, a3, a4, a5, a6, hy, a8, a9, a10, a11, a12, a13⟩
theorem both_set {x y : Int} (ha : h + 103 ≤ a) (hP : PurI cnt g mi ht air s dn d) (HC : ClsI h N cnt g mi ht air s dn d) : Both h k a N (m_Law_set h x y a N) (fun N3 => m_Mo_set k x y N3) cnt g mi ht air s dn d := by
  have hc := hP.1.1
  have hht := hP.2.2.2.2.2.1
  have hair := hP.2.2.2.2.2.2.1
  by_cases hx : (0 ≤ x ∧ x ≤ 1) ∧ (0 ≤ y ∧ y ≤ 10000)
  · by_cases q : x = 0
    · subst q
      have hv : (0 : Int) = 0 → rg ht := fun _ => ⟨by omega, by omega⟩
      have hP' : PurI cnt g mi y air s dn d := by
        obtain ⟨a1, a2, a3, a4, a5, a6, a7⟩ := hP
        exact ⟨a1, a2, a3, a4, a5, hx.2, a7⟩
      exact ⟨0, ht, cnt, g, mi, y, air, s, dn, d, Or.inl rfl, hv, hP', wrap1 hc ha hv (Or.inl rfl) (cls_set0 hx.2 hP HC), fun N3 H3 => ref_set0 hx.2 hP H3⟩
    · have e : x = 1 := by omega
      subst e
      have hv : (0 : Int) = 0 → rg air := fun _ => ⟨by omega, by omega⟩
      exact ⟨0, air, cnt, g, mi, ht, y, sSet s (g 1) mi y, dn, d, Or.inl rfl, hv, pur_set1 hx.2 hP, wrap1 hc ha hv (Or.inl rfl) (cls_set1 hx.2 hP HC), fun N3 H3 => ref_set1 hx.2 hP H3⟩
  · refine ⟨1, 0, cnt, g, mi, ht, air, s, dn, d, Or.inr (Or.inl rfl), fun q => absurd q (by decide), hP, wrap1 hc ha (fun q => absurd q (by decide)) (Or.inr rfl) ?_, fun N3 H3 => ?_⟩
    · rw [m_HL_set]
      exact gateW (fun c1 => gateW (fun c2 => absurd ⟨c1, c2⟩ hx) (fun _ => HQ_bad HC)) (fun _ => HQ_bad HC)
    · show Ok (m_Mo_set k x y N3) _
      rw [m_Mo_set]
      exact gateI (fun c1 => gateI (fun c2 => absurd ⟨c1, c2⟩ hx) (fun _ N' e => MoQ_bad (by decide) H3 e)) (fun _ N' e => MoQ_bad (by decide) H3 e)
end
