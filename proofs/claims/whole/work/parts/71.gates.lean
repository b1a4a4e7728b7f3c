/-! ===== the checks at the door ===== -/
section
variable {h k cnt : Nat} {x a b : Int} {N : nS} {A : nS → Option ((Int × Int) × nS)} {Q : Int × Int → nS → Prop} {B : nS → Option (Int × nS)} {R : Int → nS → Prop}
theorem gateP (hN : N (h + 1) 5 = (cnt : Int)) (hc : cnt ≤ 10) (ht : 0 ≤ x ∧ x < (cnt : Int) → Ok (A N) Q) (hf : ¬ (0 ≤ x ∧ x < (cnt : Int)) → Q (1, 0) N) : Ok (nbd (m_HL_needPipe h x N) (fun q1 N2 => if q1.1 = 0 then A N2 else some ((q1.1, 0), N2))) Q := by
  rw [m_HL_needPipe]
  by_cases c1 : x < 0
  · rw [if_pos c1, nbd_sm]
    exact ok_f (by decide) (ok_ret (hf (by omega)))
  · rw [if_neg c1, if_pos (by rw [hN]; exact ⟨by omega, by omega⟩), hN]
    by_cases c2 : x < (cnt : Int)
    · rw [if_pos c2, nbd_sm]
      exact ok_t rfl (ht ⟨by omega, c2⟩)
    · rw [if_neg c2, nbd_sm]
      exact ok_f (by decide) (ok_ret (hf (by omega)))
theorem gateW (ht : a ≤ x ∧ x ≤ b → Ok (A N) Q) (hf : ¬ (a ≤ x ∧ x ≤ b) → Q (1, 0) N) : Ok (nbd (m_HL_needWithin x a b N) (fun q1 N2 => if q1.1 = 0 then A N2 else some ((q1.1, 0), N2))) Q := by
  rw [m_HL_needWithin]
  by_cases c1 : x < a
  · rw [if_pos c1, nbd_sm]
    exact ok_f (by decide) (ok_ret (hf (by omega)))
  · rw [if_neg c1]
    by_cases c2 : x ≤ b
    · rw [if_pos c2, nbd_sm]
      exact ok_t rfl (ht ⟨by omega, c2⟩)
    · rw [if_neg c2, nbd_sm]
      exact ok_f (by decide) (ok_ret (hf (by omega)))
theorem gateZ (ht : 0 ≤ x → Ok (A N) Q) (hf : ¬ 0 ≤ x → Q (1, 0) N) : Ok (nbd (m_HL_needNotBelowZero x N) (fun q1 N2 => if q1.1 = 0 then A N2 else some ((q1.1, 0), N2))) Q := by
  rw [m_HL_needNotBelowZero]
  by_cases c1 : 0 ≤ x
  · rw [if_pos c1, nbd_sm]
    exact ok_t rfl (ht c1)
  · rw [if_neg c1, nbd_sm]
    exact ok_f (by decide) (ok_ret (hf c1))
theorem gateI (ht : a ≤ x ∧ x ≤ b → Ok (B N) R) (hf : ¬ (a ≤ x ∧ x ≤ b) → ∀ N', N' = up2 N k 0 1 → R 0 N') : Ok (nbd (m_Mo_in x a b N) (fun r1 N2 => if rg r1 then if r1 = 0 then nlt (up2 N2 k 0 1) (fun N6 => some (0, N6)) else B N2 else none)) R := by
  refine ok_nbd ok_in (fun r N' g => ?_)
  obtain ⟨rfl, rfl⟩ := g
  by_cases c : a ≤ x ∧ x ≤ b
  · rw [if_pos c]
    exact ok_ck ⟨by decide, by decide⟩ (ok_f (by decide) (ht c))
  · rw [if_neg c]
    exact ok_ck ⟨by decide, by decide⟩ (ok_t rfl (ok_nlt (fun N' e => ok_ret (hf c N' e))))
theorem gateM (hN : N k 1 = (cnt : Int)) (hc : cnt ≤ 10) (ht : 0 ≤ x ∧ x < (cnt : Int) → Ok (B N) R) (hf : ¬ (0 ≤ x ∧ x < (cnt : Int)) → ∀ N', N' = up2 N k 0 1 → R 0 N') : Ok (nbd (m_Mo_isPipe k x N) (fun r1 N2 => if rg r1 then if r1 = 0 then nlt (up2 N2 k 0 1) (fun N6 => some (0, N6)) else B N2 else none)) R := by
  have h1 : Ok (m_Mo_isPipe k x N) (fun r N' => r = (if 0 ≤ x ∧ x ≤ (cnt : Int) - 1 then 1 else 0) ∧ N' = N) := by
    rw [m_Mo_isPipe, hN]
    refine ok_ck ⟨by omega, by omega⟩ (ok_nbd ok_in (fun r N' g => ?_))
    obtain ⟨rfl, rfl⟩ := g
    refine ok_ck (by split <;> omega) (ok_ret ⟨rfl, rfl⟩)
  refine ok_nbd h1 (fun r N' g => ?_)
  obtain ⟨rfl, rfl⟩ := g
  by_cases c : 0 ≤ x ∧ x < (cnt : Int)
  · rw [if_pos (show 0 ≤ x ∧ x ≤ (cnt : Int) - 1 by omega)]
    exact ok_ck ⟨by decide, by decide⟩ (ok_f (by decide) (ht c))
  · rw [if_neg (show ¬ (0 ≤ x ∧ x ≤ (cnt : Int) - 1) by omega)]
    exact ok_ck ⟨by decide, by decide⟩ (ok_t rfl (ok_nlt (fun N' e => ok_ret (hf c N' e))))
end
section
variable {h k : Nat} {N N' : nS} {cnt dn : Nat} {g d : Nat → Nat → Int} {mi ht air v : Int} {s : St}
theorem HQ_bad (H : ClsI h N cnt g mi ht air s dn d) : HQ h N 1 v cnt g mi ht air s dn d (1, 0) N := ⟨rfl, fun q => absurd q (by decide), H, fun _ _ => rfl⟩
theorem HQ_bad2 (H : ClsI h N cnt g mi ht air s dn d) : HQ h N 2 v cnt g mi ht air s dn d (2, 0) N := ⟨rfl, fun q => absurd q (by decide), H, fun _ _ => rfl⟩
theorem RefI_thr {c : Int} (H : RefI k N cnt g mi ht air s dn d) (e : N' = up2 N k 0 c) : RefI k N' cnt g mi ht air s dn d := RefI_of H (fun i _ _ => up2_n e (by omega)) (fun j _ _ => by rw [up2_at e, va_up_ne _ _ (by omega)])
theorem MoQ_bad {r c : Int} (hc : ¬ c = 0) (H : RefI k N cnt g mi ht air s dn d) (e : N' = up2 N k 0 c) : MoQ k N c v cnt g mi ht air s dn d r N' := ⟨up2_v e, fun q => absurd q hc, RefI_thr H e, fun i hi => up2_n e (by omega)⟩
end
/-! ===== tap ===== -/
section
variable {h k a : Nat} {N : nS} {cnt dn : Nat} {g d : Nat → Nat → Int} {mi ht air : Int} {s : St}
theorem cls_tap {p : Nat} (hp : p < cnt) (hP : PurI cnt g mi ht air s dn d) (H : ClsI h N cnt g mi ht air s dn d) : Ok (m_HL_tap h (p : Int) N) (HQ h N 0 (if g 4 p = 0 then 1 else 0) cnt (va_up g 4 (va_up (g 4) p 1)) mi ht air s dn d) := by
  have hc := hP.1.1
  have h4 := H.2.1 p (by omega)
  have b4 := hP.2.2.1 p (by omega)
  rw [m_HL_tap]
  refine gateP H.1.1 hc (fun _ => ?_) (fun n => absurd ⟨by omega, by omega⟩ n)
  refine ok_ck ⟨by omega, by omega⟩ ?_
  rw [Int.toNat_natCast, h4.2]
  refine ok_ck (by rcases b4 with e | e <;> rw [e] <;> exact ⟨by decide, by decide⟩) ?_
  have fin : ∀ N' : nS, N' = up2 N (h + 1 + 5) p 1 → ClsI h N' cnt (va_up g 4 (va_up (g 4) p 1)) mi ht air s dn d := fun N' e => by
    have st : ∀ i, i ≠ h + 1 + 5 → N' i = N i := fun i hi => up2_n e hi
    obtain ⟨a1, a2, a3, a4, a5, a6, a7, a8, a9⟩ := H
    refine ⟨NT_of a1 (fun i _ _ => st i (by omega)), fun q hq => ⟨?_, ?_⟩, CW_of hc a3 (fun i _ _ => st i (by omega)), ?_, ?_, ?_, ?_, fun i hi => ?_, fun i hi => ?_⟩
    · rw [st _ (by omega)]; exact (a2 q hq).1
    · rw [up2_at e]
      show va_up (N (h + 1 + 5)) p 1 q = va_up (g 4) p 1 q
      by_cases e2 : q = p
      · subst e2; rw [va_up_self, va_up_self]
      · rw [va_up_ne _ _ e2, va_up_ne _ _ e2]; exact (a2 q hq).2
    · rw [st _ (by omega)]; exact a4
    · rw [st _ (by omega)]; exact a5
    · rw [st _ (by omega)]; exact a6
    · rw [st _ (by omega)]; exact a7
    · rw [st _ (by omega), st _ (by omega), st _ (by omega)]; exact a8 i hi
    · rw [st _ (by omega), st _ (by omega), st _ (by omega)]; exact a9 i hi
  refine ok_if (fun c => ?_) (fun c => ?_)
  · refine ok_nlt (fun N' e => ok_ret ⟨rfl, fun _ => (if_pos c).symm, fin N' e, fun i _ => up2_n e (by omega)⟩)
  · refine ok_nlt (fun N' e => ok_ret ⟨rfl, fun _ => (if_neg c).symm, fin N' e, fun i _ => up2_n e (by omega)⟩)
theorem ref_tap {p : Nat} (hp : p < cnt) (hP : PurI cnt g mi ht air s dn d) (H : RefI k N cnt g mi ht air s dn d) : Ok (m_Mo_tap k (p : Int) N) (MoQ k N 0 (if g 4 p = 0 then 1 else 0) cnt (va_up g 4 (va_up (g 4) p 1)) mi ht air s dn d) := by
  have hc := hP.1.1
  have h4 := H.2.1 p (by omega)
  have b4 := hP.2.2.1 p (by omega)
  rw [m_Mo_tap]
  refine gateM H.1.1 hc (fun _ => ?_) (fun n => absurd ⟨by omega, by omega⟩ n)
  refine ok_nlt (fun N9 e9 => ?_)
  refine ok_ck ⟨by omega, by omega⟩ ?_
  rw [Int.toNat_natCast, up2_n e9 (show k + 4 ≠ k by omega), h4.2]
  refine ok_ck (by rcases b4 with e | e <;> rw [e] <;> exact ⟨by decide, by decide⟩) ?_
  have fin : ∀ (N' : nS) (r : Int), N' = up2 N9 (k + 4) p 1 → r = (if g 4 p = 0 then 1 else 0) → MoQ k N 0 (if g 4 p = 0 then 1 else 0) cnt (va_up g 4 (va_up (g 4) p 1)) mi ht air s dn d r N' := fun N' r e hr => by
    have st : ∀ i, i ≠ k → i ≠ k + 4 → N' i = N i := fun i i0 i1 => by rw [up2_n e i1, up2_n e9 i0]
    have sk : ∀ j, j ≠ 0 → N' k j = N k j := fun j hj => by rw [up2_n e (by omega), up2_at e9, va_up_ne _ _ hj]
    obtain ⟨a1, a2, a3, a4, a5, a6, a7, a8, a9⟩ := H
    refine ⟨by rw [up2_n e (by omega), up2_v e9], fun _ => hr, ⟨?_, fun q hq => ⟨?_, ?_⟩, CR_of a3 (fun i _ _ => st i (by omega) (by omega)) (fun j hj => sk j (by omega)), ?_, ?_, ?_, ?_, fun i hi => ?_, fun i hi => ?_⟩, fun i hi => st i (by omega) (by omega)⟩
    · obtain ⟨b1, b2, b3, b5, b6⟩ := a1
      refine ⟨by rw [sk 1 (by decide)]; exact b1, fun q hq => ?_, fun q hq => ?_, fun q hq => ?_, fun q hq => ?_⟩
      · rw [st _ (by omega) (by omega)]; exact b2 q hq
      · rw [st _ (by omega) (by omega)]; exact b3 q hq
      · rw [st _ (by omega) (by omega)]; exact b5 q hq
      · rw [st _ (by omega) (by omega)]; exact b6 q hq
    · rw [st _ (by omega) (by omega)]; exact (a2 q hq).1
    · rw [up2_at e, up2_n e9 (by omega)]
      show va_up (N (k + 4)) p 1 q = va_up (g 4) p 1 q
      by_cases e2 : q = p
      · subst e2; rw [va_up_self, va_up_self]
      · rw [va_up_ne _ _ e2, va_up_ne _ _ e2]; exact (a2 q hq).2
    · rw [sk 9 (by decide)]; exact a4
    · rw [sk 7 (by decide)]; exact a5
    · rw [sk 8 (by decide)]; exact a6
    · rw [sk 15 (by decide)]; exact a7
    · rw [st _ (by omega) (by omega), st _ (by omega) (by omega), st _ (by omega) (by omega)]; exact a8 i hi
    · rw [st _ (by omega) (by omega), st _ (by omega) (by omega), st _ (by omega) (by omega)]; exact a9 i hi
  refine ok_if (fun c => ?_) (fun c => ?_)
  · exact ok_nlt (fun N' e => ok_ret (fin N' 1 e (if_pos c).symm))
  · exact ok_nlt (fun N' e => ok_ret (fin N' 0 e (if_neg c).symm))
theorem cls_tap_bad {x : Int} (hx : ¬ (0 ≤ x ∧ x < (cnt : Int))) (hP : PurI cnt g mi ht air s dn d) (H : ClsI h N cnt g mi ht air s dn d) : Ok (m_HL_tap h x N) (HQ h N 1 0 cnt g mi ht air s dn d) := by
  rw [m_HL_tap]
  exact gateP H.1.1 hP.1.1 (fun c => absurd c hx) (fun _ => HQ_bad H)
theorem ref_tap_bad {x : Int} (hx : ¬ (0 ≤ x ∧ x < (cnt : Int))) (hP : PurI cnt g mi ht air s dn d) (H : RefI k N cnt g mi ht air s dn d) : Ok (m_Mo_tap k x N) (MoQ k N 1 0 cnt g mi ht air s dn d) := by
  rw [m_Mo_tap]
  exact gateM H.1.1 hP.1.1 (fun c => absurd c hx) (fun _ N' e => MoQ_bad (by decide) H e)
theorem pur_tap {p : Nat} (hP : PurI cnt g mi ht air s dn d) : PurI cnt (va_up g 4 (va_up (g 4) p 1)) mi ht air s dn d := by
  obtain ⟨a1, a2, a3, a4⟩ := hP
  refine ⟨a1, a2, fun q hq => ?_, a4⟩
  show va_up (g 4) p 1 q = 0 ∨ va_up (g 4) p 1 q = 1
  by_cases e : q = p
  · subst e; rw [va_up_self]; exact Or.inr rfl
  · rw [va_up_ne _ _ e]; exact a3 q hq
/-! the law's tap keeps 0 or 1 -/
theorem wrapT {c v : Int} {cnt' dn' : Nat} {g' d' : Nat → Nat → Int} {mi' ht' air' : Int} {s' : St} {o : Option ((Int × Int) × nS)} (hcnt : cnt' ≤ 10) (ha : h + 103 ≤ a) (hv : v = 0 ∨ v = 1) (hc : c = 0 ∨ c = 1) (H : Ok o (HQ h N c v cnt' g' mi' ht' air' s' dn' d')) : Ok (nbd o (fun q1 N2 => if q1.1 = 0 then if rg q1.2 then if q1.2 = 0 then nlt (up2 N2 a (Int.toNat 0) 0) (fun N7 => some ((0 : Int), N7)) else nlt (up2 N2 a (Int.toNat 0) 1) (fun N9 => some (0, N9)) else none else if q1.1 = 1 then some (1, N2) else none)) (LQ h N c v a cnt' g' mi' ht' air' s' dn' d') := by
  refine ok_nbd H (fun q N' hq => ?_)
  obtain ⟨h1, h2, h3, h4⟩ := hq
  rw [h1]
  rcases hc with rfl | rfl
  · rw [h2 rfl]
    refine ok_t rfl (ok_ck (by rcases hv with rfl | rfl <;> exact ⟨by decide, by decide⟩) ?_)
    rcases hv with rfl | rfl
    · exact ok_t rfl (ok_nlt (fun N6 e6 => ok_ret ⟨rfl, fun _ => up2_v e6, ClsI_of hcnt h3 (fun i _ _ => up2_n e6 (by omega)), fun i i1 i2 => by rw [up2_n e6 i2, h4 i i1]⟩))
    · exact ok_f (by decide) (ok_nlt (fun N6 e6 => ok_ret ⟨rfl, fun _ => up2_v e6, ClsI_of hcnt h3 (fun i _ _ => up2_n e6 (by omega)), fun i i1 i2 => by rw [up2_n e6 i2, h4 i i1]⟩))
  · exact ok_f (by decide) (ok_t rfl (ok_ret ⟨rfl, fun q => absurd q (by decide), h3, fun i i1 _ => h4 i i1⟩))
theorem fin_tap {c v r5 : Int} {N9 : nS} (hc : c = 0 ∨ c = 1) (hv : v = 0 ∨ v = 1) (h5 : c = 0 → r5 = v) (h9 : c = 0 → N9 a 0 = v) : (if rg c then if rg c then if c = c then if c = 0 then if rg r5 then if r5 = 0 then if rl (N9 a (Int.toNat 0)) then if (if 0 < (N9 a (Int.toNat 0)) then 1 else if (N9 a (Int.toNat 0)) = 0 then 0 else -1) = 0 then some ((1 : Int), N9) else some (0, N9) else none else if rl (N9 a (Int.toNat 0)) then if (if 1 < (N9 a (Int.toNat 0)) then 1 else if (N9 a (Int.toNat 0)) = 1 then 0 else -1) = 0 then some (1, N9) else some (0, N9) else none else none else some (1, N9) else some (0, N9) else none else none) = some (1, N9) := by
  have r : rg c := by rcases hc with rfl | rfl <;> exact ⟨by decide, by decide⟩
  rw [if_pos r, if_pos r, if_pos rfl]
  by_cases q : c = 0
  · have e9 : N9 a (Int.toNat 0) = v := h9 q
    rw [if_pos q, h5 q, e9]
    rcases hv with rfl | rfl
    · rw [if_pos ⟨by decide, by decide⟩, if_pos rfl, if_pos ⟨by decide, by decide⟩]; rfl
    · rw [if_pos ⟨by decide, by decide⟩, if_neg (by decide), if_pos ⟨by decide, by decide⟩]; rfl
  · rw [if_neg q]
theorem step_tap {x : Int} (hk : h + 103 ≤ k) (ha : k + 28 ≤ a) (hP : PurI cnt g mi ht air s dn d) (HC : ClsI h N cnt g mi ht air s dn d) (HR : RefI k N cnt g mi ht air s dn d) : ∃ No, nbd (m_Law_tap h x a N) (fun r19 N20 => nbd (m_Mo_tap k x N20) (fun r22 N23 => nbd (m_Mo_thrown k N23) (fun r25 N26 => if rg r25 then if rg r19 then if r25 = r19 then if r19 = 0 then if rg r22 then if r22 = 0 then if rl (N26 a (Int.toNat 0)) then if (if 0 < (N26 a (Int.toNat 0)) then 1 else if (N26 a (Int.toNat 0)) = 0 then 0 else -1) = 0 then some ((1 : Int), N26) else some (0, N26) else none else if rl (N26 a (Int.toNat 0)) then if (if 1 < (N26 a (Int.toNat 0)) then 1 else if (N26 a (Int.toNat 0)) = 1 then 0 else -1) = 0 then some (1, N26) else some (0, N26) else none else none else some (1, N26) else some (0, N26) else none else none))) = some (1, No) ∧ RelG h k No := by
  by_cases hx : 0 ≤ x ∧ x < (cnt : Int)
  · obtain ⟨p, rfl⟩ : ∃ p : Nat, x = (p : Int) := ⟨x.toNat, by omega⟩
    have hp : p < cnt := by omega
    have hv : (if g 4 p = 0 then (1 : Int) else 0) = 0 ∨ (if g 4 p = 0 then (1 : Int) else 0) = 1 := by split <;> omega
    refine law_end (F := fun r19 r22 r25 N26 => if rg r25 then if rg r19 then if r25 = r19 then if r19 = 0 then if rg r22 then if r22 = 0 then if rl (N26 a (Int.toNat 0)) then if (if 0 < (N26 a (Int.toNat 0)) then 1 else if (N26 a (Int.toNat 0)) = 0 then 0 else -1) = 0 then some ((1 : Int), N26) else some (0, N26) else none else if rl (N26 a (Int.toNat 0)) then if (if 1 < (N26 a (Int.toNat 0)) then 1 else if (N26 a (Int.toNat 0)) = 1 then 0 else -1) = 0 then some (1, N26) else some (0, N26) else none else none else some (1, N26) else some (0, N26) else none else none) hk ha (pur_tap hP) (wrapT (hP.1.1) (by omega) hv (Or.inl rfl) (cls_tap hp hP HC)) HR (fun N3 H3 => ref_tap hp hP H3) (fun r5 N9 b1 b2 => fin_tap (Or.inl rfl) hv b1 b2)
  · exact law_end (F := fun r19 r22 r25 N26 => if rg r25 then if rg r19 then if r25 = r19 then if r19 = 0 then if rg r22 then if r22 = 0 then if rl (N26 a (Int.toNat 0)) then if (if 0 < (N26 a (Int.toNat 0)) then 1 else if (N26 a (Int.toNat 0)) = 0 then 0 else -1) = 0 then some ((1 : Int), N26) else some (0, N26) else none else if rl (N26 a (Int.toNat 0)) then if (if 1 < (N26 a (Int.toNat 0)) then 1 else if (N26 a (Int.toNat 0)) = 1 then 0 else -1) = 0 then some (1, N26) else some (0, N26) else none else none else some (1, N26) else some (0, N26) else none else none) hk ha hP (wrapT (hP.1.1) (by omega) (Or.inl rfl) (Or.inr rfl) (cls_tap_bad hx hP HC)) HR (fun N3 H3 => ref_tap_bad hx hP H3) (fun r5 N9 b1 b2 => fin_tap (Or.inr rfl) (Or.inl rfl) b1 b2)
end
