/-! ===== pipe ===== -/
section
variable {h k a : Nat} {N : nS} {cnt dn : Nat} {g d : Nat → Nat → Int} {mi ht air : Int} {s : St}
def sPipe (s : St) (p : Nat) (V A : Int) : St := (va_up (sR s) p [(V, A)], sG s, sO s, sL s, sF s, sT s)
theorem pur_pipe {x y z : Int} (hx : -1 ≤ x ∧ x < (cnt : Int)) (hy : 1 ≤ y ∧ y ≤ 1000) (hz : 1 ≤ z ∧ z ≤ 1000) (hd : cnt < 10) (hP : PurI cnt g mi ht air s dn d) : PurI (cnt + 1) (dDraw g cnt x y z) mi ht air (sPipe s cnt y air) dn d := by
  obtain ⟨a1, a2, a3, a4, a5, a6, a7, a8, a9, a10, a11, a12, a13⟩ := hP
  obtain ⟨b1, b2, b3, b4, b5⟩ := a1
  refine ⟨⟨by omega, fun p hp => ?_, fun p hp => ?_, fun p hp => ?_, fun p hp => ?_⟩, a2, a3, fun p hp => ?_, a5, a6, a7, a8, fun i hi => ?_, a10, a11, a12, a13⟩
  · show -1 ≤ va_up (g 0) cnt x p ∧ va_up (g 0) cnt x p < (p : Int)
    by_cases e : p = cnt
    · subst e; rw [va_up_self]; exact hx
    · rw [va_up_ne _ _ e]; exact b2 p (by omega)
  · show 1 ≤ va_up (g 1) cnt y p ∧ va_up (g 1) cnt y p ≤ 1000
    by_cases e : p = cnt
    · subst e; rw [va_up_self]; exact hy
    · rw [va_up_ne _ _ e]; exact b3 p (by omega)
  · show 1 ≤ va_up (g 2) cnt z p ∧ va_up (g 2) cnt z p ≤ 1000
    by_cases e : p = cnt
    · subst e; rw [va_up_self]; exact hz
    · rw [va_up_ne _ _ e]; exact b4 p (by omega)
  · exact a2 p (by omega)
  · show wl (va_up (sR s) cnt [(y, air)] p) ∧ nmr (va_up (sR s) cnt [(y, air)] p) ∧ tv (va_up (sR s) cnt [(y, air)] p) = va_up (g 1) cnt y p ∧ (va_up (sR s) cnt [(y, air)] p).length ≤ 12 ∧ 1 ≤ va_up (g 1) cnt y p ∧ va_up (g 1) cnt y p ≤ 1000
    by_cases e : p = cnt
    · subst e
      rw [va_up_self, va_up_self]
      exact ⟨fun q hq => by rw [List.mem_singleton.mp hq]; exact ⟨by show 0 < y; omega, a7⟩, trivial, by show y + 0 = y; omega, by simp, hy⟩
    · rw [va_up_ne _ _ e, va_up_ne _ _ e]
      exact a4 p (by omega)
  · have := a9 i hi
    exact ⟨by omega, this.2⟩
theorem cls_pipe0 {x y z : Int} {F : Int → nS → Option ((Int × Int) × nS)} (hF : F = fun r14 N15 => if rg r14 then nbd (m_Water_fillWithAir (h + 7) (h + 1) r14 N15) (fun r18 N19 => some ((0, r14), N19)) else none) (hy : 1 ≤ y ∧ y ≤ 1000) (hd : cnt < 10) (hP : PurI cnt g mi ht air s dn d) (H : ClsI h N cnt g mi ht air s dn d) : Ok (nbd (m_Net_add (h + 1) x y z N) F) (HQ h N 0 (cnt : Int) (cnt + 1) (dDraw g cnt x y z) mi ht air (sPipe s cnt y air) dn d) := by
  have hair := hP.2.2.2.2.2.2.1
  obtain ⟨a1, a2, a3, a4, a5, a6, a7, a8, a9⟩ := H
  obtain ⟨b1, b2, b3, b5, b6⟩ := a1
  have hadd : Ok (m_Net_add (h + 1) x y z N) (fun r N' => r = (cnt : Int) ∧ N' (h + 1 + 1) = va_up (N (h + 1 + 1)) cnt x ∧ N' (h + 1 + 2) = va_up (N (h + 1 + 2)) cnt y ∧ N' (h + 1 + 3) = va_up (N (h + 1 + 3)) cnt z ∧ N' (h + 1) 5 = (cnt : Int) + 1 ∧ ∀ j, j < h + 1 ∨ h + 1 + 4 ≤ j → N' j = N j) := by
    rw [m_Net_add, b1]
    refine ok_ck ⟨by omega, by omega⟩ ?_
    refine ok_t (by omega) ?_
    refine ok_ck ⟨by omega, by omega⟩ ?_
    rw [Int.toNat_natCast]
    refine ok_nlt (fun N4 e4 => ?_)
    have n4 : N4 (h + 1) 5 = (cnt : Int) := by rw [up2_n e4 (by omega), b1]
    rw [n4]
    refine ok_ck ⟨by omega, by omega⟩ ?_
    rw [Int.toNat_natCast]
    refine ok_nlt (fun N7 e7 => ?_)
    have n7 : N7 (h + 1) 5 = (cnt : Int) := by rw [up2_n e7 (by omega), n4]
    rw [n7]
    refine ok_ck ⟨by omega, by omega⟩ ?_
    rw [Int.toNat_natCast]
    refine ok_nlt (fun N10 e10 => ?_)
    have n10 : N10 (h + 1) 5 = (cnt : Int) := by rw [up2_n e10 (by omega), n7]
    rw [n10]
    refine ok_nlt (fun N12 e12 => ?_)
    refine ok_ret ⟨by rw [up2_v e12]; omega, ?_, ?_, ?_, up2_v e12, fun j hj => ?_⟩
    · rw [up2_n e12 (by omega), up2_n e10 (by omega), up2_n e7 (by omega), up2_at e4]
    · rw [up2_n e12 (by omega), up2_n e10 (by omega), up2_at e7, up2_n e4 (by omega)]
    · rw [up2_n e12 (by omega), up2_at e10, up2_n e7 (by omega), up2_n e4 (by omega)]
    · rw [up2_n e12 (by omega), up2_n e10 (by omega), up2_n e7 (by omega), up2_n e4 (by omega)]
  refine ok_nbd hadd (fun r N1 q => ?_)
  obtain ⟨rfl, q1, q2, q3, q4, q5⟩ := q
  rw [hF]
  refine ok_ck ⟨by omega, by omega⟩ ?_
  refine ok_nbd (ok_fillWithAir (cnt := cnt + 1) (V := y) (A := air) (rows := sR s) (by omega) (by omega) (by omega) (by rw [q4]; omega) (by rw [q2, va_up_self]) hy (by rw [q5 _ (by omega), a6]) hair (fun q hq hne => RP_of (a3.1 q (by omega)) (q5 _ (by omega)) (q5 _ (by omega)) (q5 _ (by omega)))) (fun r2 N2 q => ?_)
  obtain ⟨f1, f2⟩ := q
  have st : ∀ i, i < h + 1 ∨ (h + 1 + 4 ≤ i ∧ i < h + 7 + 14) ∨ h + 7 + 44 ≤ i → N2 i = N i := fun i hi => by rw [f2 i (by omega), q5 i (by omega)]
  obtain ⟨c1, c2, c3, c4, c5, c6⟩ := a3
  refine ok_ret ⟨rfl, fun _ => rfl, ⟨⟨?_, fun p hp => ?_, fun p hp => ?_, fun p hp => ?_, fun p hp => ?_⟩, fun p hp => ?_, ⟨f1, ?_, ?_, ?_, fun q => ?_, fun q => ?_⟩, ?_, ?_, ?_, ?_, fun i hi => ?_, fun i hi => ?_⟩, fun i hi => st i (by omega)⟩
  · rw [f2 _ (by omega), q4]; omega
  · rw [f2 _ (by omega), q1]
    show va_up (N (h + 1 + 1)) cnt x p = va_up (g 0) cnt x p
    by_cases e : p = cnt
    · subst e; rw [va_up_self, va_up_self]
    · rw [va_up_ne _ _ e, va_up_ne _ _ e]; exact b2 p (by omega)
  · rw [f2 _ (by omega), q2]
    show va_up (N (h + 1 + 2)) cnt y p = va_up (g 1) cnt y p
    by_cases e : p = cnt
    · subst e; rw [va_up_self, va_up_self]
    · rw [va_up_ne _ _ e, va_up_ne _ _ e]; exact b3 p (by omega)
  · rw [f2 _ (by omega), q3]
    show va_up (N (h + 1 + 3)) cnt z p = va_up (g 2) cnt z p
    by_cases e : p = cnt
    · subst e; rw [va_up_self, va_up_self]
    · rw [va_up_ne _ _ e, va_up_ne _ _ e]; exact b5 p (by omega)
  · rw [st _ (by omega)]; exact (a2 p (by omega)).1
  · rw [st _ (by omega), st _ (by omega)]; exact a2 p hp
  · rw [st _ (by omega)]; exact c2
  · rw [st _ (by omega)]; exact c3
  · rw [st _ (by omega)]; exact c4
  · rw [st _ (by omega)]; exact c5 q
  · rw [st _ (by omega)]; exact c6 q
  · rw [st _ (by omega)]; exact a4
  · rw [st _ (by omega)]; exact a5
  · rw [st _ (by omega)]; exact a6
  · rw [st _ (by omega)]; exact a7
  · rw [st _ (by omega), st _ (by omega), st _ (by omega)]; exact a8 i hi
  · rw [st _ (by omega), st _ (by omega), st _ (by omega)]; exact a9 i hi
theorem cls_pipe1 {x y z : Int} {c v : Int} {cnt' : Nat} {g' : Nat → Nat → Int} {s' : St} (hP : PurI cnt g mi ht air s dn d) (H : ClsI h N cnt g mi ht air s dn d) (h1 : ¬ ((1 ≤ y ∧ y ≤ 1000) ∧ (1 ≤ z ∧ z ≤ 1000)) → HQ h N c v cnt' g' mi ht air s' dn d (1, 0) N) (h2 : (1 ≤ y ∧ y ≤ 1000) ∧ (1 ≤ z ∧ z ≤ 1000) → ¬ (cnt < 10 ∧ mi ≤ 0) → HQ h N c v cnt' g' mi ht air s' dn d (2, 0) N) (h0 : (1 ≤ y ∧ y ≤ 1000) ∧ (1 ≤ z ∧ z ≤ 1000) → cnt < 10 → mi ≤ 0 → Ok (nbd (m_Net_add (h + 1) x y z N) (fun r14 N15 => if rg r14 then nbd (m_Water_fillWithAir (h + 7) (h + 1) r14 N15) (fun r18 N19 => some ((0, r14), N19)) else none)) (HQ h N c v cnt' g' mi ht air s' dn d)) :
    Ok (nbd (m_HL_needWithin y 1 1000 N) (fun q2 N3 => if q2.1 = 0 then nbd (m_HL_needWithin z 1 1000 N3) (fun q6 N7 => if q6.1 = 0 then if rg (N7 (h + 1) 5) then if (N7 (h + 1) 5) < 10 then if rg (N7 (h + 7) 8) then if (N7 (h + 7) 8) ≤ 0 then nbd (m_Net_add (h + 1) x y z N7) (fun r14 N15 => if rg r14 then nbd (m_Water_fillWithAir (h + 7) (h + 1) r14 N15) (fun r18 N19 => some ((0, r14), N19)) else none) else some ((2, 0), N7) else none else some ((2, 0), N7) else none else some ((q6.1, 0), N7)) else some ((q2.1, 0), N3))) (HQ h N c v cnt' g' mi ht air s' dn d) := by
  have hc := hP.1.1
  have hmi := hP.2.2.2.2.1
  refine gateW (A := fun N3 => nbd (m_HL_needWithin z 1 1000 N3) (fun q6 N7 => if q6.1 = 0 then if rg (N7 (h + 1) 5) then if (N7 (h + 1) 5) < 10 then if rg (N7 (h + 7) 8) then if (N7 (h + 7) 8) ≤ 0 then nbd (m_Net_add (h + 1) x y z N7) (fun r14 N15 => if rg r14 then nbd (m_Water_fillWithAir (h + 7) (h + 1) r14 N15) (fun r18 N19 => some ((0, r14), N19)) else none) else some ((2, 0), N7) else none else some ((2, 0), N7) else none else some ((q6.1, 0), N7))) (fun cy => ?_) (fun n => h1 (fun q => n q.1))
  refine gateW (A := fun N7 => if rg (N7 (h + 1) 5) then if (N7 (h + 1) 5) < 10 then if rg (N7 (h + 7) 8) then if (N7 (h + 7) 8) ≤ 0 then nbd (m_Net_add (h + 1) x y z N7) (fun r14 N15 => if rg r14 then nbd (m_Water_fillWithAir (h + 7) (h + 1) r14 N15) (fun r18 N19 => some ((0, r14), N19)) else none) else some ((2, 0), N7) else none else some ((2, 0), N7) else none) (fun cz => ?_) (fun n => h1 (fun q => n q.2))
  show Ok (if rg (N (h + 1) 5) then _ else _) _
  rw [H.1.1, H.2.2.2.1]
  refine ok_ck ⟨by omega, by omega⟩ ?_
  refine ok_if (fun c1 => ?_) (fun c1 => ok_ret (h2 ⟨cy, cz⟩ (by omega)))
  refine ok_ck ⟨by omega, by omega⟩ ?_
  exact ok_if (fun c2 => h0 ⟨cy, cz⟩ (by omega) c2) (fun c2 => ok_ret (h2 ⟨cy, cz⟩ (by omega)))
theorem cls_pipe {x y z : Int} {c v : Int} {cnt' : Nat} {g' : Nat → Nat → Int} {s' : St} (hP : PurI cnt g mi ht air s dn d) (H : ClsI h N cnt g mi ht air s dn d) (h1 : ¬ ((-1 ≤ x ∧ x < (cnt : Int)) ∧ (1 ≤ y ∧ y ≤ 1000) ∧ (1 ≤ z ∧ z ≤ 1000)) → HQ h N c v cnt' g' mi ht air s' dn d (1, 0) N) (h2 : (-1 ≤ x ∧ x < (cnt : Int)) ∧ (1 ≤ y ∧ y ≤ 1000) ∧ (1 ≤ z ∧ z ≤ 1000) → ¬ (cnt < 10 ∧ mi ≤ 0) → HQ h N c v cnt' g' mi ht air s' dn d (2, 0) N) (h0 : (-1 ≤ x ∧ x < (cnt : Int)) ∧ (1 ≤ y ∧ y ≤ 1000) ∧ (1 ≤ z ∧ z ≤ 1000) → cnt < 10 → mi ≤ 0 → Ok (nbd (m_Net_add (h + 1) x y z N) (fun r14 N15 => if rg r14 then nbd (m_Water_fillWithAir (h + 7) (h + 1) r14 N15) (fun r18 N19 => some ((0, r14), N19)) else none)) (HQ h N c v cnt' g' mi ht air s' dn d)) :
    Ok (m_HL_pipe h x y z N) (HQ h N c v cnt' g' mi ht air s' dn d) := by
  have hc := hP.1.1
  rw [m_HL_pipe]
  by_cases cx : x = -1
  · rw [if_pos cx]
    have hx : -1 ≤ x ∧ x < (cnt : Int) := by omega
    exact cls_pipe1 hP H (fun n => h1 (fun q => n q.2)) (fun q n => h2 ⟨hx, q⟩ n) (fun q n1 n2 => h0 ⟨hx, q⟩ n1 n2)
  · rw [if_neg cx]
    refine gateP H.1.1 hc (fun c => ?_) (fun n => h1 (fun q => n ⟨by omega, by omega⟩))
    have hx : -1 ≤ x ∧ x < (cnt : Int) := by omega
    exact cls_pipe1 hP H (fun n => h1 (fun q => n q.2)) (fun q n => h2 ⟨hx, q⟩ n) (fun q n1 n2 => h0 ⟨hx, q⟩ n1 n2)
theorem ref_pipe {x y z : Int} {c v : Int} {cnt' : Nat} {g' : Nat → Nat → Int} {s' : St} (hP : PurI cnt g mi ht air s dn d) (H : RefI k N cnt g mi ht air s dn d) (h1 : ¬ ((-1 ≤ x ∧ x < (cnt : Int)) ∧ (1 ≤ y ∧ y ≤ 1000) ∧ (1 ≤ z ∧ z ≤ 1000)) → ∀ N', N' = up2 N k 0 1 → MoQ k N c v cnt' g' mi ht air s' dn d 0 N') (h2 : (-1 ≤ x ∧ x < (cnt : Int)) ∧ (1 ≤ y ∧ y ≤ 1000) ∧ (1 ≤ z ∧ z ≤ 1000) → ¬ (cnt < 10 ∧ mi ≤ 0) → ∀ N', N' = up2 N k 0 2 → MoQ k N c v cnt' g' mi ht air s' dn d 0 N')
    (h0 : (-1 ≤ x ∧ x < (cnt : Int)) ∧ (1 ≤ y ∧ y ≤ 1000) ∧ (1 ≤ z ∧ z ≤ 1000) → cnt < 10 → mi ≤ 0 → c = 0 ∧ v = (cnt : Int) ∧ cnt' = cnt + 1 ∧ g' = dDraw g cnt x y z ∧ s' = sPipe s cnt y air) : Ok (m_Mo_pipe k x y z N) (MoQ k N c v cnt' g' mi ht air s' dn d) := by
  have hc := hP.1.1
  have hmi := hP.2.2.2.2.1
  have hz0 := hP.2.2.2.2.2.2.2.2.2.2.2.2
  obtain ⟨a1, a2, a3, a4, a5, a6, a7, a8, a9⟩ := H
  obtain ⟨b1, b2, b3, b5, b6⟩ := a1
  rw [m_Mo_pipe, b1]
  refine ok_ck ⟨by omega, by omega⟩ ?_
  refine gateI (fun cx => ?_) (fun n => h1 (fun q => n ⟨by omega, by omega⟩))
  refine gateI (fun cy => ?_) (fun n => h1 (fun q => n q.2.1))
  refine gateI (fun cz => ?_) (fun n => h1 (fun q => n q.2.2))
  have hx : (-1 ≤ x ∧ x < (cnt : Int)) ∧ (1 ≤ y ∧ y ≤ 1000) ∧ (1 ≤ z ∧ z ≤ 1000) := ⟨by omega, cy, cz⟩
  rw [b1, a4]
  refine ok_ck ⟨by omega, by omega⟩ ?_
  refine ok_if (fun c1 => ok_nlt (fun N' e => ok_ret (h2 hx (by omega) N' e))) (fun c1 => ?_)
  refine ok_ck ⟨by omega, by omega⟩ ?_
  refine ok_if (fun c2 => ?_) (fun c2 => ok_nlt (fun N' e => ok_ret (h2 hx (by omega) N' e)))
  obtain ⟨rfl, rfl, rfl, rfl, rfl⟩ := h0 hx (by omega) c2
  refine ok_nlt (fun N30 e30 => ?_)
  have n30 : N30 k 1 = (cnt : Int) := by rw [up2_at e30, va_up_ne _ _ (by decide), b1]
  rw [n30]
  refine ok_ck ⟨by omega, by omega⟩ ?_
  rw [Int.toNat_natCast]
  refine ok_nlt (fun N34 e34 => ?_)
  have n34 : N34 k 1 = (cnt : Int) := by rw [up2_n e34 (by omega), n30]
  rw [n34]
  refine ok_ck ⟨by omega, by omega⟩ ?_
  rw [Int.toNat_natCast]
  refine ok_nlt (fun N37 e37 => ?_)
  have n37 : N37 k 1 = (cnt : Int) := by rw [up2_n e37 (by omega), n34]
  rw [n37]
  refine ok_ck ⟨by omega, by omega⟩ ?_
  rw [Int.toNat_natCast]
  refine ok_nlt (fun N40 e40 => ?_)
  have n40 : N40 k 1 = (cnt : Int) := by rw [up2_n e40 (by omega), n37]
  rw [n40]
  refine ok_ck ⟨by omega, by omega⟩ ?_
  rw [Int.toNat_natCast]
  refine ok_nlt (fun N43 e43 => ?_)
  have n43 : N43 k 1 = (cnt : Int) := by rw [up2_n e43 (by omega), n40]
  rw [n43]
  refine ok_ck ⟨by omega, by omega⟩ ?_
  have st : ∀ i, i ≠ k → i ≠ k + 1 → i ≠ k + 2 → i ≠ k + 3 → i ≠ k + 9 → N43 i = N i := fun i i0 i1 i2 i3 i9 => by rw [up2_n e43 i9, up2_n e40 i3, up2_n e37 i2, up2_n e34 i1, up2_n e30 i0]
  have sk : ∀ j, j ≠ 0 → N43 k j = N k j := fun j j0 => by rw [up2_n e43 (by omega), up2_n e40 (by omega), up2_n e37 (by omega), up2_n e34 (by omega), up2_at e30, va_up_ne _ _ j0]
  have k0 : N43 k 0 = 0 := by rw [up2_n e43 (by omega), up2_n e40 (by omega), up2_n e37 (by omega), up2_n e34 (by omega), up2_v e30]
  have q1 : N43 (k + 1) = va_up (N (k + 1)) cnt x := by rw [up2_n e43 (by omega), up2_n e40 (by omega), up2_n e37 (by omega), up2_at e34, up2_n e30 (by omega)]
  have q2 : N43 (k + 2) = va_up (N (k + 2)) cnt y := by rw [up2_n e43 (by omega), up2_n e40 (by omega), up2_at e37, up2_n e34 (by omega), up2_n e30 (by omega)]
  have q3 : N43 (k + 3) = va_up (N (k + 3)) cnt z := by rw [up2_n e43 (by omega), up2_at e40, up2_n e37 (by omega), up2_n e34 (by omega), up2_n e30 (by omega)]
  have q9 : N43 (k + 9) = va_up (N (k + 9)) cnt (-1) := by rw [up2_at e43, up2_n e40 (by omega), up2_n e37 (by omega), up2_n e34 (by omega), up2_n e30 (by omega)]
  refine ok_nbd (ok_mfill (V := y) (A := air) (by omega) (by rw [q2, va_up_self]) (by rw [sk 8 (by decide), a6])) (fun r N47 q => ?_)
  obtain ⟨f1, f2, f3⟩ := q
  refine ok_nlt (fun N' e49 => ?_)
  have n47 : N47 k 1 = (cnt : Int) := by rw [f3 k (by omega) (by omega) (by omega), n43]
  rw [n47] at e49 ⊢
  obtain ⟨c1', c2', c3, c4, c5, c6⟩ := a3
  have s' : ∀ i, i ≠ k → i ≠ k + 1 → i ≠ k + 2 → i ≠ k + 3 → i ≠ k + 9 → i ≠ k + 6 → i ≠ k + 7 → i ≠ k + 8 → N' i = N i := fun i i0 i1 i2 i3 i9 i6 i7 i8 => by rw [up2_n e49 i0, f3 i i6 i7 i8, st i i0 i1 i2 i3 i9]
  have sk' : ∀ j, j ≠ 0 → j ≠ 1 → N' k j = N k j := fun j j0 j1 => by rw [up2_at e49, va_up_ne _ _ j1, f3 k (by omega) (by omega) (by omega), sk j j0]
  refine ok_ret ⟨?_, fun _ => by omega, ⟨⟨?_, fun p hp => ?_, fun p hp => ?_, fun p hp => ?_, fun p hp => ?_⟩, fun p hp => ?_, ⟨fun p hp => ?_, ?_, ?_, ?_, fun q hq => ?_, fun q hq => ?_⟩, ?_, ?_, ?_, ?_, fun i hi => ?_, fun i hi => ?_⟩, fun i hi => s' i (by omega) (by omega) (by omega) (by omega) (by omega) (by omega) (by omega) (by omega)⟩
  · rw [up2_at e49, va_up_ne _ _ (by decide), f3 k (by omega) (by omega) (by omega), k0]
  · rw [up2_v e49]; omega
  · rw [up2_n e49 (by omega), f3 _ (by omega) (by omega) (by omega), q1]
    show va_up (N (k + 1)) cnt x p = va_up (g 0) cnt x p
    by_cases e : p = cnt
    · subst e; rw [va_up_self, va_up_self]
    · rw [va_up_ne _ _ e, va_up_ne _ _ e]; exact b2 p (by omega)
  · rw [up2_n e49 (by omega), f3 _ (by omega) (by omega) (by omega), q2]
    show va_up (N (k + 2)) cnt y p = va_up (g 1) cnt y p
    by_cases e : p = cnt
    · subst e; rw [va_up_self, va_up_self]
    · rw [va_up_ne _ _ e, va_up_ne _ _ e]; exact b3 p (by omega)
  · rw [up2_n e49 (by omega), f3 _ (by omega) (by omega) (by omega), q3]
    show va_up (N (k + 3)) cnt z p = va_up (g 2) cnt z p
    by_cases e : p = cnt
    · subst e; rw [va_up_self, va_up_self]
    · rw [va_up_ne _ _ e, va_up_ne _ _ e]; exact b5 p (by omega)
  · rw [s' _ (by omega) (by omega) (by omega) (by omega) (by omega) (by omega) (by omega) (by omega)]; exact (a2 p (by omega)).1
  · rw [s' _ (by omega) (by omega) (by omega) (by omega) (by omega) (by omega) (by omega) (by omega), s' _ (by omega) (by omega) (by omega) (by omega) (by omega) (by omega) (by omega) (by omega)]; exact a2 p hp
  · have e6 := up2_n e49 (show k + 6 ≠ k by omega)
    have e7 := up2_n e49 (show k + 7 ≠ k by omega)
    have e8 := up2_n e49 (show k + 8 ≠ k by omega)
    show RR N' k p (va_up (sR s) cnt [(y, air)] p)
    by_cases e : p = cnt
    · subst e
      rw [va_up_self]
      exact RR_of f1 e6 e7 e8
    · rw [va_up_ne _ _ e]
      exact RR_of (f2 p _ e (RR_of (c1' p (by omega)) (st _ (by omega) (by omega) (by omega) (by omega) (by omega)) (st _ (by omega) (by omega) (by omega) (by omega) (by omega)) (st _ (by omega) (by omega) (by omega) (by omega) (by omega)))) e6 e7 e8
  · rw [sk' _ (by decide) (by decide)]; exact c2'
  · rw [sk' _ (by decide) (by decide)]; exact c3
  · rw [sk' _ (by decide) (by decide)]; exact c4
  · rw [up2_n e49 (by omega), f3 _ (by omega) (by omega) (by omega), q9]
    show va_up (N (k + 9)) cnt (-1) q = sF s q
    by_cases e : q = cnt
    · subst e; rw [va_up_self, (hz0 (by omega) q (by omega)).1]
    · rw [va_up_ne _ _ e]; exact c5 q (by omega)
  · rw [s' _ (by omega) (by omega) (by omega) (by omega) (by omega) (by omega) (by omega) (by omega)]; exact c6 q hq
  · rw [sk' _ (by decide) (by decide)]; exact a4
  · rw [sk' _ (by decide) (by decide)]; exact a5
  · rw [sk' _ (by decide) (by decide)]; exact a6
  · rw [sk' _ (by decide) (by decide)]; exact a7
  · rw [s' _ (by omega) (by omega) (by omega) (by omega) (by omega) (by omega) (by omega) (by omega), s' _ (by omega) (by omega) (by omega) (by omega) (by omega) (by omega) (by omega) (by omega), s' _ (by omega) (by omega) (by omega) (by omega) (by omega) (by omega) (by omega) (by omega)]; exact a8 i hi
  · rw [s' _ (by omega) (by omega) (by omega) (by omega) (by omega) (by omega) (by omega) (by omega), s' _ (by omega) (by omega) (by omega) (by omega) (by omega) (by omega) (by omega) (by omega), s' _ (by omega) (by omega) (by omega) (by omega) (by omega) (by omega) (by omega) (by omega)]; exact a9 i hi
theorem both_pipe {x y z : Int} (ha : h + 103 ≤ a) (hP : PurI cnt g mi ht air s dn d) (HC : ClsI h N cnt g mi ht air s dn d) : Both h k a N (m_Law_pipe h x y z a N) (fun N3 => m_Mo_pipe k x y z N3) cnt g mi ht air s dn d := by
  have hc := hP.1.1
  by_cases hx : (-1 ≤ x ∧ x < (cnt : Int)) ∧ (1 ≤ y ∧ y ≤ 1000) ∧ (1 ≤ z ∧ z ≤ 1000)
  · by_cases hA : cnt < 10 ∧ mi ≤ 0
    · have hv : (0 : Int) = 0 → rg (cnt : Int) := fun _ => ⟨by omega, by omega⟩
      refine ⟨0, (cnt : Int), cnt + 1, dDraw g cnt x y z, mi, ht, air, sPipe s cnt y air, dn, d, Or.inl rfl, hv, pur_pipe hx.1 hx.2.1 hx.2.2 hA.1 hP, wrap2 (by omega) ha hv (Or.inl rfl) (cls_pipe hP HC (fun n => absurd hx n) (fun _ n => absurd hA n) (fun _ _ _ => cls_pipe0 rfl hx.2.1 hA.1 hP HC)), fun N3 H3 => ref_pipe hP H3 (fun n => absurd hx n) (fun _ n => absurd hA n) (fun _ _ _ => ⟨rfl, rfl, rfl, rfl, rfl⟩)⟩
    · exact ⟨2, 0, cnt, g, mi, ht, air, s, dn, d, Or.inr (Or.inr rfl), fun q => absurd q (by decide), hP, wrap2 hc ha (fun q => absurd q (by decide)) (Or.inr (Or.inr rfl)) (cls_pipe hP HC (fun n => absurd hx n) (fun _ _ => HQ_bad2 HC) (fun _ n1 n2 => absurd ⟨n1, n2⟩ hA)), fun N3 H3 => ref_pipe hP H3 (fun n => absurd hx n) (fun _ _ N' e => MoQ_bad (by decide) H3 e) (fun _ n1 n2 => absurd ⟨n1, n2⟩ hA)⟩
  · exact ⟨1, 0, cnt, g, mi, ht, air, s, dn, d, Or.inr (Or.inl rfl), fun q => absurd q (by decide), hP, wrap2 hc ha (fun q => absurd q (by decide)) (Or.inr (Or.inl rfl)) (cls_pipe hP HC (fun _ => HQ_bad HC) (fun q => absurd q hx) (fun q => absurd q hx)), fun N3 H3 => ref_pipe hP H3 (fun _ N' e => MoQ_bad (by decide) H3 e) (fun q => absurd q hx) (fun q => absurd q hx)⟩
end
