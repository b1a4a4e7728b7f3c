/-! ===== draw ===== -/
section
variable {h k a : Nat} {N : nS} {cnt dn : Nat} {g d : Nat → Nat → Int} {mi ht air : Int} {s : St}
def dDraw (d : Nat → Nat → Int) (dn : Nat) (x y z : Int) : Nat → Nat → Int := va_up (va_up (va_up d 0 (va_up (d 0) dn x)) 1 (va_up (d 1) dn y)) 2 (va_up (d 2) dn z)
theorem cls_draw {p : Nat} {y z : Int} (hp : p < cnt) (hy : 0 ≤ y ∧ y ≤ 2999) (hz : 1 ≤ z ∧ z ≤ 1000) (ht4 : ¬ g 4 p = 0) (hm : mi ≤ y) (hd : dn < 60) (hP : PurI cnt g mi ht air s dn d) (H : ClsI h N cnt g mi ht air s dn d) : Ok (m_HL_draw h (p : Int) y z N) (HQ h N 0 (dn : Int) cnt g mi ht air s (dn + 1) (dDraw d dn (p : Int) y z)) := by
  have hc := hP.1.1
  have hmi := hP.2.2.2.2.1
  have b4 := hP.2.2.1 p (by omega)
  obtain ⟨a1, a2, a3, a4, a5, a6, a7, a8, a9⟩ := H
  rw [m_HL_draw]
  refine gateP a1.1 hc (fun _ => ?_) (fun n => absurd ⟨by omega, by omega⟩ n)
  refine gateW (fun _ => ?_) (fun n => absurd hy n)
  refine gateW (fun _ => ?_) (fun n => absurd hz n)
  refine ok_ck ⟨by omega, by omega⟩ ?_
  rw [Int.toNat_natCast, (a2 p (by omega)).2]
  refine ok_ck ⟨by omega, by omega⟩ ?_
  refine ok_f ht4 ?_
  rw [a4]
  refine ok_ck ⟨by omega, by omega⟩ ?_
  refine ok_t hm ?_
  rw [a7]
  refine ok_ck ⟨by omega, by omega⟩ ?_
  refine ok_t (by omega) ?_
  have hadd : Ok (m_Draws_add (h + 95) (p : Int) y z N) (fun r N' => r = (dn : Int) ∧ N' (h + 95 + 1) = va_up (N (h + 95 + 1)) dn (p : Int) ∧ N' (h + 95 + 2) = va_up (N (h + 95 + 2)) dn y ∧ N' (h + 95 + 3) = va_up (N (h + 95 + 3)) dn z ∧ N' (h + 95) 6 = (dn : Int) + 1 ∧ ∀ j, j < h + 95 ∨ h + 95 + 4 ≤ j → N' j = N j) := by
    rw [m_Draws_add, a7]
    refine ok_ck ⟨by omega, by omega⟩ ?_
    refine ok_t (by omega) ?_
    refine ok_ck ⟨by omega, by omega⟩ ?_
    rw [Int.toNat_natCast]
    refine ok_nlt (fun N4 e4 => ?_)
    have n4 : N4 (h + 95) 6 = (dn : Int) := by rw [up2_n e4 (by omega), a7]
    rw [n4]
    refine ok_ck ⟨by omega, by omega⟩ ?_
    rw [Int.toNat_natCast]
    refine ok_nlt (fun N7 e7 => ?_)
    have n7 : N7 (h + 95) 6 = (dn : Int) := by rw [up2_n e7 (by omega), n4]
    rw [n7]
    refine ok_ck ⟨by omega, by omega⟩ ?_
    rw [Int.toNat_natCast]
    refine ok_nlt (fun N10 e10 => ?_)
    have n10 : N10 (h + 95) 6 = (dn : Int) := by rw [up2_n e10 (by omega), n7]
    rw [n10]
    refine ok_nlt (fun N12 e12 => ?_)
    refine ok_ret ⟨by rw [up2_v e12]; omega, ?_, ?_, ?_, up2_v e12, fun j hj => ?_⟩
    · rw [up2_n e12 (by omega), up2_n e10 (by omega), up2_n e7 (by omega), up2_at e4]
    · rw [up2_n e12 (by omega), up2_n e10 (by omega), up2_at e7, up2_n e4 (by omega)]
    · rw [up2_n e12 (by omega), up2_at e10, up2_n e7 (by omega), up2_n e4 (by omega)]
    · rw [up2_n e12 (by omega), up2_n e10 (by omega), up2_n e7 (by omega), up2_n e4 (by omega)]
  refine ok_nbd hadd (fun r N' q => ?_)
  obtain ⟨rfl, q1, q2, q3, q4, q5⟩ := q
  refine ok_ret ⟨rfl, fun _ => rfl, ⟨NT_of a1 (fun i _ _ => q5 i (by omega)), fun q hq => ?_, CW_of hc a3 (fun i _ _ => q5 i (by omega)), ?_, ?_, ?_, ?_, fun i hi => ?_, fun i hi => ?_⟩, fun i hi => q5 i (by omega)⟩
  · rw [q5 _ (by omega), q5 _ (by omega)]; exact a2 q hq
  · rw [q5 _ (by omega)]; exact a4
  · rw [q5 _ (by omega)]; exact a5
  · rw [q5 _ (by omega)]; exact a6
  · rw [q4]; omega
  · rw [q1, q2, q3]
    show va_up (N (h + 95 + 1)) dn (p : Int) i = va_up (d 0) dn (p : Int) i ∧ va_up (N (h + 95 + 2)) dn y i = va_up (d 1) dn y i ∧ va_up (N (h + 95 + 3)) dn z i = va_up (d 2) dn z i
    by_cases e : i = dn
    · subst e; simp only [va_up_self]; exact ⟨trivial, trivial, trivial⟩
    · rw [va_up_ne _ _ e, va_up_ne _ _ e, va_up_ne _ _ e, va_up_ne _ _ e, va_up_ne _ _ e, va_up_ne _ _ e]
      exact a8 i (by omega)
  · rw [q5 _ (by omega), q5 _ (by omega), q5 _ (by omega)]; exact a9 i hi
theorem ref_draw {p : Nat} {y z : Int} (hp : p < cnt) (hy : 0 ≤ y ∧ y ≤ 2999) (hz : 1 ≤ z ∧ z ≤ 1000) (ht4 : ¬ g 4 p = 0) (hm : mi ≤ y) (hd : dn < 60) (hP : PurI cnt g mi ht air s dn d) (H : RefI k N cnt g mi ht air s dn d) : Ok (m_Mo_draw k (p : Int) y z N) (MoQ k N 0 (dn : Int) cnt g mi ht air s (dn + 1) (dDraw d dn (p : Int) y z)) := by
  have hc := hP.1.1
  have hmi := hP.2.2.2.2.1
  have b4 := hP.2.2.1 p (by omega)
  obtain ⟨a1, a2, a3, a4, a5, a6, a7, a8, a9⟩ := H
  rw [m_Mo_draw]
  refine gateM a1.1 hc (fun _ => ?_) (fun n => absurd ⟨by omega, by omega⟩ n)
  refine gateI (fun _ => ?_) (fun n => absurd hy n)
  refine gateI (fun _ => ?_) (fun n => absurd hz n)
  refine ok_ck ⟨by omega, by omega⟩ ?_
  rw [Int.toNat_natCast, (a2 p (by omega)).2]
  refine ok_ck ⟨by omega, by omega⟩ ?_
  refine ok_f ht4 ?_
  rw [a4]
  refine ok_ck ⟨by omega, by omega⟩ ?_
  refine ok_f (by omega) ?_
  rw [a7]
  refine ok_ck ⟨by omega, by omega⟩ ?_
  refine ok_f (by omega) ?_
  refine ok_nlt (fun N35 e35 => ?_)
  have n35 : N35 k 15 = (dn : Int) := by rw [up2_at e35, va_up_ne _ _ (by decide), a7]
  rw [n35]
  refine ok_ck ⟨by omega, by omega⟩ ?_
  rw [Int.toNat_natCast]
  refine ok_nlt (fun N39 e39 => ?_)
  have n39 : N39 k 15 = (dn : Int) := by rw [up2_n e39 (by omega), n35]
  rw [n39]
  refine ok_ck ⟨by omega, by omega⟩ ?_
  rw [Int.toNat_natCast]
  refine ok_nlt (fun N42 e42 => ?_)
  have n42 : N42 k 15 = (dn : Int) := by rw [up2_n e42 (by omega), n39]
  rw [n42]
  refine ok_ck ⟨by omega, by omega⟩ ?_
  rw [Int.toNat_natCast]
  refine ok_nlt (fun N45 e45 => ?_)
  have n45 : N45 k 15 = (dn : Int) := by rw [up2_n e45 (by omega), n42]
  rw [n45]
  refine ok_nlt (fun N' e47 => ?_)
  have st : ∀ i, i ≠ k → i ≠ k + 11 → i ≠ k + 12 → i ≠ k + 13 → N' i = N i := fun i i0 i1 i2 i3 => by rw [up2_n e47 i0, up2_n e45 i3, up2_n e42 i2, up2_n e39 i1, up2_n e35 i0]
  have sk : ∀ j, j ≠ 0 → j ≠ 15 → N' k j = N k j := fun j j0 j1 => by rw [up2_at e47, va_up_ne _ _ j1, up2_n e45 (by omega), up2_n e42 (by omega), up2_n e39 (by omega), up2_at e35, va_up_ne _ _ j0]
  have q1 : N' (k + 11) = va_up (N (k + 11)) dn (p : Int) := by rw [up2_n e47 (by omega), up2_n e45 (by omega), up2_n e42 (by omega), up2_at e39, up2_n e35 (by omega)]
  have q2 : N' (k + 12) = va_up (N (k + 12)) dn y := by rw [up2_n e47 (by omega), up2_n e45 (by omega), up2_at e42, up2_n e39 (by omega), up2_n e35 (by omega)]
  have q3 : N' (k + 13) = va_up (N (k + 13)) dn z := by rw [up2_n e47 (by omega), up2_at e45, up2_n e42 (by omega), up2_n e39 (by omega), up2_n e35 (by omega)]
  refine ok_ret ⟨?_, fun _ => by omega, ⟨NR_of a1 (sk 1 (by decide) (by decide)) (fun i _ _ => st i (by omega) (by omega) (by omega) (by omega)), fun q hq => ?_, CR_of a3 (fun i _ _ => st i (by omega) (by omega) (by omega) (by omega)) (fun j hj => sk j (by omega) (by omega)), ?_, ?_, ?_, ?_, fun i hi => ?_, fun i hi => ?_⟩, fun i hi => st i (by omega) (by omega) (by omega) (by omega)⟩
  · rw [up2_at e47, va_up_ne _ _ (by decide), up2_n e45 (by omega), up2_n e42 (by omega), up2_n e39 (by omega), up2_v e35]
  · rw [st _ (by omega) (by omega) (by omega) (by omega), st _ (by omega) (by omega) (by omega) (by omega)]; exact a2 q hq
  · rw [sk 9 (by decide) (by decide)]; exact a4
  · rw [sk 7 (by decide) (by decide)]; exact a5
  · rw [sk 8 (by decide) (by decide)]; exact a6
  · rw [up2_v e47]; omega
  · rw [q1, q2, q3]
    show va_up (N (k + 11)) dn (p : Int) i = va_up (d 0) dn (p : Int) i ∧ va_up (N (k + 12)) dn y i = va_up (d 1) dn y i ∧ va_up (N (k + 13)) dn z i = va_up (d 2) dn z i
    by_cases e : i = dn
    · subst e; simp only [va_up_self]; exact ⟨trivial, trivial, trivial⟩
    · rw [va_up_ne _ _ e, va_up_ne _ _ e, va_up_ne _ _ e, va_up_ne _ _ e, va_up_ne _ _ e, va_up_ne _ _ e]
      exact a8 i (by omega)
  · rw [st _ (by omega) (by omega) (by omega) (by omega), st _ (by omega) (by omega) (by omega) (by omega), st _ (by omega) (by omega) (by omega) (by omega)]; exact a9 i hi
theorem pur_draw {p : Nat} {y z : Int} (hp : p < cnt) (hy : 0 ≤ y ∧ y ≤ 2999) (hz : 1 ≤ z ∧ z ≤ 1000) (hd : dn < 60) (hP : PurI cnt g mi ht air s dn d) : PurI cnt g mi ht air s (dn + 1) (dDraw d dn (p : Int) y z) := by
  obtain ⟨a1, a2, a3, a4, a5, a6, a7, a8, a9, a10⟩ := hP
  refine ⟨a1, a2, a3, a4, a5, a6, a7, by omega, fun i hi => ?_, a10⟩
  show (0 ≤ va_up (d 0) dn (p : Int) i ∧ va_up (d 0) dn (p : Int) i < (cnt : Int)) ∧ (0 ≤ va_up (d 1) dn y i ∧ va_up (d 1) dn y i ≤ 2999) ∧ (1 ≤ va_up (d 2) dn z i ∧ va_up (d 2) dn z i ≤ 1000)
  by_cases e : i = dn
  · subst e
    rw [va_up_self, va_up_self, va_up_self]
    exact ⟨by omega, hy, hz⟩
  · rw [va_up_ne _ _ e, va_up_ne _ _ e, va_up_ne _ _ e]
    exact a9 i (by omega)
theorem both_draw {x y z : Int} (ha : h + 103 ≤ a) (hP : PurI cnt g mi ht air s dn d) (HC : ClsI h N cnt g mi ht air s dn d) : Both h k a N (m_Law_draw h x y z a N) (fun N3 => m_Mo_draw k x y z N3) cnt g mi ht air s dn d := by
  have hc := hP.1.1
  have hdn := hP.2.2.2.2.2.2.2.1
  have hmi := hP.2.2.2.2.1
  by_cases hx : (0 ≤ x ∧ x < (cnt : Int)) ∧ (0 ≤ y ∧ y ≤ 2999) ∧ (1 ≤ z ∧ z ≤ 1000)
  · obtain ⟨p, rfl⟩ : ∃ p : Nat, x = (p : Int) := ⟨x.toNat, by omega⟩
    have hp : p < cnt := by omega
    have b4 := hP.2.2.1 p (by omega)
    by_cases hA : ¬ g 4 p = 0 ∧ mi ≤ y ∧ dn < 60
    · have hv : (0 : Int) = 0 → rg (dn : Int) := fun _ => ⟨by omega, by omega⟩
      exact ⟨0, (dn : Int), cnt, g, mi, ht, air, s, dn + 1, _, Or.inl rfl, hv, pur_draw hp hx.2.1 hx.2.2 hA.2.2 hP, wrap2 hc ha hv (Or.inl rfl) (cls_draw hp hx.2.1 hx.2.2 hA.1 hA.2.1 hA.2.2 hP HC), fun N3 H3 => ref_draw hp hx.2.1 hx.2.2 hA.1 hA.2.1 hA.2.2 hP H3⟩
    · refine ⟨2, 0, cnt, g, mi, ht, air, s, dn, d, Or.inr (Or.inr rfl), fun q => absurd q (by decide), hP, wrap2 hc ha (fun q => absurd q (by decide)) (Or.inr (Or.inr rfl)) ?_, fun N3 H3 => ?_⟩
      · have HC' := HC
        obtain ⟨a1, a2, a3, a4, a5, a6, a7, a8, a9⟩ := HC
        rw [m_HL_draw]
        refine gateP a1.1 hc (fun _ => ?_) (fun n => absurd hx.1 n)
        refine gateW (fun _ => ?_) (fun n => absurd hx.2.1 n)
        refine gateW (fun _ => ?_) (fun n => absurd hx.2.2 n)
        refine ok_ck ⟨by omega, by omega⟩ ?_
        rw [Int.toNat_natCast, (a2 p (by omega)).2]
        refine ok_ck ⟨by omega, by omega⟩ ?_
        refine ok_if (fun _ => ok_ret (HQ_bad2 HC')) (fun c1 => ?_)
        rw [a4]
        refine ok_ck ⟨by omega, by omega⟩ ?_
        refine ok_if (fun c2 => ?_) (fun _ => ok_ret (HQ_bad2 HC'))
        rw [a7]
        refine ok_ck ⟨by omega, by omega⟩ ?_
        exact ok_if (fun c3 => absurd ⟨c1, c2, by omega⟩ hA) (fun _ => ok_ret (HQ_bad2 HC'))
      · show Ok (m_Mo_draw k (p : Int) y z N3) _
        have H3' := H3
        obtain ⟨a1, a2, a3, a4, a5, a6, a7, a8, a9⟩ := H3
        rw [m_Mo_draw]
        refine gateM a1.1 hc (fun _ => ?_) (fun n => absurd hx.1 n)
        refine gateI (fun _ => ?_) (fun n => absurd hx.2.1 n)
        refine gateI (fun _ => ?_) (fun n => absurd hx.2.2 n)
        refine ok_ck ⟨by omega, by omega⟩ ?_
        rw [Int.toNat_natCast, (a2 p (by omega)).2]
        refine ok_ck ⟨by omega, by omega⟩ ?_
        refine ok_if (fun _ => ok_nlt (fun N' e => ok_ret (MoQ_bad (by decide) H3' e))) (fun c1 => ?_)
        rw [a4]
        refine ok_ck ⟨by omega, by omega⟩ ?_
        refine ok_if (fun _ => ok_nlt (fun N' e => ok_ret (MoQ_bad (by decide) H3' e))) (fun c2 => ?_)
        rw [a7]
        refine ok_ck ⟨by omega, by omega⟩ ?_
        exact ok_if (fun _ => ok_nlt (fun N' e => ok_ret (MoQ_bad (by decide) H3' e))) (fun c3 => absurd ⟨c1, by omega, by omega⟩ hA)
  · refine ⟨1, 0, cnt, g, mi, ht, air, s, dn, d, Or.inr (Or.inl rfl), fun q => absurd q (by decide), hP, wrap2 hc ha (fun q => absurd q (by decide)) (Or.inr (Or.inl rfl)) ?_, fun N3 H3 => ?_⟩
    · rw [m_HL_draw]
      exact gateP HC.1.1 hc (fun c => gateW (fun c1 => gateW (fun c2 => absurd ⟨c, c1, c2⟩ hx) (fun _ => HQ_bad HC)) (fun _ => HQ_bad HC)) (fun _ => HQ_bad HC)
    · show Ok (m_Mo_draw k x y z N3) _
      rw [m_Mo_draw]
      exact gateM H3.1.1 hc (fun c => gateI (fun c1 => gateI (fun c2 => absurd ⟨c, c1, c2⟩ hx) (fun _ N' e => MoQ_bad (by decide) H3 e)) (fun _ N' e => MoQ_bad (by decide) H3 e)) (fun _ N' e => MoQ_bad (by decide) H3 e)
/-! ===== filling ===== -/
theorem ok_fillWithAir {w nn p : Nat} {V A : Int} {rows : Nat → Rw} (hp : p < cnt) (hc : cnt ≤ 10) (hnw : nn + 5 < w) (hn : N nn 5 = (cnt : Int)) (hV : N (nn + 2) p = V) (hV1 : 1 ≤ V ∧ V ≤ 1000) (hA : N w 10 = A) (hA1 : 0 ≤ A ∧ A ≤ 10000) (hW : ∀ q, q < cnt → q ≠ p → RP N (w + 1 + 13 + 3 * q) 12 (rows q)) : Ok (m_Water_fillWithAir w nn (p : Int) N) (fun _ N' => WS N' w cnt (va_up rows p [(V, A)]) ∧ ∀ j, j < w + 14 ∨ w + 44 ≤ j → N' j = N j) := by
  rw [m_Water_fillWithAir]
  refine ok_f (by omega) ?_
  rw [hn]
  refine ok_ck ⟨by omega, by omega⟩ ?_
  refine ok_f (by omega) ?_
  refine ok_ck ⟨by omega, by omega⟩ ?_
  rw [Int.toNat_natCast]
  refine ok_nbd ok_Plugs_clear (fun r N6 g6 => ?_)
  obtain ⟨g1, g2, _, _⟩ := g6
  rw [g2 (nn + 2) (by omega) (by omega) (by omega), g2 w (by omega) (by omega) (by omega), hV, hA]
  refine ok_ck ⟨by omega, by omega⟩ ?_
  refine ok_ck ⟨by omega, by omega⟩ ?_
  have ea : addL [] V A = [(V, A)] := addL_nil V A (by omega)
  refine ok_nbd (ok_Plugs_add g1 (fun p hp => by cases hp) (by omega) (by rw [ea]; simp)) (fun r5 N11 h11 => ?_)
  rw [ea] at h11
  obtain ⟨k1, k2, _⟩ := h11
  have kk := F3_tr g2 k2
  refine ok_ret ⟨fun q hq => ?_, fun j hj => kk j (by omega) (by omega) (by omega)⟩
  by_cases e : q = p
  · subst e; rw [va_up_self]; exact k1
  · rw [va_up_ne _ _ e]
    exact RP_F3 (hW q hq e) kk (by omega)
theorem ok_mfill {p : Nat} {V A : Int} (hp : p < 10) (hV : N (k + 2) p = V) (hA : N k 8 = A) : Ok (m_Mo_fill k (p : Int) N) (fun _ N' => RR N' k p [(V, A)] ∧ (∀ q l, q ≠ p → RR N k q l → RR N' k q l) ∧ ∀ j, j ≠ k + 6 → j ≠ k + 7 → j ≠ k + 8 → N' j = N j) := by
  rw [m_Mo_fill]
  refine ok_ck ⟨by omega, by omega⟩ ?_
  rw [Int.toNat_natCast, show Int.toNat (12 * (p : Int)) = 12 * p by omega]
  refine ok_nlt (fun N2 e2 => ?_)
  refine ok_ck ⟨by omega, by omega⟩ ?_
  rw [up2_n e2 (show k + 2 ≠ k + 6 by omega), hV]
  refine ok_nlt (fun N5 e5 => ?_)
  rw [up2_n e5 (show k ≠ k + 7 by omega), up2_n e2 (show k ≠ k + 6 by omega), hA]
  refine ok_nlt (fun N7 e7 => ?_)
  have x6 : N7 (k + 6) = va_up (N (k + 6)) p 1 := by rw [up2_n e7 (by omega), up2_n e5 (by omega), up2_at e2]
  have x7 : N7 (k + 7) = va_up (N (k + 7)) (12 * p) V := by rw [up2_n e7 (by omega), up2_at e5, up2_n e2 (by omega)]
  have x8 : N7 (k + 8) = va_up (N (k + 8)) (12 * p) A := by rw [up2_at e7, up2_n e5 (by omega), up2_n e2 (by omega)]
  refine ok_ret ⟨⟨by rw [x6, va_up_self]; rfl, by simp, fun i hi => ?_⟩, fun q l hq hr => ⟨by rw [x6, va_up_ne _ _ hq]; exact hr.1, hr.2.1, ?_⟩, fun j j1 j2 j3 => by rw [up2_n e7 j3, up2_n e5 j2, up2_n e2 j1]⟩
  · have : i = 0 := by simpa using hi
    subst this
    rw [x7, x8]
    exact ⟨va_up_self _ _ _, va_up_self _ _ _⟩
  · have hl := hr.2.1
    refine Ls_cg hr.2.2 (fun i hi => ?_)
    rw [x7, x8, va_up_ne _ _ (by omega), va_up_ne _ _ (by omega)]
    exact ⟨rfl, rfl⟩
end
