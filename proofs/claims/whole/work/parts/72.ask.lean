/-! ===== the calls of the law that answer an int ===== -/
def Both (h k a : Nat) (N : nS) (oL : Option (Int × nS)) (fM : nS → Option (Int × nS)) (cnt : Nat) (g : Nat → Nat → Int) (mi ht air : Int) (s : St) (dn : Nat) (d : Nat → Nat → Int) : Prop :=
  ∃ (c v : Int) (cnt' : Nat) (g' : Nat → Nat → Int) (mi' ht' air' : Int) (s' : St) (dn' : Nat) (d' : Nat → Nat → Int), (c = 0 ∨ c = 1 ∨ c = 2) ∧ (c = 0 → rg v) ∧ PurI cnt' g' mi' ht' air' s' dn' d' ∧ Ok oL (LQ h N c v a cnt' g' mi' ht' air' s' dn' d') ∧ ∀ N3, RefI k N3 cnt g mi ht air s dn d → Ok (fM N3) (MoQ k N3 c v cnt' g' mi' ht' air' s' dn' d')
section
variable {h k a : Nat} {N : nS} {cnt dn : Nat} {g d : Nat → Nat → Int} {mi ht air : Int} {s : St}
theorem law_int {oL : Option (Int × nS)} {fM : nS → Option (Int × nS)} (hk : h + 103 ≤ k) (ha : k + 28 ≤ a) (HR : RefI k N cnt g mi ht air s dn d) (H : Both h k a N oL fM cnt g mi ht air s dn d) : ∃ No, nbd oL (fun r2 N3 => nbd (fM N3) (fun r5 N6 => nbd (m_Mo_thrown k N6) (fun r8 N9 => if rg r8 then if rg r2 then if r8 = r2 then if r2 = 0 then if rg r5 then if rl (N9 a (Int.toNat 0)) then if (if r5 < (N9 a (Int.toNat 0)) then 1 else if (N9 a (Int.toNat 0)) = r5 then 0 else -1) = 0 then some ((1 : Int), N9) else some (0, N9) else none else none else some (1, N9) else some (0, N9) else none else none))) = some (1, No) ∧ RelG h k No := by
  obtain ⟨c, v, cnt', g', mi', ht', air', s', dn', d', hc, hv, hP, hL, hM⟩ := H
  exact law_end (F := fun r2 r5 r8 N9 => if rg r8 then if rg r2 then if r8 = r2 then if r2 = 0 then if rg r5 then if rl (N9 a (Int.toNat 0)) then if (if r5 < (N9 a (Int.toNat 0)) then 1 else if (N9 a (Int.toNat 0)) = r5 then 0 else -1) = 0 then some ((1 : Int), N9) else some (0, N9) else none else none else some (1, N9) else some (0, N9) else none else none) hk ha hP hL HR hM (fun r5 N9 b1 b2 => fin_int hc hv b1 b2)
/-! loop -/
theorem cls_loop {p : Nat} {y : Int} (hp : p < cnt) (hy : 0 ≤ y ∧ y ≤ 500) (hP : PurI cnt g mi ht air s dn d) (H : ClsI h N cnt g mi ht air s dn d) : Ok (m_HL_loop h (p : Int) y N) (HQ h N 0 (g 3 p) cnt (va_up g 3 (va_up (g 3) p y)) mi ht air s dn d) := by
  have hc := hP.1.1
  have h4 := H.2.1 p (by omega)
  rw [m_HL_loop]
  refine gateP H.1.1 hc (fun _ => ?_) (fun n => absurd ⟨by omega, by omega⟩ n)
  refine gateW (fun _ => ?_) (fun n => absurd hy n)
  refine ok_ck ⟨by omega, by omega⟩ ?_
  rw [Int.toNat_natCast, h4.1]
  refine ok_nlt (fun N' e => ok_ret ⟨rfl, fun _ => rfl, ?_, fun i _ => up2_n e (by omega)⟩)
  have st : ∀ i, i ≠ h + 1 + 4 → N' i = N i := fun i hi => up2_n e hi
  obtain ⟨a1, a2, a3, a4, a5, a6, a7, a8, a9⟩ := H
  have x4 : ∀ q, q < 10 → N' (h + 1 + 4) q = va_up (g 3) p y q := fun q hq => by
    rw [up2_at e]
    by_cases e2 : q = p
    · subst e2; rw [va_up_self, va_up_self]
    · rw [va_up_ne _ _ e2, va_up_ne _ _ e2]; exact (a2 q hq).1
  refine ⟨?_, fun q hq => ⟨x4 q hq, ?_⟩, CW_of hc a3 (fun i _ _ => st i (by omega)), ?_, ?_, ?_, ?_, fun i hi => ?_, fun i hi => ?_⟩
  · obtain ⟨b1, b2, b3, b5, b6⟩ := a1
    refine ⟨by rw [st _ (by omega)]; exact b1, fun q hq => ?_, fun q hq => ?_, fun q hq => ?_, fun q hq => x4 q (by omega)⟩
    · rw [st _ (by omega)]; exact b2 q hq
    · rw [st _ (by omega)]; exact b3 q hq
    · rw [st _ (by omega)]; exact b5 q hq
  · rw [st _ (by omega)]; exact (a2 q hq).2
  · rw [st _ (by omega)]; exact a4
  · rw [st _ (by omega)]; exact a5
  · rw [st _ (by omega)]; exact a6
  · rw [st _ (by omega)]; exact a7
  · rw [st _ (by omega), st _ (by omega), st _ (by omega)]; exact a8 i hi
  · rw [st _ (by omega), st _ (by omega), st _ (by omega)]; exact a9 i hi
theorem ref_loop {p : Nat} {y : Int} (hp : p < cnt) (hy : 0 ≤ y ∧ y ≤ 500) (hP : PurI cnt g mi ht air s dn d) (H : RefI k N cnt g mi ht air s dn d) : Ok (m_Mo_loop k (p : Int) y N) (MoQ k N 0 (g 3 p) cnt (va_up g 3 (va_up (g 3) p y)) mi ht air s dn d) := by
  have hc := hP.1.1
  have h4 := H.2.1 p (by omega)
  rw [m_Mo_loop]
  refine gateM H.1.1 hc (fun _ => ?_) (fun n => absurd ⟨by omega, by omega⟩ n)
  refine gateI (fun _ => ?_) (fun n => absurd hy n)
  refine ok_nlt (fun N9 e9 => ?_)
  refine ok_ck ⟨by omega, by omega⟩ ?_
  rw [Int.toNat_natCast, up2_n e9 (show k + 5 ≠ k by omega), h4.1]
  refine ok_nlt (fun N' e => ok_ret ?_)
  have st : ∀ i, i ≠ k → i ≠ k + 5 → N' i = N i := fun i i0 i1 => by rw [up2_n e i1, up2_n e9 i0]
  have sk : ∀ j, j ≠ 0 → N' k j = N k j := fun j hj => by rw [up2_n e (by omega), up2_at e9, va_up_ne _ _ hj]
  obtain ⟨a1, a2, a3, a4, a5, a6, a7, a8, a9⟩ := H
  have x4 : ∀ q, q < 10 → N' (k + 5) q = va_up (g 3) p y q := fun q hq => by
    rw [up2_at e, up2_n e9 (by omega)]
    by_cases e2 : q = p
    · subst e2; rw [va_up_self, va_up_self]
    · rw [va_up_ne _ _ e2, va_up_ne _ _ e2]; exact (a2 q hq).1
  refine ⟨by rw [up2_n e (by omega), up2_v e9], fun _ => rfl, ⟨?_, fun q hq => ⟨x4 q hq, ?_⟩, CR_of a3 (fun i _ _ => st i (by omega) (by omega)) (fun j hj => sk j (by omega)), ?_, ?_, ?_, ?_, fun i hi => ?_, fun i hi => ?_⟩, fun i hi => st i (by omega) (by omega)⟩
  · obtain ⟨b1, b2, b3, b5, b6⟩ := a1
    refine ⟨by rw [sk 1 (by decide)]; exact b1, fun q hq => ?_, fun q hq => ?_, fun q hq => ?_, fun q hq => x4 q (by omega)⟩
    · rw [st _ (by omega) (by omega)]; exact b2 q hq
    · rw [st _ (by omega) (by omega)]; exact b3 q hq
    · rw [st _ (by omega) (by omega)]; exact b5 q hq
  · rw [st _ (by omega) (by omega)]; exact (a2 q hq).2
  · rw [sk 9 (by decide)]; exact a4
  · rw [sk 7 (by decide)]; exact a5
  · rw [sk 8 (by decide)]; exact a6
  · rw [sk 15 (by decide)]; exact a7
  · rw [st _ (by omega) (by omega), st _ (by omega) (by omega), st _ (by omega) (by omega)]; exact a8 i hi
  · rw [st _ (by omega) (by omega), st _ (by omega) (by omega), st _ (by omega) (by omega)]; exact a9 i hi
theorem pur_loop {p : Nat} {y : Int} (hy : 0 ≤ y ∧ y ≤ 500) (hP : PurI cnt g mi ht air s dn d) : PurI cnt (va_up g 3 (va_up (g 3) p y)) mi ht air s dn d := by
  obtain ⟨⟨a1, a2, a3, a4, a5⟩, b2, b3⟩ := hP
  have x : ∀ q, q < 10 → 0 ≤ va_up (g 3) p y q ∧ va_up (g 3) p y q ≤ 500 := fun q hq => by
    by_cases e : q = p
    · subst e; rw [va_up_self]; exact hy
    · rw [va_up_ne _ _ e]; exact b2 q hq
  exact ⟨⟨a1, a2, a3, a4, fun q hq => x q (by omega)⟩, x, b3⟩
theorem both_loop {x y : Int} (ha : h + 103 ≤ a) (hP : PurI cnt g mi ht air s dn d) (HC : ClsI h N cnt g mi ht air s dn d) : Both h k a N (m_Law_loop h x y a N) (fun N3 => m_Mo_loop k x y N3) cnt g mi ht air s dn d := by
  by_cases hx : (0 ≤ x ∧ x < (cnt : Int)) ∧ (0 ≤ y ∧ y ≤ 500)
  · obtain ⟨p, rfl⟩ : ∃ p : Nat, x = (p : Int) := ⟨x.toNat, by omega⟩
    have hp : p < cnt := by omega
    have b := hP.2.1 p (by have := hP.1.1; omega)
    have hv : (0 : Int) = 0 → rg (g 3 p) := fun _ => ⟨by omega, by omega⟩
    exact ⟨0, g 3 p, cnt, _, mi, ht, air, s, dn, d, Or.inl rfl, hv, pur_loop hx.2 hP, wrap1 hP.1.1 ha hv (Or.inl rfl) (cls_loop hp hx.2 hP HC), fun N3 H3 => ref_loop hp hx.2 hP H3⟩
  · refine ⟨1, 0, cnt, g, mi, ht, air, s, dn, d, Or.inr (Or.inl rfl), fun q => absurd q (by decide), hP, wrap1 hP.1.1 ha (fun q => absurd q (by decide)) (Or.inr rfl) ?_, fun N3 H3 => ?_⟩
    · rw [m_HL_loop]
      exact gateP HC.1.1 hP.1.1 (fun c => gateW (fun c2 => absurd ⟨c, c2⟩ hx) (fun _ => HQ_bad HC)) (fun _ => HQ_bad HC)
    · show Ok (m_Mo_loop k x y N3) _
      rw [m_Mo_loop]
      exact gateM H3.1.1 hP.1.1 (fun c => gateI (fun c2 => absurd ⟨c, c2⟩ hx) (fun _ N' e => MoQ_bad (by decide) H3 e)) (fun _ N' e => MoQ_bad (by decide) H3 e)
/-! told -/
def aTold (s : St) (mi : Int) (p : Nat) (y : Int) : Int := if y = 0 then mnL 10000 (sR s p) else if y = 1 then mxL 0 (sR s p) else if y = 2 then mi - 1 - sF s p else sT s p
theorem both_told {x y : Int} (ha : h + 103 ≤ a) (hP : PurI cnt g mi ht air s dn d) (HC : ClsI h N cnt g mi ht air s dn d) : Both h k a N (m_Law_told h x y a N) (fun N3 => m_Mo_told k x y N3) cnt g mi ht air s dn d := by
  have hc := hP.1.1
  by_cases hx : (0 ≤ x ∧ x < (cnt : Int)) ∧ (0 ≤ y ∧ y ≤ 3)
  · obtain ⟨p, rfl⟩ : ∃ p : Nat, x = (p : Int) := ⟨x.toNat, by omega⟩
    have hp : p < cnt := by omega
    obtain ⟨o1, o2, o3, o4, o5, o6⟩ := hP.2.2.2.1 p hp
    have m1 := mnL_le (sR s p) 10000 (by omega) (by omega) o1
    have m2 := mxL_le (sR s p) 0 (by omega) (by omega) o1
    have fb := hP.2.2.2.2.2.2.2.2.2.2.2.1 p (by omega)
    have hmi := hP.2.2.2.2.1
    have hv : (0 : Int) = 0 → rg (aTold s mi p y) := fun _ => by
      unfold aTold
      repeat' split
      all_goals exact ⟨by omega, by omega⟩
    have hl0 : 0 < (sR s p).length := wl_pos (by omega)
    refine ⟨0, aTold s mi p y, cnt, g, mi, ht, air, s, dn, d, Or.inl rfl, hv, hP, wrap1 hc ha hv (Or.inl rfl) ?_, fun N3 H3 => ?_⟩
    · have hW := HC.2.2.1
      rw [m_HL_told]
      refine gateP HC.1.1 hc (fun _ => ?_) (fun n => absurd hx.1 n)
      refine gateW (fun _ => ?_) (fun n => absurd hx.2 n)
      have fin : ∀ r : Int, r = aTold s mi p y → HQ h N 0 (aTold s mi p y) cnt g mi ht air s dn d (0, r) N := fun r hr => ⟨rfl, fun _ => hr, HC, fun _ _ => rfl⟩
      refine ok_if (fun c1 => ?_) (fun c1 => ?_)
      · refine ok_ck ⟨by omega, by omega⟩ ?_
        rw [Int.toNat_natCast]
        refine ok_nbd (ok_Plugs_least (by omega) (hW.1 p hp) o1) (fun r N' q => ?_)
        obtain ⟨rfl, rfl⟩ := q
        exact ok_ret (fin _ (by unfold aTold; rw [if_pos c1]))
      · refine ok_if (fun c2 => ?_) (fun c2 => ?_)
        · refine ok_ck ⟨by omega, by omega⟩ ?_
          rw [Int.toNat_natCast]
          refine ok_nbd (ok_Plugs_greatest (by omega) (hW.1 p hp) o1) (fun r N' q => ?_)
          obtain ⟨rfl, rfl⟩ := q
          exact ok_ret (fin _ (by unfold aTold; rw [if_neg c1, if_pos c2]))
        · refine ok_if (fun c3 => ?_) (fun c3 => ?_)
          · rw [m_Water_minutesSinceFlow, Int.toNat_natCast, if_pos ⟨by omega, by omega⟩, nbd_sm]
            exact ok_ret (fin _ (by unfold aTold; rw [if_neg c1, if_neg c2, if_pos c3, HC.2.2.2.1, hW.2.2.2.2.1 p]))
          · refine ok_ck ⟨by omega, by omega⟩ ?_
            rw [Int.toNat_natCast]
            exact ok_ret (fin _ (by unfold aTold; rw [if_neg c1, if_neg c2, if_neg c3, hW.2.2.2.2.2 p]))
    · show Ok (m_Mo_told k (p : Int) y N3) _
      have hW := H3.2.2.1
      rw [m_Mo_told]
      refine gateM H3.1.1 hc (fun _ => ?_) (fun n => absurd hx.1 n)
      refine gateI (fun _ => ?_) (fun n => absurd hx.2 n)
      refine ok_nlt (fun N17 e17 => ?_)
      have R17 := RefI_thr H3 e17
      have W17 := R17.2.2.1
      have fin : ∀ r : Int, r = aTold s mi p y → MoQ k N3 0 (aTold s mi p y) cnt g mi ht air s dn d r N17 := fun r hr => ⟨up2_v e17, fun _ => hr, R17, fun i hi => up2_n e17 (by omega)⟩
      refine ok_if (fun c1 => ?_) (fun c1 => ?_)
      · refine ok_nbd (ok_leastOf (by omega) (W17.1 p hp) o1 hl0) (fun r N' q => ?_)
        obtain ⟨rfl, rfl⟩ := q
        exact ok_ret (fin _ (by unfold aTold; rw [if_pos c1]))
      · refine ok_if (fun c2 => ?_) (fun c2 => ?_)
        · refine ok_nbd (ok_mostOf (by omega) (W17.1 p hp) o1 hl0) (fun r N' q => ?_)
          obtain ⟨rfl, rfl⟩ := q
          exact ok_ret (fin _ (by unfold aTold; rw [if_neg c1, if_pos c2]))
        · refine ok_if (fun c3 => ?_) (fun c3 => ?_)
          · refine ok_ck ⟨by omega, by omega⟩ ?_
            rw [Int.toNat_natCast]
            exact ok_ret (fin _ (by unfold aTold; rw [if_neg c1, if_neg c2, if_pos c3, R17.2.2.2.1, W17.2.2.2.2.1 p hp]))
          · refine ok_ck ⟨by omega, by omega⟩ ?_
            rw [Int.toNat_natCast]
            exact ok_ret (fin _ (by unfold aTold; rw [if_neg c1, if_neg c2, if_neg c3, W17.2.2.2.2.2 p (by omega)]))
  · refine ⟨1, 0, cnt, g, mi, ht, air, s, dn, d, Or.inr (Or.inl rfl), fun q => absurd q (by decide), hP, wrap1 hP.1.1 ha (fun q => absurd q (by decide)) (Or.inr rfl) ?_, fun N3 H3 => ?_⟩
    · rw [m_HL_told]
      exact gateP HC.1.1 hP.1.1 (fun c => gateW (fun c2 => absurd ⟨c, c2⟩ hx) (fun _ => HQ_bad HC)) (fun _ => HQ_bad HC)
    · show Ok (m_Mo_told k x y N3) _
      rw [m_Mo_told]
      exact gateM H3.1.1 hP.1.1 (fun c => gateI (fun c2 => absurd ⟨c, c2⟩ hx) (fun _ N' e => MoQ_bad (by decide) H3 e)) (fun _ N' e => MoQ_bad (by decide) H3 e)
/-! plug -/
def aPlug (s : St) (p : Nat) (y z : Int) : Int := if y < ((sR s p).length : Int) then (if z = 0 then (gv (sR s p) y.toNat).1 else (gv (sR s p) y.toNat).2) else -1
theorem both_plug {x y z : Int} (ha : h + 103 ≤ a) (hP : PurI cnt g mi ht air s dn d) (HC : ClsI h N cnt g mi ht air s dn d) : Both h k a N (m_Law_plug h x y z a N) (fun N3 => m_Mo_plug k x y z N3) cnt g mi ht air s dn d := by
  have hc := hP.1.1
  by_cases hx : (0 ≤ x ∧ x < (cnt : Int)) ∧ 0 ≤ y ∧ (0 ≤ z ∧ z ≤ 1)
  · obtain ⟨p, rfl⟩ : ∃ p : Nat, x = (p : Int) := ⟨x.toNat, by omega⟩
    obtain ⟨y, rfl⟩ : ∃ p : Nat, y = (p : Int) := ⟨y.toNat, by omega⟩
    have hp : p < cnt := by omega
    obtain ⟨o1, o2, o3, o4, o5, o6⟩ := hP.2.2.2.1 p hp
    have hv : (0 : Int) = 0 → rg (aPlug s p (y : Int) z) := fun _ => by
      unfold aPlug
      split
      · rename_i q
        have hm := gv_mem (l := sR s p) (i := y) (by omega)
        have m1 := o1 _ hm
        have m2 := tv_le o1 _ hm
        rw [Int.toNat_natCast]
        split <;> exact ⟨by omega, by omega⟩
      · exact ⟨by decide, by decide⟩
    refine ⟨0, aPlug s p (y : Int) z, cnt, g, mi, ht, air, s, dn, d, Or.inl rfl, hv, hP, wrap1 hc ha hv (Or.inl rfl) ?_, fun N3 H3 => ?_⟩
    · have hW := HC.2.2.1
      have hr := hW.1 p hp
      rw [m_HL_plug]
      refine gateP HC.1.1 hc (fun _ => ?_) (fun n => absurd hx.1 n)
      refine gateZ (fun _ => ?_) (fun n => absurd hx.2.1 n)
      refine gateW (fun _ => ?_) (fun n => absurd hx.2.2 n)
      have fin : ∀ r : Int, r = aPlug s p (y : Int) z → HQ h N 0 (aPlug s p (y : Int) z) cnt g mi ht air s dn d (0, r) N := fun r hr => ⟨rfl, fun _ => hr, HC, fun _ _ => rfl⟩
      refine ok_ck ⟨by omega, by omega⟩ ?_
      rw [Int.toNat_natCast, hr.1]
      refine ok_ck ⟨by omega, by omega⟩ ?_
      refine ok_if (fun c1 => ?_) (fun c1 => ok_ret (fin _ (by unfold aPlug; rw [if_neg c1])))
      have gg := hr.2.2 y (by omega)
      rw [Nat.zero_add] at gg
      refine ok_if (fun c2 => ?_) (fun c2 => ?_)
      · refine ok_ck ⟨by omega, by omega⟩ ?_
        rw [Int.toNat_natCast]
        exact ok_ret (fin _ (by unfold aPlug; rw [if_pos c1, if_pos c2, gg.1, Int.toNat_natCast]))
      · refine ok_ck ⟨by omega, by omega⟩ ?_
        rw [Int.toNat_natCast]
        exact ok_ret (fin _ (by unfold aPlug; rw [if_pos c1, if_neg c2, gg.2, Int.toNat_natCast]))
    · show Ok (m_Mo_plug k (p : Int) (y : Int) z N3) _
      rw [m_Mo_plug]
      refine gateM H3.1.1 hc (fun _ => ?_) (fun n => absurd hx.1 n)
      refine ok_f (by omega) ?_
      refine gateI (fun _ => ?_) (fun n => absurd hx.2.2 n)
      refine ok_nlt (fun N17 e17 => ?_)
      have R17 := RefI_thr H3 e17
      have hr := R17.2.2.1.1 p hp
      have fin : ∀ r : Int, r = aPlug s p (y : Int) z → MoQ k N3 0 (aPlug s p (y : Int) z) cnt g mi ht air s dn d r N17 := fun r hr => ⟨up2_v e17, fun _ => hr, R17, fun i hi => up2_n e17 (by omega)⟩
      refine ok_ck ⟨by omega, by omega⟩ ?_
      rw [Int.toNat_natCast, hr.1]
      refine ok_ck ⟨by omega, by omega⟩ ?_
      refine ok_if (fun c1 => ?_) (fun c1 => ok_ret (fin _ (by unfold aPlug; rw [if_neg c1])))
      have gg := hr.2.2 y (by omega)
      rw [show Int.toNat (12 * (p : Int) + (y : Int)) = 12 * p + y by omega]
      refine ok_if (fun c2 => ?_) (fun c2 => ?_)
      · refine ok_ck ⟨by omega, by omega⟩ ?_
        exact ok_ret (fin _ (by unfold aPlug; rw [if_pos c1, if_pos c2, gg.1, Int.toNat_natCast]))
      · refine ok_ck ⟨by omega, by omega⟩ ?_
        exact ok_ret (fin _ (by unfold aPlug; rw [if_pos c1, if_neg c2, gg.2, Int.toNat_natCast]))
  · refine ⟨1, 0, cnt, g, mi, ht, air, s, dn, d, Or.inr (Or.inl rfl), fun q => absurd q (by decide), hP, wrap1 hP.1.1 ha (fun q => absurd q (by decide)) (Or.inr rfl) ?_, fun N3 H3 => ?_⟩
    · rw [m_HL_plug]
      exact gateP HC.1.1 hP.1.1 (fun c => gateZ (fun c1 => gateW (fun c2 => absurd ⟨c, c1, c2⟩ hx) (fun _ => HQ_bad HC)) (fun _ => HQ_bad HC)) (fun _ => HQ_bad HC)
    · show Ok (m_Mo_plug k x y z N3) _
      rw [m_Mo_plug]
      refine gateM H3.1.1 hP.1.1 (fun c => ?_) (fun _ N' e => MoQ_bad (by decide) H3 e)
      refine ok_if (fun c1 => ok_nlt (fun N' e => ok_ret (MoQ_bad (by decide) H3 e))) (fun c1 => ?_)
      exact gateI (fun c2 => absurd ⟨c, by omega, c2⟩ hx) (fun _ N' e => MoQ_bad (by decide) H3 e)
/-! drawn -/
def aDrawn (d : Nat → Nat → Int) (mi : Int) (i : Nat) (y : Int) : Int := if d 1 i < mi then (if y = 0 then d 3 i else if y = 1 then d 4 i else d 5 i) else -1
theorem both_drawn {x y : Int} (ha : h + 103 ≤ a) (hP : PurI cnt g mi ht air s dn d) (HC : ClsI h N cnt g mi ht air s dn d) : Both h k a N (m_Law_drawn h x y a N) (fun N3 => m_Mo_drawn k x y N3) cnt g mi ht air s dn d := by
  have hc := hP.1.1
  have hd := hP.2.2.2.2.2.2.2.1
  have hmi := hP.2.2.2.2.1
  by_cases hx : (0 ≤ x ∧ x ≤ (dn : Int) - 1) ∧ (0 ≤ y ∧ y ≤ 2)
  · obtain ⟨i, rfl⟩ : ∃ p : Nat, x = (p : Int) := ⟨x.toNat, by omega⟩
    have hi : i < dn := by omega
    have b1 := hP.2.2.2.2.2.2.2.2.1 i hi
    have b2 := hP.2.2.2.2.2.2.2.2.2.1 i (by omega)
    have hv : (0 : Int) = 0 → rg (aDrawn d mi i y) := fun _ => by
      unfold aDrawn
      repeat' split
      all_goals exact ⟨by omega, by omega⟩
    refine ⟨0, aDrawn d mi i y, cnt, g, mi, ht, air, s, dn, d, Or.inl rfl, hv, hP, wrap1 hc ha hv (Or.inl rfl) ?_, fun N3 H3 => ?_⟩
    · obtain ⟨a1, a2, a3, a4, a5, a6, a7, a8, a9⟩ := HC
      rw [m_HL_drawn, a7]
      refine ok_ck ⟨by omega, by omega⟩ ?_
      refine gateW (fun _ => ?_) (fun n => absurd hx.1 n)
      refine gateW (fun _ => ?_) (fun n => absurd hx.2 n)
      have fin : ∀ r : Int, r = aDrawn d mi i y → HQ h N 0 (aDrawn d mi i y) cnt g mi ht air s dn d (0, r) N := fun r hr => ⟨rfl, fun _ => hr, ⟨a1, a2, a3, a4, a5, a6, a7, a8, a9⟩, fun _ _ => rfl⟩
      refine ok_ck ⟨by omega, by omega⟩ ?_
      rw [Int.toNat_natCast, (a8 i hi).2.1, a4]
      refine ok_ck ⟨by omega, by omega⟩ ?_
      refine ok_ck ⟨by omega, by omega⟩ ?_
      refine ok_if (fun c1 => ?_) (fun c1 => ok_ret (fin _ (by unfold aDrawn; rw [if_neg c1])))
      refine ok_if (fun c2 => ok_ret (fin _ (by unfold aDrawn; rw [if_pos c1, if_pos c2, (a9 i (by omega)).1]))) (fun c2 => ?_)
      exact ok_if (fun c3 => ok_ret (fin _ (by unfold aDrawn; rw [if_pos c1, if_neg c2, if_pos c3, (a9 i (by omega)).2.1]))) (fun c3 => ok_ret (fin _ (by unfold aDrawn; rw [if_pos c1, if_neg c2, if_neg c3, (a9 i (by omega)).2.2])))
    · show Ok (m_Mo_drawn k (i : Int) y N3) _
      have h15 := H3.2.2.2.2.2.2.1
      rw [m_Mo_drawn, h15]
      refine ok_ck ⟨by omega, by omega⟩ ?_
      refine gateI (fun _ => ?_) (fun n => absurd hx.1 n)
      refine gateI (fun _ => ?_) (fun n => absurd hx.2 n)
      refine ok_nlt (fun N17 e17 => ?_)
      have R17 := RefI_thr H3 e17
      have fin : ∀ r : Int, r = aDrawn d mi i y → MoQ k N3 0 (aDrawn d mi i y) cnt g mi ht air s dn d r N17 := fun r hr => ⟨up2_v e17, fun _ => hr, R17, fun i hi => up2_n e17 (by omega)⟩
      obtain ⟨a1, a2, a3, a4, a5, a6, a7, a8, a9⟩ := R17
      refine ok_ck ⟨by omega, by omega⟩ ?_
      rw [Int.toNat_natCast, (a8 i hi).2.1, a4]
      refine ok_ck ⟨by omega, by omega⟩ ?_
      refine ok_ck ⟨by omega, by omega⟩ ?_
      refine ok_if (fun c1 => ?_) (fun c1 => ok_ret (fin _ (by unfold aDrawn; rw [if_neg c1])))
      refine ok_if (fun c2 => ok_ret (fin _ (by unfold aDrawn; rw [if_pos c1, if_pos c2, (a9 i (by omega)).1]))) (fun c2 => ?_)
      exact ok_if (fun c3 => ok_ret (fin _ (by unfold aDrawn; rw [if_pos c1, if_neg c2, if_pos c3, (a9 i (by omega)).2.1]))) (fun c3 => ok_ret (fin _ (by unfold aDrawn; rw [if_pos c1, if_neg c2, if_neg c3, (a9 i (by omega)).2.2])))
  · refine ⟨1, 0, cnt, g, mi, ht, air, s, dn, d, Or.inr (Or.inl rfl), fun q => absurd q (by decide), hP, wrap1 hP.1.1 ha (fun q => absurd q (by decide)) (Or.inr rfl) ?_, fun N3 H3 => ?_⟩
    · have a7 := HC.2.2.2.2.2.2.1
      rw [m_HL_drawn, a7]
      refine ok_ck ⟨by omega, by omega⟩ ?_
      exact gateW (fun c => gateW (fun c2 => absurd ⟨c, c2⟩ hx) (fun _ => HQ_bad HC)) (fun _ => HQ_bad HC)
    · show Ok (m_Mo_drawn k x y N3) _
      have h15 := H3.2.2.2.2.2.2.1
      rw [m_Mo_drawn, h15]
      refine ok_ck ⟨by omega, by omega⟩ ?_
      exact gateI (fun c => gateI (fun c2 => absurd ⟨c, c2⟩ hx) (fun _ N' e => MoQ_bad (by decide) H3 e)) (fun _ N' e => MoQ_bad (by decide) H3 e)
end
