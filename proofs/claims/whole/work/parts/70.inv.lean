/-! ===== the invariant: one pure state, the class's and the reference's view of it ===== -/
def ClsI (h : Nat) (N : nS) (cnt : Nat) (g : Nat → Nat → Int) (mi ht air : Int) (s : St) (dn : Nat) (d : Nat → Nat → Int) : Prop :=
  NT N (h + 1) cnt (g 0) (g 1) (g 2) (g 3) ∧ (∀ p, p < 10 → N (h + 1 + 4) p = g 3 p ∧ N (h + 1 + 5) p = g 4 p) ∧ CW N (h + 7) cnt s ∧ N (h + 7) 8 = mi ∧ N (h + 7) 9 = ht ∧ N (h + 7) 10 = air ∧ N (h + 95) 6 = (dn : Int) ∧ (∀ i, i < dn → N (h + 95 + 1) i = d 0 i ∧ N (h + 95 + 2) i = d 1 i ∧ N (h + 95 + 3) i = d 2 i) ∧ (∀ i, i < 60 → N (h + 95 + 4) i = d 3 i ∧ N (h + 95 + 5) i = d 4 i ∧ N (h + 95 + 6) i = d 5 i)
def RefI (k : Nat) (N : nS) (cnt : Nat) (g : Nat → Nat → Int) (mi ht air : Int) (s : St) (dn : Nat) (d : Nat → Nat → Int) : Prop :=
  NR N k cnt (g 0) (g 1) (g 2) (g 3) ∧ (∀ p, p < 10 → N (k + 5) p = g 3 p ∧ N (k + 4) p = g 4 p) ∧ CR N k cnt s ∧ N k 9 = mi ∧ N k 7 = ht ∧ N k 8 = air ∧ N k 15 = (dn : Int) ∧ (∀ i, i < dn → N (k + 11) i = d 0 i ∧ N (k + 12) i = d 1 i ∧ N (k + 13) i = d 2 i) ∧ (∀ i, i < 60 → N (k + 14) i = d 3 i ∧ N (k + 15) i = d 4 i ∧ N (k + 16) i = d 5 i)
def Bd (B : Int) (s : St) : Prop := (-B ≤ sG s ∧ sG s ≤ B) ∧ (-B ≤ sO s ∧ sO s ≤ B) ∧ (-B ≤ sL s ∧ sL s ≤ B)
def FB (mi : Int) (s : St) : Prop := ∀ q, q < 10 → (-1 ≤ sF s q ∧ sF s q ≤ mi) ∧ (0 ≤ sT s q ∧ sT s q ≤ mi)
def PurI (cnt : Nat) (g : Nat → Nat → Int) (mi ht air : Int) (s : St) (dn : Nat) (d : Nat → Nat → Int) : Prop :=
  PN cnt (g 0) (g 1) (g 2) (g 3) ∧ (∀ p, p < 10 → 0 ≤ g 3 p ∧ g 3 p ≤ 500) ∧ (∀ p, p < 10 → g 4 p = 0 ∨ g 4 p = 1) ∧ OKR (sR s) cnt (g 1) ∧ (0 ≤ mi ∧ mi ≤ 3000) ∧ (0 ≤ ht ∧ ht ≤ 10000) ∧ (0 ≤ air ∧ air ≤ 10000) ∧ dn ≤ 60 ∧ (∀ i, i < dn → (0 ≤ d 0 i ∧ d 0 i < (cnt : Int)) ∧ (0 ≤ d 1 i ∧ d 1 i ≤ 2999) ∧ (1 ≤ d 2 i ∧ d 2 i ≤ 1000)) ∧ (∀ i, i < 60 → (0 ≤ d 3 i ∧ d 3 i ≤ 10000) ∧ (0 ≤ d 4 i ∧ d 4 i ≤ 10000) ∧ (0 ≤ d 5 i ∧ d 5 i ≤ 10000)) ∧ Bd (mi * 2000000000) s ∧ FB mi s ∧ (mi = 0 → ∀ q, q < 10 → sF s q = -1 ∧ sT s q = 0)
def RelG (h k : Nat) (N : nS) : Prop := ∃ (cnt : Nat) (g : Nat → Nat → Int) (mi ht air : Int) (s : St) (dn : Nat) (d : Nat → Nat → Int), PurI cnt g mi ht air s dn d ∧ ClsI h N cnt g mi ht air s dn d ∧ RefI k N cnt g mi ht air s dn d
theorem CW_of {N N' : nS} {w cnt : Nat} {s : St} (hc : cnt ≤ 10) (h : CW N w cnt s) (e : ∀ i, w ≤ i → i < w + 44 → N' i = N i) : CW N' w cnt s := by
  obtain ⟨a, b, c, d, f, g⟩ := h
  refine ⟨WS_of a hc (fun i _ _ => e i (by omega) (by omega)), ?_, ?_, ?_, fun q => ?_, fun q => ?_⟩
  · rw [e w (by omega) (by omega)]; exact b
  · rw [e w (by omega) (by omega)]; exact c
  · rw [e w (by omega) (by omega)]; exact d
  · rw [e _ (by omega) (by omega)]; exact f q
  · rw [e _ (by omega) (by omega)]; exact g q
theorem ClsI_of {h : Nat} {N N' : nS} {cnt : Nat} {g : Nat → Nat → Int} {mi ht air : Int} {s : St} {dn : Nat} {d : Nat → Nat → Int} (hc : cnt ≤ 10) (H : ClsI h N cnt g mi ht air s dn d) (e : ∀ i, h ≤ i → i < h + 51 ∨ (h + 95 ≤ i ∧ i < h + 102) → N' i = N i) : ClsI h N' cnt g mi ht air s dn d := by
  obtain ⟨a1, a2, a3, a4, a5, a6, a7, a8, a9⟩ := H
  refine ⟨NT_of a1 (fun i _ _ => e i (by omega) (by omega)), fun p hp => ?_, CW_of hc a3 (fun i _ _ => e i (by omega) (by omega)), ?_, ?_, ?_, ?_, fun i hi => ?_, fun i hi => ?_⟩
  · rw [e (h + 1 + 4) (by omega) (by omega), e (h + 1 + 5) (by omega) (by omega)]; exact a2 p hp
  · rw [e (h + 7) (by omega) (by omega)]; exact a4
  · rw [e (h + 7) (by omega) (by omega)]; exact a5
  · rw [e (h + 7) (by omega) (by omega)]; exact a6
  · rw [e (h + 95) (by omega) (by omega)]; exact a7
  · rw [e (h + 95 + 1) (by omega) (by omega), e (h + 95 + 2) (by omega) (by omega), e (h + 95 + 3) (by omega) (by omega)]; exact a8 i hi
  · rw [e (h + 95 + 4) (by omega) (by omega), e (h + 95 + 5) (by omega) (by omega), e (h + 95 + 6) (by omega) (by omega)]; exact a9 i hi
theorem CR_of {N N' : nS} {k cnt : Nat} {s : St} (h : CR N k cnt s) (e : ∀ i, k + 6 ≤ i → i < k + 11 → N' i = N i) (e1 : ∀ j, j = 22 ∨ j = 23 ∨ j = 24 → N' k j = N k j) : CR N' k cnt s := by
  obtain ⟨a, b, c, d, f, g⟩ := h
  refine ⟨fun p hp => RR_of (a p hp) (e _ (by omega) (by omega)) (e _ (by omega) (by omega)) (e _ (by omega) (by omega)), ?_, ?_, ?_, fun q hq => ?_, fun q hq => ?_⟩
  · rw [e1 22 (by omega)]; exact b
  · rw [e1 23 (by omega)]; exact c
  · rw [e1 24 (by omega)]; exact d
  · rw [e _ (by omega) (by omega)]; exact f q hq
  · rw [e _ (by omega) (by omega)]; exact g q hq
theorem RefI_of {k : Nat} {N N' : nS} {cnt : Nat} {g : Nat → Nat → Int} {mi ht air : Int} {s : St} {dn : Nat} {d : Nat → Nat → Int} (H : RefI k N cnt g mi ht air s dn d) (e : ∀ i, k < i → i < k + 17 → N' i = N i) (e1 : ∀ j, 1 ≤ j → j ≤ 24 → N' k j = N k j) : RefI k N' cnt g mi ht air s dn d := by
  obtain ⟨a1, a2, a3, a4, a5, a6, a7, a8, a9⟩ := H
  refine ⟨NR_of a1 (e1 1 (by omega) (by omega)) (fun i _ _ => e i (by omega) (by omega)), fun p hp => ?_, CR_of a3 (fun i _ _ => e i (by omega) (by omega)) (fun j hj => e1 j (by omega) (by omega)), ?_, ?_, ?_, ?_, fun i hi => ?_, fun i hi => ?_⟩
  · rw [e (k + 5) (by omega) (by omega), e (k + 4) (by omega) (by omega)]; exact a2 p hp
  · rw [e1 9 (by omega) (by omega)]; exact a4
  · rw [e1 7 (by omega) (by omega)]; exact a5
  · rw [e1 8 (by omega) (by omega)]; exact a6
  · rw [e1 15 (by omega) (by omega)]; exact a7
  · rw [e (k + 11) (by omega) (by omega), e (k + 12) (by omega) (by omega), e (k + 13) (by omega) (by omega)]; exact a8 i hi
  · rw [e (k + 14) (by omega) (by omega), e (k + 15) (by omega) (by omega), e (k + 16) (by omega) (by omega)]; exact a9 i hi
/-! ===== one call of the law ===== -/
def LQ (h : Nat) (N : nS) (c v : Int) (a : Nat) (cnt : Nat) (g : Nat → Nat → Int) (mi ht air : Int) (s : St) (dn : Nat) (d : Nat → Nat → Int) (r : Int) (N' : nS) : Prop := r = c ∧ (c = 0 → N' a 0 = v) ∧ ClsI h N' cnt g mi ht air s dn d ∧ ∀ i, h + 103 ≤ i → i ≠ a → N' i = N i
def HQ (h : Nat) (N : nS) (c v : Int) (cnt : Nat) (g : Nat → Nat → Int) (mi ht air : Int) (s : St) (dn : Nat) (d : Nat → Nat → Int) (q : Int × Int) (N' : nS) : Prop := q.1 = c ∧ (c = 0 → q.2 = v) ∧ ClsI h N' cnt g mi ht air s dn d ∧ ∀ i, h + 103 ≤ i → N' i = N i
def MoQ (k : Nat) (N : nS) (c v : Int) (cnt : Nat) (g : Nat → Nat → Int) (mi ht air : Int) (s : St) (dn : Nat) (d : Nat → Nat → Int) (r : Int) (N' : nS) : Prop := N' k 0 = c ∧ (c = 0 → r = v) ∧ RefI k N' cnt g mi ht air s dn d ∧ ∀ i, i < k ∨ k + 28 ≤ i → N' i = N i
theorem nbd_sm {α β : Type} {a : α} {N : nS} {f : α → nS → Option β} : nbd (some (a, N)) f = f a N := rfl
section
variable {h k a : Nat} {N : nS} {c v : Int} {cnt cnt' dn dn' : Nat} {g g' d d' : Nat → Nat → Int} {mi mi' ht ht' air air' : Int} {s s' : St}
theorem wrap2 {o : Option ((Int × Int) × nS)} (hcnt : cnt' ≤ 10) (ha : h + 103 ≤ a) (hv : c = 0 → rg v) (hc : c = 0 ∨ c = 1 ∨ c = 2) (H : Ok o (HQ h N c v cnt' g' mi' ht' air' s' dn' d')) : Ok (nbd o (fun q1 N2 => if q1.1 = 0 then if rg q1.2 then nlt (up2 N2 a (Int.toNat 0) q1.2) (fun N6 => some ((0 : Int), N6)) else none else if q1.1 = 1 then some (1, N2) else some (2, N2))) (LQ h N c v a cnt' g' mi' ht' air' s' dn' d') := by
  refine ok_nbd H (fun q N' hq => ?_)
  obtain ⟨h1, h2, h3, h4⟩ := hq
  rw [h1]
  rcases hc with rfl | rfl | rfl
  · rw [h2 rfl]
    refine ok_t rfl (ok_ck (hv rfl) (ok_nlt (fun N6 e6 => ok_ret ⟨rfl, fun _ => up2_v e6, ClsI_of hcnt h3 (fun i _ _ => up2_n e6 (by omega)), fun i i1 i2 => by rw [up2_n e6 i2, h4 i i1]⟩)))
  · exact ok_f (by decide) (ok_t rfl (ok_ret ⟨rfl, fun q => absurd q (by decide), h3, fun i i1 _ => h4 i i1⟩))
  · exact ok_f (by decide) (ok_f (by decide) (ok_ret ⟨rfl, fun q => absurd q (by decide), h3, fun i i1 _ => h4 i i1⟩))
theorem wrap1 {o : Option ((Int × Int) × nS)} (hcnt : cnt' ≤ 10) (ha : h + 103 ≤ a) (hv : c = 0 → rg v) (hc : c = 0 ∨ c = 1) (H : Ok o (HQ h N c v cnt' g' mi' ht' air' s' dn' d')) : Ok (nbd o (fun q1 N2 => if q1.1 = 0 then if rg q1.2 then nlt (up2 N2 a (Int.toNat 0) q1.2) (fun N6 => some ((0 : Int), N6)) else none else if q1.1 = 1 then some (1, N2) else none)) (LQ h N c v a cnt' g' mi' ht' air' s' dn' d') := by
  refine ok_nbd H (fun q N' hq => ?_)
  obtain ⟨h1, h2, h3, h4⟩ := hq
  rw [h1]
  rcases hc with rfl | rfl
  · rw [h2 rfl]
    refine ok_t rfl (ok_ck (hv rfl) (ok_nlt (fun N6 e6 => ok_ret ⟨rfl, fun _ => up2_v e6, ClsI_of hcnt h3 (fun i _ _ => up2_n e6 (by omega)), fun i i1 i2 => by rw [up2_n e6 i2, h4 i i1]⟩)))
  · exact ok_f (by decide) (ok_t rfl (ok_ret ⟨rfl, fun q => absurd q (by decide), h3, fun i i1 _ => h4 i i1⟩))
theorem law_end (hk : h + 103 ≤ k) (ha : k + 28 ≤ a) (hP : PurI cnt' g' mi' ht' air' s' dn' d') {oL : Option (Int × nS)} {fM : nS → Option (Int × nS)} {F : Int → Int → Int → nS → Option (Int × nS)} (hL : Ok oL (LQ h N c v a cnt' g' mi' ht' air' s' dn' d')) (hR : RefI k N cnt g mi ht air s dn d) (hM : ∀ N3, RefI k N3 cnt g mi ht air s dn d → Ok (fM N3) (MoQ k N3 c v cnt' g' mi' ht' air' s' dn' d')) (hF : ∀ (r5 : Int) (N9 : nS), (c = 0 → r5 = v) → (c = 0 → N9 a 0 = v) → F c r5 c N9 = some (1, N9)) :
    ∃ No, nbd oL (fun r2 N3 => nbd (fM N3) (fun r5 N6 => nbd (m_Mo_thrown k N6) (fun r8 N9 => F r2 r5 r8 N9))) = some (1, No) ∧ RelG h k No := by
  obtain ⟨r2, N3, e3, a1, a2, a3, a4⟩ := hL
  obtain ⟨r5, N6, e6, b1, b2, b3, b4⟩ := hM N3 (RefI_of hR (fun i _ _ => a4 i (by omega) (by omega)) (fun j _ _ => by rw [a4 k (by omega) (by omega)]))
  subst a1
  refine ⟨N6, ?_, ⟨cnt', g', mi', ht', air', s', dn', d', hP, ClsI_of hP.1.1 a3 (fun i _ _ => b4 i (by omega)), b3⟩⟩
  rw [e3, nbd_sm, e6, nbd_sm, m_Mo_thrown, nbd_sm, b1]
  exact hF r5 N6 b2 (fun q => by rw [b4 a (by omega)]; exact a2 q)
end
/-! the usual end of a call of the law -/
theorem fin_int {c v r5 : Int} {a : Nat} {N9 : nS} (hc : c = 0 ∨ c = 1 ∨ c = 2) (hv : c = 0 → rg v) (h5 : c = 0 → r5 = v) (h9 : c = 0 → N9 a 0 = v) : (if rg c then if rg c then if c = c then if c = 0 then if rg r5 then if rl (N9 a (Int.toNat 0)) then if (if r5 < (N9 a (Int.toNat 0)) then 1 else if (N9 a (Int.toNat 0)) = r5 then 0 else -1) = 0 then some ((1 : Int), N9) else some (0, N9) else none else none else some (1, N9) else some (0, N9) else none else none) = some (1, N9) := by
  have r : rg c := by rcases hc with rfl | rfl | rfl <;> exact ⟨by decide, by decide⟩
  rw [if_pos r, if_pos r, if_pos rfl]
  by_cases q : c = 0
  · have r2 := hv q
    have e9 : N9 a (Int.toNat 0) = v := h9 q
    have r3 : rl v := ⟨by have := r2.1; omega, by have := r2.2; omega⟩
    rw [if_pos q, h5 q, e9, if_pos r2, if_pos r3, if_neg (Int.lt_irrefl v), if_pos rfl, if_pos rfl]
  · rw [if_neg q]
