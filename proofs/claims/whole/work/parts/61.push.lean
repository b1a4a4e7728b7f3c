/-! ===== the reference: a push ===== -/
def TM (N : nS) (k : Nat) (t : Rw) : Prop := N k 25 = (t.length : Int) ∧ t.length ≤ 160 ∧ Ls (N (k + 17)) (N (k + 18)) 0 t
theorem ok_push_2 {k p : Nat} (hp : p < 10) : ∀ (f i : Nat) (N : nS) (t r : Rw), r.length < f + i → i ≤ r.length → RR N k p r → TM N k t → t.length + (r.length - i) ≤ 160 → Ok (m_Mo_push_2 k (p : Int) f (i : Int) N) (fun _ N' => TM N' k (t ++ r.drop i) ∧ (∀ j, j ≠ k → j ≠ k + 17 → j ≠ k + 18 → N' j = N j) ∧ ∀ j, j ≠ 25 → N' k j = N k j) := by
  intro f
  induction f with
  | zero => intro i N t r h1 h2; exact absurd h1 (by omega)
  | succ f ih =>
    intro i N t r h1 h2 hr ht hl
    rw [m_Mo_push_2]
    have hr2 := hr.2.1
    refine ok_ck ⟨by omega, by omega⟩ ?_
    rw [Int.toNat_natCast]
    refine ok_ck (by rw [hr.1]; exact ⟨by omega, by omega⟩) ?_
    rw [hr.1]
    refine ok_if (fun c => ?_) (fun c => ?_)
    · have e : i = r.length := by omega
      subst e
      rw [List.drop_length, List.append_nil]
      exact ok_ret ⟨ht, fun _ _ _ _ => rfl, fun _ _ => rfl⟩
    · have hi : i < r.length := by omega
      have g := hr.2.2 i hi
      refine ok_ck ⟨by omega, by omega⟩ ?_
      rw [ht.1]
      refine ok_ck ⟨by omega, by omega⟩ ?_
      rw [show Int.toNat (12 * (p : Int) + (i : Int)) = 12 * p + i by omega, Int.toNat_natCast, g.1]
      refine ok_nlt (fun N6 e6 => ?_)
      rw [up2_n e6 (show k ≠ k + 17 by omega), ht.1, up2_n e6 (show k + 8 ≠ k + 17 by omega), g.2]
      refine ok_ck ⟨by omega, by omega⟩ ?_
      rw [Int.toNat_natCast]
      refine ok_nlt (fun N9 e9 => ?_)
      refine ok_nlt (fun N11 e11 => ?_)
      refine ok_ck ⟨by omega, by omega⟩ ?_
      have n9 : N9 k = N k := by rw [up2_n e9 (by omega), up2_n e6 (by omega)]
      have x17 : N11 (k + 17) = va_up (N (k + 17)) (0 + t.length) (gv r i).1 := by rw [up2_n e11 (by omega), up2_n e9 (by omega), up2_at e6, Nat.zero_add]
      have x18 : N11 (k + 18) = va_up (N (k + 18)) (0 + t.length) (gv r i).2 := by rw [up2_n e11 (by omega), up2_at e9, up2_n e6 (by omega), Nat.zero_add]
      have st : ∀ j, j ≠ k → j ≠ k + 17 → j ≠ k + 18 → N11 j = N j := fun j j0 j1 j2 => by rw [up2_n e11 j0, up2_n e9 j2, up2_n e6 j1]
      have T11 : TM N11 k (t ++ [gv r i]) := by
        refine ⟨by rw [up2_v e11, n9, ht.1, List.length_append, List.length_singleton]; omega, by rw [List.length_append, List.length_singleton]; omega, ?_⟩
        rw [x17, x18]
        exact Ls_snoc ht.2.2
      have R11 : RR N11 k p r := ⟨by rw [st _ (by omega) (by omega) (by omega)]; exact hr.1, hr.2.1, by rw [st _ (by omega) (by omega) (by omega), st _ (by omega) (by omega) (by omega)]; exact hr.2.2⟩
      rw [show (i : Int) + 1 = ((i + 1 : Nat) : Int) by omega]
      refine ok_mono (ih (i + 1) N11 (t ++ [gv r i]) r (by omega) (by omega) R11 T11 (by rw [List.length_append, List.length_singleton]; omega)) (fun q N' h => ⟨?_, fun j j0 j1 j2 => by rw [h.2.1 j j0 j1 j2, st j j0 j1 j2], fun j hj => by rw [h.2.2 j hj, up2_at e11, va_up_ne _ _ hj, n9]⟩)
      rw [drop_gv hi]
      have := h.1
      rw [List.append_assoc] at this
      exact this
def spR : Rw → Int → Rw → Rw × Rw
  | acc, _, [] => (acc, [])
  | acc, op, p :: r => if op ≤ 0 then (acc, p :: r) else if op ≤ p.1 then (addL acc op p.2, if p.1 - op = 0 then r else (p.1 - op, p.2) :: r) else spR (addL acc p.1 p.2) (op - p.1) r
theorem spR_0 {acc r : Rw} {op : Int} (h : op ≤ 0) : spR acc op r = (acc, r) := by
  cases r with
  | nil => rfl
  | cons p r => exact if_pos h
theorem Ls_tail {fv fw : Nat → Int} {b : Nat} {p : Int × Int} {r : Rw} (h : Ls fv fw b (p :: r)) : Ls fv fw (b + 1) r := fun i hi => by
  have := h (i + 1) (by rw [List.length_cons]; omega)
  rw [show b + 1 + i = b + (i + 1) by omega]
  exact this
theorem spR_ok : ∀ (r acc : Rw) (op : Int), wl r → wl acc → 0 ≤ op → op ≤ tv r → wl (spR acc op r).1 ∧ wl (spR acc op r).2 ∧ ex (spR acc op r).1 = ex acc ++ (ex r).take op.toNat ∧ ex (spR acc op r).2 = (ex r).drop op.toNat ∧ (nmr acc → nmr (spR acc op r).1) ∧ (spR acc op r).2.length ≤ r.length ∧ (spR acc op r).1.length ≤ acc.length + r.length ∧ tv (spR acc op r).1 = tv acc + op ∧ tv (spR acc op r).2 = tv r - op := by
  intro r
  induction r with
  | nil =>
    intro acc op _ wa h0 h1
    have e : op = 0 := by have : tv ([] : Rw) = 0 := rfl; omega
    subst e
    exact ⟨wa, wl_nil, by simp [spR, ex], rfl, fun h => h, Nat.le_refl _, Nat.le_refl _, by show tv acc = tv acc + 0; omega, rfl⟩
  | cons p r ih =>
    intro acc op w wa h0 h1
    obtain ⟨w1, w2⟩ := wl_cons w
    have et : tv (p :: r) = p.1 + tv r := rfl
    by_cases c : op ≤ 0
    · have e : op = 0 := by omega
      subst e
      rw [spR_0 (Int.le_refl _)]
      exact ⟨wa, w, by simp, by simp, fun h => h, Nat.le_refl _, Nat.le_add_right _ _, by show tv acc = tv acc + 0; omega, by show tv (p :: r) = tv (p :: r) - 0; omega⟩
    · by_cases c2 : op ≤ p.1
      · have e : spR acc op (p :: r) = (addL acc op p.2, if p.1 - op = 0 then r else (p.1 - op, p.2) :: r) := by
          show (if op ≤ 0 then _ else if op ≤ p.1 then _ else _) = _
          rw [if_neg c, if_pos c2]
        rw [e]
        have ea := ex_addL (l := acc) (v := op) (w := p.2) wa
        have er : List.replicate p.1.toNat p.2 = List.replicate op.toNat p.2 ++ List.replicate (p.1 - op).toNat p.2 := by
          rw [List.replicate_append_replicate]
          congr 1
          omega
        have ee : ex (p :: r) = List.replicate op.toNat p.2 ++ (List.replicate (p.1 - op).toNat p.2 ++ ex r) := by
          rw [ex_cons, er, List.append_assoc]
        have bl := addL_len acc op p.2
        have tt := tv_addL acc op p.2 (by omega)
        refine ⟨wl_addL wa w1.2, ?_, ?_, ?_, fun h => nmr_addL h, ?_, ?_, tt, ?_⟩
        · show wl (if p.1 - op = 0 then r else (p.1 - op, p.2) :: r)
          split
          · exact w2
          · intro q hq
            rcases List.mem_cons.mp hq with rfl | hq
            · exact ⟨by show 0 < p.1 - op; omega, w1.2⟩
            · exact w2 q hq
        · show ex (addL acc op p.2) = _
          rw [ea, ee, List.take_left' (by simp)]
        · show ex (if p.1 - op = 0 then r else (p.1 - op, p.2) :: r) = _
          rw [ee, List.drop_left' (by simp)]
          split
          · rename_i c3
            rw [c3]
            rfl
          · rw [ex_cons]
        · show (if p.1 - op = 0 then r else (p.1 - op, p.2) :: r).length ≤ _
          split
          · rw [List.length_cons]; omega
          · rw [List.length_cons, List.length_cons]; omega
        · show (addL acc op p.2).length ≤ _
          rw [List.length_cons]; omega
        · show tv (if p.1 - op = 0 then r else (p.1 - op, p.2) :: r) = _
          split
          · omega
          · show p.1 - op + tv r = _
            omega
      · have e : spR acc op (p :: r) = spR (addL acc p.1 p.2) (op - p.1) r := by
          show (if op ≤ 0 then _ else if op ≤ p.1 then _ else _) = _
          rw [if_neg c, if_neg c2]
        rw [e]
        have ea := ex_addL (l := acc) (v := p.1) (w := p.2) wa
        have bl := addL_len acc p.1 p.2
        have tt := tv_addL acc p.1 p.2 (by omega)
        obtain ⟨k1, k2, k3, k4, k5, k6, k7, k8, k9⟩ := ih (addL acc p.1 p.2) (op - p.1) w2 (wl_addL wa w1.2) (by omega) (by omega)
        have eo : op.toNat = p.1.toNat + (op - p.1).toNat := by omega
        refine ⟨k1, k2, ?_, ?_, fun h => k5 (nmr_addL h), by rw [List.length_cons]; omega, by rw [List.length_cons]; omega, by omega, by omega⟩
        · rw [k3, ea, ex_cons, eo, List.append_assoc]
          congr 1
          have t1 : List.take (p.1.toNat + (op - p.1).toNat) (List.replicate p.1.toNat p.2) = List.replicate p.1.toNat p.2 := List.take_of_length_le (by rw [List.length_replicate]; omega)
          rw [List.take_append, List.length_replicate, Nat.add_sub_cancel_left, t1]
        · have t1 : List.drop (p.1.toNat + (op - p.1).toNat) (List.replicate p.1.toNat p.2) = [] := List.drop_of_length_le (by rw [List.length_replicate]; omega)
          rw [k4, ex_cons, eo, List.drop_append, List.length_replicate, Nat.add_sub_cancel_left, t1, List.nil_append]
set_option maxHeartbeats 1000000 in
theorem ok_push_82 {k : Nat} {x1 : Int} : ∀ (f i : Nat) (op : Int) (N : nS) (r acc : Rw), r.length + 1 < f → i + r.length ≤ 160 → 0 ≤ op → op ≤ tv r → wl r → wl acc → RM N k acc → Ls (N (k + 17)) (N (k + 18)) i r → acc.length + r.length ≤ 160 → tv acc + tv r ≤ 100000 → Ok (m_Mo_push_82 k x1 f op (i : Int) N) (fun q N' => q.1 = 0 ∧ (∃ j : Nat, q.2 = (j : Int) ∧ j + (spR acc op r).2.length = i + r.length ∧ Ls (N' (k + 17)) (N' (k + 18)) j (spR acc op r).2) ∧ RM N' k (spR acc op r).1 ∧ (∀ j, j ≠ k → j ≠ k + 17 → j ≠ k + 19 → j ≠ k + 20 → N' j = N j) ∧ ∀ j, j ≠ 28 → N' k j = N k j) := by
  intro f
  induction f with
  | zero => intro i op N r acc h1; omega
  | succ f ih =>
    intro i op N r acc h1 h2 h3 h4 wr wa hA hL hl ht
    rw [m_Mo_push_82]
    refine ok_if (fun c => ?_) (fun c => ?_)
    · have e : op = 0 := by omega
      subst e
      rw [spR_0 (Int.le_refl _)]
      exact ok_ret ⟨rfl, ⟨i, rfl, rfl, hL⟩, hA, fun _ _ _ _ _ => rfl, fun _ _ => rfl⟩
    · cases r with
      | nil => exact absurd h4 (by show ¬ op ≤ 0; exact c)
      | cons p r =>
        rw [List.length_cons] at h1 h2 hl
        obtain ⟨w1, w2⟩ := wl_cons wr
        have g := hL 0 (by rw [List.length_cons]; omega)
        rw [Nat.add_zero] at g
        have g1 : N (k + 17) i = p.1 := g.1
        have g2 : N (k + 18) i = p.2 := g.2
        have et : tv (p :: r) = p.1 + tv r := rfl
        have n1 := tv_nn w2
        have n2 := tv_nn wa
        refine ok_ck ⟨by omega, by omega⟩ ?_
        rw [Int.toNat_natCast, g1, g2]
        refine ok_ck ⟨by omega, by omega⟩ ?_
        refine ok_if (fun c2 => ?_) (fun c2 => ?_)
        · have e : spR acc op (p :: r) = (addL acc op p.2, if p.1 - op = 0 then r else (p.1 - op, p.2) :: r) := by
            show (if op ≤ 0 then _ else if op ≤ p.1 then _ else _) = _
            rw [if_neg c, if_pos c2]
          rw [e]
          refine ok_ck ⟨by omega, by omega⟩ ?_
          have bl := addL_len acc op p.2
          refine ok_nbd (ok_lay hA (bd_of wa (by omega)) (by omega)) (fun rr N26 h26 => ?_)
          obtain ⟨q1, q2, q3⟩ := h26
          refine ok_nlt (fun N28 e28 => ?_)
          rw [q2.1 (k + 17) (by omega) (by omega) (by omega)] at e28
          rw [g1] at e28
          rw [up2_v e28]
          have st : ∀ j, j ≠ k → j ≠ k + 17 → j ≠ k + 19 → j ≠ k + 20 → N28 j = N j := fun j j0 j1 j2 j3 => by rw [up2_n e28 j1, q2.1 j j0 j2 j3]
          have sk : ∀ j, j ≠ 28 → N28 k j = N k j := fun j hj => by rw [up2_n e28 (by omega), q2.2 j hj]
          have x17 : N28 (k + 17) = va_up (N (k + 17)) i (p.1 - op) := by rw [up2_at e28, q2.1 (k + 17) (by omega) (by omega) (by omega)]
          have x18 : N28 (k + 18) = N (k + 18) := st _ (by omega) (by omega) (by omega) (by omega)
          have R28 : RM N28 k (addL acc op p.2) := ⟨by rw [up2_n e28 (by omega)]; exact q1.1, q1.2.1, by rw [up2_n e28 (by omega), up2_n e28 (by omega)]; exact q1.2.2⟩
          have L28 : Ls (N28 (k + 17)) (N28 (k + 18)) (i + 1) r := Ls_cg (Ls_tail hL) (fun j hj => ⟨by rw [x17, va_up_ne _ _ (by omega)], by rw [x18]⟩)
          refine ok_ck ⟨by omega, by omega⟩ ?_
          have e0 : op - op = 0 := by omega
          rw [e0]
          have hz : ∀ (i' : Nat) (r' : Rw), i' + r'.length = i + (r.length + 1) → Ls (N28 (k + 17)) (N28 (k + 18)) i' r' → wl r' → tv r' ≤ tv (p :: r) → r'.length ≤ r.length + 1 → Ok (m_Mo_push_82 k x1 f 0 (i' : Int) N28) (fun q N' => q.1 = 0 ∧ (∃ j : Nat, q.2 = (j : Int) ∧ j + r'.length = i + (p :: r).length ∧ Ls (N' (k + 17)) (N' (k + 18)) j r') ∧ RM N' k (addL acc op p.2) ∧ (∀ j, j ≠ k → j ≠ k + 17 → j ≠ k + 19 → j ≠ k + 20 → N' j = N j) ∧ ∀ j, j ≠ 28 → N' k j = N k j) := fun i' r' b1 b2 b3 b4 b5 => by
            cases f with
            | zero => omega
            | succ f =>
              rw [m_Mo_push_82]
              refine ok_t (by omega) ?_
              exact ok_ret ⟨rfl, ⟨i', rfl, by rw [List.length_cons]; exact b1, b2⟩, R28, st, sk⟩
          refine ok_if (fun c3 => ?_) (fun c3 => ?_)
          · rw [if_pos c3]
            refine ok_ck ⟨by omega, by omega⟩ ?_
            refine ok_ck ⟨by omega, by omega⟩ ?_
            exact hz (i + 1) r (by omega) L28 w2 (by omega) (by omega)
          · rw [if_neg c3]
            refine ok_ck ⟨by omega, by omega⟩ ?_
            refine ok_ck ⟨by omega, by omega⟩ ?_
            rw [show (i : Int) + 0 = (i : Int) by omega]
            refine hz i ((p.1 - op, p.2) :: r) (by rw [List.length_cons]) (fun j hj => ?_) (fun q hq => ?_) (by show p.1 - op + tv r ≤ p.1 + tv r; omega) (by rw [List.length_cons]; omega)
            · cases j with
              | zero => exact ⟨by show N28 (k + 17) i = p.1 - op; rw [x17, va_up_self], by show N28 (k + 18) i = p.2; rw [x18, g2]⟩
              | succ j =>
                rw [List.length_cons] at hj
                have := L28 j (by omega)
                rw [show i + (j + 1) = i + 1 + j by omega]
                exact this
            · rcases List.mem_cons.mp hq with rfl | hq
              · exact ⟨by show 0 < p.1 - op; omega, w1.2⟩
              · exact w2 q hq
        · have e : spR acc op (p :: r) = spR (addL acc p.1 p.2) (op - p.1) r := by
            show (if op ≤ 0 then _ else if op ≤ p.1 then _ else _) = _
            rw [if_neg c, if_neg c2]
          rw [e]
          refine ok_ck ⟨by omega, by omega⟩ ?_
          have bl := addL_len acc p.1 p.2
          have tt := tv_addL acc p.1 p.2 (by omega)
          refine ok_nbd (ok_lay hA (bd_of wa (by omega)) (by omega)) (fun rr N38 h38 => ?_)
          obtain ⟨q1, q2, q3⟩ := h38
          refine ok_nlt (fun N40 e40 => ?_)
          rw [q2.1 (k + 17) (by omega) (by omega) (by omega)] at e40
          rw [g1] at e40
          rw [up2_v e40]
          have st : ∀ j, j ≠ k → j ≠ k + 17 → j ≠ k + 19 → j ≠ k + 20 → N40 j = N j := fun j j0 j1 j2 j3 => by rw [up2_n e40 j1, q2.1 j j0 j2 j3]
          have sk : ∀ j, j ≠ 28 → N40 k j = N k j := fun j hj => by rw [up2_n e40 (by omega), q2.2 j hj]
          have x17 : N40 (k + 17) = va_up (N (k + 17)) i (p.1 - p.1) := by rw [up2_at e40, q2.1 (k + 17) (by omega) (by omega) (by omega)]
          have x18 : N40 (k + 18) = N (k + 18) := st _ (by omega) (by omega) (by omega) (by omega)
          have R40 : RM N40 k (addL acc p.1 p.2) := ⟨by rw [up2_n e40 (by omega)]; exact q1.1, q1.2.1, by rw [up2_n e40 (by omega), up2_n e40 (by omega)]; exact q1.2.2⟩
          have L40 : Ls (N40 (k + 17)) (N40 (k + 18)) (i + 1) r := Ls_cg (Ls_tail hL) (fun j hj => ⟨by rw [x17, va_up_ne _ _ (by omega)], by rw [x18]⟩)
          refine ok_ck ⟨by omega, by omega⟩ ?_
          refine ok_t (by omega) ?_
          refine ok_ck ⟨by omega, by omega⟩ ?_
          refine ok_ck ⟨by omega, by omega⟩ ?_
          rw [show (i : Int) + 1 = ((i + 1 : Nat) : Int) by omega]
          refine ok_mono (ih (i + 1) (op - p.1) N40 r (addL acc p.1 p.2) (by omega) (by omega) (by omega) (by omega) w2 (wl_addL wa w1.2) R40 L40 (by omega) (by omega)) (fun q N' h => ?_)
          obtain ⟨m1, ⟨j, m2, m3, m4⟩, m5, m6, m7⟩ := h
          exact ⟨m1, ⟨j, m2, by rw [List.length_cons]; omega, m4⟩, m5, fun j j0 j1 j2 j3 => (m6 j j0 j1 j2 j3).trans (st j j0 j1 j2 j3), fun j hj => (m7 j hj).trans (sk j hj)⟩
theorem ok_push_159 {k : Nat} {x1 x2 : Int} : ∀ (f i d : Nat) (N : nS) (r : Rw) (n : Nat), n < f + (d + i) → d + r.length = n → n ≤ 160 → i ≤ r.length → N k 25 = (n : Int) → (∀ j, i ≤ j → j < r.length → N (k + 17) (d + j) = (gv r j).1 ∧ N (k + 18) (d + j) = (gv r j).2) → (∀ j, j < i → N (k + 17) j = (gv r j).1 ∧ N (k + 18) j = (gv r j).2) → Ok (m_Mo_push_159 k x1 x2 f ((d + i : Nat) : Int) (i : Int) N) (fun q N' => q.2 = (r.length : Int) ∧ Ls (N' (k + 17)) (N' (k + 18)) 0 r ∧ ∀ j, j ≠ k + 17 → j ≠ k + 18 → N' j = N j) := by
  intro f
  induction f with
  | zero => intro i d N r n h1 h2 h3 h4; exact absurd h1 (by omega)
  | succ f ih =>
    intro i d N r n h1 h2 h3 h4 h5 h6 h7
    rw [m_Mo_push_159]
    refine ok_ck (by rw [h5]; exact ⟨by omega, by omega⟩) ?_
    rw [h5]
    refine ok_if (fun c => ?_) (fun c => ?_)
    · have e : i = r.length := by omega
      subst e
      exact ok_ret ⟨rfl, fun j hj => by rw [Nat.zero_add]; exact h7 j hj, fun _ _ _ => rfl⟩
    · have hi : i < r.length := by omega
      have g := h6 i (Nat.le_refl _) hi
      refine ok_ck ⟨by omega, by omega⟩ ?_
      refine ok_ck ⟨by omega, by omega⟩ ?_
      rw [Int.toNat_natCast, Int.toNat_natCast, g.1]
      refine ok_nlt (fun N56 e56 => ?_)
      rw [up2_n e56 (show k + 18 ≠ k + 17 by omega), g.2]
      refine ok_nlt (fun N58 e58 => ?_)
      refine ok_ck ⟨by omega, by omega⟩ ?_
      refine ok_ck ⟨by omega, by omega⟩ ?_
      have x17 : N58 (k + 17) = va_up (N (k + 17)) i (gv r i).1 := by rw [up2_n e58 (by omega), up2_at e56]
      have x18 : N58 (k + 18) = va_up (N (k + 18)) i (gv r i).2 := by rw [up2_at e58, up2_n e56 (by omega)]
      have st : ∀ j, j ≠ k + 17 → j ≠ k + 18 → N58 j = N j := fun j j1 j2 => by rw [up2_n e58 j2, up2_n e56 j1]
      rw [show ((d + i : Nat) : Int) + 1 = ((d + (i + 1) : Nat) : Int) by omega, show (i : Int) + 1 = ((i + 1 : Nat) : Int) by omega]
      refine ok_mono (ih (i + 1) d N58 r n (by omega) h2 h3 (by omega) (by rw [st k (by omega) (by omega)]; exact h5) (fun j j1 j2 => ?_) (fun j hj => ?_)) (fun q N' h => ⟨h.1, h.2.1, fun j j1 j2 => (h.2.2 j j1 j2).trans (st j j1 j2)⟩)
      · rw [x17, x18, va_up_ne _ _ (by omega), va_up_ne _ _ (by omega)]
        exact h6 j (by omega) j2
      · rw [x17, x18]
        by_cases e : j = i
        · subst e; rw [va_up_self, va_up_self]; exact ⟨rfl, rfl⟩
        · rw [va_up_ne _ _ e, va_up_ne _ _ e]; exact h7 j (by omega)
def RS (N : nS) (k cnt : Nat) (rows : Nat → Rw) : Prop := ∀ p, p < cnt → RR N k p (rows p)
theorem RR_of {N N' : nS} {k p : Nat} {l : Rw} (h : RR N k p l) (e6 : N' (k + 6) = N (k + 6)) (e7 : N' (k + 7) = N (k + 7)) (e8 : N' (k + 8) = N (k + 8)) : RR N' k p l := by
  obtain ⟨a, b, c⟩ := h
  exact ⟨by rw [e6]; exact a, b, by rw [e7, e8]; exact c⟩
def FP (k : Nat) (N N' : nS) : Prop := (∀ i, i ≠ k → i ≠ k + 6 → i ≠ k + 7 → i ≠ k + 8 → i ≠ k + 9 → i ≠ k + 17 → i ≠ k + 18 → i ≠ k + 19 → i ≠ k + 20 → N' i = N i) ∧ ∀ j, j ≠ 24 → j ≠ 25 → j ≠ 28 → N' k j = N k j
theorem FP_tr {k : Nat} {N N1 N2 : nS} (h : FP k N N1) (g : FP k N1 N2) : FP k N N2 := ⟨fun i a b c d e f p q r => (g.1 i a b c d e f p q r).trans (h.1 i a b c d e f p q r), fun j a b c => (g.2 j a b c).trans (h.2 j a b c)⟩
set_option maxHeartbeats 1000000 in
theorem ok_Mo_push {k cnt p : Nat} {N : nS} {rows : Nat → Rw} {t T : Rw} {V : Int} (hp : p < cnt) (hc : cnt ≤ 10) (hR : RS N k cnt rows) (hT : TM N k T) (hV : N (k + 2) p = V) (hV1 : 1 ≤ V ∧ V ≤ 1000) (wT : wl T) (wr : wl (rows p)) (tr : tv (rows p) = V) (tT : tv T ≤ 1000) (hl : T.length + 12 ≤ 150) (wt : wl t) (hex : ex t = ex T) :
    Ok (m_Mo_push k (p : Int) N) (fun _ N' => RS N' k cnt (va_up rows p (psh V t (rows p)).1) ∧ (∃ T', TM N' k T' ∧ wl T' ∧ ex T' = ex (psh V t (rows p)).2.1 ∧ T'.length ≤ T.length + 12 ∧ tv T' = tv T) ∧ N' k 24 = N k 24 + (psh V t (rows p)).2.2 ∧ N' (k + 9) = va_up (N (k + 9)) p (N k 9) ∧ FP k N N') := by
  rw [m_Mo_push]
  have hr := hR p hp
  have hrl := hr.2.1
  refine ok_nbd (ok_push_2 (by omega) FU 0 N T (rows p) (by show (rows p).length < 200 + 0; omega) (Nat.zero_le _) hr hT (by omega)) (fun q14 N15 h15 => ?_)
  rw [List.drop_zero] at h15
  obtain ⟨T15, s15, k15⟩ := h15
  refine ok_ck ⟨by omega, by omega⟩ ?_
  refine ok_nlt (fun N18 e18 => ?_)
  have st18 : ∀ j, j ≠ k → N18 j = N15 j := fun j hj => up2_n e18 hj
  rw [Int.toNat_natCast, s15 (k + 2) (by omega) (by omega) (by omega), hV]
  refine ok_ck ⟨by omega, by omega⟩ ?_
  have wTr := wl_app wT wr
  have tTr : tv (T ++ rows p) = tv T + V := by rw [tv_app, tr]
  have nT := tv_nn wT
  have lTr : (T ++ rows p).length = T.length + (rows p).length := List.length_append
  have R18 : RM N18 k [] := ⟨by rw [up2_v e18]; rfl, Nat.zero_le _, Ls_nil⟩
  have L18 : Ls (N18 (k + 17)) (N18 (k + 18)) 0 (T ++ rows p) := by rw [st18 _ (by omega), st18 _ (by omega)]; exact T15.2.2
  refine ok_nbd (ok_push_82 FU 0 V N18 (T ++ rows p) [] (by show _ + 1 < 200; omega) (by omega) (by omega) (by omega) wTr wl_nil R18 L18 (by simp only [List.length_nil]; omega) (by show 0 + tv _ ≤ _; omega)) (fun q49 N50 h50 => ?_)
  obtain ⟨z1, ⟨j, z2, z3, z4⟩, z5, z6, z7⟩ := h50
  obtain ⟨y1, y2, y3, y4, y5, y6, y7, y8, y9⟩ := spR_ok (T ++ rows p) [] V wTr wl_nil (by omega) (by omega)
  rw [z1, z2]
  refine ok_ck ⟨by omega, by omega⟩ ?_
  refine ok_ck ⟨by omega, by omega⟩ ?_
  have c50 : N50 k 25 = ((T ++ rows p).length : Int) := by rw [z7 25 (by decide), up2_at e18, va_up_ne _ _ (by decide)]; exact T15.1
  refine ok_nbd (ok_push_159 (x1 := (p : Int)) (x2 := 0) FU 0 j N50 (spR [] V (T ++ rows p)).2 (T ++ rows p).length (by show _ < 200 + _; omega) (by omega) (by omega) (Nat.zero_le _) c50 (fun i _ hi => z4 i hi) (fun i hi => absurd hi (Nat.not_lt_zero _))) (fun q64 N65 h65 => ?_)
  obtain ⟨x1, x2, x3⟩ := h65
  rw [x1]
  refine ok_nlt (fun N67 e67 => ?_)
  have st67 : ∀ i, i ≠ k → N67 i = N65 i := fun i hi => up2_n e67 hi
  have k67 : ∀ j, j ≠ 25 → N67 k j = N65 k j := fun j hj => by rw [up2_at e67, va_up_ne _ _ hj]
  generalize hF : (spR [] V (T ++ rows p)).1 = F at z5 y1 y3 y5 y7 y8
  generalize hB : (spR [] V (T ++ rows p)).2 = B at z3 z4 y2 y4 y6 y9 x1 x2 e67
  have e0 : tv ([] : Rw) = 0 := rfl
  simp only [List.length_nil, Nat.zero_add] at y7
  have R67 : RM N67 k F := ⟨by rw [k67 28 (by decide), x3 k (by omega) (by omega)]; exact z5.1, z5.2.1, by rw [st67 _ (by omega), st67 _ (by omega), x3 _ (by omega) (by omega), x3 _ (by omega) (by omega)]; exact z5.2.2⟩
  refine ok_nbd (ok_jtf (by omega) R67 y1 (y5 trivial) (by omega)) (fun r69 N70 h70 => ?_)
  obtain ⟨u1, u2, u3⟩ := h70
  obtain ⟨d1, d2, d3, d4, d5, d6⟩ := thR_ok 200 F y1 (y5 trivial) (by omega) (by omega)
  refine ok_nbd (ok_putBack (by omega) d4 u1) (fun r72 N73 h73 => ?_)
  obtain ⟨v1, v2, v3⟩ := h73
  refine ok_nlt (fun N75 e75 => ?_)
  have st75 : ∀ i, i ≠ k + 9 → N75 i = N73 i := fun i hi => up2_n e75 hi
  -- what stays till N70
  have st70 : ∀ i, i ≠ k → i ≠ k + 17 → i ≠ k + 18 → i ≠ k + 19 → i ≠ k + 20 → N70 i = N i := fun i i0 i1 i2 i3 i4 => by
    rw [u3.1 i i0 i3 i4, st67 i i0, x3 i i1 i2, z6 i i0 i1 i3 i4, st18 i i0, s15 i i0 i1 i2]
  have sk70 : ∀ j, j ≠ 24 → j ≠ 25 → j ≠ 28 → N70 k j = N k j := fun j j0 j1 j2 => by
    rw [u3.2 j j2 j0, k67 j j1, x3 k (by omega) (by omega), z7 j j2, up2_at e18, va_up_ne _ _ j2, k15 j j1]
  -- the row
  have exF : ex F = (ex (t ++ rows p)).take V.toNat := by
    rw [y3, ex_app, ex_app, hex]; rfl
  have exB : ex B = (ex (t ++ rows p)).drop V.toNat := by
    rw [y4, ex_app, ex_app, hex]
  have wtr := wl_app wt wr
  obtain ⟨a1, a2, a3⟩ := adds_ok (t ++ rows p) [] wl_nil wtr
  obtain ⟨b1, b2, b3, b4, b5, b6⟩ := spl_ok (adds [] (t ++ rows p)) [] [] V a1 wl_nil wl_nil (by omega)
  obtain ⟨c1, c2⟩ := nmr_spl (adds [] (t ++ rows p)) [] [] V trivial trivial
  have hFs : F = (spl [] [] V (adds [] (t ++ rows p))).1 := by
    refine ex_inj _ _ y1 b1 (y5 trivial) c1 ?_
    rw [exF, b5, a3]; rfl
  have hp1 : (psh V t (rows p)).1 = (thR 200 F).1 := by rw [hFs]; rfl
  have hp3 : (psh V t (rows p)).2.2 = (thR 200 F).2 := by rw [hFs]; rfl
  have hp2 : ex (psh V t (rows p)).2.1 = ex B := by
    show ex (spl [] [] V (adds [] (t ++ rows p))).2 = _
    rw [exB, b6, a3]; rfl
  refine ok_ret ⟨fun q hq => ?_, ⟨B, ⟨?_, by omega, ?_⟩, y2, hp2.symm, by omega, by omega⟩, ?_, ?_, ⟨fun i i0 i6 i7 i8 i9 i17 i18 i19 i20 => ?_, fun j j0 j1 j2 => ?_⟩⟩
  · by_cases e : q = p
    · subst e
      rw [va_up_self, hp1]
      exact RR_of v1 (st75 _ (by omega)) (st75 _ (by omega)) (st75 _ (by omega))
    · rw [va_up_ne _ _ e]
      refine RR_of (v2 q (rows q) e (RR_of (hR q hq) (st70 _ (by omega) (by omega) (by omega) (by omega) (by omega)) (st70 _ (by omega) (by omega) (by omega) (by omega) (by omega)) (st70 _ (by omega) (by omega) (by omega) (by omega) (by omega)))) (st75 _ (by omega)) (st75 _ (by omega)) (st75 _ (by omega))
  · rw [st75 k (by omega), v3 k (by omega) (by omega) (by omega), u3.2 25 (by decide) (by decide), up2_v e67]
  · rw [st75 (k + 17) (by omega), v3 (k + 17) (by omega) (by omega) (by omega), u3.1 (k + 17) (by omega) (by omega) (by omega), st67 (k + 17) (by omega), st75 (k + 18) (by omega), v3 (k + 18) (by omega) (by omega) (by omega), u3.1 (k + 18) (by omega) (by omega) (by omega), st67 (k + 18) (by omega)]
    exact x2
  · rw [st75 k (by omega), v3 k (by omega) (by omega) (by omega), u2, hp3, k67 24 (by decide), x3 k (by omega) (by omega), z7 24 (by decide), up2_at e18, va_up_ne _ _ (by decide), k15 24 (by decide)]
  · rw [up2_at e75, v3 k (by omega) (by omega) (by omega), sk70 9 (by decide) (by decide) (by decide), v3 (k + 9) (by omega) (by omega) (by omega), st70 (k + 9) (by omega) (by omega) (by omega) (by omega) (by omega)]
  · rw [st75 i i9, v3 i i6 i7 i8, st70 i i0 i17 i18 i19 i20]
  · rw [st75 k (by omega), v3 k (by omega) (by omega) (by omega), sk70 j j0 j1 j2]
