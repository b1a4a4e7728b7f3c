/-! ===== joining till there are 12: the class's way and the reference's come to the same ===== -/
theorem lkf_zero (l : Rw) (hd : ∀ i, 0 ≤ df l i) : ∀ (n : Nat) (best gap : Int) (i : Nat), 0 ≤ best → 0 ≤ gap → (gap = df l best.toNat ∨ 10000 < gap) → (gap = 0 ∨ ∃ j, i ≤ j ∧ j < i + n ∧ df l j = 0) → df l (lkf l n best gap i).toNat = 0 := by
  intro n
  induction n with
  | zero =>
    intro best gap i hb hg h1 h2
    rcases h2 with h2 | ⟨j, a, b, c⟩
    · show df l best.toNat = 0
      rcases h1 with h1 | h1 <;> omega
    · omega
  | succ n ih =>
    intro best gap i hb hg h1 h2
    by_cases q : gap ≤ df l i
    · have e : lkf l (n + 1) best gap i = lkf l n best gap (i + 1) := if_pos q
      rw [e]
      refine ih best gap (i + 1) hb hg h1 ?_
      rcases h2 with h2 | ⟨j, a, b, c⟩
      · exact Or.inl h2
      · by_cases hj : j = i
        · subst hj; left; omega
        · exact Or.inr ⟨j, by omega, by omega, c⟩
    · have e : lkf l (n + 1) best gap i = lkf l n (i : Int) (df l i) (i + 1) := if_neg q
      rw [e]
      have := hd i
      refine ih (i : Int) (df l i) (i + 1) (by omega) (hd i) (Or.inl (by rw [Int.toNat_natCast])) ?_
      rcases h2 with h2 | ⟨j, a, b, c⟩
      · omega
      · by_cases hj : j = i
        · subst hj; exact Or.inl c
        · exact Or.inr ⟨j, by omega, by omega, c⟩
theorem df_nn (l : Rw) (i : Nat) : 0 ≤ df l i := by
  unfold df
  split <;> omega
theorem df_0 {l : Rw} {i : Nat} : df l i = 0 ↔ (gv l i).2 = (gv l (i + 1)).2 := by
  unfold df
  split <;> omega
theorem lkf_start {l : Rw} {g : Int} (hw : wl l) (hl : 1 < l.length) (hg : 10000 < g) : lkf l (l.length - 1) 0 g 0 = lkf l (l.length - 1) 0 10001 0 := by
  have h := df_rg hw (show 0 + 1 < l.length by omega)
  obtain ⟨n, hn⟩ : ∃ n, l.length - 1 = n + 1 := ⟨l.length - 2, by omega⟩
  rw [hn]
  have e1 : lkf l (n + 1) 0 g 0 = lkf l n ((0 : Nat) : Int) (df l 0) (0 + 1) := if_neg (by omega)
  have e2 : lkf l (n + 1) 0 10001 0 = lkf l n ((0 : Nat) : Int) (df l 0) (0 + 1) := if_neg (by omega)
  rw [e1, e2]
theorem not_nmr : ∀ l : Rw, ¬ nmr l → ∃ i, i + 1 < l.length ∧ (gv l i).2 = (gv l (i + 1)).2
  | [], h => absurd trivial h
  | [_], h => absurd trivial h
  | p :: q :: l, h => by
    by_cases c : p.2 = q.2
    · exact ⟨0, by simp, c⟩
    · obtain ⟨i, h1, h2⟩ := not_nmr (q :: l) (fun k => h ⟨c, k⟩)
      refine ⟨i + 1, by simp at h1 ⊢; omega, ?_⟩
      have e1 : gv (p :: q :: l) (i + 1) = gv (q :: l) i := by simp [gv]
      have e2 : gv (p :: q :: l) (i + 1 + 1) = gv (q :: l) (i + 1) := by simp [gv]
      rw [e1, e2]
      exact h2
theorem nmr_gv : ∀ (l : Rw), nmr l → ∀ i, i + 1 < l.length → (gv l i).2 ≠ (gv l (i + 1)).2
  | [], _, i, h => absurd h (by simp)
  | [_], _, i, h => absurd h (by simp)
  | p :: q :: l, k, 0, _ => k.1
  | p :: q :: l, k, i + 1, h => by
    have e1 : gv (p :: q :: l) (i + 1) = gv (q :: l) i := by simp [gv]
    have e2 : gv (p :: q :: l) (i + 1 + 1) = gv (q :: l) (i + 1) := by simp [gv]
    rw [e1, e2]
    exact nmr_gv (q :: l) k.2 i (by simp at h ⊢; omega)
/-- like neighbours joined: nothing is rounded away, the measures stay -/
theorem jn_like {l : Rw} {a : Nat} (hw : wl l) (h : a + 1 < l.length) (ht : tv l ≤ 100000) (e : (gv l a).2 = (gv l (a + 1)).2) : jr l a = 0 ∧ ex (jn l a) = ex l := by
  have hr := jn_rg hw h ht
  have a0 := hw _ (gv_mem (show a < l.length by omega))
  have a1 := hw _ (gv_mem h)
  have hS : jS l a = (gv l a).2 * jV l a := by
    unfold jS jV
    rw [← e, Int.mul_add, Int.mul_comm (gv l a).1, Int.mul_comm (gv l (a + 1)).1]
  have hq : Int.tdiv (jS l a) (jV l a) = (gv l a).2 := by
    rw [hS]
    exact Int.mul_tdiv_cancel _ (by omega)
  refine ⟨?_, ?_⟩
  · unfold jr
    rw [hq, hS]; omega
  · have h1 : l = l.take a ++ (gv l a :: gv l (a + 1) :: l.drop (a + 2)) := by
      rw [← drop_gv h, ← drop_gv (show a < l.length by omega), List.take_append_drop]
    rw [jn_eq h, hq, ex_app, ex_cons]
    conv => rhs; rw [h1]
    rw [ex_app, ex_cons, ex_cons]
    congr 1
    rw [← List.append_assoc, ← e, List.replicate_append_replicate]
    congr 2
    unfold jV
    omega
/-- the reference's way -/
def thR : Nat → Rw → Rw × Int
  | 0, l => (l, 0)
  | f + 1, l => if l.length ≤ 12 then (l, 0) else ((thR f (adds [] (jn l (lk l)))).1, jr l (lk l) + (thR f (adds [] (jn l (lk l)))).2)
theorem thR_few {f : Nat} {l : Rw} (h : l.length ≤ 12) : thR f l = (l, 0) := by
  cases f with
  | zero => rfl
  | succ f => exact if_pos h
theorem thin_eq : ∀ (n : Nat) (l : Rw) (f : Nat), wl l → tv l ≤ 10000 → (l.length = n + 12 ∨ (n = 0 ∧ l.length ≤ 12)) → n ≤ f → adds [] (thC n l).1 = (thR f (adds [] l)).1 ∧ (thC n l).2 = (thR f (adds [] l)).2 := by
  intro n
  induction n with
  | zero =>
    intro l f hw ht hl hf
    have := (adds_len l []).1
    rw [thR_few (show (adds [] l).length ≤ 12 by simp at this; omega)]
    exact ⟨rfl, rfl⟩
  | succ n ih =>
    intro l f hw ht hl hf
    have hl1 : l.length = n + 13 := by omega
    have hk := lk_rng (show 1 < l.length by omega)
    have hj := jn_ok hw hk.1 (by omega)
    have hjl := jn_len hk.1
    by_cases hn : nmr l
    · obtain ⟨f', rfl⟩ : ∃ f', f = f' + 1 := ⟨f - 1, by omega⟩
      rw [adds_self hw hn]
      have e : thR (f' + 1) l = ((thR f' (adds [] (jn l (lk l)))).1, jr l (lk l) + (thR f' (adds [] (jn l (lk l)))).2) := if_neg (by omega)
      rw [e]
      obtain ⟨a, b⟩ := ih (jn l (lk l)) f' hj.1 (by rw [hj.2]; exact ht) (by omega) (by omega)
      exact ⟨a, by show jr l (lk l) + (thC n (jn l (lk l))).2 = _; rw [b]⟩
    · obtain ⟨i, hi1, hi2⟩ := not_nmr l hn
      have hz : df l (lk l) = 0 := by
        have := lkf_zero l (df_nn l) (l.length - 1) 0 10001 0 (by omega) (by omega) (Or.inr (by omega)) (Or.inr ⟨i, by omega, by omega, df_0.mpr hi2⟩)
        exact this
      obtain ⟨q1, q2⟩ := jn_like hw hk.1 (by omega) (df_0.mp hz)
      have hs : adds [] (jn l (lk l)) = adds [] l := by
        obtain ⟨a1, a2, a3⟩ := adds_ok (jn l (lk l)) [] wl_nil hj.1
        obtain ⟨b1, b2, b3⟩ := adds_ok l [] wl_nil hw
        exact ex_inj _ _ a1 b1 (nmr_adds _ _ trivial) (nmr_adds _ _ trivial) (by rw [a3, b3, q2])
      obtain ⟨a, b⟩ := ih (jn l (lk l)) f hj.1 (by rw [hj.2]; exact ht) (by omega) (by omega)
      rw [hs] at a b
      exact ⟨a, by show jr l (lk l) + (thC n (jn l (lk l))).2 = _; rw [b, q1]; omega⟩
theorem thR_ok : ∀ (f : Nat) (l : Rw), wl l → nmr l → tv l ≤ 10000 → l.length ≤ 12 + f → wl (thR f l).1 ∧ nmr (thR f l).1 ∧ tv (thR f l).1 = tv l ∧ (thR f l).1.length ≤ 12 ∧ 0 ≤ (thR f l).2 ∧ (thR f l).2 ≤ f * 10000 := by
  intro f
  induction f with
  | zero => intro l hw hn ht hl; exact ⟨hw, hn, rfl, by show l.length ≤ 12; omega, Int.le_refl _, by show (0 : Int) ≤ _; omega⟩
  | succ f ih =>
    intro l hw hn ht hl
    by_cases c : l.length ≤ 12
    · rw [thR_few c]
      exact ⟨hw, hn, rfl, c, Int.le_refl _, by show (0 : Int) ≤ _; omega⟩
    · have hk := lk_rng (show 1 < l.length by omega)
      have hj := jn_ok hw hk.1 (by omega)
      have hjl := jn_len hk.1
      have hr := jn_rg hw hk.1 (by omega)
      have e : thR (f + 1) l = ((thR f (adds [] (jn l (lk l)))).1, jr l (lk l) + (thR f (adds [] (jn l (lk l)))).2) := if_neg c
      obtain ⟨a1, a2, a3⟩ := adds_ok (jn l (lk l)) [] wl_nil hj.1
      have hal := (adds_len (jn l (lk l)) []).1
      have e2 : tv (adds [] (jn l (lk l))) = tv l := by rw [a2, hj.2]; show 0 + tv l = tv l; omega
      obtain ⟨b1, b2, b3, b4, b5, b6⟩ := ih (adds [] (jn l (lk l))) a1 (nmr_adds _ _ trivial) (by rw [e2]; exact ht) (by simp at hal; omega)
      rw [e]
      refine ⟨b1, b2, by show tv (thR f (adds [] (jn l (lk l)))).1 = tv l; rw [b3, e2], b4, ?_, ?_⟩
      · show 0 ≤ jr l (lk l) + (thR f (adds [] (jn l (lk l)))).2
        omega
      · show jr l (lk l) + (thR f (adds [] (jn l (lk l)))).2 ≤ _
        omega
