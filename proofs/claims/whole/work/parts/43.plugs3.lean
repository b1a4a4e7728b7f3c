/-! ===== Plugs: likest, joinBehind, thin ===== -/
def df (l : Rw) (i : Nat) : Int := if 0 ≤ (gv l i).2 - (gv l (i + 1)).2 then (gv l i).2 - (gv l (i + 1)).2 else 0 - ((gv l i).2 - (gv l (i + 1)).2)
def lkf (l : Rw) : Nat → Int → Int → Nat → Int
  | 0, best, _, _ => best
  | n + 1, best, gap, i => if gap ≤ df l i then lkf l n best gap (i + 1) else lkf l n (i : Int) (df l i) (i + 1)
theorem df_rg {l : Rw} {i : Nat} (h : wl l) (hi : i + 1 < l.length) : 0 ≤ df l i ∧ df l i ≤ 10000 := by
  have a := h _ (gv_mem (show i < l.length by omega))
  have b := h _ (gv_mem hi)
  unfold df
  split <;> omega
theorem lkf_rng (l : Rw) : ∀ (n : Nat) (best gap : Int) (i : Nat), 0 ≤ best → best < i + n ∨ best = 0 → 0 ≤ lkf l n best gap i ∧ (lkf l n best gap i < i + n ∨ lkf l n best gap i = 0) := by
  intro n
  induction n with
  | zero => intro best gap i h1 h2; exact ⟨h1, by show best < _ ∨ best = 0; omega⟩
  | succ n ih =>
    intro best gap i h1 h2
    by_cases q : gap ≤ df l i
    · have e : lkf l (n + 1) best gap i = lkf l n best gap (i + 1) := if_pos q
      rw [e]
      have := ih best gap (i + 1) h1 (by omega)
      exact ⟨this.1, by have := this.2; omega⟩
    · have e : lkf l (n + 1) best gap i = lkf l n (i : Int) (df l i) (i + 1) := if_neg q
      rw [e]
      have := ih (i : Int) (df l i) (i + 1) (by omega) (by omega)
      exact ⟨this.1, by have := this.2; omega⟩
theorem ok_Plugs_likest_8 {o cap : Nat} (hc : cap ≤ 1000) : ∀ (f i : Nat) (N : nS) (l : Rw) (best gap : Int), l.length < f + i → i < l.length → RP N o cap l → wl l → rg best → rg gap → Ok (m_Plugs_likest_8 o cap f best gap (i : Int) N) (fun q N' => q.1 = lkf l (l.length - 1 - i) best gap i ∧ N' = N) := by
  intro f
  induction f with
  | zero => intro i N l best gap h1 h2; exact absurd h1 (by omega)
  | succ f ih =>
    intro i N l best gap h1 h2 hr hw hb hg
    rw [m_Plugs_likest_8]
    have hcnt := hr.1
    have hl1 := hr.2.1
    refine ok_ck ⟨by omega, by omega⟩ ?_
    refine ok_ck (by rw [hcnt]; exact ⟨by omega, by omega⟩) ?_
    rw [hcnt]
    refine ok_if (fun c => ?_) (fun c => ?_)
    · have e : l.length - 1 - i = 0 := by omega
      rw [e]
      exact ok_ret ⟨rfl, rfl⟩
    · have hi : i + 1 < l.length := by omega
      have g0 := hr.2.2 i (by omega)
      have g1 := hr.2.2 (i + 1) hi
      rw [Nat.zero_add] at g0 g1
      have e1 : Int.toNat ((i : Int) + 1) = i + 1 := by omega
      have hd := df_rg hw hi
      have a0 := hw _ (gv_mem (show i < l.length by omega))
      have a1 := hw _ (gv_mem hi)
      rw [Int.toNat_natCast, e1, g0.2, g1.2]
      have hdd : (if 0 ≤ (gv l i).2 - (gv l (i + 1)).2 then (gv l i).2 - (gv l (i + 1)).2 else 0 - ((gv l i).2 - (gv l (i + 1)).2)) = df l i := rfl
      rw [hdd]
      refine ok_ck ⟨by omega, by omega⟩ ?_
      refine ok_ck ⟨by omega, by omega⟩ ?_
      refine ok_ck ⟨by omega, by omega⟩ ?_
      refine ok_ck ⟨by omega, by omega⟩ ?_
      have e2 : l.length - 1 - i = (l.length - 1 - (i + 1)) + 1 := by omega
      rw [e2]
      refine ok_if (fun c2 => ?_) (fun c2 => ?_)
      · refine ok_mono (ih (i + 1) N l best gap (by omega) hi hr hw hb hg) (fun q N' h => ⟨?_, h.2⟩)
        rw [h.1]
        show _ = if gap ≤ df l i then _ else _
        rw [if_pos c2]
      · refine ok_mono (ih (i + 1) N l (i : Int) (df l i) (by omega) hi hr hw ⟨by omega, by omega⟩ ⟨by omega, by omega⟩) (fun q N' h => ⟨?_, h.2⟩)
        rw [h.1]
        show _ = if gap ≤ df l i then _ else _
        rw [if_neg c2]
theorem ok_Plugs_likest {o cap : Nat} {N : nS} {l : Rw} (hc : cap ≤ 150) (hr : RP N o cap l) (hw : wl l) (hl : 0 < l.length) : Ok (m_Plugs_likest o cap N) (fun r N' => r = lkf l (l.length - 1) 0 10001 0 ∧ N' = N) := by
  rw [m_Plugs_likest]
  have h1 := hr.2.1
  refine ok_nbd (ok_Plugs_likest_8 (by omega) FU 0 N l 0 10001 (by show l.length < 200 + 0; omega) hl hr hw ⟨by omega, by omega⟩ ⟨by omega, by omega⟩) (fun q N' h => ?_)
  exact ok_ret ⟨h.1, h.2⟩
def jV (l : Rw) (a : Nat) : Int := (gv l a).1 + (gv l (a + 1)).1
def jS (l : Rw) (a : Nat) : Int := (gv l a).1 * (gv l a).2 + (gv l (a + 1)).1 * (gv l (a + 1)).2
def jr (l : Rw) (a : Nat) : Int := jS l a - Int.tdiv (jS l a) (jV l a) * jV l a
def jn (l : Rw) (a : Nat) : Rw := (l.set a (jV l a, Int.tdiv (jS l a) (jV l a))).eraseIdx (a + 1)
theorem jn_len {l : Rw} {a : Nat} (h : a + 1 < l.length) : (jn l a).length = l.length - 1 := by
  unfold jn
  rw [List.length_eraseIdx, List.length_set, if_pos h]
theorem gv_erase_lt {l : Rw} {i j : Nat} (h : j < i) : gv (l.eraseIdx i) j = gv l j := by
  simp [gv, List.getD_eq_getElem?_getD, List.getElem?_eraseIdx, h]
theorem gv_erase_ge {l : Rw} {i j : Nat} (h : i ≤ j) : gv (l.eraseIdx i) j = gv l (j + 1) := by
  simp [gv, List.getD_eq_getElem?_getD, List.getElem?_eraseIdx, Nat.not_lt.mpr h]
theorem jn_rg {l : Rw} {a : Nat} (hw : wl l) (h : a + 1 < l.length) (ht : tv l ≤ 100000) : 0 < jV l a ∧ jV l a ≤ tv l ∧ 0 ≤ jS l a ∧ jS l a ≤ jV l a * 10000 ∧ 0 ≤ Int.tdiv (jS l a) (jV l a) ∧ Int.tdiv (jS l a) (jV l a) ≤ 10000 ∧ 0 ≤ jr l a ∧ jr l a < jV l a := by
  have a0 := hw _ (gv_mem (show a < l.length by omega))
  have a1 := hw _ (gv_mem h)
  have p0 : 0 ≤ (gv l a).1 * (gv l a).2 := Int.mul_nonneg (by omega) (by omega)
  have p1 : 0 ≤ (gv l (a + 1)).1 * (gv l (a + 1)).2 := Int.mul_nonneg (by omega) (by omega)
  have q0 : (gv l a).1 * (gv l a).2 ≤ (gv l a).1 * 10000 := Int.mul_le_mul_of_nonneg_left (by omega) (by omega)
  have q1 : (gv l (a + 1)).1 * (gv l (a + 1)).2 ≤ (gv l (a + 1)).1 * 10000 := Int.mul_le_mul_of_nonneg_left (by omega) (by omega)
  have hV : 0 < jV l a := by unfold jV; omega
  have hS : 0 ≤ jS l a := by unfold jS; omega
  have hS2 : jS l a ≤ jV l a * 10000 := by unfold jS jV; rw [Int.add_mul]; omega
  have e : Int.tdiv (jS l a) (jV l a) = jS l a / jV l a := Int.tdiv_eq_ediv_of_nonneg hS
  have hle : jV l a ≤ tv l := by
    have h1 : l = l.take a ++ (gv l a :: gv l (a + 1) :: l.drop (a + 2)) := by
      rw [← drop_gv h, ← drop_gv (show a < l.length by omega), List.take_append_drop]
    have h2 : tv l = tv (l.take a) + ((gv l a).1 + ((gv l (a + 1)).1 + tv (l.drop (a + 2)))) := by
      conv => lhs; rw [h1]
      rw [tv_app]; rfl
    have h3 := tv_nn (l := l.take a) (fun p hp => hw p (List.mem_of_mem_take hp))
    have h4 := tv_nn (l := l.drop (a + 2)) (fun p hp => hw p (List.mem_of_mem_drop hp))
    unfold jV; omega
  refine ⟨hV, hle, hS, hS2, ?_, ?_, ?_, ?_⟩
  · rw [e]; exact Int.ediv_nonneg hS (by omega)
  · rw [e]
    exact Int.ediv_le_of_le_mul hV (by rw [Int.mul_comm]; exact hS2)
  · unfold jr; rw [e]
    have := Int.emod_nonneg (jS l a) (show jV l a ≠ 0 by omega)
    rw [Int.emod_def, Int.mul_comm] at this
    exact this
  · unfold jr; rw [e]
    have := Int.emod_lt_of_pos (jS l a) hV
    rw [Int.emod_def, Int.mul_comm] at this
    exact this
theorem jn_eq {l : Rw} {a : Nat} (h : a + 1 < l.length) : jn l a = l.take a ++ ((jV l a, Int.tdiv (jS l a) (jV l a)) :: l.drop (a + 2)) := by
  unfold jn
  have h1 : l = l.take a ++ (gv l a :: gv l (a + 1) :: l.drop (a + 2)) := by
    rw [← drop_gv h, ← drop_gv (show a < l.length by omega), List.take_append_drop]
  have hl : (l.take a).length = a := by rw [List.length_take]; omega
  generalize (jV l a, Int.tdiv (jS l a) (jV l a)) = p
  conv => lhs; rw [h1]
  rw [List.set_append_right _ _ (by omega), hl, Nat.sub_self, List.set_cons_zero, List.eraseIdx_append_of_length_le (by omega), hl, show a + 1 - a = 1 by omega]
  rfl
theorem jn_ok {l : Rw} {a : Nat} (hw : wl l) (h : a + 1 < l.length) (ht : tv l ≤ 100000) : wl (jn l a) ∧ tv (jn l a) = tv l := by
  have hr := jn_rg hw h ht
  rw [jn_eq h]
  have h1 : l = l.take a ++ (gv l a :: gv l (a + 1) :: l.drop (a + 2)) := by
    rw [← drop_gv h, ← drop_gv (show a < l.length by omega), List.take_append_drop]
  refine ⟨wl_app (fun p hp => hw p (List.mem_of_mem_take hp)) (fun p hp => ?_), ?_⟩
  · rcases List.mem_cons.mp hp with rfl | hp
    · exact ⟨hr.1, hr.2.2.2.2.1, hr.2.2.2.2.2.1⟩
    · exact hw p (List.mem_of_mem_drop hp)
  · have h2 : tv l = tv (l.take a) + ((gv l a).1 + ((gv l (a + 1)).1 + tv (l.drop (a + 2)))) := by
      conv => lhs; rw [h1]
      rw [tv_app]; rfl
    rw [tv_app, h2]
    show tv (l.take a) + (jV l a + tv (l.drop (a + 2))) = _
    unfold jV; omega
theorem ok_Plugs_joinBehind_92 {o cap : Nat} {x1 x2 x3 : Int} (hc : cap ≤ 1000) : ∀ (f i : Nat) (N : nS) (n : Nat), n < f + i → i < n → n ≤ cap → N o 2 = (n : Int) → Ok (m_Plugs_joinBehind_92 o cap x1 x2 x3 f (i : Int) N) (fun _ N' => N' o = N o ∧ (∀ j, j < i → N' (o + 1) j = N (o + 1) j ∧ N' (o + 2) j = N (o + 2) j) ∧ (∀ j, i ≤ j → j + 1 < n → N' (o + 1) j = N (o + 1) (j + 1) ∧ N' (o + 2) j = N (o + 2) (j + 1)) ∧ F3 o N N') := by
  intro f
  induction f with
  | zero => intro i N n h1 h2; exact absurd h1 (by omega)
  | succ f ih =>
    intro i N n h1 h2 hn hcnt
    rw [m_Plugs_joinBehind_92]
    refine ok_ck ⟨by omega, by omega⟩ ?_
    refine ok_ck (by rw [hcnt]; exact ⟨by omega, by omega⟩) ?_
    rw [hcnt]
    refine ok_if (fun c => ?_) (fun c => ?_)
    · exact ok_ret ⟨rfl, fun _ _ => ⟨rfl, rfl⟩, fun j a b => absurd b (by omega), F3_rf⟩
    · have e1 : Int.toNat ((i : Int) + 1) = i + 1 := by omega
      rw [Int.toNat_natCast, e1]
      refine ok_ck ⟨by omega, by omega⟩ ?_
      refine ok_ck ⟨by omega, by omega⟩ ?_
      refine ok_nlt (fun N20 e20 => ?_)
      refine ok_nlt (fun N22 e22 => ?_)
      have a0 : N22 o = N o := by rw [up2_n e22 (by omega), up2_n e20 (by omega)]
      have a1 : N22 (o + 1) = va_up (N (o + 1)) i (N (o + 1) (i + 1)) := by rw [up2_n e22 (by omega), up2_at e20]
      have a2 : N22 (o + 2) = va_up (N (o + 2)) i (N (o + 2) (i + 1)) := by rw [up2_at e22, up2_n e20 (by omega)]
      have h9 := ih (i + 1) N22 n (by omega) (by omega) hn (by rw [a0]; exact hcnt)
      refine ok_mono h9 (fun q N' h => ⟨h.1.trans a0, fun j hj => ?_, fun j hj hj2 => ?_, fun k k0 k1 k2 => ?_⟩)
      · have := h.2.1 j (by omega)
        rw [this.1, this.2, a1, a2, va_up_ne _ _ (by omega), va_up_ne _ _ (by omega)]
        exact ⟨rfl, rfl⟩
      · by_cases q2 : j = i
        · have := h.2.1 j (by omega)
          rw [this.1, this.2, a1, a2, q2, va_up_self, va_up_self]
          exact ⟨rfl, rfl⟩
        · have := h.2.2.1 j (by omega) hj2
          rw [this.1, this.2, a1, a2, va_up_ne _ _ (by omega), va_up_ne _ _ (by omega)]
          exact ⟨rfl, rfl⟩
      · rw [h.2.2.2 k k0 k1 k2, up2_n e22 k2, up2_n e20 k1]
theorem ok_Plugs_joinBehind {o cap : Nat} {N : nS} {l : Rw} {a : Nat} (hc : cap ≤ 150) (hr : RP N o cap l) (hw : wl l) (ht : tv l ≤ 100000) (ha : a + 1 < l.length) : Ok (m_Plugs_joinBehind o cap (a : Int) N) (fun r N' => r = jr l a ∧ RP N' o cap (jn l a) ∧ F3 o N N') := by
  obtain ⟨hcnt, hl, hls⟩ := hr
  rw [m_Plugs_joinBehind]
  have hj := jn_rg hw ha ht
  have g0 := hls a (by omega)
  have g1 := hls (a + 1) ha
  rw [Nat.zero_add] at g0 g1
  have e1 : Int.toNat ((a : Int) + 1) = a + 1 := by omega
  refine ok_f (by omega) ?_
  refine ok_ck ⟨by omega, by omega⟩ ?_
  refine ok_ck (by rw [hcnt]; exact ⟨by omega, by omega⟩) ?_
  refine ok_t (by rw [hcnt]; omega) ?_
  refine ok_ck ⟨by omega, by omega⟩ ?_
  refine ok_ck ⟨by omega, by omega⟩ ?_
  rw [Int.toNat_natCast, e1, g0.1, g0.2, g1.1, g1.2]
  rw [show (gv l a).1 + (gv l (a + 1)).1 = jV l a from rfl, show (gv l a).1 * (gv l a).2 + (gv l (a + 1)).1 * (gv l (a + 1)).2 = jS l a from rfl]
  refine ok_ck ⟨by omega, by omega⟩ ?_
  refine ok_t (by omega) ?_
  refine ok_nlt (fun N9 e9 => ?_)
  refine ok_ck ⟨by omega, by omega⟩ ?_
  refine ok_ck (by omega) ?_
  refine ok_nlt (fun N13 e13 => ?_)
  have b0 : N13 o = N o := by rw [up2_n e13 (by omega), up2_n e9 (by omega)]
  have b1 : N13 (o + 1) = va_up (N (o + 1)) a (jV l a) := by rw [up2_n e13 (by omega), up2_at e9]
  have b2 : N13 (o + 2) = va_up (N (o + 2)) a (Int.tdiv (jS l a) (jV l a)) := by rw [up2_at e13, up2_n e9 (by omega)]
  have e2 : ((a : Int) + 1) = ((a + 1 : Nat) : Int) := by omega
  rw [e2]
  refine ok_nbd (ok_Plugs_joinBehind_92 (by omega) FU (a + 1) N13 l.length (by show l.length < 200 + (a + 1); omega) ha hl (by rw [b0]; exact hcnt)) (fun q N25 h => ?_)
  refine ok_nlt (fun N27 e27 => ?_)
  refine ok_ret ⟨rfl, ⟨?_, by rw [jn_len ha]; omega, ?_⟩, ?_⟩
  · rw [up2_v e27, h.1, b0, hcnt, jn_len ha]; omega
  · intro i hi
    rw [jn_len ha] at hi
    rw [Nat.zero_add, up2_n e27 (by omega), up2_n e27 (by omega)]
    by_cases q1 : i < a + 1
    · have := h.2.1 i q1
      rw [this.1, this.2, b1, b2]
      unfold jn
      rw [gv_erase_lt q1]
      by_cases q2 : i = a
      · subst q2
        rw [va_up_self, va_up_self, gv_set_eq (by omega)]
        exact ⟨rfl, rfl⟩
      · rw [va_up_ne _ _ q2, va_up_ne _ _ q2, gv_set_ne (fun e => q2 e.symm)]
        have := hls i (by omega)
        rw [Nat.zero_add] at this
        exact this
    · have := h.2.2.1 i (by omega) (by omega)
      rw [this.1, this.2, b1, b2, va_up_ne _ _ (by omega), va_up_ne _ _ (by omega)]
      unfold jn
      rw [gv_erase_ge (by omega), gv_set_ne (by omega)]
      have := hls (i + 1) (by omega)
      rw [Nat.zero_add] at this
      exact this
  · intro k k0 k1 k2
    rw [up2_n e27 k0, h.2.2.2 k k0 k1 k2, up2_n e13 k2, up2_n e9 k1]
def lk (l : Rw) : Nat := (lkf l (l.length - 1) 0 10001 0).toNat
def thC : Nat → Rw → Rw × Int
  | 0, l => (l, 0)
  | n + 1, l => ((thC n (jn l (lk l))).1, jr l (lk l) + (thC n (jn l (lk l))).2)
theorem lk_rng {l : Rw} (h : 1 < l.length) : lk l + 1 < l.length ∧ lkf l (l.length - 1) 0 10001 0 = (lk l : Int) := by
  have := lkf_rng l (l.length - 1) 0 10001 0 (by omega) (Or.inr rfl)
  unfold lk
  omega
theorem ok_Plugs_thin_10 {o cap : Nat} (hc : cap ≤ 150) : ∀ (f n : Nat) (N : nS) (l : Rw) (x : Int), n < f → n + 12 = l.length ∨ n = 0 → RP N o cap l → wl l → tv l ≤ 10000 → 0 ≤ x → x + n * 100000 ≤ 100000000 → Ok (m_Plugs_thin_10 o cap f x (n : Int) N) (fun q N' => q.1 = x + (thC n l).2 ∧ RP N' o cap (thC n l).1 ∧ F3 o N N') := by
  intro f
  induction f with
  | zero => intro n N l x h1; exact absurd h1 (by omega)
  | succ f ih =>
    intro n N l x h1 h2 hr hw ht hx hx2
    rw [m_Plugs_thin_10]
    refine ok_if (fun c => ?_) (fun c => ?_)
    · have e : n = 0 := by omega
      subst e
      exact ok_ret ⟨by show x = x + 0; omega, hr, F3_rf⟩
    · obtain ⟨k, rfl⟩ : ∃ k, n = k + 1 := ⟨n - 1, by omega⟩
      have hl : 1 < l.length := by omega
      have hk := lk_rng hl
      refine ok_nbd (ok_Plugs_likest hc hr hw (by omega)) (fun r2 N3 h3 => ?_)
      obtain ⟨rfl, rfl⟩ := h3
      rw [hk.2]
      have := hr.2.1
      refine ok_ck ⟨by omega, by omega⟩ ?_
      have hj := jn_rg hw hk.1 (by omega)
      refine ok_nbd (ok_Plugs_joinBehind hc hr hw (by omega) hk.1) (fun r6 N7 h7 => ?_)
      obtain ⟨rfl, h7a, h7b⟩ := h7
      have hjo := jn_ok hw hk.1 (by omega)
      refine ok_ck ⟨by omega, by omega⟩ ?_
      refine ok_ck ⟨by omega, by omega⟩ ?_
      rw [show ((k + 1 : Nat) : Int) + (-1) = (k : Int) by omega]
      have h9 := ih k N7 (jn l (lk l)) (x + jr l (lk l)) (by omega) (by rw [jn_len hk.1]; omega) h7a hjo.1 (by rw [hjo.2]; exact ht) (by omega) (by omega)
      refine ok_mono h9 (fun q N' h => ⟨?_, h.2.1, F3_tr h7b h.2.2⟩)
      rw [h.1]
      show _ = x + (jr l (lk l) + (thC k (jn l (lk l))).2)
      omega
theorem ok_Plugs_thin {o cap : Nat} {N : nS} {l : Rw} (hc : cap ≤ 150) (hr : RP N o cap l) (hw : wl l) (ht : tv l ≤ 10000) : Ok (m_Plugs_thin o cap N) (fun r N' => r = (thC (l.length - 12) l).2 ∧ RP N' o cap (thC (l.length - 12) l).1 ∧ F3 o N N') := by
  rw [m_Plugs_thin]
  have hl := hr.2.1
  refine ok_ck (by rw [hr.1]; exact ⟨by omega, by omega⟩) ?_
  rw [hr.1]
  by_cases h : 12 ≤ l.length
  · rw [show (l.length : Int) - 12 = ((l.length - 12 : Nat) : Int) by omega]
    refine ok_nbd (ok_Plugs_thin_10 hc FU (l.length - 12) N l 0 (by show l.length - 12 < 200; omega) (by omega) hr hw ht (by omega) (by omega)) (fun q N' h => ?_)
    exact ok_ret ⟨by rw [h.1]; omega, h.2⟩
  · rw [show l.length - 12 = 0 by omega]
    refine ok_nbd (R := fun q N' => q.1 = 0 ∧ N' = N) ?_ (fun q N' h => ?_)
    · show Ok (m_Plugs_thin_10 o cap (199 + 1) 0 ((l.length : Int) - 12) N) _
      rw [m_Plugs_thin_10]
      refine ok_t (by omega) ?_
      exact ok_ret ⟨rfl, rfl⟩
    · obtain ⟨h1, rfl⟩ := h
      exact ok_ret ⟨by rw [h1]; rfl, hr, F3_rf⟩
