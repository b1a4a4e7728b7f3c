/-! ===== the reference: its row ===== -/
def RM (N : nS) (k : Nat) (l : Rw) : Prop := N k 28 = (l.length : Int) ∧ l.length ≤ 160 ∧ Ls (N (k + 19)) (N (k + 20)) 0 l
def FL (k : Nat) (N N' : nS) : Prop := (∀ i, i ≠ k → i ≠ k + 19 → i ≠ k + 20 → N' i = N i) ∧ ∀ j, j ≠ 28 → N' k j = N k j
theorem FL_rf {k : Nat} {N : nS} : FL k N N := ⟨fun _ _ _ _ => rfl, fun _ _ => rfl⟩
theorem FL_tr {k : Nat} {N N1 N2 : nS} (h : FL k N N1) (g : FL k N1 N2) : FL k N N2 := ⟨fun i a b c => (g.1 i a b c).trans (h.1 i a b c), fun j a => (g.2 j a).trans (h.2 j a)⟩
theorem ok_lay {N : nS} {k : Nat} {l : Rw} {v w : Int} (h : RM N k l) (hb : bd l) (hl : (addL l v w).length ≤ 160) : Ok (m_Mo_lay k v w N) (fun _ N' => RM N' k (addL l v w) ∧ FL k N N' ∧ ∀ j, l.length < j → N' (k + 19) j = N (k + 19) j ∧ N' (k + 20) j = N (k + 20) j) := by
  obtain ⟨h1, h2, h3⟩ := h
  rw [m_Mo_lay]
  have fin : ¬ (0 < l.length ∧ (gv l (l.length - 1)).2 = w) → 1 ≤ v → Ok (nlt (up2 N k 28 ((N k 28) + 1)) (fun N5 =>
      if 0 ≤ (((N k 28) + 1) - 1) ∧ (((N k 28) + 1) - 1) < ((160 : Nat) : Int) then
      nlt (up2 N5 (k + 19) (Int.toNat (((N k 28) + 1) - 1)) v) (fun N9 =>
      if 0 ≤ ((N9 k 28) - 1) ∧ ((N9 k 28) - 1) < ((160 : Nat) : Int) then
      nlt (up2 N9 (k + 20) (Int.toNat ((N9 k 28) - 1)) w) (fun N12 =>
      some ((0 : Int), N12))
      else none)
      else none)) (fun _ N' => RM N' k (addL l v w) ∧ FL k N N' ∧ ∀ j, l.length < j → N' (k + 19) j = N (k + 19) j ∧ N' (k + 20) j = N (k + 20) j) := by
    intro hn hv
    have ea : addL l v w = l ++ [(v, w)] := by
      unfold addL
      rw [if_neg (by omega), if_neg hn]
    rw [ea, List.length_append, List.length_singleton] at hl
    rw [ea]
    refine ok_nlt (fun N5 e5 => ?_)
    refine ok_ck ⟨by rw [h1]; omega, by rw [h1]; omega⟩ ?_
    refine ok_nlt (fun N9 e9 => ?_)
    have n9 : N9 k = va_up (N k) 28 (N k 28 + 1) := by rw [up2_n e9 (by omega), up2_at e5]
    have n9' : N9 k 28 = (l.length : Int) + 1 := by rw [n9, va_up_self, h1]
    rw [n9']
    refine ok_ck ⟨by omega, by omega⟩ ?_
    refine ok_nlt (fun N12 e12 => ?_)
    have a1 : N12 (k + 19) = va_up (N (k + 19)) (0 + l.length) v := by
      rw [up2_n e12 (by omega), up2_at e9, up2_n e5 (by omega), h1]
      congr 1
      omega
    have a2 : N12 (k + 20) = va_up (N (k + 20)) (0 + l.length) w := by
      rw [up2_at e12, up2_n e9 (by omega), up2_n e5 (by omega)]
      congr 1
      omega
    refine ok_ret ⟨⟨?_, by rw [List.length_append, List.length_singleton]; exact hl, by rw [a1, a2]; exact Ls_snoc h3⟩, ⟨fun i i0 i1 i2 => by rw [up2_n e12 i2, up2_n e9 i1, up2_n e5 i0], fun j hj => by rw [up2_n e12 (by omega), n9, va_up_ne _ _ hj]⟩, fun j hj => ?_⟩
    · rw [up2_n e12 (by omega), n9', List.length_append, List.length_singleton]; omega
    · rw [a1, a2, va_up_ne _ _ (by omega), va_up_ne _ _ (by omega)]
      exact ⟨rfl, rfl⟩
  refine ok_if (fun hv => ?_) (fun hv => ?_)
  · rw [addL_0 l v w hv]
    exact ok_ret ⟨⟨h1, h2, h3⟩, FL_rf, fun _ _ => ⟨rfl, rfl⟩⟩
  · refine ok_ck (by rw [h1]; exact ⟨by omega, by omega⟩) ?_
    refine ok_if (fun c1 => ?_) (fun c1 => ?_)
    · exact fin (fun q => by rw [h1] at c1; omega) (by omega)
    · rw [h1] at c1
      have ei : Int.toNat (N k 28 - 1) = l.length - 1 := by rw [h1]; omega
      have hg := h3 (l.length - 1) (by omega)
      rw [Nat.zero_add] at hg
      have hm := hb _ (gv_mem (show l.length - 1 < l.length by omega))
      refine ok_ck ⟨by rw [h1]; omega, by rw [h1]; omega⟩ ?_
      rw [ei, hg.2]
      refine ok_ck ⟨by omega, by omega⟩ ?_
      refine ok_if (fun c2 => ?_) (fun c2 => fin (fun q => c2 q.2) (by omega))
      have ea : addL l v w = l.set (l.length - 1) ((gv l (l.length - 1)).1 + v, w) := by
        unfold addL
        rw [if_neg (by omega), if_pos ⟨by omega, c2⟩]
      rw [ea]
      refine ok_nlt (fun N28 e28 => ?_)
      refine ok_ck ⟨by rw [h1]; omega, by rw [h1]; omega⟩ ?_
      have ei2 : Int.toNat (N k 28 + 0 - 1) = l.length - 1 := by rw [h1]; omega
      rw [ei2]
      refine ok_nlt (fun N32 e32 => ?_)
      have n32 : N32 k = va_up (N k) 28 (N k 28 + 0) := by rw [up2_n e32 (by omega), up2_at e28]
      have n32' : N32 k 28 = (l.length : Int) := by rw [n32, va_up_self, h1]; omega
      rw [n32']
      refine ok_ck ⟨by omega, by omega⟩ ?_
      refine ok_nlt (fun N35 e35 => ?_)
      have a1 : N35 (k + 19) = va_up (N (k + 19)) (0 + (l.length - 1)) ((gv l (l.length - 1)).1 + v) := by
        rw [up2_n e35 (by omega), up2_at e32, up2_n e28 (by omega), hg.1, Nat.zero_add]
      have a2 : N35 (k + 20) = va_up (N (k + 20)) (0 + (l.length - 1)) w := by
        rw [up2_at e35, up2_n e32 (by omega), up2_n e28 (by omega)]
        congr 1
        omega
      refine ok_ret ⟨⟨?_, by rw [List.length_set]; exact h2, by rw [a1, a2]; exact Ls_set h3⟩, ⟨fun i i0 i1 i2 => by rw [up2_n e35 i2, up2_n e32 i1, up2_n e28 i0], fun j hj => by rw [up2_n e35 (by omega), n32, va_up_ne _ _ hj]⟩, fun j hj => ?_⟩
      · rw [up2_n e35 (by omega), n32', List.length_set]
      · rw [a1, a2, va_up_ne _ _ (by omega), va_up_ne _ _ (by omega)]
        exact ⟨rfl, rfl⟩
theorem ok_join_127 {k : Nat} {x1 x2 x3 x5 x7 x8 : Int} : ∀ (f i : Nat) (N : nS) (l acc : Rw), l.length < f + i → i ≤ l.length → l.length ≤ 160 → acc.length ≤ i → RM N k acc → (∀ j, i ≤ j → j < l.length → N (k + 19) j = (gv l j).1 ∧ N (k + 20) j = (gv l j).2) → wl l → wl acc → tv acc + tv (l.drop i) ≤ 100000 → Ok (m_Mo_join_127 k x1 x2 x3 x5 (l.length : Int) x7 x8 f (i : Int) N) (fun _ N' => RM N' k (adds acc (l.drop i)) ∧ FL k N N') := by
  intro f
  induction f with
  | zero => intro i N l acc h1 h2; exact absurd h1 (by omega)
  | succ f ih =>
    intro i N l acc h1 h2 hlc hac hr hv hw hwa ht
    rw [m_Mo_join_127]
    refine ok_if (fun c => ?_) (fun c => ?_)
    · have e : i = l.length := by omega
      subst e
      rw [List.drop_length]
      exact ok_ret ⟨hr, FL_rf⟩
    · have hi : i < l.length := by omega
      have hg := hv i (Nat.le_refl _) hi
      have hm := hw _ (gv_mem hi)
      have n1 := tv_nn hwa
      have n3 := tv_nn (l := l.drop (i + 1)) (fun p hp => hw p (List.mem_of_mem_drop hp))
      rw [drop_gv hi] at ht
      have ht3 : tv acc + ((gv l i).1 + tv (l.drop (i + 1))) ≤ 100000 := ht
      rw [Int.toNat_natCast, hg.1, hg.2]
      refine ok_ck ⟨by omega, by omega⟩ ?_
      refine ok_ck ⟨by omega, by omega⟩ ?_
      refine ok_ck ⟨by omega, by omega⟩ ?_
      have b2 := addL_len acc (gv l i).1 (gv l i).2
      refine ok_nbd (ok_lay hr (bd_of hwa (by omega)) (by omega)) (fun r N12 h12 => ?_)
      refine ok_ck ⟨by omega, by omega⟩ ?_
      have t1 := tv_addL acc (gv l i).1 (gv l i).2 (by omega)
      have h9 := ih (i + 1) N12 l (addL acc (gv l i).1 (gv l i).2) (by omega) (by omega) hlc (by omega) h12.1 (fun j j1 j2 => by
        have q1 := h12.2.2 j (by omega)
        rw [q1.1, q1.2]
        exact hv j (by omega) j2) hw (wl_addL hwa ⟨by omega, by omega⟩) (by omega)
      refine ok_mono h9 (fun q N' h => ⟨?_, FL_tr h12.2.1 h.2⟩)
      rw [drop_gv hi]
      exact h.1
theorem nmr_pre : ∀ (m l : Rw), nmr (m ++ l) → nmr m
  | [], _, _ => trivial
  | [p], _, _ => trivial
  | p :: q :: m, l, h => ⟨h.1, nmr_pre (q :: m) l h.2⟩
def FJ (k : Nat) (N N' : nS) : Prop := (∀ i, i ≠ k → i ≠ k + 19 → i ≠ k + 20 → N' i = N i) ∧ ∀ j, j ≠ 28 → j ≠ 24 → N' k j = N k j
theorem FJ_rf {k : Nat} {N : nS} : FJ k N N := ⟨fun _ _ _ _ => rfl, fun _ _ _ => rfl⟩
theorem FJ_tr {k : Nat} {N N1 N2 : nS} (h : FJ k N N1) (g : FJ k N1 N2) : FJ k N N2 := ⟨fun i a b c => (g.1 i a b c).trans (h.1 i a b c), fun j a b => (g.2 j a b).trans (h.2 j a b)⟩
set_option maxHeartbeats 1000000 in
theorem ok_join {k a : Nat} {N : nS} {l : Rw} (hr : RM N k l) (hw : wl l) (hn : nmr l) (ht : tv l ≤ 100000) (ha : a + 1 < l.length) : Ok (m_Mo_join k (a : Int) N) (fun _ N' => RM N' k (adds [] (jn l a)) ∧ N' k 24 = N k 24 + jr l a ∧ FJ k N N') := by
  rw [m_Mo_join]
  obtain ⟨h1, h2, h3⟩ := hr
  have g0 := h3 a (by omega)
  have g1 := h3 (a + 1) ha
  rw [Nat.zero_add] at g0 g1
  have e1 : Int.toNat ((a : Int) + 1) = a + 1 := by omega
  rw [Int.toNat_natCast, e1, g0.1, g0.2, g1.1, g1.2]
  have a0 := hw _ (gv_mem (show a < l.length by omega))
  have a1 := hw _ (gv_mem ha)
  have b0 := tv_le hw _ (gv_mem (show a < l.length by omega))
  have b1 := tv_le hw _ (gv_mem ha)
  obtain ⟨r1, r2, r3, r4, r5, r6, r7, r8⟩ := jn_rg hw ha ht
  have eV : (gv l a).1 + (gv l (a + 1)).1 = jV l a := rfl
  have eS : (gv l a).1 * (gv l a).2 + (gv l (a + 1)).1 * (gv l (a + 1)).2 = jS l a := rfl
  rw [eV, eS]
  refine ok_ck ⟨by omega, by omega⟩ ?_
  refine ok_ck ⟨by omega, by omega⟩ ?_
  refine ok_ck ⟨by omega, by omega⟩ ?_
  refine ok_ck ⟨by omega, by omega⟩ ?_
  refine ok_ck ⟨by omega, by omega⟩ ?_
  refine ok_ck ⟨by omega, by omega⟩ ?_
  refine ok_ck ⟨by omega, by omega⟩ ?_
  refine ok_ck ⟨by omega, by omega⟩ ?_
  refine ok_ck ⟨by omega, by omega⟩ ?_
  refine ok_ck (by omega) ?_
  refine ok_ck ⟨by omega, by omega⟩ ?_
  have hj := jn_ok hw ha ht
  have hje := jn_eq ha
  generalize hV : jV l a = V at *
  generalize hD : Int.tdiv (jS l a) V = D at *
  refine ok_nlt (fun N12 e12 => ?_)
  refine ok_nlt (fun N14 e14 => ?_)
  refine ok_nlt (fun N16 e16 => ?_)
  refine ok_nlt (fun N18 e18 => ?_)
  have v16 : N16 (k + 19) a = V := by rw [up2_n e16 (by omega), up2_v e14]
  have w16 : N16 k = va_up (N k) 24 (N k 24 + (jS l a - V * D)) := by rw [up2_n e16 (by omega), up2_n e14 (by omega), up2_at e12]
  have c16 : N16 k 28 = (l.length : Int) := by rw [w16, va_up_ne _ _ (by decide), h1]
  rw [v16, c16]
  refine ok_ck ⟨by omega, by omega⟩ ?_
  have x19 : N18 (k + 19) = va_up (N (k + 19)) a V := by rw [up2_n e18 (by omega), up2_n e16 (by omega), up2_at e14, up2_n e12 (by omega)]
  have x20 : N18 (k + 20) = va_up (N (k + 20)) a D := by rw [up2_n e18 (by omega), up2_at e16, up2_n e14 (by omega), up2_n e12 (by omega)]
  have lt : (l.take a).length = a := by rw [List.length_take]; omega
  have R18 : RM N18 k (l.take a) := by
    refine ⟨by rw [up2_v e18, lt], by omega, fun i hi => ?_⟩
    rw [x19, x20, va_up_ne _ _ (by omega), va_up_ne _ _ (by omega)]
    have := h3 i (by omega)
    rw [this.1, this.2]
    have e : gv (l.take a) i = gv l i := by
      conv => rhs; rw [← List.take_append_drop a l]
      rw [gv_app_l hi]
    rw [e]
    exact ⟨rfl, rfl⟩
  have wa : wl (l.take a) := fun p hp => hw p (List.mem_of_mem_take hp)
  have wd : wl (l.drop (a + 2)) := fun p hp => hw p (List.mem_of_mem_drop hp)
  have tq : tv (l.take a) + (V + tv (l.drop (a + 2))) = tv l := by
    rw [← hj.2, hje, tv_app]
    rfl
  have n1 := tv_nn wa
  have n2 := tv_nn wd
  have b2 := addL_len (l.take a) V D
  refine ok_nbd (ok_lay R18 (bd_of wa (by omega)) (by omega)) (fun r N22 h22 => ?_)
  refine ok_ck ⟨by omega, by omega⟩ ?_
  refine ok_ck ⟨by omega, by omega⟩ ?_
  have t1 := tv_addL (l.take a) V D (by omega)
  rw [show (a : Int) + 2 = ((a + 2 : Nat) : Int) by omega]
  refine ok_nbd (ok_join_127 FU (a + 2) N22 l (addL (l.take a) V D) (by show l.length < 200 + (a + 2); omega) (by omega) h2 (by omega) h22.1 (fun j j1 j2 => by
    have q1 := h22.2.2 j (by omega)
    have q2 := h3 j j2
    rw [Nat.zero_add] at q2
    rw [q1.1, q1.2, x19, x20, va_up_ne _ _ (by omega), va_up_ne _ _ (by omega)]
    exact q2) hw (wl_addL wa ⟨r5, r6⟩) (by omega)) (fun q N35 h35 => ?_)
  have k35 := FL_tr h22.2.1 h35.2
  refine ok_ret ⟨?_, ?_, ⟨fun i i0 i1 i2 => ?_, fun j j1 j2 => ?_⟩⟩
  · rw [hje, adds_app, adds_self wa (nmr_pre _ (l.drop a) (by rw [List.take_append_drop]; exact hn))]
    exact h35.1
  · rw [k35.2 24 (by decide), up2_at e18, va_up_ne _ _ (by decide), w16, va_up_self]
    congr 1
    unfold jr
    rw [hV, hD, Int.mul_comm]
  · rw [k35.1 i i0 i1 i2, up2_n e18 i0, up2_n e16 i2, up2_n e14 i1, up2_n e12 i0]
  · rw [k35.2 j j1, up2_at e18, va_up_ne _ _ j1, w16, va_up_ne _ _ j2]
theorem ok_jtf_17 {k : Nat} : ∀ (f i : Nat) (N : nS) (l : Rw) (best gap : Int), l.length < f + i → i < l.length → RM N k l → wl l → rg best → rg gap → Ok (m_Mo_joinTillFew_17 k f best gap (i : Int) N) (fun q N' => q.1 = lkf l (l.length - 1 - i) best gap i ∧ N' = N) := by
  intro f
  induction f with
  | zero => intro i N l best gap h1 h2; exact absurd h1 (by omega)
  | succ f ih =>
    intro i N l best gap h1 h2 hr hw hb hg
    rw [m_Mo_joinTillFew_17]
    have hcnt := hr.1
    have hl1 := hr.2.1
    refine ok_ck ⟨by omega, by omega⟩ ?_
    refine ok_ck (by rw [hcnt]; exact ⟨by omega, by omega⟩) ?_
    rw [hcnt]
    refine ok_if (fun c => ?_) (fun c => ?_)
    · have e : l.length - 1 - i = 0 := by omega
      rw [e]
      exact ok_ret ⟨rfl, rfl⟩
    · have hi : i + 1 < l.length := by omega
      have g0 := hr.2.2 i (by omega)
      have g1 := hr.2.2 (i + 1) hi
      rw [Nat.zero_add] at g0 g1
      have e1 : Int.toNat ((i : Int) + 1) = i + 1 := by omega
      have hd := df_rg hw hi
      have a0 := hw _ (gv_mem (show i < l.length by omega))
      have a1 := hw _ (gv_mem hi)
      rw [Int.toNat_natCast, e1, g0.2, g1.2]
      have hdd : df l i = (if 0 ≤ (gv l i).2 - (gv l (i + 1)).2 then (gv l i).2 - (gv l (i + 1)).2 else 0 - ((gv l i).2 - (gv l (i + 1)).2)) := rfl
      refine ok_ck ⟨by omega, by omega⟩ ?_
      refine ok_ck ⟨by omega, by omega⟩ ?_
      refine ok_ck ⟨by omega, by omega⟩ ?_
      refine ok_ck ⟨by omega, by omega⟩ ?_
      have e2 : l.length - 1 - i = (l.length - 1 - (i + 1)) + 1 := by omega
      rw [e2]
      have step : ∀ d : Int, d = df l i → Ok (if gap ≤ d then m_Mo_joinTillFew_17 k f best gap ((i : Int) + 1) N else m_Mo_joinTillFew_17 k f (i : Int) d ((i : Int) + 1) N) (fun q N' => q.1 = lkf l (l.length - 1 - (i + 1) + 1) best gap i ∧ N' = N) := fun d hd2 => by
        subst hd2
        refine ok_if (fun c2 => ?_) (fun c2 => ?_)
        · refine ok_mono (ih (i + 1) N l best gap (by omega) hi hr hw hb hg) (fun q N' h => ⟨?_, h.2⟩)
          rw [h.1]
          show _ = if gap ≤ df l i then _ else _
          rw [if_pos c2]
        · refine ok_mono (ih (i + 1) N l (i : Int) (df l i) (by omega) hi hr hw ⟨by omega, by omega⟩ ⟨by omega, by omega⟩) (fun q N' h => ⟨?_, h.2⟩)
          rw [h.1]
          show _ = if gap ≤ df l i then _ else _
          rw [if_neg c2]
      refine ok_if (fun c3 => ?_) (fun c3 => ?_)
      · refine ok_ck ⟨by omega, by omega⟩ ?_
        exact step _ (by rw [hdd]; split <;> omega)
      · refine ok_ck ⟨by omega, by omega⟩ ?_
        exact step _ (by rw [hdd]; split <;> omega)
theorem ok_jtf_0 {k : Nat} : ∀ (f g : Nat) (N : nS) (l : Rw), l.length < f + 12 → l.length ≤ 12 + g → l.length ≤ 150 → RM N k l → wl l → nmr l → tv l ≤ 10000 → 0 < f → Ok (m_Mo_joinTillFew_0 k f N) (fun _ N' => RM N' k (thR g l).1 ∧ N' k 24 = N k 24 + (thR g l).2 ∧ FJ k N N') := by
  intro f
  induction f with
  | zero => intro g N l _ _ _ _ _ _ _ h; omega
  | succ f ih =>
    intro g N l h1 h2 h3 hr hw hn ht _
    rw [m_Mo_joinTillFew_0]
    refine ok_ck (by rw [hr.1]; exact ⟨by omega, by omega⟩) ?_
    rw [hr.1]
    refine ok_if (fun c => ?_) (fun c => ?_)
    · rw [thR_few (by omega)]
      exact ok_ret ⟨hr, by show _ = _ + 0; omega, FJ_rf⟩
    · obtain ⟨g, rfl⟩ : ∃ g', g = g' + 1 := ⟨g - 1, by omega⟩
      refine ok_nbd (ok_jtf_17 FU 0 N l 0 20000 (by show l.length < 200 + 0; omega) (by omega) hr hw ⟨by omega, by omega⟩ ⟨by omega, by omega⟩) (fun q N20 h20 => ?_)
      obtain ⟨q1, rfl⟩ := h20
      rw [Nat.sub_zero, lkf_start hw (by omega) (by omega)] at q1
      obtain ⟨k1, k2⟩ := lk_rng (l := l) (by omega)
      rw [k2] at q1
      rw [q1]
      refine ok_ck ⟨by omega, by omega⟩ ?_
      refine ok_nbd (ok_join hr hw hn (by omega) k1) (fun r N24 h24 => ?_)
      have j1 := jn_ok hw k1 (by omega)
      have j2 := jn_len k1
      obtain ⟨a1, a2, a3⟩ := adds_ok (jn l (lk l)) [] wl_nil j1.1
      have a4 := adds_len (jn l (lk l)) []
      have a5 : tv ([] : Rw) = 0 := rfl
      simp only [List.length_nil, Nat.zero_add] at a4
      have e : thR (g + 1) l = ((thR g (adds [] (jn l (lk l)))).1, jr l (lk l) + (thR g (adds [] (jn l (lk l)))).2) := if_neg (by omega)
      refine ok_mono (ih g N24 (adds [] (jn l (lk l))) (by omega) (by omega) (by omega) h24.1 a1 (nmr_adds _ _ trivial) (by omega) (by omega)) (fun q N' h => ?_)
      rw [e]
      refine ⟨h.1, ?_, FJ_tr h24.2.2 h.2.2⟩
      rw [h.2.1, h24.2.1]
      show _ = _ + (jr l (lk l) + (thR g (adds [] (jn l (lk l)))).2)
      omega
theorem ok_jtf {k : Nat} {N : nS} {l : Rw} (hl : l.length ≤ 150) (hr : RM N k l) (hw : wl l) (hn : nmr l) (ht : tv l ≤ 10000) : Ok (m_Mo_joinTillFew k N) (fun _ N' => RM N' k (thR 200 l).1 ∧ N' k 24 = N k 24 + (thR 200 l).2 ∧ FJ k N N') := by
  rw [m_Mo_joinTillFew]
  refine ok_nbd (ok_jtf_0 FU 200 N l (by show l.length < 200 + 12; omega) (by omega) hl hr hw hn ht (by show 0 < 200; omega)) (fun q N' h => ?_)
  exact ok_ret h
/-! putting the row back -/
def RR (N : nS) (k p : Nat) (l : Rw) : Prop := N (k + 6) p = (l.length : Int) ∧ l.length ≤ 12 ∧ Ls (N (k + 7)) (N (k + 8)) (12 * p) l
theorem ok_pb_12 {k p : Nat} (hp : p < 10) : ∀ (f i : Nat) (N : nS) (l : Rw), l.length < f + i → i ≤ l.length → l.length ≤ 12 → RM N k l → (∀ j, j < i → N (k + 7) (12 * p + j) = (gv l j).1 ∧ N (k + 8) (12 * p + j) = (gv l j).2) → Ok (m_Mo_putBack_12 k (p : Int) f (i : Int) N) (fun _ N' => Ls (N' (k + 7)) (N' (k + 8)) (12 * p) l ∧ (∀ q, (q < 12 * p ∨ 12 * p + 12 ≤ q) → N' (k + 7) q = N (k + 7) q ∧ N' (k + 8) q = N (k + 8) q) ∧ ∀ j, j ≠ k + 7 → j ≠ k + 8 → N' j = N j) := by
  intro f
  induction f with
  | zero => intro i N l h1 h2; exact absurd h1 (by omega)
  | succ f ih =>
    intro i N l h1 h2 h3 hr hd
    rw [m_Mo_putBack_12]
    refine ok_ck (by rw [hr.1]; exact ⟨by omega, by omega⟩) ?_
    rw [hr.1]
    refine ok_if (fun c => ?_) (fun c => ?_)
    · exact ok_ret ⟨fun j hj => hd j (by omega), fun _ _ => ⟨rfl, rfl⟩, fun _ _ _ => rfl⟩
    · have hi : i < l.length := by omega
      have g := hr.2.2 i hi
      rw [Nat.zero_add] at g
      refine ok_ck ⟨by omega, by omega⟩ ?_
      refine ok_ck ⟨by omega, by omega⟩ ?_
      rw [show Int.toNat (12 * (p : Int) + (i : Int)) = 12 * p + i by omega, Int.toNat_natCast, g.1]
      refine ok_nlt (fun N8 e8 => ?_)
      rw [up2_n e8 (show k + 20 ≠ k + 7 by omega), g.2]
      refine ok_nlt (fun N10 e10 => ?_)
      refine ok_ck ⟨by omega, by omega⟩ ?_
      have x7 : N10 (k + 7) = va_up (N (k + 7)) (12 * p + i) (gv l i).1 := by rw [up2_n e10 (by omega), up2_at e8]
      have x8 : N10 (k + 8) = va_up (N (k + 8)) (12 * p + i) (gv l i).2 := by rw [up2_at e10, up2_n e8 (by omega)]
      have st : ∀ j, j ≠ k + 7 → j ≠ k + 8 → N10 j = N j := fun j j1 j2 => by rw [up2_n e10 j2, up2_n e8 j1]
      have R10 : RM N10 k l := by
        refine ⟨by rw [st k (by omega) (by omega)]; exact hr.1, hr.2.1, ?_⟩
        rw [st (k + 19) (by omega) (by omega), st (k + 20) (by omega) (by omega)]
        exact hr.2.2
      rw [show (i : Int) + 1 = ((i + 1 : Nat) : Int) by omega]
      refine ok_mono (ih (i + 1) N10 l (by omega) (by omega) h3 R10 (fun j hj => ?_)) (fun q N' h => ⟨h.1, fun q hq => ?_, fun j j1 j2 => by rw [h.2.2 j j1 j2, st j j1 j2]⟩)
      · rw [x7, x8]
        by_cases e : j = i
        · subst e; rw [va_up_self, va_up_self]; exact ⟨rfl, rfl⟩
        · rw [va_up_ne _ _ (by omega), va_up_ne _ _ (by omega)]; exact hd j (by omega)
      · have := h.2.1 q hq
        rw [this.1, this.2, x7, x8, va_up_ne _ _ (by omega), va_up_ne _ _ (by omega)]
        exact ⟨rfl, rfl⟩
theorem ok_putBack {k p : Nat} {N : nS} {l : Rw} (hp : p < 10) (hl : l.length ≤ 12) (hr : RM N k l) : Ok (m_Mo_putBack k (p : Int) N) (fun _ N' => RR N' k p l ∧ (∀ q l', q ≠ p → RR N k q l' → RR N' k q l') ∧ ∀ j, j ≠ k + 6 → j ≠ k + 7 → j ≠ k + 8 → N' j = N j) := by
  rw [m_Mo_putBack]
  refine ok_ck ⟨by omega, by omega⟩ ?_
  rw [Int.toNat_natCast, hr.1]
  refine ok_nlt (fun N2 e2 => ?_)
  have st : ∀ j, j ≠ k + 6 → N2 j = N j := fun j hj => up2_n e2 hj
  have R2 : RM N2 k l := by
    refine ⟨by rw [st k (by omega)]; exact hr.1, hr.2.1, ?_⟩
    rw [st (k + 19) (by omega), st (k + 20) (by omega)]
    exact hr.2.2
  refine ok_nbd (ok_pb_12 hp FU 0 N2 l (by show l.length < 200 + 0; omega) (Nat.zero_le _) hl R2 (fun j hj => absurd hj (Nat.not_lt_zero _))) (fun q N' h => ?_)
  have x6 : N' (k + 6) = va_up (N (k + 6)) p (l.length : Int) := by rw [h.2.2 _ (by omega) (by omega), up2_at e2]
  refine ok_ret ⟨⟨by rw [x6, va_up_self], hl, h.1⟩, fun q l' hq hr' => ⟨by rw [x6, va_up_ne _ _ hq]; exact hr'.1, hr'.2.1, ?_⟩, fun j j1 j2 j3 => by rw [h.2.2 j j2 j3, st j j1]⟩
  have hl' := hr'.2.1
  refine Ls_cg hr'.2.2 (fun i hi => ?_)
  have := h.2.1 (12 * q + i) (by omega)
  rw [this.1, this.2, st _ (by omega), st _ (by omega)]
  exact ⟨rfl, rfl⟩
