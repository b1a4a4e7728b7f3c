/-! ===== lists of plugs ===== -/
def tv (l : Rw) : Int := l.foldr (fun p a => p.1 + a) 0
def wl (l : Rw) : Prop := ∀ p ∈ l, 0 < p.1 ∧ 0 ≤ p.2 ∧ p.2 ≤ 10000
def ex (l : Rw) : List Int := l.flatMap (fun p => List.replicate p.1.toNat p.2)
theorem tv_app (l m : Rw) : tv (l ++ m) = tv l + tv m := by
  induction l with
  | nil => simp [tv]
  | cons p l ih =>
    show p.1 + tv (l ++ m) = p.1 + tv l + tv m
    rw [ih]; omega
theorem wl_app {l m : Rw} (h : wl l) (k : wl m) : wl (l ++ m) := fun p hp => (List.mem_append.mp hp).elim (h p) (k p)
theorem wl_cons {p : Int × Int} {l : Rw} (h : wl (p :: l)) : (0 < p.1 ∧ 0 ≤ p.2 ∧ p.2 ≤ 10000) ∧ wl l := ⟨h p List.mem_cons_self, fun q hq => h q (List.mem_cons_of_mem _ hq)⟩
theorem wl_nil : wl [] := fun _ h => by cases h
theorem tv_nn {l : Rw} (h : wl l) : 0 ≤ tv l := by
  induction l with
  | nil => exact Int.le_refl 0
  | cons p l ih =>
    have a := (wl_cons h).1
    have b := ih (wl_cons h).2
    show 0 ≤ p.1 + tv l
    omega
theorem tv_le {l : Rw} (h : wl l) : ∀ p ∈ l, p.1 ≤ tv l := by
  induction l with
  | nil => intro p hp; cases hp
  | cons q l ih =>
    intro p hp
    have a := (wl_cons h).1
    have b := tv_nn (wl_cons h).2
    show p.1 ≤ q.1 + tv l
    rcases List.mem_cons.mp hp with rfl | hp
    · omega
    · have := ih (wl_cons h).2 p hp
      omega
theorem tv_len {l : Rw} (h : wl l) : (l.length : Int) ≤ tv l := by
  induction l with
  | nil => exact Int.le_refl 0
  | cons q l ih =>
    have a := (wl_cons h).1
    have b := ih (wl_cons h).2
    show ((l.length + 1 : Nat) : Int) ≤ q.1 + tv l
    omega
theorem bd_of {l : Rw} (h : wl l) (k : tv l ≤ 100000) : bd l := fun p hp => by
  have a := h p hp
  have b := tv_le h p hp
  exact ⟨a.1, by omega, a.2.1, a.2.2⟩
theorem gv_last {l : Rw} (h : 0 < l.length) : ∃ m : Rw, l = m ++ [gv l (l.length - 1)] ∧ m.length = l.length - 1 := by
  refine ⟨l.take (l.length - 1), ?_, by rw [List.length_take]; omega⟩
  have h1 := List.take_append_drop (l.length - 1) l
  rw [drop_gv (show l.length - 1 < l.length by omega), show l.length - 1 + 1 = l.length by omega, List.drop_length] at h1
  exact h1.symm
theorem addL_eq (l : Rw) (v w : Int) : addL l v w = if v ≤ 0 then l else match l.reverse with
    | [] => [(v, w)]
    | p :: m => if p.2 = w then m.reverse ++ [(p.1 + v, w)] else l ++ [(v, w)] := by
  unfold addL
  by_cases hv : v ≤ 0
  · rw [if_pos hv, if_pos hv]
  · rw [if_neg hv, if_neg hv]
    by_cases hl : 0 < l.length
    · obtain ⟨m, h1, h2⟩ := gv_last hl
      generalize hg : gv l (l.length - 1) = p at h1 ⊢
      have hr : l.reverse = p :: m.reverse := by rw [h1, List.reverse_append]; rfl
      rw [hr]
      show _ = if p.2 = w then m.reverse.reverse ++ [(p.1 + v, w)] else l ++ [(v, w)]
      by_cases c : p.2 = w
      · rw [if_pos ⟨hl, c⟩, if_pos c, List.reverse_reverse, ← h2]
        conv => lhs; rw [h1]
        rw [List.set_append_right _ _ (Nat.le_refl _), Nat.sub_self]
        rfl
      · rw [if_neg (fun q => c q.2), if_neg c]
    · have : l = [] := List.eq_nil_of_length_eq_zero (by omega)
      subst this
      rw [if_neg (fun q => hl q.1)]
      rfl
theorem addL_snoc (m : Rw) (p : Int × Int) (v w : Int) (hv : 0 < v) : addL (m ++ [p]) v w = if p.2 = w then m ++ [(p.1 + v, w)] else m ++ [p] ++ [(v, w)] := by
  rw [addL_eq, if_neg (by omega), List.reverse_append]
  show (if p.2 = w then m.reverse.reverse ++ [(p.1 + v, w)] else m ++ [p] ++ [(v, w)]) = _
  rw [List.reverse_reverse]
theorem addL_nil (v w : Int) (hv : 0 < v) : addL [] v w = [(v, w)] := by
  rw [addL_eq, if_neg (by omega)]
  rfl
theorem addL_0 (l : Rw) (v w : Int) (hv : v ≤ 0) : addL l v w = l := by
  rw [addL_eq, if_pos hv]
theorem snoc_or (l : Rw) : l = [] ∨ ∃ m p, l = m ++ [p] := by
  by_cases h : 0 < l.length
  · obtain ⟨m, h1, -⟩ := gv_last h
    exact Or.inr ⟨m, _, h1⟩
  · exact Or.inl (List.eq_nil_of_length_eq_zero (by omega))
theorem tv_addL (l : Rw) (v w : Int) (hv : 0 ≤ v) : tv (addL l v w) = tv l + v := by
  by_cases h0 : v ≤ 0
  · rw [addL_0 l v w h0]; omega
  · rcases snoc_or l with rfl | ⟨m, p, rfl⟩
    · rw [addL_nil v w (by omega)]
      show v + 0 = 0 + v
      omega
    · rw [addL_snoc m p v w (by omega)]
      split
      · rw [tv_app, tv_app]
        show tv m + (p.1 + v + 0) = tv m + (p.1 + 0) + v
        omega
      · rw [tv_app (m ++ [p])]
        show _ + (v + 0) = _
        omega
theorem wl_addL {l : Rw} {v w : Int} (h : wl l) (hw : 0 ≤ w ∧ w ≤ 10000) : wl (addL l v w) := by
  by_cases h0 : v ≤ 0
  · rw [addL_0 l v w h0]; exact h
  · rcases snoc_or l with rfl | ⟨m, p, rfl⟩
    · rw [addL_nil v w (by omega)]
      intro q hq
      rw [List.mem_singleton.mp hq]
      exact ⟨by show 0 < v; omega, hw⟩
    · rw [addL_snoc m p v w (by omega)]
      split
      · refine wl_app (fun q hq => h q (List.mem_append_left _ hq)) (fun q hq => ?_)
        rw [List.mem_singleton.mp hq]
        have := (h p (List.mem_append_right _ List.mem_cons_self)).1
        exact ⟨by show 0 < p.1 + v; omega, hw⟩
      · refine wl_app h (fun q hq => ?_)
        rw [List.mem_singleton.mp hq]
        exact ⟨by show 0 < v; omega, hw⟩
theorem ex_app (l m : Rw) : ex (l ++ m) = ex l ++ ex m := by simp [ex]
theorem ex_1 (p : Int × Int) : ex [p] = List.replicate p.1.toNat p.2 := by simp [ex]
theorem ex_addL {l : Rw} {v w : Int} (h : wl l) : ex (addL l v w) = ex l ++ List.replicate v.toNat w := by
  by_cases h0 : v ≤ 0
  · rw [addL_0 l v w h0, show v.toNat = 0 by omega]; simp
  · rcases snoc_or l with rfl | ⟨m, p, rfl⟩
    · rw [addL_nil v w (by omega)]
      simp [ex]
    · rw [addL_snoc m p v w (by omega)]
      split
      · rename_i c
        have := (h p (List.mem_append_right _ List.mem_cons_self)).1
        rw [ex_app, ex_app, ex_1, ex_1, List.append_assoc]
        congr 1
        show List.replicate (p.1 + v).toNat w = _
        rw [show (p.1 + v).toNat = p.1.toNat + v.toNat by omega, c, List.replicate_append_replicate]
      · rw [ex_app, ex_1]
theorem adds_nil (l : Rw) : adds l [] = l := rfl
theorem adds_cons (l : Rw) (p : Int × Int) (m : Rw) : adds l (p :: m) = adds (addL l p.1 p.2) m := rfl
theorem adds_app (l a b : Rw) : adds l (a ++ b) = adds (adds l a) b := by simp [adds, List.foldl_append]
theorem adds_ok (m : Rw) : ∀ l : Rw, wl l → wl m → wl (adds l m) ∧ tv (adds l m) = tv l + tv m ∧ ex (adds l m) = ex l ++ ex m := by
  induction m with
  | nil => intro l h _; exact ⟨h, by show tv l = tv l + 0; omega, by show ex l = ex l ++ []; simp⟩
  | cons p m ih =>
    intro l h k
    obtain ⟨k1, k2⟩ := wl_cons k
    obtain ⟨a, b, c⟩ := ih (addL l p.1 p.2) (wl_addL h k1.2) k2
    rw [adds_cons]
    refine ⟨a, ?_, ?_⟩
    · rw [b, tv_addL _ _ _ (by omega)]
      show tv l + p.1 + tv m = tv l + (p.1 + tv m)
      omega
    · rw [c, ex_addL h, List.append_assoc]
      rfl
/-! ===== Plugs: clear, addAll, the sums ===== -/
theorem ok_Plugs_clear {N : nS} {o cap : Nat} : Ok (m_Plugs_clear o cap N) (fun _ N' => RP N' o cap [] ∧ F3 o N N' ∧ N' (o + 1) = N (o + 1) ∧ N' (o + 2) = N (o + 2)) := by
  rw [m_Plugs_clear]
  refine ok_nlt (fun N1 e1 => ?_)
  refine ok_ret ⟨⟨by rw [up2_v e1]; rfl, Nat.zero_le _, Ls_nil⟩, fun k k0 _ _ => up2_n e1 k0, up2_n e1 (by omega), up2_n e1 (by omega)⟩
theorem ok_Plugs_addAll_2 {o cap o1 cap1 : Nat} (hd : o1 + 2 < o ∨ o + 2 < o1) (hc : cap ≤ 1000) (hc1 : cap1 ≤ 1000) : ∀ (f i : Nat) (N : nS) (l l1 : Rw), l1.length < f + i → i ≤ l1.length → RP N o cap l → RP N o1 cap1 l1 → wl l → wl l1 → l.length + (l1.length - i) ≤ cap → tv l + tv (l1.drop i) ≤ 100000 → Ok (m_Plugs_addAll_2 o cap o1 cap1 f (i : Int) N) (fun _ N' => RP N' o cap (adds l (l1.drop i)) ∧ F3 o N N') := by
  intro f
  induction f with
  | zero => intro i N l l1 h1 h2; exact absurd h1 (by omega)
  | succ f ih =>
    intro i N l l1 h1 h2 hr hr1 hw hw1 hl ht2
    rw [m_Plugs_addAll_2]
    have hcnt := hr1.1
    have hl1 := hr1.2.1
    refine ok_ck (by rw [hcnt]; exact ⟨by omega, by omega⟩) ?_
    rw [hcnt]
    refine ok_if (fun c => ?_) (fun c => ?_)
    · have e : i = l1.length := by omega
      subst e
      rw [List.drop_length]
      exact ok_ret ⟨hr, F3_rf⟩
    · have hi : i < l1.length := by omega
      have hg := hr1.2.2 i hi
      rw [Nat.zero_add] at hg
      have hm := hw1 _ (gv_mem hi)
      have hn0 := tv_nn hw
      have hn1 := tv_nn (l := l1.drop (i + 1)) (fun p hp => hw1 p (List.mem_of_mem_drop hp))
      rw [drop_gv hi] at ht2
      have ht3 : tv l + ((gv l1 i).1 + tv (l1.drop (i + 1))) ≤ 100000 := ht2
      rw [Int.toNat_natCast, hg.1, hg.2]
      refine ok_ck ⟨by omega, by omega⟩ ?_
      refine ok_ck ⟨by omega, by omega⟩ ?_
      refine ok_ck ⟨by omega, by omega⟩ ?_
      rw [drop_gv hi, adds_cons]
      have hl3 := addL_len l (gv l1 i).1 (gv l1 i).2
      refine ok_nbd (ok_Plugs_add hr (bd_of hw (by omega)) hc (by omega)) (fun r6 N7 h7 => ?_)
      refine ok_ck ⟨by omega, by omega⟩ ?_
      have hta := tv_addL l (gv l1 i).1 (gv l1 i).2 (by omega)
      have h9 := ih (i + 1) N7 (addL l (gv l1 i).1 (gv l1 i).2) l1 (by omega) (by omega) h7.1 (RP_F3 hr1 h7.2.1 (by omega)) (wl_addL hw hm.2) hw1 (by omega) (by omega)
      exact ok_mono h9 (fun a N' h => ⟨h.1, F3_tr h7.2.1 h.2⟩)
theorem ok_Plugs_addAll {o cap o1 cap1 : Nat} {N : nS} {l l1 : Rw} (hd : o1 + 2 < o ∨ o + 2 < o1) (hc : cap ≤ 150) (hc1 : cap1 ≤ 150) (hr : RP N o cap l) (hr1 : RP N o1 cap1 l1) (hw : wl l) (hw1 : wl l1) (hl : l.length + l1.length ≤ cap) (ht : tv l + tv l1 ≤ 100000) : Ok (m_Plugs_addAll o cap o1 cap1 N) (fun _ N' => RP N' o cap (adds l l1) ∧ F3 o N N') := by
  rw [m_Plugs_addAll]
  have h1 := hr1.2.1
  refine ok_nbd (ok_Plugs_addAll_2 hd (by omega) (by omega) FU 0 N l l1 (by show l1.length < 200 + 0; omega) (Nat.zero_le _) hr hr1 hw hw1 (by omega) ht) (fun q N' h => ?_)
  exact ok_ret h
/-- volume times warmth, summed -/
def vw (l : Rw) : Int := l.foldr (fun p a => p.1 * p.2 + a) 0
theorem vw_app (l m : Rw) : vw (l ++ m) = vw l + vw m := by
  induction l with
  | nil => simp [vw]
  | cons p l ih =>
    show p.1 * p.2 + vw (l ++ m) = p.1 * p.2 + vw l + vw m
    rw [ih]; omega
theorem ok_Plugs_vtw_4 {o cap : Nat} (hc : cap ≤ 1000) : ∀ (f i : Nat) (N : nS) (l : Rw) (a : Int), l.length < f + i → i ≤ l.length → RP N o cap l → wl l → tv l ≤ 100000 → Ok (m_Plugs_volumeTimesWarmth_4 o cap f a (i : Int) N) (fun q N' => q.1 = a + vw (l.drop i) ∧ N' = N) := by
  intro f
  induction f with
  | zero => intro i N l a h1 h2; exact absurd h1 (by omega)
  | succ f ih =>
    intro i N l a h1 h2 hr hw ht
    rw [m_Plugs_volumeTimesWarmth_4]
    have hcnt := hr.1
    have hl1 := hr.2.1
    refine ok_ck (by rw [hcnt]; exact ⟨by omega, by omega⟩) ?_
    rw [hcnt]
    refine ok_if (fun c => ?_) (fun c => ?_)
    · have e : i = l.length := by omega
      subst e
      rw [List.drop_length]
      exact ok_ret ⟨by show a = a + 0; omega, rfl⟩
    · have hi : i < l.length := by omega
      have hg := hr.2.2 i hi
      rw [Nat.zero_add] at hg
      have hm := hw _ (gv_mem hi)
      have hm2 := tv_le hw _ (gv_mem hi)
      rw [Int.toNat_natCast, hg.1, hg.2]
      refine ok_ck ⟨by omega, by omega⟩ ?_
      refine ok_ck ⟨by omega, by omega⟩ ?_
      refine ok_ck ⟨by omega, by omega⟩ ?_
      refine ok_ck ⟨by omega, by omega⟩ ?_
      have h9 := ih (i + 1) N l (a + (gv l i).1 * (gv l i).2) (by omega) (by omega) hr hw ht
      refine ok_mono h9 (fun q N' h => ⟨?_, h.2⟩)
      rw [h.1, drop_gv hi]
      show _ = a + ((gv l i).1 * (gv l i).2 + vw (l.drop (i + 1)))
      omega
theorem ok_Plugs_vtw {o cap : Nat} {N : nS} {l : Rw} (hc : cap ≤ 150) (hr : RP N o cap l) (hw : wl l) (ht : tv l ≤ 100000) : Ok (m_Plugs_volumeTimesWarmth o cap N) (fun r N' => r = vw l ∧ N' = N) := by
  rw [m_Plugs_volumeTimesWarmth]
  have h1 := hr.2.1
  refine ok_nbd (ok_Plugs_vtw_4 (by omega) FU 0 N l 0 (by show l.length < 200 + 0; omega) (Nat.zero_le _) hr hw ht) (fun q N' h => ?_)
  exact ok_ret ⟨by rw [h.1]; show 0 + vw l = vw l; omega, h.2⟩
def mnL (a : Int) (l : Rw) : Int := l.foldl (fun a p => if p.2 < a then p.2 else a) a
def mxL (a : Int) (l : Rw) : Int := l.foldl (fun a p => if a < p.2 then p.2 else a) a
theorem ok_Plugs_least_6 {o cap : Nat} (hc : cap ≤ 1000) : ∀ (f i : Nat) (N : nS) (l : Rw) (a : Int), l.length < f + i → i ≤ l.length → RP N o cap l → wl l → rg a → Ok (m_Plugs_least_6 o cap f a (i : Int) N) (fun q N' => q.1 = mnL a (l.drop i) ∧ N' = N) := by
  intro f
  induction f with
  | zero => intro i N l a h1 h2; exact absurd h1 (by omega)
  | succ f ih =>
    intro i N l a h1 h2 hr hw ha
    rw [m_Plugs_least_6]
    have hcnt := hr.1
    have hl1 := hr.2.1
    refine ok_ck (by rw [hcnt]; exact ⟨by omega, by omega⟩) ?_
    rw [hcnt]
    refine ok_if (fun c => ?_) (fun c => ?_)
    · have e : i = l.length := by omega
      subst e
      rw [List.drop_length]
      exact ok_ret ⟨rfl, rfl⟩
    · have hi : i < l.length := by omega
      have hg := hr.2.2 i hi
      rw [Nat.zero_add] at hg
      have hm := hw _ (gv_mem hi)
      rw [Int.toNat_natCast, hg.2]
      refine ok_ck ⟨by omega, by omega⟩ ?_
      refine ok_ck ⟨by omega, by omega⟩ ?_
      refine ok_ck ⟨by omega, by omega⟩ ?_
      have h9 := ih (i + 1) N l (if (gv l i).2 < a then (gv l i).2 else a) (by omega) (by omega) hr hw (rg_min ha ⟨by omega, by omega⟩)
      refine ok_mono h9 (fun q N' h => ⟨?_, h.2⟩)
      rw [h.1, drop_gv hi]
      rfl
theorem ok_Plugs_least {o cap : Nat} {N : nS} {l : Rw} (hc : cap ≤ 150) (hr : RP N o cap l) (hw : wl l) : Ok (m_Plugs_least o cap N) (fun r N' => r = mnL 10000 l ∧ N' = N) := by
  rw [m_Plugs_least]
  have h1 := hr.2.1
  refine ok_nbd (ok_Plugs_least_6 (by omega) FU 0 N l 10000 (by show l.length < 200 + 0; omega) (Nat.zero_le _) hr hw ⟨by omega, by omega⟩) (fun q N' h => ?_)
  exact ok_ret ⟨h.1, h.2⟩
theorem ok_Plugs_greatest_4 {o cap : Nat} (hc : cap ≤ 1000) : ∀ (f i : Nat) (N : nS) (l : Rw) (a : Int), l.length < f + i → i ≤ l.length → RP N o cap l → wl l → rg a → Ok (m_Plugs_greatest_4 o cap f a (i : Int) N) (fun q N' => q.1 = mxL a (l.drop i) ∧ N' = N) := by
  intro f
  induction f with
  | zero => intro i N l a h1 h2; exact absurd h1 (by omega)
  | succ f ih =>
    intro i N l a h1 h2 hr hw ha
    rw [m_Plugs_greatest_4]
    have hcnt := hr.1
    have hl1 := hr.2.1
    refine ok_ck (by rw [hcnt]; exact ⟨by omega, by omega⟩) ?_
    rw [hcnt]
    refine ok_if (fun c => ?_) (fun c => ?_)
    · have e : i = l.length := by omega
      subst e
      rw [List.drop_length]
      exact ok_ret ⟨rfl, rfl⟩
    · have hi : i < l.length := by omega
      have hg := hr.2.2 i hi
      rw [Nat.zero_add] at hg
      have hm := hw _ (gv_mem hi)
      rw [Int.toNat_natCast, hg.2]
      refine ok_ck ⟨by omega, by omega⟩ ?_
      refine ok_ck ⟨by omega, by omega⟩ ?_
      refine ok_ck ⟨by omega, by omega⟩ ?_
      have h9 := ih (i + 1) N l (if a < (gv l i).2 then (gv l i).2 else a) (by omega) (by omega) hr hw (rg_max ha ⟨by omega, by omega⟩)
      refine ok_mono h9 (fun q N' h => ⟨?_, h.2⟩)
      rw [h.1, drop_gv hi]
      rfl
theorem ok_Plugs_greatest {o cap : Nat} {N : nS} {l : Rw} (hc : cap ≤ 150) (hr : RP N o cap l) (hw : wl l) : Ok (m_Plugs_greatest o cap N) (fun r N' => r = mxL 0 l ∧ N' = N) := by
  rw [m_Plugs_greatest]
  have h1 := hr.2.1
  refine ok_nbd (ok_Plugs_greatest_4 (by omega) FU 0 N l 0 (by show l.length < 200 + 0; omega) (Nat.zero_le _) hr hw ⟨by omega, by omega⟩) (fun q N' h => ?_)
  exact ok_ret ⟨h.1, h.2⟩
