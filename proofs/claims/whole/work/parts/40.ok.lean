/-! ===== the models: what they answer ===== -/
def Ok {α : Type} (o : Option (α × nS)) (P : α → nS → Prop) : Prop := ∃ a N', o = some (a, N') ∧ P a N'
theorem ok_ret {α : Type} {a : α} {N : nS} {P : α → nS → Prop} (h : P a N) : Ok (some (a, N)) P := ⟨a, N, rfl, h⟩
theorem ok_ck {α : Type} {c : Prop} {i : Decidable c} {f : Option (α × nS)} {P : α → nS → Prop} (hc : c) (h : Ok f P) : Ok (@ite _ c i f none) P := by
  rw [if_pos hc]; exact h
theorem ok_t {α : Type} {c : Prop} {i : Decidable c} {f g : Option (α × nS)} {P : α → nS → Prop} (hc : c) (h : Ok f P) : Ok (@ite _ c i f g) P := by
  rw [if_pos hc]; exact h
theorem ok_f {α : Type} {c : Prop} {i : Decidable c} {f g : Option (α × nS)} {P : α → nS → Prop} (hc : ¬ c) (h : Ok g P) : Ok (@ite _ c i f g) P := by
  rw [if_neg hc]; exact h
theorem ok_if {α : Type} {c : Prop} {i : Decidable c} {f g : Option (α × nS)} {P : α → nS → Prop} (h : c → Ok f P) (k : ¬ c → Ok g P) : Ok (@ite _ c i f g) P := by
  by_cases q : c
  · rw [if_pos q]; exact h q
  · rw [if_neg q]; exact k q
theorem ok_nlt {α β : Type} {x : β} {f : β → Option (α × nS)} {P : α → nS → Prop} (h : ∀ y, y = x → Ok (f y) P) : Ok (nlt x f) P := h x rfl
theorem ok_nbd {α β : Type} {o : Option (β × nS)} {f : β → nS → Option (α × nS)} {R : β → nS → Prop} {P : α → nS → Prop} (h : Ok o R) (k : ∀ a N', R a N' → Ok (f a N') P) : Ok (nbd o f) P := by
  obtain ⟨a, N', rfl, hr⟩ := h
  exact k a N' hr
theorem ok_mono {α : Type} {o : Option (α × nS)} {R P : α → nS → Prop} (h : Ok o R) (k : ∀ a N', R a N' → P a N') : Ok o P := by
  obtain ⟨a, N', h1, h2⟩ := h
  exact ⟨a, N', h1, k a N' h2⟩
theorem up2_at {N N1 : nS} {k j : Nat} {x : Int} (h : N1 = up2 N k j x) : N1 k = va_up (N k) j x := by
  rw [h]
  simp [up2, va_up]
/-! rows of plugs -/
abbrev Rw : Type := List (Int × Int)
def gv (l : Rw) (i : Nat) : Int × Int := l.getD i (0, 0)
def Ls (fv fw : Nat → Int) (b : Nat) (l : Rw) : Prop := ∀ i, i < l.length → fv (b + i) = (gv l i).1 ∧ fw (b + i) = (gv l i).2
theorem gv_app_l {l m : Rw} {i : Nat} (h : i < l.length) : gv (l ++ m) i = gv l i := by
  simp [gv, List.getD_eq_getElem?_getD, List.getElem?_append_left h]
theorem gv_app_r {l m : Rw} {i : Nat} (h : l.length ≤ i) : gv (l ++ m) i = gv m (i - l.length) := by
  simp [gv, List.getD_eq_getElem?_getD, List.getElem?_append_right h]
theorem gv_set_eq {l : Rw} {i : Nat} {p : Int × Int} (h : i < l.length) : gv (l.set i p) i = p := by
  simp [gv, List.getD_eq_getElem?_getD, List.getElem?_set_self h]
theorem gv_set_ne {l : Rw} {i j : Nat} {p : Int × Int} (h : i ≠ j) : gv (l.set i p) j = gv l j := by
  simp [gv, List.getD_eq_getElem?_getD, List.getElem?_set_ne h]
theorem gv_mem {l : Rw} {i : Nat} (h : i < l.length) : gv l i ∈ l := by
  simp [gv, List.getD_eq_getElem?_getD, List.getElem?_eq_getElem h]
theorem gv_drop {l : Rw} {i j : Nat} : gv (l.drop i) j = gv l (i + j) := by
  simp [gv, List.getD_eq_getElem?_getD, List.getElem?_drop]
theorem drop_gv {l : Rw} {i : Nat} (h : i < l.length) : l.drop i = gv l i :: l.drop (i + 1) := by
  rw [List.drop_eq_getElem_cons h]
  congr 1
  simp [gv, List.getD_eq_getElem?_getD, List.getElem?_eq_getElem h]
theorem Ls_cg {fv fw gv' gw : Nat → Int} {b : Nat} {l : Rw} (h : Ls fv fw b l) (k : ∀ i, i < l.length → gv' (b + i) = fv (b + i) ∧ gw (b + i) = fw (b + i)) : Ls gv' gw b l := fun i hi => by
  rw [(k i hi).1, (k i hi).2]
  exact h i hi
theorem Ls_snoc {fv fw : Nat → Int} {b : Nat} {l : Rw} {v w : Int} (h : Ls fv fw b l) : Ls (va_up fv (b + l.length) v) (va_up fw (b + l.length) w) b (l ++ [(v, w)]) := by
  intro i hi
  rw [List.length_append, List.length_singleton] at hi
  by_cases q : i < l.length
  · rw [gv_app_l q, va_up_ne _ _ (by omega), va_up_ne _ _ (by omega)]
    exact h i q
  · have e : i = l.length := by omega
    subst e
    rw [gv_app_r (Nat.le_refl _), va_up_self, va_up_self, Nat.sub_self]
    exact ⟨rfl, rfl⟩
theorem Ls_set {fv fw : Nat → Int} {b j : Nat} {l : Rw} {v w : Int} (h : Ls fv fw b l) : Ls (va_up fv (b + j) v) (va_up fw (b + j) w) b (l.set j (v, w)) := by
  intro i hi
  rw [List.length_set] at hi
  by_cases q : i = j
  · subst q
    rw [gv_set_eq hi, va_up_self, va_up_self]
    exact ⟨rfl, rfl⟩
  · rw [gv_set_ne (fun e => q e.symm), va_up_ne _ _ (by omega), va_up_ne _ _ (by omega)]
    exact h i hi
theorem Ls_nil {fv fw : Nat → Int} {b : Nat} : Ls fv fw b [] := fun i hi => absurd hi (Nat.not_lt_zero i)
def addL (l : Rw) (v w : Int) : Rw := if v ≤ 0 then l else if 0 < l.length ∧ (gv l (l.length - 1)).2 = w then l.set (l.length - 1) ((gv l (l.length - 1)).1 + v, w) else l ++ [(v, w)]
def adds (l m : Rw) : Rw := m.foldl (fun a p => addL a p.1 p.2) l
theorem addL_len (l : Rw) (v w : Int) : (addL l v w).length ≤ l.length + 1 ∧ l.length ≤ (addL l v w).length := by
  unfold addL
  split
  · omega
  · split
    · rw [List.length_set]; omega
    · rw [List.length_append]; simp
theorem adds_len (m : Rw) : ∀ l : Rw, (adds l m).length ≤ l.length + m.length ∧ l.length ≤ (adds l m).length := by
  induction m with
  | nil => intro l; exact ⟨by simp [adds], Nat.le_refl _⟩
  | cons p m ih =>
    intro l
    have h1 := addL_len l p.1 p.2
    have h2 := ih (addL l p.1 p.2)
    show (adds (addL l p.1 p.2) m).length ≤ _ ∧ _ ≤ (adds (addL l p.1 p.2) m).length
    rw [List.length_cons]
    omega
/-- all plugs within bounds -/
def bd (l : Rw) : Prop := ∀ p ∈ l, 0 < p.1 ∧ p.1 ≤ 100000 ∧ 0 ≤ p.2 ∧ p.2 ≤ 10000
/-! ===== a row of the landed class ===== -/
def RP (N : nS) (o cap : Nat) (l : Rw) : Prop := N o 2 = (l.length : Int) ∧ l.length ≤ cap ∧ Ls (N (o + 1)) (N (o + 2)) 0 l
def F3 (o : Nat) (N N' : nS) : Prop := ∀ k, k ≠ o → k ≠ o + 1 → k ≠ o + 2 → N' k = N k
theorem F3_rf {o : Nat} {N : nS} : F3 o N N := fun _ _ _ _ => rfl
theorem F3_tr {o : Nat} {N N1 N2 : nS} (h : F3 o N N1) (k : F3 o N1 N2) : F3 o N N2 := fun i a b c => (k i a b c).trans (h i a b c)
theorem RP_F3 {N N' : nS} {o o1 cap : Nat} {l : Rw} (h : RP N o cap l) (k : F3 o1 N N') (hd : o1 + 2 < o ∨ o + 2 < o1) : RP N' o cap l := by
  obtain ⟨a, b, c⟩ := h
  refine ⟨by rw [k o (by omega) (by omega) (by omega)]; exact a, b, ?_⟩
  rw [k (o + 1) (by omega) (by omega) (by omega), k (o + 2) (by omega) (by omega) (by omega)]
  exact c
theorem ok_Plugs_add {N : nS} {o cap : Nat} {l : Rw} {v w : Int} (h : RP N o cap l) (hb : bd l) (hc : cap ≤ 1000) (hl : (addL l v w).length ≤ cap) : Ok (m_Plugs_add o cap v w N) (fun _ N' => RP N' o cap (addL l v w) ∧ F3 o N N' ∧ ∀ j, l.length < j → N' (o + 1) j = N (o + 1) j ∧ N' (o + 2) j = N (o + 2) j) := by
  obtain ⟨h1, h2, h3⟩ := h
  rw [m_Plugs_add]
  have hr : rg (N o 2) := by rw [h1]; exact ⟨by omega, by omega⟩
  have fin : ¬ (0 < l.length ∧ (gv l (l.length - 1)).2 = w) → 1 ≤ v → Ok (if ((cap : Nat) : Int) ≤ (N o 2) then some (0, N) else if 0 ≤ (N o 2) ∧ (N o 2) < ((cap : Nat) : Int) then nlt (up2 N (o + 1) (Int.toNat (N o 2)) v) (fun N6 => if 0 ≤ (N6 o 2) ∧ (N6 o 2) < ((cap : Nat) : Int) then nlt (up2 N6 (o + 2) (Int.toNat (N6 o 2)) w) (fun N9 => nlt (up2 N9 o 2 ((N9 o 2) + 1)) (fun N11 => some ((0 : Int), N11))) else none) else none) (fun _ N' => RP N' o cap (addL l v w) ∧ F3 o N N' ∧ ∀ j, l.length < j → N' (o + 1) j = N (o + 1) j ∧ N' (o + 2) j = N (o + 2) j) := by
    intro hn hv
    have ea : addL l v w = l ++ [(v, w)] := by
      unfold addL
      rw [if_neg (by omega), if_neg hn]
    rw [ea, List.length_append, List.length_singleton] at hl
    rw [ea]
    refine ok_f (by rw [h1]; omega) ?_
    refine ok_ck ⟨by rw [h1]; omega, by rw [h1]; omega⟩ ?_
    refine ok_nlt (fun N6 e6 => ?_)
    have n6 : N6 o = N o := up2_n e6 (by omega)
    refine ok_ck ⟨by rw [n6, h1]; omega, by rw [n6, h1]; omega⟩ ?_
    refine ok_nlt (fun N9 e9 => ?_)
    have n9 : N9 o = N o := (up2_n e9 (by omega)).trans n6
    refine ok_nlt (fun N11 e11 => ?_)
    have a1 : N11 (o + 1) = va_up (N (o + 1)) (0 + l.length) v := by
      rw [up2_n e11 (by omega), up2_n e9 (by omega), up2_at e6, h1]
      congr 1
      omega
    have a2 : N11 (o + 2) = va_up (N (o + 2)) (0 + l.length) w := by
      rw [up2_n e11 (by omega), up2_at e9, up2_n e6 (by omega), n6, h1]
      congr 1
      omega
    refine ok_ret ⟨⟨?_, by rw [List.length_append, List.length_singleton]; exact hl, ?_⟩, ?_, fun j hj => ?_⟩
    rotate_left
    rotate_left
    rotate_left
    · rw [a1, a2, va_up_ne _ _ (by omega), va_up_ne _ _ (by omega)]
      exact ⟨rfl, rfl⟩
    · rw [up2_v e11, n9, h1, List.length_append, List.length_singleton]; omega
    · have a1 : N11 (o + 1) = va_up (N (o + 1)) (0 + l.length) v := by
        rw [up2_n e11 (by omega), up2_n e9 (by omega), up2_at e6, h1]
        congr 1
        omega
      have a2 : N11 (o + 2) = va_up (N (o + 2)) (0 + l.length) w := by
        rw [up2_n e11 (by omega), up2_at e9, up2_n e6 (by omega), n6, h1]
        congr 1
        omega
      rw [a1, a2]
      exact Ls_snoc h3
    · intro k k0 k1 k2
      rw [up2_n e11 k0, up2_n e9 k2, up2_n e6 k1]
  refine ok_if (fun hv => ?_) (fun hv => ?_)
  · refine ok_ck hr ?_
    refine ok_if (fun c1 => ?_) (fun c1 => ?_)
    · exact fin (fun q => by rw [h1] at c1; omega) hv
    · rw [h1] at c1
      have hl0 : 0 < l.length := by omega
      have ei : Int.toNat (N o 2 - 1) = l.length - 1 := by rw [h1]; omega
      have hg := h3 (l.length - 1) (by omega)
      rw [Nat.zero_add] at hg
      have hm := hb _ (gv_mem (show l.length - 1 < l.length by omega))
      refine ok_ck ⟨by rw [h1]; omega, by rw [h1]; omega⟩ ?_
      rw [ei, hg.2]
      refine ok_ck ⟨by omega, by omega⟩ ?_
      refine ok_if (fun c2 => ?_) (fun c2 => ?_)
      · refine ok_nlt (fun N25 e25 => ?_)
        have ea : addL l v w = l.set (l.length - 1) ((gv l (l.length - 1)).1 + v, w) := by
          unfold addL
          rw [if_neg (by omega), if_pos ⟨hl0, c2⟩]
        rw [ea]
        refine ok_ret ⟨⟨?_, by rw [List.length_set]; exact h2, ?_⟩, ?_, fun j hj => ⟨by rw [up2_at e25, va_up_ne _ _ (by omega)], by rw [up2_n e25 (by omega)]⟩⟩
        · rw [up2_n e25 (by omega), List.length_set]; exact h1
        · have hs := Ls_set (j := l.length - 1) (v := (gv l (l.length - 1)).1 + v) (w := w) h3
          rw [Nat.zero_add] at hs
          refine Ls_cg hs (fun i hi => ⟨?_, ?_⟩)
          · rw [up2_at e25, hg.1]
          · rw [up2_n e25 (by omega)]
            by_cases q : 0 + i = l.length - 1
            · rw [q, va_up_self, hg.2, c2]
            · rw [va_up_ne _ _ q]
        · intro k k0 k1 k2
          rw [up2_n e25 k1]
      · exact fin (fun q => c2 q.2) hv
  · have ea : addL l v w = l := by
      unfold addL
      rw [if_pos (by omega)]
    rw [ea]
    exact ok_ret ⟨⟨h1, h2, h3⟩, F3_rf, fun _ _ => ⟨rfl, rfl⟩⟩
