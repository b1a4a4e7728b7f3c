/-! ===== Plugs: cool ===== -/
def clp (air d : Int) (p : Int × Int) : Int × Int := (p.1, p.2 - Int.tdiv (p.2 - air) d)
def cll (air d : Int) (l : Rw) : Int := l.foldr (fun p a => p.1 * Int.tdiv (p.2 - air) d + a) 0
theorem tdiv_rg {x d : Int} (hd : 1 ≤ d) (h : -10000 ≤ x ∧ x ≤ 10000) : (0 ≤ x → 0 ≤ Int.tdiv x d ∧ Int.tdiv x d ≤ x) ∧ (x ≤ 0 → x ≤ Int.tdiv x d ∧ Int.tdiv x d ≤ 0) := by
  constructor
  · intro hx
    rw [Int.tdiv_eq_ediv_of_nonneg hx]
    exact ⟨Int.ediv_nonneg hx (by omega), Int.ediv_le_self d hx⟩
  · intro hx
    have e : Int.tdiv x d = -(Int.tdiv (-x) d) := by rw [Int.neg_tdiv, Int.neg_neg]
    rw [e, Int.tdiv_eq_ediv_of_nonneg (by omega)]
    have h1 := Int.ediv_nonneg (show 0 ≤ -x by omega) (show 0 ≤ d by omega)
    have h2 := Int.ediv_le_self d (show 0 ≤ -x by omega)
    omega
theorem clp_rg {air d : Int} {p : Int × Int} (hd : 1 ≤ d) (ha : 0 ≤ air ∧ air ≤ 10000) (hp : 0 ≤ p.2 ∧ p.2 ≤ 10000) : 0 ≤ (clp air d p).2 ∧ (clp air d p).2 ≤ 10000 ∧ -10000 ≤ Int.tdiv (p.2 - air) d ∧ Int.tdiv (p.2 - air) d ≤ 10000 := by
  have h := tdiv_rg (x := p.2 - air) hd ⟨by omega, by omega⟩
  have e : (clp air d p).2 = p.2 - Int.tdiv (p.2 - air) d := rfl
  rw [e]
  by_cases q : 0 ≤ p.2 - air
  · have := h.1 q
    exact ⟨by omega, by omega, by omega, by omega⟩
  · have := h.2 (by omega)
    exact ⟨by omega, by omega, by omega, by omega⟩
theorem ok_Plugs_cool_22 {o cap : Nat} {x2 air d : Int} (hc : cap ≤ 1000) (hd : 1 ≤ d ∧ d ≤ 100000) (ha : 0 ≤ air ∧ air ≤ 10000) : ∀ (f i : Nat) (N : nS) (l acc : Rw) (a : Int), l.length < f + i → i ≤ l.length → l.length ≤ cap → acc.length ≤ i → RP N o cap acc → (∀ j, i ≤ j → j < l.length → N (o + 1) j = (gv l j).1 ∧ N (o + 2) j = (gv l j).2) → wl l → wl acc → tv acc + tv (l.drop i) ≤ 100000 → Ok (m_Plugs_cool_22 o cap air x2 d (l.length : Int) f a (i : Int) N) (fun q N' => q.1 = a + cll air d (l.drop i) ∧ RP N' o cap (adds acc ((l.drop i).map (clp air d))) ∧ F3 o N N') := by
  intro f
  induction f with
  | zero => intro i N l acc a h1 h2; exact absurd h1 (by omega)
  | succ f ih =>
    intro i N l acc a h1 h2 hlc hac hr hv hw hwa ht
    rw [m_Plugs_cool_22]
    refine ok_if (fun c => ?_) (fun c => ?_)
    · have e : i = l.length := by omega
      subst e
      rw [List.drop_length]
      exact ok_ret ⟨by show a = a + 0; omega, hr, F3_rf⟩
    · have hi : i < l.length := by omega
      have hg := hv i (Nat.le_refl _) hi
      have hm := hw _ (gv_mem hi)
      have n1 := tv_nn hwa
      have n3 := tv_nn (l := l.drop (i + 1)) (fun p hp => hw p (List.mem_of_mem_drop hp))
      rw [drop_gv hi] at ht
      have ht3 : tv acc + ((gv l i).1 + tv (l.drop (i + 1))) ≤ 100000 := ht
      rw [Int.toNat_natCast, hg.1, hg.2]
      have hk := clp_rg (p := gv l i) hd.1 ha hm.2
      have hk2 : (clp air d (gv l i)).2 = (gv l i).2 - Int.tdiv ((gv l i).2 - air) d := rfl
      refine ok_ck ⟨by omega, by omega⟩ ?_
      refine ok_ck ⟨by omega, by omega⟩ ?_
      refine ok_ck (by omega) ?_
      refine ok_ck ⟨by omega, by omega⟩ ?_
      refine ok_ck ⟨by omega, by omega⟩ ?_
      refine ok_ck ⟨by omega, by omega⟩ ?_
      have b2 := addL_len acc (gv l i).1 ((gv l i).2 - Int.tdiv ((gv l i).2 - air) d)
      refine ok_nbd (ok_Plugs_add hr (bd_of hwa (by omega)) hc (by omega)) (fun r N12 h12 => ?_)
      refine ok_ck ⟨by omega, by omega⟩ ?_
      have t1 := tv_addL acc (gv l i).1 ((gv l i).2 - Int.tdiv ((gv l i).2 - air) d) (by omega)
      have h9 := ih (i + 1) N12 l (addL acc (gv l i).1 ((gv l i).2 - Int.tdiv ((gv l i).2 - air) d)) (a + (gv l i).1 * Int.tdiv ((gv l i).2 - air) d) (by omega) (by omega) hlc (by omega) h12.1 (fun j j1 j2 => by
        have q1 := h12.2.2 j (by omega)
        rw [q1.1, q1.2]
        exact hv j (by omega) j2) hw (wl_addL hwa ⟨by omega, by omega⟩) (by omega)
      refine ok_mono h9 (fun q N' h => ⟨?_, ?_, F3_tr h12.2.1 h.2.2⟩)
      · rw [h.1, drop_gv hi]
        show _ = a + ((gv l i).1 * Int.tdiv ((gv l i).2 - air) d + cll air d (l.drop (i + 1)))
        omega
      · rw [drop_gv hi]
        exact h.2.1
theorem ok_Plugs_cool {o cap : Nat} {N : nS} {l : Rw} {air d : Int} (hc : cap ≤ 150) (hd : 1 ≤ d ∧ d ≤ 100000) (ha : 0 ≤ air ∧ air ≤ 10000) (hr : RP N o cap l) (hw : wl l) (ht : tv l ≤ 100000) : Ok (m_Plugs_cool o cap air d N) (fun r N' => r = cll air d l ∧ RP N' o cap (adds [] (l.map (clp air d))) ∧ F3 o N N') := by
  rw [m_Plugs_cool]
  have hl := hr.2.1
  refine ok_nbd ok_Plugs_clear (fun r1 N2 h2 => ?_)
  refine ok_ck (by rw [hr.1]; exact ⟨by omega, by omega⟩) ?_
  rw [hr.1]
  have e : (if 1 < d then d else 1) = d := by split <;> omega
  rw [e]
  refine ok_nbd (ok_Plugs_cool_22 (by omega) hd ha FU 0 N2 l [] 0 (by show l.length < 200 + 0; omega) (Nat.zero_le _) hl (Nat.le_refl _) h2.1 (fun j _ hj => by
    rw [h2.2.2.1, h2.2.2.2]
    have := hr.2.2 j hj
    rw [Nat.zero_add] at this
    exact this) hw wl_nil (by show 0 + tv l ≤ 100000; omega)) (fun q N' h => ?_)
  exact ok_ret ⟨by rw [h.1]; show 0 + cll air d l = cll air d l; omega, h.2.1, F3_tr h2.2.1 h.2.2⟩
/-! ===== rows without like neighbours ===== -/
def nmr : Rw → Prop
  | [] => True
  | [_] => True
  | p :: q :: l => p.2 ≠ q.2 ∧ nmr (q :: l)
theorem nmr_tail {p : Int × Int} {l : Rw} (h : nmr (p :: l)) : nmr l := by
  cases l with
  | nil => trivial
  | cons q l => exact h.2
theorem nmr_snoc : ∀ (m : Rw) (p q : Int × Int), nmr (m ++ [p]) → p.2 ≠ q.2 → nmr (m ++ [p] ++ [q])
  | [], p, q, _, h => ⟨h, trivial⟩
  | [a], p, q, h, hq => ⟨h.1, hq, trivial⟩
  | a :: b :: m, p, q, h, hq => ⟨h.1, nmr_snoc (b :: m) p q h.2 hq⟩
theorem nmr_last : ∀ (m : Rw) (p q : Int × Int), nmr (m ++ [p]) → p.2 = q.2 → nmr (m ++ [q])
  | [], p, q, _, _ => trivial
  | [a], p, q, h, hq => ⟨by rw [← hq]; exact h.1, trivial⟩
  | a :: b :: m, p, q, h, hq => ⟨h.1, nmr_last (b :: m) p q h.2 hq⟩
theorem nmr_addL {l : Rw} {v w : Int} (h : nmr l) : nmr (addL l v w) := by
  by_cases h0 : v ≤ 0
  · rw [addL_0 l v w h0]; exact h
  · rcases snoc_or l with rfl | ⟨m, p, rfl⟩
    · rw [addL_nil v w (by omega)]; trivial
    · rw [addL_snoc m p v w (by omega)]
      split
      · rename_i c
        exact nmr_last m p _ h c
      · rename_i c
        exact nmr_snoc m p _ h c
theorem nmr_adds (m : Rw) : ∀ l, nmr l → nmr (adds l m) := by
  induction m with
  | nil => intro l h; exact h
  | cons p m ih => intro l h; exact ih _ (nmr_addL h)
theorem nmr_spl : ∀ (l F B : Rw) (op : Int), nmr F → nmr B → nmr (spl F B op l).1 ∧ nmr (spl F B op l).2 := by
  intro l
  induction l with
  | nil => intro F B op h k; exact ⟨h, k⟩
  | cons p l ih => intro F B op h k; exact ih _ _ _ (nmr_addL h) (nmr_addL k)
/-- a row without like neighbours is known by its measures -/
theorem ex_cons (p : Int × Int) (l : Rw) : ex (p :: l) = List.replicate p.1.toNat p.2 ++ ex l := rfl
theorem ex_head {l : Rw} (h : wl l) : ex l = [] → l = [] := by
  intro e
  cases l with
  | nil => rfl
  | cons p l =>
    have := (wl_cons h).1.1
    rw [ex_cons, show p.1.toNat = (p.1.toNat - 1) + 1 by omega, List.replicate_succ] at e
    cases e
theorem ex_inj : ∀ (l m : Rw), wl l → wl m → nmr l → nmr m → ex l = ex m → l = m := by
  have key : ∀ (a b : Nat) (w : Int) (x y : List Int), (∀ z, x.head? = some z → z ≠ w) → (∀ z, y.head? = some z → z ≠ w) → List.replicate a w ++ x = List.replicate b w ++ y → a = b ∧ x = y := by
    intro a
    induction a with
    | zero =>
      intro b w x y hx hy e
      cases b with
      | zero => exact ⟨rfl, by simpa using e⟩
      | succ b =>
        exfalso
        have e2 : x = w :: (List.replicate b w ++ y) := by simpa [List.replicate_succ] using e
        exact hx w (by rw [e2]; rfl) rfl
    | succ a ih =>
      intro b w x y hx hy e
      cases b with
      | zero =>
        exfalso
        have e2 : y = w :: (List.replicate a w ++ x) := by
          have := e.symm
          simpa [List.replicate_succ] using this
        exact hy w (by rw [e2]; rfl) rfl
      | succ b =>
        rw [List.replicate_succ, List.replicate_succ, List.cons_append, List.cons_append] at e
        obtain ⟨h1, h2⟩ := ih b w x y hx hy (List.cons.inj e).2
        exact ⟨by omega, h2⟩
  have hd : ∀ (p : Int × Int) (l : Rw), wl l → nmr (p :: l) → ∀ z, (ex l).head? = some z → z ≠ p.2 := by
    intro p l h k z hz
    cases l with
    | nil => cases hz
    | cons q l =>
      have h1 := (wl_cons h).1.1
      rw [ex_cons, show q.1.toNat = (q.1.toNat - 1) + 1 by omega, List.replicate_succ] at hz
      have e : q.2 = z := Option.some.inj hz
      rw [← e]
      exact fun e2 => k.1 e2.symm
  intro l
  induction l with
  | nil =>
    intro m _ hm _ _ e
    exact (ex_head hm e.symm).symm
  | cons p l ih =>
    intro m hl hm kl km e
    cases m with
    | nil => exact ex_head hl e
    | cons q m =>
      have p1 := (wl_cons hl).1.1
      have q1 := (wl_cons hm).1.1
      have hw : p.2 = q.2 := by
        have e2 := e
        rw [ex_cons, ex_cons, show p.1.toNat = (p.1.toNat - 1) + 1 by omega, show q.1.toNat = (q.1.toNat - 1) + 1 by omega, List.replicate_succ, List.replicate_succ] at e2
        exact (List.cons.inj e2).1
      rw [ex_cons, ex_cons, ← hw] at e
      obtain ⟨a1, a2⟩ := key _ _ _ _ _ (hd p l (wl_cons hl).2 kl) (by rw [hw]; exact hd q m (wl_cons hm).2 km) e
      have hv : p.1 = q.1 := by omega
      have hpq : p = q := Prod.ext hv hw
      rw [hpq, ih m (wl_cons hl).2 (wl_cons hm).2 (nmr_tail kl) (nmr_tail km) a2]
/-- a row without like neighbours is put together as it is -/
theorem adds_self {l : Rw} (h : wl l) (k : nmr l) : adds [] l = l := by
  obtain ⟨a, b, c⟩ := adds_ok l [] wl_nil h
  exact ex_inj _ _ a h (nmr_adds l [] trivial) k (by rw [c]; rfl)
