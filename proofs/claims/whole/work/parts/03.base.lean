/-! ===== numbers: ints and longs of the machine as integers ===== -/
def iI (z : Int) : Int32 := Int32.ofInt z
def lI (z : Int) : Int64 := Int64.ofInt z
abbrev rg (z : Int) : Prop := -2147483648 ≤ z ∧ z < 2147483648
abbrev rl (z : Int) : Prop := -9223372036854775808 ≤ z ∧ z < 9223372036854775808
theorem iI_t {z : Int} (h : rg z) : (iI z).toInt = z := Int32.toInt_ofInt_of_le (by have := h.1; omega) (by have := h.2; omega)
theorem lI_t {z : Int} (h : rl z) : (lI z).toInt = z := Int64.toInt_ofInt_of_le (by have := h.1; omega) (by have := h.2; omega)
theorem iI_of (x : Int32) : iI x.toInt = x := Int32.ofInt_toInt x
theorem rg_of (x : Int32) : rg x.toInt := ⟨by have := x.le_toInt; omega, by have := x.toInt_lt; omega⟩
theorem iI_add (a b : Int) : iI a + iI b = iI (a + b) := (Int32.ofInt_add a b).symm
theorem iI_sub (a b : Int) : iI a - iI b = iI (a - b) := (Int32.ofInt_sub a b).symm
theorem iI_mul (a b : Int) : iI a * iI b = iI (a * b) := (Int32.ofInt_mul a b).symm
theorem lI_add (a b : Int) : lI a + lI b = lI (a + b) := (Int64.ofInt_add a b).symm
theorem lI_sub (a b : Int) : lI a - lI b = lI (a - b) := (Int64.ofInt_sub a b).symm
theorem lI_mul (a b : Int) : lI a * lI b = lI (a * b) := (Int64.ofInt_mul a b).symm
theorem iI_lt {a b : Int} (ha : rg a) (hb : rg b) : iI a < iI b ↔ a < b := by rw [Int32.lt_iff_toInt_lt, iI_t ha, iI_t hb]
theorem iI_le {a b : Int} (ha : rg a) (hb : rg b) : iI a ≤ iI b ↔ a ≤ b := by rw [Int32.le_iff_toInt_le, iI_t ha, iI_t hb]
theorem iI_eq {a b : Int} (ha : rg a) (hb : rg b) : iI a = iI b ↔ a = b := by rw [← Int32.toInt_inj, iI_t ha, iI_t hb]
theorem lI_lt {a b : Int} (ha : rl a) (hb : rl b) : lI a < lI b ↔ a < b := by rw [Int64.lt_iff_toInt_lt, lI_t ha, lI_t hb]
theorem lI_eq {a b : Int} (ha : rl a) (hb : rl b) : lI a = lI b ↔ a = b := by rw [← Int64.toInt_inj, lI_t ha, lI_t hb]
theorem iI_div {a b : Int} (ha : rg a) (hb : rg b) : iI a / iI b = iI (a.tdiv b) := (Int32.ofInt_tdiv (by rw [Int32.toInt_minValue]; have := ha.1; omega) (by rw [Int32.toInt_maxValue]; have := ha.2; omega) (by rw [Int32.toInt_minValue]; have := hb.1; omega) (by rw [Int32.toInt_maxValue]; have := hb.2; omega)).symm
theorem lI_div {a b : Int} (ha : rl a) (hb : rl b) : lI a / lI b = lI (a.tdiv b) := (Int64.ofInt_tdiv (by rw [Int64.toInt_minValue]; have := ha.1; omega) (by rw [Int64.toInt_maxValue]; have := ha.2; omega) (by rw [Int64.toInt_minValue]; have := hb.1; omega) (by rw [Int64.toInt_maxValue]; have := hb.2; omega)).symm
theorem iI_l {a : Int} (h : rg a) : (iI a).toInt64 = lI a := Int64.toInt_inj.mp (by rw [Int32.toInt_toInt64, iI_t h, lI_t ⟨by have := h.1; omega, by have := h.2; omega⟩])
theorem lI_i (a : Int) : (lI a).toInt32 = iI a := Int64.toInt32_ofInt
theorem iI_0 : iI 0 = 0 := rfl
theorem iI_ne0 {a : Int} (h : rg a) (h0 : ¬ a = 0) : ¬ iI a = 0 := fun q => h0 ((iI_eq h ⟨by decide, by decide⟩).mp (q.trans iI_0.symm))
theorem lI_ne0 {a : Int} (h : rl a) (h0 : ¬ a = 0) : ¬ lI a = 0 := fun q => h0 ((lI_eq h ⟨by decide, by decide⟩).mp (q.trans (show (0 : Int64) = lI 0 from rfl)))
theorem iI_in {x : Int} {n : Nat} (hn : n < 2147483648) (h : 0 ≤ x ∧ x < n) : vp_in (iI x) n := by
  rw [vp_in_iff, iI_t ⟨by have := h.1; omega, by have := h.2; omega⟩]
  exact h
theorem iI_cl {x : Int} {n : Nat} (hn : n < 2147483648) (h : 0 ≤ x ∧ x < n) : (iI x).toNatClampNeg = x.toNat := by
  show (iI x).toInt.toNat = x.toNat
  rw [iI_t ⟨by have := h.1; omega, by have := h.2; omega⟩]
theorem iI_nat {n : Nat} : Int32.ofNat n = iI (n : Int) := Int32.ofInt_eq_ofNat.symm
theorem rg_max {a b : Int} (ha : rg a) (hb : rg b) : rg (if a < b then b else a) := by split <;> assumption
theorem rg_min {a b : Int} (ha : rg a) (hb : rg b) : rg (if b < a then b else a) := by split <;> assumption
/-! ===== the glue of the models: an answer is there, or none ===== -/
abbrev nS : Type := Nat → Nat → Int
def up2 (N : nS) (k j : Nat) (x : Int) : nS := va_up N k (va_up (N k) j x)
def nlt {α β : Type} (x : α) (f : α → Option β) : Option β := f x
def nbd {α β : Type} (o : Option (α × nS)) (f : α → nS → Option β) : Option β := match o with
  | none => none
  | some q => f q.1 q.2
theorem ck_s {c : Prop} {h : Decidable c} {β : Type} {f : Option β} {r : β} (e : (@ite _ c h f none) = some r) : c ∧ f = some r := by
  by_cases q : c
  · rw [if_pos q] at e; exact ⟨q, e⟩
  · rw [if_neg q] at e; cases e
theorem if_t {c : Prop} {h : Decidable c} {β : Type} {f g r : β} (q : c) (e : (@ite _ c h f g) = r) : f = r := by rw [if_pos q] at e; exact e
theorem if_f {c : Prop} {h : Decidable c} {β : Type} {f g r : β} (q : ¬ c) (e : (@ite _ c h f g) = r) : g = r := by rw [if_neg q] at e; exact e
theorem nlt_s {α β : Type} {x : α} {f : α → Option β} {r : β} (e : nlt x f = some r) : ∃ y, y = x ∧ f y = some r := ⟨x, rfl, e⟩
theorem nbd_s {α β : Type} {o : Option (α × nS)} {f : α → nS → Option β} {r : β} (e : nbd o f = some r) : ∃ a N, o = some (a, N) ∧ f a N = some r := by
  cases o with
  | none => cases e
  | some q => exact ⟨q.1, q.2, rfl, e⟩
/-! ===== the named world: cell k of the world has the name k and the address ad k ===== -/
abbrev nH : Type := List (Nat × Nat × List (Nat × Nat))
def nw (ad : Nat → Nat) (g : Nat → va_E) (n : Nat) : va_W := (List.range n).map (fun i => (ad i, g i))
theorem nw_at {ad : Nat → Nat} {g : Nat → va_E} {n k : Nat} {e : va_E} (hk : k < n) (he : g k = e) : (nw ad g n)[k]? = some (ad k, e) := by
  subst he
  simp [nw, hk]
theorem nw_set {ad : Nat → Nat} {g : Nat → va_E} {n k : Nat} {e : va_E} : (nw ad g n).set k (ad k, e) = nw ad (va_up g k e) n := by
  apply List.ext_getElem?
  intro i
  by_cases hi : i < n
  · by_cases h : k = i
    · subst h
      simp [nw, hi, va_up]
    · rw [List.getElem?_set_ne h]
      simp [nw, hi, va_up, Ne.symm h]
  · rw [List.getElem?_eq_none (by simp [nw]; omega), List.getElem?_eq_none (by simp [nw]; omega)]
def nD (ad : Nat → Nat) (A : Nat → Prop) (n : Nat) : Prop := (∀ i j : Nat, i < n → j < n → ad i = ad j → i = j) ∧ ∀ i : Nat, i < n → A (ad i)
theorem nw_get {ad : Nat → Nat} {g : Nat → va_E} {n k : Nat} {q : Nat × va_E} (h : (nw ad g n)[k]? = some q) : k < n ∧ q = (ad k, g k) := by
  have hk : k < n := by
    have := (List.getElem?_eq_some_iff.mp h).1
    simpa [nw] using this
  rw [nw_at hk rfl] at h
  exact ⟨hk, (Option.some.inj h).symm⟩
theorem nw_D {ad : Nat → Nat} {A : Nat → Prop} {n : Nat} (h : nD ad A n) (g : Nat → va_E) : va_D A (nw ad g n) := by
  refine ⟨fun i j x y hx hy he => ?_, fun k q hq => ?_⟩
  · obtain ⟨h1, rfl⟩ := nw_get hx
    obtain ⟨h2, rfl⟩ := nw_get hy
    exact h.1 i j h1 h2 he
  · obtain ⟨h1, rfl⟩ := nw_get hq
    exact h.2 k h1
/-! shapes: (0, n, _) ints, (1, n, _) booleans, (2, n, _) longs, (3, n, [(b, d), (u, _)]) references of HotLoops$Plugs to the names k + b + d * j for j < u, (4, c, fields) an object; a field: 0 int, 1 long, 2 a name, 3 a name from k on, else null -/
def nf (ad : Nat → Nat) (k : Nat) (f : Nat → Int) : List (Nat × Nat) → Nat → List Value
  | [], _ => []
  | q :: fs, j => (if q.1 = 0 then Value.int (iI (f j)) else if q.1 = 1 then Value.long (lI (f j)) else if q.1 = 2 then Value.ref (ad q.2) else if q.1 = 3 then Value.ref (ad (k + q.2)) else Value.null) :: nf ad k f fs (j + 1)
def ne1 (ct : Nat → ClassId) (ad : Nat → Nat) (k : Nat) (f : Nat → Int) (q : Nat × Nat × List (Nat × Nat)) : va_E :=
  if q.1 = 0 then .inl (ct 0, q.2.1, .inl (fun j => iI (f j)))
  else if q.1 = 1 then .inl (ct 1, q.2.1, .inl (fun j => iI (f j)))
  else if q.1 = 2 then .inl (ct 2, q.2.1, .inr (.inl (fun j => lI (f j))))
  else if q.1 = 3 then .inl (ct 3, q.2.1, .inr (.inr (.inr (.inr (fun j => if j < (q.2.2.getD 1 (0, 0)).1 then some (ad (k + (q.2.2.getD 0 (0, 0)).1 + (q.2.2.getD 0 (0, 0)).2 * j)) else none)))))
  else .inr (q.2.1, nf ad k f q.2.2 0)
def ne (ct : Nat → ClassId) (ad : Nat → Nat) (S : nH) (k : Nat) (f : Nat → Int) : va_E := ne1 ct ad k f ((S[k]?).getD (0, 0, []))
theorem nf_get {ad : Nat → Nat} {k : Nat} {f : Nat → Int} : ∀ {fs : List (Nat × Nat)} {b j : Nat} {q : Nat × Nat}, fs[j]? = some q → (nf ad k f fs b)[j]? = some (if q.1 = 0 then Value.int (iI (f (b + j))) else if q.1 = 1 then Value.long (lI (f (b + j))) else if q.1 = 2 then Value.ref (ad q.2) else if q.1 = 3 then Value.ref (ad (k + q.2)) else Value.null)
  | [], b, j, q, h => by simp at h
  | x :: fs, b, 0, q, h => by
    simp at h
    subst h
    rfl
  | x :: fs, b, j + 1, q, h => by
    have h1 : fs[j]? = some q := by simpa using h
    have h2 := nf_get (ad := ad) (k := k) (f := f) (b := b + 1) h1
    rw [show b + 1 + j = b + (j + 1) by omega] at h2
    show (nf ad k f fs (b + 1))[j]? = _
    exact h2
theorem nf_len {ad : Nat → Nat} {k : Nat} {f : Nat → Int} : ∀ {fs : List (Nat × Nat)} {b : Nat}, (nf ad k f fs b).length = fs.length
  | [], b => rfl
  | x :: fs, b => by show (nf ad k f fs (b + 1)).length + 1 = _; rw [nf_len]; rfl
theorem nf_cg {ad : Nat → Nat} {k : Nat} {f g : Nat → Int} : ∀ {fs : List (Nat × Nat)} {b : Nat}, (∀ i, b ≤ i → f i = g i) → nf ad k f fs b = nf ad k g fs b
  | [], b, h => rfl
  | x :: fs, b, h => by
    show _ :: nf ad k f fs (b + 1) = _ :: nf ad k g fs (b + 1)
    rw [nf_cg (b := b + 1) (fun i hi => h i (by omega)), h b (Nat.le_refl _)]
theorem nf_set {ad : Nat → Nat} {k : Nat} {f : Nat → Int} {x : Int} : ∀ {fs : List (Nat × Nat)} {b j : Nat} {q : Nat × Nat}, fs[j]? = some q → (nf ad k f fs b).set j (if q.1 = 0 then Value.int (iI x) else if q.1 = 1 then Value.long (lI x) else if q.1 = 2 then Value.ref (ad q.2) else if q.1 = 3 then Value.ref (ad (k + q.2)) else Value.null) = nf ad k (va_up f (b + j) x) fs b
  | [], b, j, q, h => by simp at h
  | y :: fs, b, 0, q, h => by
    simp at h
    subst h
    show _ :: nf ad k f fs (b + 1) = (if y.1 = 0 then Value.int (iI (va_up f (b + 0) x b)) else if y.1 = 1 then Value.long (lI (va_up f (b + 0) x b)) else if y.1 = 2 then Value.ref (ad y.2) else if y.1 = 3 then Value.ref (ad (k + y.2)) else Value.null) :: nf ad k (va_up f (b + 0) x) fs (b + 1)
    rw [show va_up f (b + 0) x b = x by simp [va_up], nf_cg (f := f) (g := va_up f (b + 0) x) (fun i hi => by simp [va_up]; intro h; omega)]
  | y :: fs, b, j + 1, q, h => by
    have h1 : fs[j]? = some q := by simpa using h
    have h2 := nf_set (ad := ad) (k := k) (f := f) (x := x) (b := b + 1) h1
    rw [show b + 1 + j = b + (j + 1) by omega] at h2
    show _ :: (nf ad k f fs (b + 1)).set j _ = (if y.1 = 0 then Value.int (iI (va_up f (b + (j + 1)) x b)) else if y.1 = 1 then Value.long (lI (va_up f (b + (j + 1)) x b)) else if y.1 = 2 then Value.ref (ad y.2) else if y.1 = 3 then Value.ref (ad (k + y.2)) else Value.null) :: nf ad k (va_up f (b + (j + 1)) x) fs (b + 1)
    rw [h2, show va_up f (b + (j + 1)) x b = f b by simp [va_up]]
theorem ne_at {ct : Nat → ClassId} {ad : Nat → Nat} {S : nH} {k : Nat} {f : Nat → Int} {q : Nat × Nat × List (Nat × Nat)} (h : S[k]? = some q) : ne ct ad S k f = ne1 ct ad k f q := by
  unfold ne
  rw [h]
  rfl
theorem ne_up {ct : Nat → ClassId} {ad : Nat → Nat} {S : nH} {N : nS} {k j : Nat} {x : Int} : va_up (fun i => ne ct ad S i (N i)) k (ne ct ad S k (va_up (N k) j x)) = fun i => ne ct ad S i (up2 N k j x i) := by
  funext i
  by_cases h : i = k
  · subst h
    simp [va_up, up2]
  · simp [va_up, up2, h]
theorem ret_s {α : Type} {a r : α} {N No : nS} (h : some (a, N) = some (r, No)) : a = r ∧ N = No := by
  cases h
  exact ⟨rfl, rfl⟩
theorem rg_n {n : Nat} (h : n < 2147483648) : rg ((n : Nat) : Int) := ⟨by omega, by omega⟩
theorem tn_lt {x : Int} {n : Nat} (h : 0 ≤ x ∧ x < ((n : Nat) : Int)) : x.toNat < n := by have := h.1; have := h.2; omega
def FU : Nat := 200
theorem up2_v {N N1 : nS} {k j : Nat} {x : Int} (h : N1 = up2 N k j x) : N1 k j = x := by
  rw [h]
  simp [up2, va_up]
theorem up2_s {N N1 : nS} {k j i : Nat} {x y : Int} (h : N1 = up2 N k j x) (hi : i ≠ j) (q : N k i = y) : N1 k i = y := by
  rw [h]
  simp [up2, va_up, hi, q]
theorem up2_n {N N1 : nS} {k j k' : Nat} {x : Int} (h : N1 = up2 N k j x) (hk : k' ≠ k) : N1 k' = N k' := by
  rw [h]
  funext i
  simp [up2, va_up, hk]
