def adr (b k : Nat) : Nat := b + k
theorem nD_adr {b n : Nat} {A : Nat → Prop} (h : ∀ q, b ≤ q → A q) : nD (adr b) A n := ⟨fun i j _ _ e => by unfold adr at e; omega, fun i _ => h _ (Nat.le_add_right b i)⟩
theorem nC_S {p : Program} {s : State} {m : MethodId} {args : Array Value} {c : Code} {D : va_G} {cl : List vw_C} {ct : Nat → ClassId} {A : Nat → Prop} {b nL : Nat} {S : nH} {cc : ByteArray} {own : String} {Ts : List Cond} (S' : nH) (hb : ∀ q, b ≤ q → A q) (hC : nC p s m args c D cl ct A (adr b) S nL cc own Ts) : nC p s m args c D cl ct A (adr b) S' nL cc own Ts := ⟨hC.1, hC.2.1, nD_adr hb, hC.2.2.2⟩
theorem nw_app {ct : Nat → ClassId} {b : Nat} {S : nH} {x : Nat × Nat × List (Nat × Nat)} {N : nS} : nw (adr b) (fun k => ne ct (adr b) (S ++ [x]) k (N k)) (S ++ [x]).length = nw (adr b) (fun k => ne ct (adr b) S k (N k)) S.length ++ [(adr b S.length, ne1 ct (adr b) S.length (N S.length) x)] := by
  unfold nw
  rw [List.length_append, List.length_singleton, List.range_succ, List.map_append]
  congr 1
  · apply List.map_congr_left
    intro k hk
    have hk : k < S.length := List.mem_range.mp hk
    simp [ne, List.getElem?_append_left hk]
  · simp [ne]
theorem nw_chg {ct : Nat → ClassId} {b k : Nat} {S : nH} {x : Nat × Nat × List (Nat × Nat)} {N : nS} (hk : k < S.length) : nw (adr b) (fun i => ne ct (adr b) (S.set k x) i (N i)) (S.set k x).length = (nw (adr b) (fun i => ne ct (adr b) S i (N i)) S.length).set k (adr b k, ne1 ct (adr b) k (N k) x) := by
  rw [nw_set, List.length_set]
  congr 1
  funext i
  by_cases h : i = k
  · subst h
    simp [va_up, ne, hk]
  · simp [va_up, ne, h, List.getElem?_set_ne (Ne.symm h)]
theorem nf_chg {ad : Nat → Nat} {k : Nat} {f : Nat → Int} {x : Nat × Nat} : ∀ {fs : List (Nat × Nat)} {b j : Nat}, j < fs.length → nf ad k f (fs.set j x) b = (nf ad k f fs b).set j (if x.1 = 0 then Value.int (iI (f (b + j))) else if x.1 = 1 then Value.long (lI (f (b + j))) else if x.1 = 2 then Value.ref (ad x.2) else if x.1 = 3 then Value.ref (ad (k + x.2)) else Value.null)
  | [], b, j, h => by simp at h
  | y :: fs, b, 0, h => rfl
  | y :: fs, b, j + 1, h => by
    have h1 : j < fs.length := by simpa using h
    have h2 := nf_chg (ad := ad) (k := k) (f := f) (x := x) (b := b + 1) h1
    rw [show b + 1 + j = b + (j + 1) by omega] at h2
    show _ :: nf ad k f (fs.set j x) (b + 1) = _ :: (nf ad k f fs (b + 1)).set j _
    rw [h2]
theorem nw_size {D : va_G} {cl : List vw_C} {ct : Nat → ClassId} {b : Nat} {S : nH} {N : nS} {H : Heap} (hP : nWd D cl ct (adr b) S N H) (h : 0 < S.length) : b + S.length ≤ H.size := by
  have h1 := (hP (S.length - 1) _ (nw_at (by omega) rfl)).lt
  show b + S.length ≤ H.size
  have h2 : adr b (S.length - 1) < H.size := h1
  unfold adr at h2
  omega
section NM
variable {p : Program} {l : Launch} {e : Env} {R : Room} {s : State} {m : MethodId} {args : Array Value} {below : List Frame} {meth : Method} {c : Code} {cells slots mc ms : Nat} {Q : State → Prop} {D : va_G} {cl : List vw_C} {ct : Nat → ClassId} {A : Nat → Prop} {b : Nat} {S : nH} {nL : Nat} {N : nS} {pc : Nat} {lv : List (Nat × Value)} {st : List Value} {cc : ByteArray} {own : String} {Ts : List Cond}
theorem nm_size {T : State} {H : Heap} {locs : List Loc} (hP : nWd D cl ct (adr b) S N H) (hS : va_S A s.heap H locs) (hbk : b ≤ s.heap.size ∧ s.heap.size + cells = b + S.length) (hT : T.heap = H) (X : Stand p l e R s m args below meth c T locs cells slots) : H.size = b + S.length := by
  have q1 := X.heapSize
  rw [hT] at q1
  have q2 := hS.1
  obtain ⟨hb1, hb2⟩ := hbk
  by_cases h : 0 < S.length
  · have q3 := nw_size hP h
    omega
  · omega
theorem nm_sz {H : Heap} {locs : List Loc} {g : JFrame} (hP : nWd D cl ct (adr b) S N H) (hS : va_S A s.heap H locs) (hbk : b ≤ s.heap.size ∧ s.heap.size + cells = b + S.length) (kk : H.size = b + S.length → W p l e R s m args below meth c H locs cells slots Q g) : W p l e R s m args below meth c H locs cells slots Q g := fun T hT X => kk (nm_size hP hS hbk hT X) T hT X
theorem nm_S {S' : nH} (h : S = S') (kk : nV p l e R s m args below meth c cells slots Q D cl ct A (adr b) S' nL N pc lv st) : nV p l e R s m args below meth c cells slots Q D cl ct A (adr b) S nL N pc lv st := h ▸ kk
theorem nm_new (hC : nC p s m args c D cl ct A (adr b) S nL cc own Ts) {ci index : Nat} {C : String} {T0 : u_T} {F : Nat} (hc : cl[ci]? = some (C, T0, F)) (hin : ∀ w ∈ u_ws C T0 F, w ∈ Ts) (ty : Nat → FieldType) (hty : ∀ k, k < F → parseFieldDescriptor (T0 k).2.2.1 = some (ty k)) (hcl : Cond.classLink own index C ∈ Ts) (hinst : Cond.instantiable C F ∈ Ts) (hini : Cond.initialized C ∈ Ts) (hbk : b ≤ s.heap.size ∧ s.heap.size + cells = b + S.length) {fs : List (Nat × Nat)} (hfs : ∀ j, j < F → defaultValue (ty j) = vp_V (nf (adr b) S.length (N S.length) fs 0) j) (hcells : cells + 1 ≤ R.cells) (hslots : slots + F ≤ R.slots) (hdg : decode cc pc = .ok (.new index, 3)) (kk : nV p l e R s m args below meth c (cells + 1) (slots + F) Q D cl ct A (adr b) (S ++ [(4, ci, fs)]) nL N (pc + 3) lv (.ref (adr b S.length) :: st)) : nV p l e R s m args below meth c cells slots Q D cl ct A (adr b) S nL N pc lv st := by
  intro H locs ls hP hS hl
  refine nm_sz hP hS hbk (fun hz => ?_)
  have hKn := hC.2.1.1 ci _ hc
  refine W.newcK hC.1.1 hC.1.2.1 hC.1.2.2.2.1 (hC.1.2.2.2.2 _ hcl) (hC.1.2.2.2.2 _ hinst) (hC.1.2.2.2.2 _ hini) rfl hdg hcells hslots hKn.2.1 hz fun H1 kC hkC e1 z1 o1 => ?_
  have hk : ∀ (k : Nat) (x : Nat × va_E), (nw (adr b) (fun k => ne ct (adr b) S k (N k)) S.length)[k]? = some x → H1[x.1]? = H[x.1]? := fun k x hx => o1 x.1 (by rw [← hz]; exact (hP k x hx).lt)
  refine kk H1 locs ls ?_ ⟨Nat.le_trans hS.1 (by omega), fun x h1 h2 => (o1 x (by have := hS.1; omega)).trans (hS.2.1 x h1 h2), hS.2.2⟩ hl
  show va_P D cl (nw (adr b) (fun k => ne ct (adr b) (S ++ [(4, ci, fs)]) k (N k)) (S ++ [(4, ci, fs)]).length) H1
  rw [nw_app]
  refine (hP.kept hk).app (fun k x hx => ?_)
  have hz2 : k < 1 := (List.getElem?_eq_some_iff.mp hx).1
  rw [show k = 0 by omega] at hx
  cases hx
  exact ⟨_, hc, (u_born ty hC.1.2.2.2.2 hin hKn hkC e1 hty).to hfs⟩
theorem nm_newaI (hC : nC p s m args c D cl ct A (adr b) S nL cc own Ts) (harr : Cond.arrayClass .int ∈ Ts) {n : Nat} {z : Int} (hzn : z = (n : Int)) (hn : n < 65536) (hbk : b ≤ s.heap.size ∧ s.heap.size + cells = b + S.length) (hN : ∀ j, N S.length j = 0) (hcells : cells + 1 ≤ R.cells) (hslots : slots + n ≤ R.slots) (hdg : decode cc pc = .ok (.newarray .int, 2)) (kk : nV p l e R s m args below meth c (cells + 1) (slots + n) Q D cl ct A (adr b) (S ++ [(0, n, [])]) nL N (pc + 2) lv (.ref (adr b S.length) :: st)) : nV p l e R s m args below meth c cells slots Q D cl ct A (adr b) S nL N pc lv (.int (iI z) :: st) := by
  subst hzn
  intro H locs ls hP hS hl
  refine nm_sz hP hS hbk (fun hz => ?_)
  have hg : rg ((n : Nat) : Int) := ⟨by omega, by omega⟩
  refine va_newaK (atype := .int) hC.1.1 hC.1.2.1 (hC.1.2.2.2.2 _ harr) rfl hdg rfl (n := iI (n : Int)) (N := n) (fun q => by have h9 := (iI_lt hg ⟨by decide, by decide⟩ (b := 0)).mp (by rw [iI_0]; exact q); omega) (by show (iI (n : Int)).toInt.toNat = n; rw [iI_t hg]; omega) (by show n * _ ≤ _; first | (show n * 4 ≤ _; omega) | (show n * 1 ≤ _; omega) | (show n * 8 ≤ _; omega)) hcells hslots hz fun H1 cA e1 z1 o1 hAr hNm => ?_
  have hcA : cA = ct 0 := Option.some.inj (hNm.symm.trans (hC.2.1.2 0 _ rfl).2)
  subst hcA
  have hk : ∀ (k : Nat) (x : Nat × va_E), (nw (adr b) (fun k => ne ct (adr b) S k (N k)) S.length)[k]? = some x → H1[x.1]? = H[x.1]? := fun k x hx => o1 x.1 (by rw [← hz]; exact (hP k x hx).lt)
  refine kk H1 locs ls ?_ ⟨Nat.le_trans hS.1 (by omega), fun x h1 h2 => (o1 x (by have := hS.1; omega)).trans (hS.2.1 x h1 h2), hS.2.2⟩ hl
  show va_P D cl (nw (adr b) (fun k => ne ct (adr b) (S ++ [(0, n, [])]) k (N k)) (S ++ [(0, n, [])]).length) H1
  rw [nw_app]
  refine (hP.kept hk).app (fun k x hx => ?_)
  have hz2 : k < 1 := (List.getElem?_eq_some_iff.mp hx).1
  rw [show k = 0 by omega] at hx
  cases hx
  show H1[adr b S.length]? = some (vp_cell (ct 0) (n, .inl (fun j => iI (N S.length j))))
  rw [show (.inl (fun j => iI (N S.length j)) : (Nat → Int32) ⊕ (Nat → Int64) ⊕ (Nat → UInt32) ⊕ (Nat → UInt64) ⊕ (Nat → Option Nat)) = .inl (fun _ => 0) from by congr; funext j; rw [hN j]; rfl]
  exact e1
theorem nm_newaZ (hC : nC p s m args c D cl ct A (adr b) S nL cc own Ts) (harr : Cond.arrayClass .boolean ∈ Ts) {n : Nat} {z : Int} (hzn : z = (n : Int)) (hn : n < 65536) (hbk : b ≤ s.heap.size ∧ s.heap.size + cells = b + S.length) (hN : ∀ j, N S.length j = 0) (hcells : cells + 1 ≤ R.cells) (hslots : slots + n ≤ R.slots) (hdg : decode cc pc = .ok (.newarray .boolean, 2)) (kk : nV p l e R s m args below meth c (cells + 1) (slots + n) Q D cl ct A (adr b) (S ++ [(1, n, [])]) nL N (pc + 2) lv (.ref (adr b S.length) :: st)) : nV p l e R s m args below meth c cells slots Q D cl ct A (adr b) S nL N pc lv (.int (iI z) :: st) := by
  subst hzn
  intro H locs ls hP hS hl
  refine nm_sz hP hS hbk (fun hz => ?_)
  have hg : rg ((n : Nat) : Int) := ⟨by omega, by omega⟩
  refine va_newaK (atype := .boolean) hC.1.1 hC.1.2.1 (hC.1.2.2.2.2 _ harr) rfl hdg rfl (n := iI (n : Int)) (N := n) (fun q => by have h9 := (iI_lt hg ⟨by decide, by decide⟩ (b := 0)).mp (by rw [iI_0]; exact q); omega) (by show (iI (n : Int)).toInt.toNat = n; rw [iI_t hg]; omega) (by show n * _ ≤ _; first | (show n * 4 ≤ _; omega) | (show n * 1 ≤ _; omega) | (show n * 8 ≤ _; omega)) hcells hslots hz fun H1 cA e1 z1 o1 hAr hNm => ?_
  have hcA : cA = ct 1 := Option.some.inj (hNm.symm.trans (hC.2.1.2 1 _ rfl).2)
  subst hcA
  have hk : ∀ (k : Nat) (x : Nat × va_E), (nw (adr b) (fun k => ne ct (adr b) S k (N k)) S.length)[k]? = some x → H1[x.1]? = H[x.1]? := fun k x hx => o1 x.1 (by rw [← hz]; exact (hP k x hx).lt)
  refine kk H1 locs ls ?_ ⟨Nat.le_trans hS.1 (by omega), fun x h1 h2 => (o1 x (by have := hS.1; omega)).trans (hS.2.1 x h1 h2), hS.2.2⟩ hl
  show va_P D cl (nw (adr b) (fun k => ne ct (adr b) (S ++ [(1, n, [])]) k (N k)) (S ++ [(1, n, [])]).length) H1
  rw [nw_app]
  refine (hP.kept hk).app (fun k x hx => ?_)
  have hz2 : k < 1 := (List.getElem?_eq_some_iff.mp hx).1
  rw [show k = 0 by omega] at hx
  cases hx
  show H1[adr b S.length]? = some (vp_cell (ct 1) (n, .inl (fun j => iI (N S.length j))))
  rw [show (.inl (fun j => iI (N S.length j)) : (Nat → Int32) ⊕ (Nat → Int64) ⊕ (Nat → UInt32) ⊕ (Nat → UInt64) ⊕ (Nat → Option Nat)) = .inl (fun _ => 0) from by congr; funext j; rw [hN j]; rfl]
  exact e1
theorem nm_newaJ (hC : nC p s m args c D cl ct A (adr b) S nL cc own Ts) (harr : Cond.arrayClass .long ∈ Ts) {n : Nat} {z : Int} (hzn : z = (n : Int)) (hn : n < 65536) (hbk : b ≤ s.heap.size ∧ s.heap.size + cells = b + S.length) (hN : ∀ j, N S.length j = 0) (hcells : cells + 1 ≤ R.cells) (hslots : slots + n ≤ R.slots) (hdg : decode cc pc = .ok (.newarray .long, 2)) (kk : nV p l e R s m args below meth c (cells + 1) (slots + n) Q D cl ct A (adr b) (S ++ [(2, n, [])]) nL N (pc + 2) lv (.ref (adr b S.length) :: st)) : nV p l e R s m args below meth c cells slots Q D cl ct A (adr b) S nL N pc lv (.int (iI z) :: st) := by
  subst hzn
  intro H locs ls hP hS hl
  refine nm_sz hP hS hbk (fun hz => ?_)
  have hg : rg ((n : Nat) : Int) := ⟨by omega, by omega⟩
  refine va_newaK (atype := .long) hC.1.1 hC.1.2.1 (hC.1.2.2.2.2 _ harr) rfl hdg rfl (n := iI (n : Int)) (N := n) (fun q => by have h9 := (iI_lt hg ⟨by decide, by decide⟩ (b := 0)).mp (by rw [iI_0]; exact q); omega) (by show (iI (n : Int)).toInt.toNat = n; rw [iI_t hg]; omega) (by show n * _ ≤ _; first | (show n * 4 ≤ _; omega) | (show n * 1 ≤ _; omega) | (show n * 8 ≤ _; omega)) hcells hslots hz fun H1 cA e1 z1 o1 hAr hNm => ?_
  have hcA : cA = ct 2 := Option.some.inj (hNm.symm.trans (hC.2.1.2 2 _ rfl).2)
  subst hcA
  have hk : ∀ (k : Nat) (x : Nat × va_E), (nw (adr b) (fun k => ne ct (adr b) S k (N k)) S.length)[k]? = some x → H1[x.1]? = H[x.1]? := fun k x hx => o1 x.1 (by rw [← hz]; exact (hP k x hx).lt)
  refine kk H1 locs ls ?_ ⟨Nat.le_trans hS.1 (by omega), fun x h1 h2 => (o1 x (by have := hS.1; omega)).trans (hS.2.1 x h1 h2), hS.2.2⟩ hl
  show va_P D cl (nw (adr b) (fun k => ne ct (adr b) (S ++ [(2, n, [])]) k (N k)) (S ++ [(2, n, [])]).length) H1
  rw [nw_app]
  refine (hP.kept hk).app (fun k x hx => ?_)
  have hz2 : k < 1 := (List.getElem?_eq_some_iff.mp hx).1
  rw [show k = 0 by omega] at hx
  cases hx
  show H1[adr b S.length]? = some (vp_cell (ct 2) (n, .inr (.inl (fun j => lI (N S.length j)))))
  rw [show (.inr (.inl (fun j => lI (N S.length j))) : (Nat → Int32) ⊕ (Nat → Int64) ⊕ (Nat → UInt32) ⊕ (Nat → UInt64) ⊕ (Nat → Option Nat)) = .inr (.inl (fun _ => 0)) from by congr; funext j; rw [hN j]; rfl]
  exact e1
theorem nm_newq (hC : nC p s m args c D cl ct A (adr b) S nL cc own Ts) {index : Nat} (hcl : Cond.classLink own index "HotLoops$Plugs" ∈ Ts) (hover : va_AO "HotLoops$Plugs" s) {n bb d : Nat} {z : Int} (hzn : z = (n : Int)) (hn : n < 65536) (hbk : b ≤ s.heap.size ∧ s.heap.size + cells = b + S.length) (hcells : cells + 1 ≤ R.cells) (hslots : slots + n ≤ R.slots) (hdg : decode cc pc = .ok (.anewarray index, 3)) (kk : nV p l e R s m args below meth c (cells + 1) (slots + n) Q D cl ct A (adr b) (S ++ [(3, n, [(bb, d), (0, 0)])]) nL N (pc + 3) lv (.ref (adr b S.length) :: st)) : nV p l e R s m args below meth c cells slots Q D cl ct A (adr b) S nL N pc lv (.int (iI z) :: st) := by
  subst hzn
  intro H locs ls hP hS hl
  refine nm_sz hP hS hbk (fun hz => ?_)
  have hg : rg ((n : Nat) : Int) := ⟨by omega, by omega⟩
  have hcl9 : (iI (n : Int)).toNatClampNeg = n := by show (iI (n : Int)).toInt.toNat = n; rw [iI_t hg]; omega
  refine W.anew hC.1.1 hC.1.2.1 hC.1.2.2.2.1 (hC.1.2.2.2.2 _ hcl) (va_AO.use hover) rfl hdg rfl (n := iI (n : Int)) (fun q => by have h9 := (iI_lt hg ⟨by decide, by decide⟩ (b := 0)).mp (by rw [iI_0]; exact q); omega) (by rw [hcl9]; omega) hcells (by rw [hcl9]; exact hslots) fun cA kA comp f1 f2 f3 f4 => ?_
  rw [hcl9]
  obtain ⟨kA9, comp9, g1, g2, g3, g4⟩ := (hC.2.1.2 3 _ rfl).2
  have hcA : cA = ct 3 := Option.some.inj (f1.symm.trans g4)
  subst hcA
  generalize hH1 : H.push ({ cls := ct 3, slots := Array.replicate n .null, vm := .none } : Cell) = H1
  have z1 : H1.size = H.size + 1 := by rw [← hH1, Array.size_push]
  have e1 : H1[H.size]? = some (arrV (ct 3) n (fun _ => .null)) := by rw [← hH1, Array.getElem?_push_size, ← arrV_new]
  have o1 : ∀ q, q < H.size → H1[q]? = H[q]? := fun q hq => by rw [← hH1, Array.getElem?_push, if_neg (Nat.ne_of_lt hq)]
  have hk : ∀ (k : Nat) (x : Nat × va_E), (nw (adr b) (fun k => ne ct (adr b) S k (N k)) S.length)[k]? = some x → H1[x.1]? = H[x.1]? := fun k x hx => o1 x.1 (hP k x hx).lt
  have key := kk H1 locs ls ?_ ⟨Nat.le_trans hS.1 (by omega), fun x h1 h2 => (o1 x (by have := hS.1; omega)).trans (hS.2.1 x h1 h2), hS.2.2⟩ hl
  · rw [show adr b S.length = H.size from hz.symm] at key
    exact key
  show va_P D cl (nw (adr b) (fun k => ne ct (adr b) (S ++ [(3, n, [(bb, d), (0, 0)])]) k (N k)) (S ++ [(3, n, [(bb, d), (0, 0)])]).length) H1
  rw [nw_app]
  refine (hP.kept hk).app (fun k x hx => ?_)
  have hz2 : k < 1 := (List.getElem?_eq_some_iff.mp hx).1
  rw [show k = 0 by omega] at hx
  cases hx
  show H1[adr b S.length]? = some (vp_cell (ct 3) (n, .inr (.inr (.inr (.inr (fun j => if j < 0 then some (adr b (S.length + bb + d * j)) else none))))))
  rw [show adr b S.length = H.size from hz.symm, e1]
  rfl
theorem nm_putR (hC : nC p s m args c D cl ct A (adr b) S nL cc own Ts) {k ci j index : Nat} {C : String} {T0 : u_T} {F : Nat} {fs : List (Nat × Nat)} (hs : S[k]? = some (4, ci, fs)) (hc : cl[ci]? = some (C, T0, F)) (hin : ∀ w ∈ u_ws C T0 F, w ∈ Ts) (hj : j < F) (tyf : Nat → FieldType) (hty : ∀ k, k < F → parseFieldDescriptor (T0 k).2.2.1 = some (tyf k)) (hnm : ∀ a, a < F → ∀ b, b < F → a ≠ b → (T0 a).2.1 ≠ (T0 b).2.1) (hlk : Cond.fieldLink own index (T0 j).1 (T0 j).2.1 (T0 j).2.2.1 ∈ Ts) {r k2 : Nat} (hk2 : k + r = k2) (hfl : j < fs.length) (hfin : (T0 j).2.2.2 = true) (hin2 : meth.name = "<init>") (hdecl : (T0 j).1 = own) {tyv : FieldType} (hd : parseFieldDescriptor (T0 j).2.2.1 = some tyv) (hn : ∀ q : Nat, narrow tyv (.ref q) = .ref q) (hft : ∀ q : Nat, fits tyv (.ref q) = true) {S' : nH} (hS' : S.set k (4, ci, fs.set j (3, r)) = S') (hdg : decode cc pc = .ok (.putfield index, 3)) (kk : nV p l e R s m args below meth c cells slots Q D cl ct A (adr b) S' nL N (pc + 3) lv st) : nV p l e R s m args below meth c cells slots Q D cl ct A (adr b) S nL N pc lv (.ref (adr b k2) :: .ref (adr b k) :: st) := by
  subst hS'
  subst hk2
  intro H locs ls hP hS hl
  refine va_putF hC.1.1 hC.1.2.1 hC.1.2.2.2.2 hin tyf hty hnm hC.1.2.2.2.1 hC.2.1 hP (nw_D hC.2.2.1 _) hS k (nw_at (List.getElem?_eq_some_iff.mp hs).1 (ne_at hs)) hc j hj (hC.1.2.2.2.2 _ hlk) (fun _ h9 => h9) hfin hin2 hdecl hd (hn _) (hft _) (by rw [nf_len]; exact hfl) hdg (fun H1 locs1 hP1 _ hS1 => kk H1 locs1 ls ?_ hS1 hl)
  show va_P D cl (nw (adr b) (fun i => ne ct (adr b) (S.set k (4, ci, fs.set j (3, r))) i (N i)) (S.set k (4, ci, fs.set j (3, r))).length) H1
  rw [nw_chg (List.getElem?_eq_some_iff.mp hs).1]
  have h2 : ne1 ct (adr b) k (N k) (4, ci, fs.set j (3, r)) = .inr (ci, (nf (adr b) k (N k) fs 0).set j (.ref (adr b (k + r)))) := by
    show Sum.inr (ci, nf (adr b) k (N k) (fs.set j (3, r)) 0) = _
    rw [nf_chg hfl]
    rfl
  rw [h2]
  exact hP1
theorem nm_putA (hC : nC p s m args c D cl ct A (adr b) S nL cc own Ts) {k ci j index : Nat} {C : String} {T0 : u_T} {F : Nat} {fs : List (Nat × Nat)} (hs : S[k]? = some (4, ci, fs)) (hc : cl[ci]? = some (C, T0, F)) (hin : ∀ w ∈ u_ws C T0 F, w ∈ Ts) (hj : j < F) (tyf : Nat → FieldType) (hty : ∀ k, k < F → parseFieldDescriptor (T0 k).2.2.1 = some (tyf k)) (hnm : ∀ a, a < F → ∀ b, b < F → a ≠ b → (T0 a).2.1 ≠ (T0 b).2.1) (hlk : Cond.fieldLink own index (T0 j).1 (T0 j).2.1 (T0 j).2.2.1 ∈ Ts) {r : Nat} (hfl : j < fs.length) (hfin : (T0 j).2.2.2 = true) (hin2 : meth.name = "<init>") (hdecl : (T0 j).1 = own) {tyv : FieldType} (hd : parseFieldDescriptor (T0 j).2.2.1 = some tyv) (hn : ∀ q : Nat, narrow tyv (.ref q) = .ref q) (hft : ∀ q : Nat, fits tyv (.ref q) = true) {S' : nH} (hS' : S.set k (4, ci, fs.set j (2, r)) = S') (hdg : decode cc pc = .ok (.putfield index, 3)) (kk : nV p l e R s m args below meth c cells slots Q D cl ct A (adr b) S' nL N (pc + 3) lv st) : nV p l e R s m args below meth c cells slots Q D cl ct A (adr b) S nL N pc lv (.ref (adr b r) :: .ref (adr b k) :: st) := by
  subst hS'
  intro H locs ls hP hS hl
  refine va_putF hC.1.1 hC.1.2.1 hC.1.2.2.2.2 hin tyf hty hnm hC.1.2.2.2.1 hC.2.1 hP (nw_D hC.2.2.1 _) hS k (nw_at (List.getElem?_eq_some_iff.mp hs).1 (ne_at hs)) hc j hj (hC.1.2.2.2.2 _ hlk) (fun _ h9 => h9) hfin hin2 hdecl hd (hn _) (hft _) (by rw [nf_len]; exact hfl) hdg (fun H1 locs1 hP1 _ hS1 => kk H1 locs1 ls ?_ hS1 hl)
  show va_P D cl (nw (adr b) (fun i => ne ct (adr b) (S.set k (4, ci, fs.set j (2, r))) i (N i)) (S.set k (4, ci, fs.set j (2, r))).length) H1
  rw [nw_chg (List.getElem?_eq_some_iff.mp hs).1]
  have h2 : ne1 ct (adr b) k (N k) (4, ci, fs.set j (2, r)) = .inr (ci, (nf (adr b) k (N k) fs 0).set j (.ref (adr b r))) := by
    show Sum.inr (ci, nf (adr b) k (N k) (fs.set j (2, r)) 0) = _
    rw [nf_chg hfl]
    rfl
  rw [h2]
  exact hP1
theorem nm_aast (hC : nC p s m args c D cl ct A (adr b) S nL cc own Ts) {k n bb d i ci2 kv : Nat} {fs2 : List (Nat × Nat)} {T0 : u_T} {F : Nat} {z : Int} (hs : S[k]? = some (3, n, [(bb, d), (i, 0)])) (hn : n < 65536) (hzi : z = (i : Int)) (hi : i < n) (hv : S[kv]? = some (4, ci2, fs2)) (hc2 : cl[ci2]? = some ("HotLoops$Plugs", T0, F)) (hkv : k + bb + d * i = kv) {S' : nH} (hS' : S.set k (3, n, [(bb, d), (i + 1, 0)]) = S') (hdg : decode cc pc = .ok (.aastore, 1)) (kk : nV p l e R s m args below meth c cells slots Q D cl ct A (adr b) S' nL N (pc + 1) lv st) : nV p l e R s m args below meth c cells slots Q D cl ct A (adr b) S nL N pc lv (.ref (adr b kv) :: .int (iI z) :: .ref (adr b k) :: st) := by
  subst hS'
  subst hzi
  intro H locs ls hP hS hl
  have hi9 : (0 : Int) ≤ (i : Int) ∧ (i : Int) < (n : Int) := ⟨by omega, by omega⟩
  refine va_astq hC.1.1 hC.1.2.1 hC.2.1 hP (nw_D hC.2.2.1 _) hS k 3 kv ci2 (f := fun j => if j < i then some (adr b (k + bb + d * j)) else none) (nw_at (List.getElem?_eq_some_iff.mp hs).1 (ne_at hs)) rfl (nw_at (List.getElem?_eq_some_iff.mp hv).1 (ne_at hv)) hc2 (iI_in (n := n) (by omega) hi9) hdg (fun H1 locs1 hP1 _ hS1 => kk H1 locs1 ls ?_ hS1 hl)
  show va_P D cl (nw (adr b) (fun i' => ne ct (adr b) (S.set k (3, n, [(bb, d), (i + 1, 0)])) i' (N i')) (S.set k (3, n, [(bb, d), (i + 1, 0)])).length) H1
  rw [nw_chg (List.getElem?_eq_some_iff.mp hs).1]
  rw [iI_cl (n := n) (by omega) hi9, show ((i : Nat) : Int).toNat = i by omega] at hP1
  have h2 : ne1 ct (adr b) k (N k) (3, n, [(bb, d), (i + 1, 0)]) = .inl (ct 3, n, .inr (.inr (.inr (.inr (va_up (fun j => if j < i then some (adr b (k + bb + d * j)) else none) i (some (adr b kv))))))) := by
    show Sum.inl (ct 3, n, Sum.inr (Sum.inr (Sum.inr (Sum.inr (fun j => if j < i + 1 then some (adr b (k + bb + d * j)) else none))))) = _
    congr 7
    funext j
    by_cases h : j = i
    · subst h
      simp [va_up, hkv]
    · by_cases h3 : j < i
      · simp [va_up, h, h3, show j < i + 1 by omega]
      · simp [va_up, h, h3, show ¬ j < i + 1 by omega]
  rw [h2]
  exact hP1
theorem nm_objInit (hC : nC p s m args c D cl ct A (adr b) S nL cc own Ts) {index a : Nat} (hlk : Cond.methodLink own index Lib.objectInit ∈ Ts) (hin : Cond.instanceMethod Lib.objectInit ∈ Ts) (hco : Cond.code Lib.objectInit ⟨#[0xb1]⟩ 1 none ∈ Ts) (hf : 1 ≤ R.frames) (hlo : (st.map fun v => v.category).sum + 12 ≤ R.locals) (hdg : decode cc pc = .ok (.invokespecial index, 3)) (kk : nV p l e R s m args below meth c cells slots Q D cl ct A (adr b) S nL N (pc + 3) lv st) : nV p l e R s m args below meth c cells slots Q D cl ct A (adr b) S nL N pc lv (.ref a :: st) := fun H locs ls hP hS hl => W.objInit hC.1.1 hC.1.2.1 hC.1.2.2.2.1 (hC.1.2.2.2.2 _ hlk) (hC.1.2.2.2.2 _ hin) (hC.1.2.2.2.2 _ hco) rfl (hl.1.trans hC.1.2.2.1.symm) rfl hdg hf (by show 2 * 0 + _ + 12 ≤ _; omega) (kk H locs ls hP hS hl)
/-- a constructor's contract: from the world S, N to S', N' -/
def nPm (D : va_G) (cl : List vw_C) (ct : Nat → ClassId) (A : Nat → Prop) (b : Nat) (S : nH) (N : nS) (av : List Value) : Array Value → State → Prop := va_Pc av (fun U => U.heap.size = b + S.length ∧ (∀ q, b ≤ q → A q) ∧ nWd D cl ct (adr b) S N U.heap ∧ va_K D cl (nt ct) U ∧ va_AO "HotLoops$Plugs" U ∧ va_Nw (.methodLinkNest "HotLoops" 11 ⟨"HotLoops$Net", "<init>", "()V"⟩ "HotLoops") U ∧ va_Nw (.methodLinkNest "HotLoops" 30 ⟨"HotLoops$Draws", "<init>", "()V"⟩ "HotLoops") U)
def nQm (D : va_G) (cl : List vw_C) (ct : Nat → ClassId) (A : Nat → Prop) (b : Nat) (S : nH) (N : nS) : Array Value → State → Outcome → State → Prop := va_Qv (fun (_ : Unit) => True) (fun _ t => nWd D cl ct (adr b) S N t.heap) A
def nMm (l : Launch) (y : MethodName) (ws : List Cond) (rm : Room) (mc ms : Nat) (D : va_G) (cl : List vw_C) (ct : Nat → ClassId) (A : Nat → Prop) (b : Nat) (S : nH) (N : nS) (av : List Value) (S' : nH) (N' : nS) : Prop := Met l y ws rm (nPm D cl ct A b S N av) (nQm D cl ct A b S' N') mc ms A
/-- what a body that makes cells has beside nC -/
def nCm (s : State) (meth : Method) : Prop := va_AO "HotLoops$Plugs" s ∧ va_Nw (.methodLinkNest "HotLoops" 11 ⟨"HotLoops$Net", "<init>", "()V"⟩ "HotLoops") s ∧ va_Nw (.methodLinkNest "HotLoops" 30 ⟨"HotLoops$Draws", "<init>", "()V"⟩ "HotLoops") s
set_option maxHeartbeats 1000000 in
theorem nMm_of {l : Launch} {y : MethodName} {ws ws' : List Cond} {rm : Room} {mc ms : Nat} {D : va_G} {cl : List vw_C} {ct : Nat → ClassId} {A : Nat → Prop} {b : Nat} {S S' : nH} {N N' : nS} {av : List Value} {cc : ByteArray} {maxL : Nat} {ret : Option FieldType} (hy : plainName y.cls = true) (hw : ws = Cond.code y cc maxL ret :: ws') (hsz : (lg_sl av).length ≤ maxL)
    (body : ∀ (p : Program) (e : Env) (s : State) (m : MethodId) (below : List Frame) (meth : Method) (c : Code), nC p s m av.toArray c D cl ct A (adr b) S maxL cc y.cls ws' → (∀ q, b ≤ q → A q) → nCm s meth → s.heap.size = b + S.length → meth.sig.returnType = ret → meth.locks = false → meth.name = y.name → nV p l e rm s m av.toArray below meth c 0 0 (MQ below (nQm D cl ct A b S' N') av.toArray s mc ms A) D cl ct A (adr b) S maxL N 0 (lv_args 0 av) []) : nMm l y ws rm mc ms D cl ct A b S N av S' N' := by
  refine Met.ofW (cc := cc) (maxL := maxL) (ret := ret) hy hw ?_
  intro p e s m args below meth c s₁ B hml hv
  obtain ⟨rfl, hz, hA, hP, hK, hm9⟩ := hv
  have hown : s.vm.findClass y.cls = some m.cls := findClass_of_methodNamed B.named
  have hts0 := atoms_spec (ws := ws) B.pre
  have hts : ∀ w ∈ ws', w.before av.toArray s = true := fun w h => hts0 w (by rw [hw]; exact List.mem_cons_of_mem _ h)
  have hl := lv_entry av (n := maxL) hsz
  rw [lg_entry_eq]
  exact body p e s m below meth c ⟨⟨B.exec, B.bytes, hml, hown, hts⟩, hK, nD_adr hA, fun q hq => hA q (by omega)⟩ hA hm9 hz B.returns B.notSynchronized (name_of_methodNamed B.named B.method).1 s.heap [] _ hP va_S.rf hl
theorem nPm_blind {D : va_G} {cl : List vw_C} {ct : Nat → ClassId} {A : Nat → Prop} {b : Nat} {S : nH} {N : nS} {av : List Value} : FrameBlind (nPm D cl ct A b S N av) := fun a U g mk q => by
  obtain ⟨q0, q1, q2, qP, qK, qa, qb, qc⟩ := q
  exact ⟨q0, q1, q2, qP, va_K.moved (u := U) (U := U.calling g mk a) (Vm.Alike.refl U.vm) qK, va_AO.moved (u := U) (U := U.calling g mk a) (Vm.Alike.refl U.vm) qa, va_Nw.same rfl rfl qb, va_Nw.same rfl rfl qc⟩
theorem nm_vret (hC : nC p s m args c D cl ct A (adr b) S nL cc own Ts) (hr : meth.sig.returnType = none) (hlk : meth.locks = false) (h1 : cells ≤ mc) (h2 : slots ≤ ms) (hdg : decode cc pc = .ok (.return_, 1)) : nV p l e R s m args below meth c cells slots (MQ below (nQm D cl ct A b S N) args s mc ms A) D cl ct A (adr b) S nL N pc lv [] := fun H locs ls hP hS hl => W.widen h1 h2 (W.vret hC.1.1 hC.1.2.1 hr (fun t ht hW => ⟨⟨(), rfl, trivial, by show nWd D cl ct (adr b) S N t.heap; rw [ht]; exact hP⟩, hS.F ht⟩) hS.2.2 hdg hlk)
theorem nm_callI (hC : nC p s m args c D cl ct A (adr b) S nL cc own Ts) (hb : ∀ q, b ≤ q → A q) (hm : nCm s meth) {y : MethodName} {bytes : ByteArray} {maxL n index mc1 ms1 : Nat} {ws : List Cond} {rm : Room} {S' : nH} {N' : nS} {As : List Value} {k : Nat} (hM : nMm l y ws rm mc1 ms1 D cl ct A b S N (.ref (adr b k) :: As) S' N') (cw : CallB R s args own index y bytes maxL none ws rm mc1 ms1 n ∧ y.name = "<init>" ∧ (Cond.instanceMethod y).before args s = true) (hbk : b ≤ s.heap.size ∧ s.heap.size + cells = b + S.length) (hn : As.length = n) {st0 : List Value} (hst : st0 = As.reverse ++ .ref (adr b k) :: st) (hW : (st.map fun v => v.category).sum ≤ 8) (hcs : cells + mc1 ≤ R.cells ∧ slots + ms1 ≤ R.slots) (hdg : decode cc pc = .ok (.invokespecial index, 3)) (kk : nV p l e R s m args below meth c (cells + mc1) (slots + ms1) Q D cl ct A (adr b) S' nL N' (pc + 3) lv st) : nV p l e R s m args below meth c cells slots Q D cl ct A (adr b) S nL N pc lv st0 := by
  intro H locs ls hP hS hl
  refine nm_sz hP hS hbk (fun hz => ?_)
  refine va_callv (va_runI hC.1 hM cw ⟨nPm_blind, fun U hU hW9 => ⟨rfl, by rw [hU]; exact hz, hb, by rw [hU]; exact hP, va_K.moved hW9.alike hC.2.1, va_AO.moved hW9.alike hm.1, va_Nw.warmM hW9 hm.2.1, va_Nw.warmM hW9 hm.2.2⟩⟩ rfl hn hl.1 hst (lv_room hW) hdg hcs) hS (fun q _ h => h) (fun q h => h) (fun u t H1 locs1 ht hvm hw hB hz9 hk hS1 => kk H1 locs1 ls (by rw [← ht]; exact hB) hS1 hl)
theorem nm_callIN (hC : nC p s m args c D cl ct A (adr b) S nL cc own Ts) (hb : ∀ q, b ≤ q → A q) (hm : nCm s meth) {y : MethodName} {bytes : ByteArray} {maxL n index mc1 ms1 : Nat} {ws : List Cond} {rm : Room} {S' : nH} {N' : nS} {As : List Value} {k : Nat} {host : String} (hM : nMm l y ws rm mc1 ms1 D cl ct A b S N (.ref (adr b k) :: As) S' N') (cw : va_CN R s args own index y host bytes maxL none ws rm mc1 ms1 n ∧ y.name = "<init>" ∧ (Cond.instanceMethod y).before args s = true) (hbk : b ≤ s.heap.size ∧ s.heap.size + cells = b + S.length) (hn : As.length = n) {st0 : List Value} (hst : st0 = As.reverse ++ .ref (adr b k) :: st) (hW : (st.map fun v => v.category).sum ≤ 8) (hcs : cells + mc1 ≤ R.cells ∧ slots + ms1 ≤ R.slots) (hdg : decode cc pc = .ok (.invokespecial index, 3)) (kk : nV p l e R s m args below meth c (cells + mc1) (slots + ms1) Q D cl ct A (adr b) S' nL N' (pc + 3) lv st) : nV p l e R s m args below meth c cells slots Q D cl ct A (adr b) S nL N pc lv st0 := by
  intro H locs ls hP hS hl
  refine nm_sz hP hS hbk (fun hz => ?_)
  refine va_callv (va_runIN hC.1 hM cw ⟨nPm_blind, fun U hU hW9 => ⟨rfl, by rw [hU]; exact hz, hb, by rw [hU]; exact hP, va_K.moved hW9.alike hC.2.1, va_AO.moved hW9.alike hm.1, va_Nw.warmM hW9 hm.2.1, va_Nw.warmM hW9 hm.2.2⟩⟩ rfl hn hl.1 hst (lv_room hW) hdg hcs) hS (fun q _ h => h) (fun q h => h) (fun u t H1 locs1 ht hvm hw hB hz9 hk hS1 => kk H1 locs1 ls (by rw [← ht]; exact hB) hS1 hl)
end NM
theorem app_get {S0 T : nH} {n j : Nat} (h : S0.length = n) : (S0 ++ T)[n + j]? = T[j]? := by
  subst h
  rw [List.getElem?_append_right (by omega)]
  congr 1
  omega
theorem app_set {S0 T : nH} {n j : Nat} {x : Nat × Nat × List (Nat × Nat)} (h : S0.length = n) : (S0 ++ T).set (n + j) x = S0 ++ T.set j x := by
  subst h
  rw [List.set_append_right _ _ (by omega)]
  congr 2
  omega
theorem app_add {S0 T : nH} {x : Nat × Nat × List (Nat × Nat)} : S0 ++ T ++ [x] = S0 ++ (T ++ [x]) := List.append_assoc _ _ _
theorem up2_z {N : nS} {k0 j0 m : Nat} {x : Int} (h : ∀ k j, m ≤ k → N k j = 0) (hk : k0 < m) : ∀ k j, m ≤ k → up2 N k0 j0 x k j = 0 := by
  intro k j hm
  have h1 : ¬ k = k0 := by omega
  simp only [up2, va_up, if_neg h1]
  exact h k j hm
theorem z_mono {N : nS} {m m' : Nat} (h : ∀ k j, m ≤ k → N k j = 0) (hm : m ≤ m') : ∀ k j, m' ≤ k → N k j = 0 := fun k j q => h k j (by omega)
theorem app_len {S0 T : nH} {n j : Nat} (h : S0.length = n) (q : T.length = j) : (S0 ++ T).length = n + j := by rw [List.length_append, h, q]
