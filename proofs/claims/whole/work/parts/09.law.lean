def nMw (l : Launch) (y : MethodName) (ws : List Cond) (rm : Room) (mc ms : Nat) (D : va_G) (cl : List vw_C) (ct : Nat → ClassId) (A : Nat → Prop) (ad : Nat → Nat) (S : nH) (N : nS) (av : List Value) (Qc : Array Value → State → Outcome → State → Prop) : Prop := Met l y ws rm (nPx D cl ct A ad S N av) Qc mc ms A
def isO (S : nH) (a : Nat) : Prop := S[a]? = some (2, 1, [])
theorem tt_cw {y : MethodName} {b : ByteArray} {n : Nat} {r : Option FieldType} {hh : List (Nat × Nat × Nat × Nat)} (h : Cond.codeWith y b n r hh ∈ TT) : GoodIn TT (Cond.codeWith y b n r hh :: TT) := fun w q => (List.mem_cons.mp q).elim (fun e => by rw [e]; exact tt_good _ h) (tt_good w)
theorem tt_SW {own : String} {i : Nat} {y : MethodName} {b : ByteArray} {n : Nat} {r : Option FieldType} {hh : List (Nat × Nat × Nat × Nat)} (h1 : Cond.methodLink own i y ∈ TT) (h2 : Cond.static y ∈ TT) (h3 : Cond.initialized y.cls ∈ TT) (h5 : Cond.codeWith y b n r hh ∈ TT) : GoodIn TT (va_wsS own i y (Cond.codeWith y b n r hh :: TT)) := by
  intro w q
  rcases List.mem_append.mp q with q | q
  · simp only [List.mem_cons, List.not_mem_nil, or_false] at q
    rcases q with e | e | e <;> rw [e] <;> apply tt_good <;> assumption
  · exact tt_cw h5 w q
set_option maxHeartbeats 1000000 in
theorem nMw_of {l : Launch} {y : MethodName} {ws ws' : List Cond} {rm : Room} {mc ms : Nat} {D : va_G} {cl : List vw_C} {ct : Nat → ClassId} {A : Nat → Prop} {ad : Nat → Nat} {S : nH} {N : nS} {av : List Value} {Qc : Array Value → State → Outcome → State → Prop} {cc : ByteArray} {maxL : Nat} {ret : Option FieldType} {hh : List (Nat × Nat × Nat × Nat)} (hy : plainName y.cls = true) (hw : ws = Cond.codeWith y cc maxL ret hh :: ws') (hsz : (lg_sl av).length ≤ maxL) (hD : nD ad A S.length)
    (body : ∀ (p : Program) (e : Env) (s : State) (m : MethodId) (below : List Frame) (meth : Method) (c : Code), nC p s m av.toArray c D cl ct A ad S maxL cc y.cls ws' → nX A s s.heap → c.exceptionTable.toList = tableOf hh → meth.sig.returnType = ret → meth.locks = false → nV p l e rm s m av.toArray below meth c 0 0 (MQ below Qc av.toArray s mc ms A) D cl ct A ad S maxL N 0 (lv_args 0 av) []) : nMw l y ws rm mc ms D cl ct A ad S N av Qc := by
  refine va_MetW (cc := cc) (maxL := maxL) (ret := ret) (hh := hh) hy hw ?_
  intro p e s m args below meth c s₁ B hml hv
  obtain ⟨rfl, ⟨hA, hP, hK⟩, hX⟩ := hv
  have hown : s.vm.findClass y.cls = some m.cls := findClass_of_methodNamed B.named
  have hts0 := atoms_spec (ws := ws) B.pre
  have hts : ∀ w ∈ ws', w.before av.toArray s = true := fun w h => hts0 w (by rw [hw]; exact List.mem_cons_of_mem _ h)
  have hl := lv_entry av (n := maxL) hsz
  rw [lg_entry_eq]
  have hC : nC p s m av.toArray c D cl ct A ad S maxL cc y.cls ws' := ⟨⟨B.exec, B.bytes, hml, hown, hts⟩, hK, hD, hA⟩
  exact body p e s m below meth c hC hX (vx_table (x := y) B (hts0 _ (by rw [hw]; exact List.mem_cons_self))) B.returns B.notSynchronized s.heap [] _ hP va_S.rf hl
section NL
variable {p : Program} {l : Launch} {e : Env} {R : Room} {s : State} {m : MethodId} {args : Array Value} {below : List Frame} {meth : Method} {c : Code} {cells slots mc ms : Nat} {Q : State → Prop} {D : va_G} {cl : List vw_C} {ct : Nat → ClassId} {A : Nat → Prop} {ad : Nat → Nat} {S : nH} {nL : Nat} {N : nS} {pc : Nat} {lv : List (Nat × Value)} {st : List Value} {cc : ByteArray} {own : String} {Ts : List Cond}
theorem nv_widen {k n : Nat} (h1 : cells ≤ k) (h2 : slots ≤ n) (kk : nV p l e R s m args below meth c k n Q D cl ct A ad S nL N pc lv st) : nV p l e R s m args below meth c cells slots Q D cl ct A ad S nL N pc lv st := fun H locs ls hP hS hl => W.widen h1 h2 (kk H locs ls hP hS hl)
theorem nvw_iret (hC : nC p s m args c D cl ct A ad S nL cc own Ts) {x : Int} (hr : meth.sig.returnType = some .int) (hlk : meth.locks = false) (h1 : cells ≤ mc) (h2 : slots ≤ ms) (hdg : decode cc pc = .ok (.ireturn, 1)) : nV p l e R s m args below meth c cells slots (MQ below (nQi D cl ct A ad S x N) args s mc ms A) D cl ct A ad S nL N pc lv [.int (iI x)] := fun H locs ls hP hS hl => W.widen h1 h2 (W.iret (v := iI x) hC.1.1 hC.1.2.1 hr (fun t ht hW => ⟨⟨iI x, (), rfl, rfl, by show nWd D cl ct ad S N t.heap; rw [ht]; exact hP⟩, hS.F ht⟩) hS.2.2 hdg hlk)
theorem nv_astoreQ (hC : nC p s m args c D cl ct A ad S nL cc own Ts) {i : Nat} {x : Nat} {lv' : List (Nat × Value)} (hdg : decode cc pc = .ok (.astore i, 2)) (hn : i < nL) (hlv : (i, Value.ref x) :: lv.filter (fun q => !(q.1 == i) && !(q.1 + 1 == i && q.2.category == 2)) = lv') (kk : nV p l e R s m args below meth c cells slots Q D cl ct A ad S nL N (pc + 2) lv' st) : nV p l e R s m args below meth c cells slots Q D cl ct A ad S nL N pc lv (.ref x :: st) := nv_astore hC hdg hn hlv kk
theorem nvw_calli1 (hC : nC p s m args c D cl ct A ad S nL cc own Ts) (hx9 : nX A s s.heap) {u1 u2 u3 u4 : Nat} (htab : c.exceptionTable.toList = tableOf [(u1, u2, u3, u4)]) {mc1 ms1 : Nat} {x r : Int} {N1 : nS} {a : Array Value} {st0 : List Value} (hr : nRunx p l e R s m args below meth c cells slots mc1 ms1 D cl ct A ad S nL N pc st0 st (nQxi D cl ct A ad S x r N1 a) (nXc D cl ct A ad S x N1)) (hcov : u1 ≤ pc ∧ pc < u2) (hlk1 : Cond.classLink own u4 eIA ∈ Ts) (h40 : u4 ≠ 0)
    (kk : x = 0 → nV p l e R s m args below meth c (cells + mc1) (slots + ms1) Q D cl ct A ad S nL N1 (pc + 3) lv (.int (iI r) :: st)) (k1 : x = 1 → ∀ q9 : Nat, nV p l e R s m args below meth c (cells + mc1) (slots + ms1) Q D cl ct A ad S nL N1 u3 lv [.ref q9]) (k2 : ¬ x = 0 → x = 1) : nV p l e R s m args below meth c cells slots Q D cl ct A ad S nL N pc lv st0 := by
  obtain ⟨-, -, hca, hcs, -, -, hnc⟩ := hx9
  intro H locs ls hP hS hl
  refine vx_calli (hr H locs ls hP hS hl.1) hS (fun q _ h => h) (fun q h => h) (fun q _ h => h) ?_ (fun r0 u t H1 locs1 ht hvm hw hB hz hk hS1 => by obtain ⟨h0, hw⟩ := hw; subst hw; exact kk h0 H1 locs1 ls (by rw [← ht]; exact hB) hS1 hl)
  intro E ce q9 u t H1 locs1 ht hvm hpx hB hz hk hS1 hce hcv hcl
  obtain ⟨rfl, hB⟩ := hB
  have hB1 : nWd D cl ct ad S N1 H1 := by rw [← ht]; exact hB
  have hx1 := k2 hpx
  refine vx_catch (own := own) (name := eIA) hC.1.2.2.2.1 [] _ [] (htab.trans rfl) (fun z hz => by cases hz) ?_ h40 (hC.1.2.2.2.2 _ hlk1) ?_ hce hcv hcl (k1 hx1 q9 H1 locs1 ls hB1 hS1 hl)
  · simp [covers, hcov.1, hcov.2]
  · rw [hx1]; exact va_Nw.use rfl hca
theorem nvw_calli2 (hC : nC p s m args c D cl ct A ad S nL cc own Ts) (hx9 : nX A s s.heap) {u1 u2 u3 u4 u5 u6 u7 u8 : Nat} (htab : c.exceptionTable.toList = tableOf [(u1, u2, u3, u4), (u5, u6, u7, u8)]) {mc1 ms1 : Nat} {x r : Int} {N1 : nS} {a : Array Value} {st0 : List Value} (hr : nRunx p l e R s m args below meth c cells slots mc1 ms1 D cl ct A ad S nL N pc st0 st (nQxi D cl ct A ad S x r N1 a) (nXc D cl ct A ad S x N1)) (hcov : u1 ≤ pc ∧ pc < u2) (hcov2 : u5 ≤ pc ∧ pc < u6) (hlk1 : Cond.classLink own u4 eIA ∈ Ts) (h40 : u4 ≠ 0) (hlk2 : Cond.classLink own u8 eIS ∈ Ts) (h80 : u8 ≠ 0)
    (kk : x = 0 → nV p l e R s m args below meth c (cells + mc1) (slots + ms1) Q D cl ct A ad S nL N1 (pc + 3) lv (.int (iI r) :: st)) (k1 : x = 1 → ∀ q9 : Nat, nV p l e R s m args below meth c (cells + mc1) (slots + ms1) Q D cl ct A ad S nL N1 u3 lv [.ref q9]) (k2 : ¬ x = 0 → ¬ x = 1 → ∀ q9 : Nat, nV p l e R s m args below meth c (cells + mc1) (slots + ms1) Q D cl ct A ad S nL N1 u7 lv [.ref q9]) : nV p l e R s m args below meth c cells slots Q D cl ct A ad S nL N pc lv st0 := by
  obtain ⟨-, -, hca, hcs, -, -, hnc⟩ := hx9
  intro H locs ls hP hS hl
  refine vx_calli (hr H locs ls hP hS hl.1) hS (fun q _ h => h) (fun q h => h) (fun q _ h => h) ?_ (fun r0 u t H1 locs1 ht hvm hw hB hz hk hS1 => by obtain ⟨h0, hw⟩ := hw; subst hw; exact kk h0 H1 locs1 ls (by rw [← ht]; exact hB) hS1 hl)
  intro E ce q9 u t H1 locs1 ht hvm hpx hB hz hk hS1 hce hcv hcl
  obtain ⟨rfl, hB⟩ := hB
  have hB1 : nWd D cl ct ad S N1 H1 := by rw [← ht]; exact hB
  by_cases hx1 : x = 1
  · refine vx_catch (own := own) (name := eIA) hC.1.2.2.2.1 [] _ _ (htab.trans rfl) (fun z hz => by cases hz) ?_ h40 (hC.1.2.2.2.2 _ hlk1) ?_ hce hcv hcl (k1 hx1 q9 H1 locs1 ls hB1 hS1 hl)
    · simp [covers, hcov.1, hcov.2]
    · rw [hx1]; exact va_Nw.use rfl hca
  · have e9 : eN x = eIS := by unfold eN; rw [if_neg hx1]
    refine vx_catch (own := own) (name := eIS) hC.1.2.2.2.1 [_] _ [] (htab.trans rfl) (fun z hz => ?_) ?_ h80 (hC.1.2.2.2.2 _ hlk2) ?_ hce hcv hcl (k2 hpx hx1 q9 H1 locs1 ls hB1 hS1 hl)
    · obtain rfl := List.mem_singleton.mp hz
      exact Or.inr ⟨h40, eIA, hC.1.2.2.2.2 _ hlk1, by rw [e9]; exact hnc⟩
    · simp [covers, hcov2.1, hcov2.2]
    · rw [e9]; exact va_Nw.use rfl hcs
theorem nvw_calll1 (hC : nC p s m args c D cl ct A ad S nL cc own Ts) (hx9 : nX A s s.heap) {u1 u2 u3 u4 : Nat} (htab : c.exceptionTable.toList = tableOf [(u1, u2, u3, u4)]) {mc1 ms1 : Nat} {x r : Int} {N1 : nS} {a : Array Value} {st0 : List Value} (hr : nRunx p l e R s m args below meth c cells slots mc1 ms1 D cl ct A ad S nL N pc st0 st (nQxl D cl ct A ad S x r N1 a) (nXc D cl ct A ad S x N1)) (hcov : u1 ≤ pc ∧ pc < u2) (hlk1 : Cond.classLink own u4 eIA ∈ Ts) (h40 : u4 ≠ 0)
    (kk : x = 0 → nV p l e R s m args below meth c (cells + mc1) (slots + ms1) Q D cl ct A ad S nL N1 (pc + 3) lv (.long (lI r) :: st)) (k1 : x = 1 → ∀ q9 : Nat, nV p l e R s m args below meth c (cells + mc1) (slots + ms1) Q D cl ct A ad S nL N1 u3 lv [.ref q9]) (k2 : ¬ x = 0 → x = 1) : nV p l e R s m args below meth c cells slots Q D cl ct A ad S nL N pc lv st0 := by
  obtain ⟨-, -, hca, hcs, -, -, hnc⟩ := hx9
  intro H locs ls hP hS hl
  refine vx_calll (hr H locs ls hP hS hl.1) hS (fun q _ h => h) (fun q h => h) (fun q _ h => h) ?_ (fun r0 u t H1 locs1 ht hvm hw hB hz hk hS1 => by obtain ⟨h0, hw⟩ := hw; subst hw; exact kk h0 H1 locs1 ls (by rw [← ht]; exact hB) hS1 hl)
  intro E ce q9 u t H1 locs1 ht hvm hpx hB hz hk hS1 hce hcv hcl
  obtain ⟨rfl, hB⟩ := hB
  have hB1 : nWd D cl ct ad S N1 H1 := by rw [← ht]; exact hB
  have hx1 := k2 hpx
  refine vx_catch (own := own) (name := eIA) hC.1.2.2.2.1 [] _ [] (htab.trans rfl) (fun z hz => by cases hz) ?_ h40 (hC.1.2.2.2.2 _ hlk1) ?_ hce hcv hcl (k1 hx1 q9 H1 locs1 ls hB1 hS1 hl)
  · simp [covers, hcov.1, hcov.2]
  · rw [hx1]; exact va_Nw.use rfl hca
theorem nvw_calll2 (hC : nC p s m args c D cl ct A ad S nL cc own Ts) (hx9 : nX A s s.heap) {u1 u2 u3 u4 u5 u6 u7 u8 : Nat} (htab : c.exceptionTable.toList = tableOf [(u1, u2, u3, u4), (u5, u6, u7, u8)]) {mc1 ms1 : Nat} {x r : Int} {N1 : nS} {a : Array Value} {st0 : List Value} (hr : nRunx p l e R s m args below meth c cells slots mc1 ms1 D cl ct A ad S nL N pc st0 st (nQxl D cl ct A ad S x r N1 a) (nXc D cl ct A ad S x N1)) (hcov : u1 ≤ pc ∧ pc < u2) (hcov2 : u5 ≤ pc ∧ pc < u6) (hlk1 : Cond.classLink own u4 eIA ∈ Ts) (h40 : u4 ≠ 0) (hlk2 : Cond.classLink own u8 eIS ∈ Ts) (h80 : u8 ≠ 0)
    (kk : x = 0 → nV p l e R s m args below meth c (cells + mc1) (slots + ms1) Q D cl ct A ad S nL N1 (pc + 3) lv (.long (lI r) :: st)) (k1 : x = 1 → ∀ q9 : Nat, nV p l e R s m args below meth c (cells + mc1) (slots + ms1) Q D cl ct A ad S nL N1 u3 lv [.ref q9]) (k2 : ¬ x = 0 → ¬ x = 1 → ∀ q9 : Nat, nV p l e R s m args below meth c (cells + mc1) (slots + ms1) Q D cl ct A ad S nL N1 u7 lv [.ref q9]) : nV p l e R s m args below meth c cells slots Q D cl ct A ad S nL N pc lv st0 := by
  obtain ⟨-, -, hca, hcs, -, -, hnc⟩ := hx9
  intro H locs ls hP hS hl
  refine vx_calll (hr H locs ls hP hS hl.1) hS (fun q _ h => h) (fun q h => h) (fun q _ h => h) ?_ (fun r0 u t H1 locs1 ht hvm hw hB hz hk hS1 => by obtain ⟨h0, hw⟩ := hw; subst hw; exact kk h0 H1 locs1 ls (by rw [← ht]; exact hB) hS1 hl)
  intro E ce q9 u t H1 locs1 ht hvm hpx hB hz hk hS1 hce hcv hcl
  obtain ⟨rfl, hB⟩ := hB
  have hB1 : nWd D cl ct ad S N1 H1 := by rw [← ht]; exact hB
  by_cases hx1 : x = 1
  · refine vx_catch (own := own) (name := eIA) hC.1.2.2.2.1 [] _ _ (htab.trans rfl) (fun z hz => by cases hz) ?_ h40 (hC.1.2.2.2.2 _ hlk1) ?_ hce hcv hcl (k1 hx1 q9 H1 locs1 ls hB1 hS1 hl)
    · simp [covers, hcov.1, hcov.2]
    · rw [hx1]; exact va_Nw.use rfl hca
  · have e9 : eN x = eIS := by unfold eN; rw [if_neg hx1]
    refine vx_catch (own := own) (name := eIS) hC.1.2.2.2.1 [_] _ [] (htab.trans rfl) (fun z hz => ?_) ?_ h80 (hC.1.2.2.2.2 _ hlk2) ?_ hce hcv hcl (k2 hpx hx1 q9 H1 locs1 ls hB1 hS1 hl)
    · obtain rfl := List.mem_singleton.mp hz
      exact Or.inr ⟨h40, eIA, hC.1.2.2.2.2 _ hlk1, by rw [e9]; exact hnc⟩
    · simp [covers, hcov2.1, hcov2.2]
    · rw [e9]; exact va_Nw.use rfl hcs
def nRunw (p : Program) (l : Launch) (e : Env) (R : Room) (s : State) (m : MethodId) (args : Array Value) (below : List Frame) (meth : Method) (c : Code) (cells slots mc1 ms1 : Nat) (D : va_G) (cl : List vw_C) (ct : Nat → ClassId) (A : Nat → Prop) (ad : Nat → Nat) (S : nH) (nL : Nat) (N : nS) (pc : Nat) (st0 rest : List Value) (Qa : State → Outcome → State → Prop) : Prop :=
  ∀ (H : Heap) (locs : List Loc) (ls : Array Slot), nWd D cl ct ad S N H → va_S A s.heap H locs → ls.size = nL → va_Run p l e R s m args below meth c H locs cells slots mc1 ms1 (F0 m pc ls st0) rest Qa A
theorem nvw_cally {x : Int} {N' : nS} {a : Array Value} {st0 : List Value} {mc1 ms1 : Nat} (hr : nRunw p l e R s m args below meth c cells slots mc1 ms1 D cl ct A ad S nL N pc st0 st (nQi D cl ct A ad S x N' a)) (kk : nV p l e R s m args below meth c (cells + mc1) (slots + ms1) Q D cl ct A ad S nL N' (pc + 3) lv (.int (iI x) :: st)) : nV p l e R s m args below meth c cells slots Q D cl ct A ad S nL N pc lv st0 := fun H locs ls hP hS hl => va_calli (hr H locs ls hP hS hl.1) hS (fun q _ h => h) (fun q h => h) (fun r u t H1 locs1 ht hvm hw hB hz hk hS1 => by subst hw; exact kk H1 locs1 ls (by rw [← ht]; exact hB) hS1 hl)
theorem nrw_S (hC : nC p s m args c D cl ct A ad S nL cc own Ts) (hx : nX A s s.heap) {y : MethodName} {bytes : ByteArray} {maxL n index mc1 ms1 : Nat} {ret : Option FieldType} {hh : List (Nat × Nat × Nat × Nat)} {ws : List Cond} {rm : Room} {Qc : Array Value → State → Outcome → State → Prop} {As st0 : List Value} (hM : nMw l y ws rm mc1 ms1 D cl ct A ad S N As Qc) (cw : vx_CSW R s args own index y bytes maxL ret hh ws rm mc1 ms1 n) (hn : As.length = n) (hst : st0 = As.reverse ++ st) (hW : (st.map fun v => v.category).sum ≤ 8) (hcs : cells + mc1 ≤ R.cells ∧ slots + ms1 ≤ R.slots) (hdg : decode cc pc = .ok (.invokestatic index, 3)) : nRunw p l e R s m args below meth c cells slots mc1 ms1 D cl ct A ad S nL N pc st0 st (Qc As.toArray) := fun H locs ls hP hS hl => vx_runSW hC.1 hM cw ⟨nPx_blind, nrx_pre hC hx hP hS⟩ rfl hn hl hst (lv_room hW) hdg hcs
/-- the script -/
theorem nv_sld (hC : nC p s m args c D cl ct A ad S nL cc own Ts) {b L : Nat} {X : Nat → Int} (hX : va_X b L (fun j => iI (X j)) s s.heap) (hbl : b < s.heap.size) (hbA : ¬ A b) {i y : Int} (hL : L < 2147483648) (hi : 0 ≤ i ∧ i < (L : Int)) (hv : X (Int.toNat i) = y) (hdg : decode cc pc = .ok (.iaload, 1)) (kk : nV p l e R s m args below meth c cells slots Q D cl ct A ad S nL N (pc + 1) lv (.int (iI y) :: st)) : nV p l e R s m args below meth c cells slots Q D cl ct A ad S nL N pc lv (.int (iI i) :: .ref b :: st) := fun H locs ls hP hS hl => va_sld hC.1.1 hC.1.2.1 hX hbl hbA hS (iI_in hL hi) hdg (by rw [iI_cl hL hi, hv]; exact kk H locs ls hP hS hl)
theorem nv_slen (hC : nC p s m args c D cl ct A ad S nL cc own Ts) {b L : Nat} {xs : Nat → Int32} (hX : va_X b L xs s s.heap) (hbl : b < s.heap.size) (hbA : ¬ A b) (hdg : decode cc pc = .ok (.arraylength, 1)) (kk : nV p l e R s m args below meth c cells slots Q D cl ct A ad S nL N (pc + 1) lv (.int (iI (L : Int)) :: st)) : nV p l e R s m args below meth c cells slots Q D cl ct A ad S nL N pc lv (.ref b :: st) := fun H locs ls hP hS hl => va_slen hC.1.1 hC.1.2.1 hX hbl hbA hS hdg (by first | (rw [show (nI L) = iI (L : Int) from iI_nat]; exact kk H locs ls hP hS hl) | (rw [iI_nat]; exact kk H locs ls hP hS hl))
theorem iI_and15 (y : Int) : iI y &&& iI 15 = iI (y % 16) := by
  rw [pk_and (iI y) (m := iI 15) 4 (by decide)]
  have h : (iI y).toBitVec.toNat % 2 ^ 4 = (y % 16).toNat := by
    show (BitVec.ofInt 32 y).toNat % 2 ^ 4 = _
    rw [BitVec.toNat_ofInt]
    omega
  rw [h]
  show Int32.ofNat _ = _
  rw [iI_nat, Int.toNat_of_nonneg (by omega)]
theorem nv_iand15 (hC : nC p s m args c D cl ct A ad S nL cc own Ts) {y : Int} (hdg : decode cc pc = .ok (.iand, 1)) (kk : nV p l e R s m args below meth c cells slots Q D cl ct A ad S nL N (pc + 1) lv (.int (iI (y % 16)) :: st)) : nV p l e R s m args below meth c cells slots Q D cl ct A ad S nL N pc lv (.int (iI 15) :: .int (iI y) :: st) := fun H locs ls hP hS hl => lv_iand hC.1.1 hC.1.2.1 hdg (by rw [iI_and15]; exact kk H locs ls hP hS hl)
theorem lI_cmp {a b : Int} (ha : rl a) (hb : rl b) : lg_cmp (lI a) (lI b) = iI (if b < a then 1 else if a = b then 0 else -1) := by
  unfold lg_cmp
  by_cases h : b < a
  · rw [if_pos h, if_pos (by show lI b < lI a; exact (lI_lt hb ha).mpr h)]; rfl
  · rw [if_neg h, if_neg (by show ¬ lI b < lI a; exact fun q => h ((lI_lt hb ha).mp q))]
    by_cases h2 : a = b
    · rw [if_pos h2, if_pos (by rw [h2])]; rfl
    · rw [if_neg h2, if_neg (fun q => h2 ((lI_eq ha hb).mp q))]; rfl
theorem nv_lcmp (hC : nC p s m args c D cl ct A ad S nL cc own Ts) {a b : Int} (ha : rl a) (hb : rl b) (hdg : decode cc pc = .ok (.lcmp, 1)) (kk : nV p l e R s m args below meth c cells slots Q D cl ct A ad S nL N (pc + 1) lv (.int (iI (if b < a then 1 else if a = b then 0 else -1)) :: st)) : nV p l e R s m args below meth c cells slots Q D cl ct A ad S nL N pc lv (.long (lI b) :: .long (lI a) :: st) := fun H locs ls hP hS hl => W.lcmp hC.1.1 hC.1.2.1 hdg (by rw [lI_cmp ha hb]; exact kk H locs ls hP hS hl)
theorem rg_cmp {a b : Int} : rg (if b < a then 1 else if a = b then 0 else -1) := by
  split
  · exact ⟨by decide, by decide⟩
  · split <;> exact ⟨by decide, by decide⟩
theorem rg_m16 {y : Int} : rg (y % 16) := ⟨by omega, by omega⟩
theorem rl_rg {y : Int} (h : rg y) : rl y := ⟨by have := h.1; omega, by have := h.2; omega⟩
end NL
