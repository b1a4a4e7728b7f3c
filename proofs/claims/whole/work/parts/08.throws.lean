def eIA : String := "java/lang/IllegalArgumentException"
def eIS : String := "java/lang/IllegalStateException"
def eN (x : Int) : String := if x = 1 then eIA else eIS
def nStr : List (Nat × String) := [(172, "there is no such pipe"), (175, "a number is out of its bounds"), (53, "there are 10 pipes"), (61, "a minute is over"), (84, "the pipe has no tap"), (86, "the minute is over"), (89, "there are 60 draws"), (92, "there would be more than 3000 minutes"), (177, "a number is below 0")]
def nDec : List MethodName := [Bundle.initS "java/lang/RuntimeException", Bundle.initS "java/lang/Exception", Bundle.initS "java/lang/Throwable"]
/-- what a throw needs beside the words -/
def nX (A : Nat → Prop) (U : State) (H : Heap) : Prop := vx_Zq Bundle.tN "UNASSIGNED_STACK" Bundle.steD A U H ∧ vx_Zq Bundle.tN "SUPPRESSED_SENTINEL" Bundle.listD A U H ∧ va_Nw (.castable eIA eIA) U ∧ va_Nw (.castable eIS eIS) U ∧ (∀ q ∈ nStr, ∃ sa, vk_R "HotLoops" q.1 q.2 sa U) ∧ (∀ y ∈ nDec, va_Nw (.declares y) U) ∧ va_Nc eIS eIA U
theorem nX.go {A : Nat → Prop} {s U : State} {H : Heap} {locs : List Loc} (h : nX A s s.heap) (hW : s.WarmedH U.vm) (hS : va_S A s.heap H locs) : nX A U H := by
  obtain ⟨h1, h2, h3, h4, h5, h6, h7⟩ := h
  refine ⟨(h1.moved hW.alike).kept (fun a ha hn => hS.2.1 a ha hn), (h2.moved hW.alike).kept (fun a ha hn => hS.2.1 a ha hn), va_Nw.warmC hW h3, va_Nw.warmC hW h4, fun q hq => ?_, fun y hy => va_Nw.warmD hW (h6 y hy), h7.moved hW.alike⟩
  obtain ⟨sa, h⟩ := h5 q hq
  exact ⟨sa, vk_R.warm hW h⟩
theorem nX.same {A : Nat → Prop} {s U : State} {H : Heap} (h : nX A s H) (hv : U.vm = s.vm) : nX A U H := by
  obtain ⟨h1, h2, h3, h4, h5, h6, h7⟩ := h
  have ha : s.vm.Alike U.vm := by rw [hv]; exact Vm.Alike.refl s.vm
  refine ⟨h1.moved ha, h2.moved ha, va_Nw.same rfl hv.symm h3, va_Nw.same rfl hv.symm h4, fun q hq => ?_, fun y hy => va_Nw.same rfl hv.symm (h6 y hy), h7.moved ha⟩
  obtain ⟨sa, h⟩ := h5 q hq
  exact ⟨sa, vk_R.same hv h⟩
def nPx (D : va_G) (cl : List vw_C) (ct : Nat → ClassId) (A : Nat → Prop) (ad : Nat → Nat) (S : nH) (N : nS) (av : List Value) : Array Value → State → Prop := va_Pc av (fun U => ((∀ q, U.heap.size ≤ q → A q) ∧ nWd D cl ct ad S N U.heap ∧ va_K D cl (nt ct) U) ∧ nX A U U.heap)
theorem nPx_blind {D : va_G} {cl : List vw_C} {ct : Nat → ClassId} {A : Nat → Prop} {ad : Nat → Nat} {S : nH} {N : nS} {av : List Value} : FrameBlind (nPx D cl ct A ad S N av) := fun a U g mk q => by
  obtain ⟨q0, ⟨q1, qP, qK⟩, qX⟩ := q
  exact ⟨q0, ⟨q1, qP, va_K.moved (u := U) (U := U.calling g mk a) (Vm.Alike.refl U.vm) qK⟩, nX.same (s := U) (U := U.calling g mk a) qX rfl⟩
def nQxi (D : va_G) (cl : List vw_C) (ct : Nat → ClassId) (A : Nat → Prop) (ad : Nat → Nat) (S : nH) (x r : Int) (N : nS) : Array Value → State → Outcome → State → Prop := va_Qi (fun r0 (_ : Unit) => x = 0 ∧ r0 = iI r) (fun _ t => nWd D cl ct ad S N t.heap) A
def nQxl (D : va_G) (cl : List vw_C) (ct : Nat → ClassId) (A : Nat → Prop) (ad : Nat → Nat) (S : nH) (x r : Int) (N : nS) : Array Value → State → Outcome → State → Prop := va_Ql (fun r0 (_ : Unit) => x = 0 ∧ r0 = lI r) (fun _ t => nWd D cl ct ad S N t.heap) A
def nQxv (D : va_G) (cl : List vw_C) (ct : Nat → ClassId) (A : Nat → Prop) (ad : Nat → Nat) (S : nH) (x : Int) (N : nS) : Array Value → State → Outcome → State → Prop := va_Qv (fun (_ : Unit) => x = 0) (fun _ t => nWd D cl ct ad S N t.heap) A
def nXc (D : va_G) (cl : List vw_C) (ct : Nat → ClassId) (A : Nat → Prop) (ad : Nat → Nat) (S : nH) (x : Int) (N : nS) : String → State → State → Prop := vx_X (fun (_ : Unit) => ¬ x = 0) (fun E _ t => E = eN x ∧ nWd D cl ct ad S N t.heap) A
def nMx (l : Launch) (y : MethodName) (ws : List Cond) (rm : Room) (mc ms : Nat) (D : va_G) (cl : List vw_C) (ct : Nat → ClassId) (A : Nat → Prop) (ad : Nat → Nat) (S : nH) (N : nS) (av : List Value) (Qc : Array Value → State → Outcome → State → Prop) (x : Int) (No : nS) : Prop := vx_Met l y ws rm (nPx D cl ct A ad S N av) Qc (nXc D cl ct A ad S x No) mc ms A
/-- what holds all through a method that may throw -/
def nCx (l : Launch) (p : Program) (s : State) (m : MethodId) (args : Array Value) (meth : Method) (c : Code) (D : va_G) (cl : List vw_C) (ct : Nat → ClassId) (A : Nat → Prop) (ad : Nat → Nat) (S : nH) (nL : Nat) (cc : ByteArray) (own : String) (Ts : List Cond) : Prop :=
  nC p s m args c D cl ct A ad S nL cc own Ts ∧ nX A s s.heap ∧ l.stackTraces = false ∧ (∀ x ∈ c.exceptionTable.toList, False) ∧ meth.locks = false
set_option maxHeartbeats 1000000 in
theorem nMx_of {l : Launch} {y : MethodName} {ws ws' : List Cond} {rm : Room} {mc ms : Nat} {D : va_G} {cl : List vw_C} {ct : Nat → ClassId} {A : Nat → Prop} {ad : Nat → Nat} {S : nH} {N : nS} {av : List Value} {Qc : Array Value → State → Outcome → State → Prop} {x : Int} {No : nS} {cc : ByteArray} {maxL : Nat} {ret : Option FieldType} (hy : plainName y.cls = true) (hw : ws = Cond.code y cc maxL ret :: ws') (hsz : (lg_sl av).length ≤ maxL) (hD : nD ad A S.length) (hl0 : l.stackTraces = false)
    (body : ∀ (p : Program) (e : Env) (s : State) (m : MethodId) (below : List Frame) (meth : Method) (c : Code), nC p s m av.toArray c D cl ct A ad S maxL cc y.cls ws' → nCx l p s m av.toArray meth c D cl ct A ad S maxL cc y.cls ws' → meth.sig.returnType = ret → nV p l e rm s m av.toArray below meth c 0 0 (vx_MQ below Qc (nXc D cl ct A ad S x No) av.toArray s mc ms A) D cl ct A ad S maxL N 0 (lv_args 0 av) []) : nMx l y ws rm mc ms D cl ct A ad S N av Qc x No := by
  refine vx_ofW (cc := cc) (maxL := maxL) (ret := ret) hy hw ?_
  intro p e s m args below meth c s₁ B hml ht hv
  obtain ⟨rfl, ⟨hA, hP, hK⟩, hX⟩ := hv
  have hown : s.vm.findClass y.cls = some m.cls := findClass_of_methodNamed B.named
  have hts0 := atoms_spec (ws := ws) B.pre
  have hts : ∀ w ∈ ws', w.before av.toArray s = true := fun w h => hts0 w (by rw [hw]; exact List.mem_cons_of_mem _ h)
  have hl := lv_entry av (n := maxL) hsz
  rw [lg_entry_eq]
  have hC : nC p s m av.toArray c D cl ct A ad S maxL cc y.cls ws' := ⟨⟨B.exec, B.bytes, hml, hown, hts⟩, hK, hD, hA⟩
  exact body p e s m below meth c hC ⟨hC, hX, hl0, ht, B.notSynchronized⟩ B.returns s.heap [] _ hP va_S.rf hl
section NX
variable {p : Program} {l : Launch} {e : Env} {R : Room} {s : State} {m : MethodId} {args : Array Value} {below : List Frame} {meth : Method} {c : Code} {cells slots mc ms : Nat} {Q : State → Prop} {D : va_G} {cl : List vw_C} {ct : Nat → ClassId} {A : Nat → Prop} {ad : Nat → Nat} {S : nH} {nL : Nat} {N : nS} {pc : Nat} {lv : List (Nat × Value)} {st : List Value} {cc : ByteArray} {own : String} {Ts : List Cond}
theorem nvx_iret (hC : nC p s m args c D cl ct A ad S nL cc own Ts) {r : Int} (hr : meth.sig.returnType = some .int) (hlk : meth.locks = false) (h1 : cells ≤ mc) (h2 : slots ≤ ms) (hdg : decode cc pc = .ok (.ireturn, 1)) : nV p l e R s m args below meth c cells slots (vx_MQ below (nQxi D cl ct A ad S 0 r N) (nXc D cl ct A ad S 0 N) args s mc ms A) D cl ct A ad S nL N pc lv [.int (iI r)] := fun H locs ls hP hS hl => W.widen h1 h2 (vx_ret (W.iret (v := iI r) hC.1.1 hC.1.2.1 hr (fun t ht hW => ⟨⟨iI r, (), rfl, ⟨rfl, rfl⟩, by show nWd D cl ct ad S N t.heap; rw [ht]; exact hP⟩, hS.F ht⟩) hS.2.2 hdg hlk))
theorem nvx_lret (hC : nC p s m args c D cl ct A ad S nL cc own Ts) {r : Int} (hr : meth.sig.returnType = some .long) (hlk : meth.locks = false) (h1 : cells ≤ mc) (h2 : slots ≤ ms) (hdg : decode cc pc = .ok (.lreturn, 1)) : nV p l e R s m args below meth c cells slots (vx_MQ below (nQxl D cl ct A ad S 0 r N) (nXc D cl ct A ad S 0 N) args s mc ms A) D cl ct A ad S nL N pc lv [.long (lI r)] := fun H locs ls hP hS hl => W.widen h1 h2 (vx_ret (W.lret (v := lI r) hC.1.1 hC.1.2.1 hr (fun t ht hW => ⟨⟨lI r, (), rfl, ⟨rfl, rfl⟩, by show nWd D cl ct ad S N t.heap; rw [ht]; exact hP⟩, hS.F ht⟩) hS.2.2 hdg hlk))
theorem nvx_zret (hC : nC p s m args c D cl ct A ad S nL cc own Ts) {r : Int} (hr : meth.sig.returnType = some .boolean) (hlk : meth.locks = false) (hz : r = 0 ∨ r = 1) (h1 : cells ≤ mc) (h2 : slots ≤ ms) (hdg : decode cc pc = .ok (.ireturn, 1)) : nV p l e R s m args below meth c cells slots (vx_MQ below (nQxi D cl ct A ad S 0 r N) (nXc D cl ct A ad S 0 N) args s mc ms A) D cl ct A ad S nL N pc lv [.int (iI r)] := fun H locs ls hP hS hl => W.widen h1 h2 (vx_ret (W.zret (v := iI r) hC.1.1 hC.1.2.1 hr (by rcases hz with rfl | rfl <;> rfl) (fun t ht hW => ⟨⟨iI r, (), rfl, ⟨rfl, rfl⟩, by show nWd D cl ct ad S N t.heap; rw [ht]; exact hP⟩, hS.F ht⟩) hS.2.2 hdg hlk))
theorem nvx_vret (hC : nC p s m args c D cl ct A ad S nL cc own Ts) (hr : meth.sig.returnType = none) (hlk : meth.locks = false) (h1 : cells ≤ mc) (h2 : slots ≤ ms) (hdg : decode cc pc = .ok (.return_, 1)) : nV p l e R s m args below meth c cells slots (vx_MQ below (nQxv D cl ct A ad S 0 N) (nXc D cl ct A ad S 0 N) args s mc ms A) D cl ct A ad S nL N pc lv [] := fun H locs ls hP hS hl => W.widen h1 h2 (vx_ret (W.vret hC.1.1 hC.1.2.1 hr (fun t ht hW => ⟨⟨(), rfl, rfl, by show nWd D cl ct ad S N t.heap; rw [ht]; exact hP⟩, hS.F ht⟩) hS.2.2 hdg hlk))
/-- a throw: new E("text") -/
theorem nvx_throw (hX : nCx l p s m args meth c D cl ct A ad S nL cc own Ts) {Qc : Array Value → State → Outcome → State → Prop} {x : Int} {ik is ic : Nat} {text : String} (hx0 : ¬ x = 0) (hown : own = "HotLoops") (hstr : (is, text) ∈ nStr)
    (hcls : Bundle.fit (eN x) = true) (hk : Cond.classLink own ik (eN x) ∈ Ts) (hini : Cond.initialized (eN x) ∈ Ts) (hat : ∀ w ∈ (vx_atS own ic (eN x) ["java/lang/RuntimeException", "java/lang/Exception"]).filter goodWord, w ∈ Ts) (hb2 : ∀ w ∈ (vx_atS own ic (eN x) ["java/lang/RuntimeException", "java/lang/Exception"]).filter (fun w => !goodWord w), w ∈ Cond.castable (eN x) (eN x) :: nDec.map Cond.declares)
    (hgood : ∀ w ∈ Cond.classLink own ik (eN x) :: Cond.initialized (eN x) :: vx_atS own ic (eN x) ["java/lang/RuntimeException", "java/lang/Exception"], vx_ot w = true)
    (d0 : decode cc pc = .ok (.new ik, 3)) (d3 : decode cc (pc + 3) = .ok (.dup, 1)) (d4 : decode cc (pc + 4) = .ok (.ldc is, 2)) (d6 : decode cc (pc + 6) = .ok (.invokespecial ic, 3)) (d9 : decode cc (pc + 9) = .ok (.athrow, 1))
    (hRf : 5 < R.frames) (hRl : (st.map fun v => v.category).sum + 82 ≤ R.locals) (hRc : cells + 1 ≤ R.cells) (hRs : slots + 6 ≤ R.slots) (h1 : cells + 1 ≤ mc) (h2 : slots + 6 ≤ ms) : nV p l e R s m args below meth c cells slots (vx_MQ below Qc (nXc D cl ct A ad S x N) args s mc ms A) D cl ct A ad S nL N pc lv st := by
  obtain ⟨hC, ⟨hU, hN, hca, hcs, hst, hdc, -⟩, hl0, htab, hlk⟩ := hX
  subst hown
  obtain ⟨sa, hsa⟩ := hst _ hstr
  have hcast : (Cond.castable (eN x) (eN x)).before args s = true := by
    unfold eN
    split
    · exact va_Nw.use rfl hca
    · exact va_Nw.use rfl hcs
  intro H locs ls hP hS hl
  refine vx_throwS (names := ["java/lang/RuntimeException", "java/lang/Exception"]) hC.1.1 hC.1.2.1 hl0 hC.1.2.2.2.1 hcls (by decide) (hC.1.2.2.2.2 _ hk) (hC.1.2.2.2.2 _ hini) hsa (vx_hat (fun w hw => hC.1.2.2.2.2 w (hat w hw)) hb2 (vx_c hcast (fun w9 hw9 => by obtain ⟨y9, hy9, rfl⟩ := List.mem_map.mp hw9; exact va_Nw.use rfl (hdc y9 hy9)))) hgood hU hN hS (hl.1.trans hC.1.2.2.1.symm) d0 d3 d4 d6 d9 (fun z hz => absurd hz (fun h => htab z h)) hRf hRl hRc hRs hlk ?_ hS.2.2 h1 h2
  intro t hv hz hq
  refine ⟨(), hx0, ⟨rfl, ?_⟩, Nat.le_trans hS.1 hz, fun q h3 h4 => (hq q (Nat.lt_of_lt_of_le h3 hS.1)).trans (hS.2.1 q h3 h4)⟩
  exact hP.kept (fun k q hk => hq q.1 (hP k q hk).lt)
/-- a call of a method that may throw -/
def nRunx (p : Program) (l : Launch) (e : Env) (R : Room) (s : State) (m : MethodId) (args : Array Value) (below : List Frame) (meth : Method) (c : Code) (cells slots mc1 ms1 : Nat) (D : va_G) (cl : List vw_C) (ct : Nat → ClassId) (A : Nat → Prop) (ad : Nat → Nat) (S : nH) (nL : Nat) (N : nS) (pc : Nat) (st0 rest : List Value) (Qa : State → Outcome → State → Prop) (XC : String → State → State → Prop) : Prop :=
  ∀ (H : Heap) (locs : List Loc) (ls : Array Slot), nWd D cl ct ad S N H → va_S A s.heap H locs → ls.size = nL → vx_Run p l e R s m args below meth c H locs cells slots mc1 ms1 (F0 m pc ls st0) rest Qa XC A
theorem nvx_calli (hX : nCx l p s m args meth c D cl ct A ad S nL cc own Ts) {Qc : Array Value → State → Outcome → State → Prop} {mc1 ms1 : Nat} {x x0 : Int} {r : Int} {N1 No : nS} {a : Array Value} {st0 : List Value} (hr : nRunx p l e R s m args below meth c cells slots mc1 ms1 D cl ct A ad S nL N pc st0 st (nQxi D cl ct A ad S x r N1 a) (nXc D cl ct A ad S x N1)) (h1 : cells + mc1 ≤ mc) (h2 : slots + ms1 ≤ ms)
    (kk : x = 0 → nV p l e R s m args below meth c (cells + mc1) (slots + ms1) (vx_MQ below Qc (nXc D cl ct A ad S x0 No) args s mc ms A) D cl ct A ad S nL N1 (pc + 3) lv (.int (iI r) :: st)) (kx : ¬ x = 0 → x = x0 ∧ N1 = No) : nV p l e R s m args below meth c cells slots (vx_MQ below Qc (nXc D cl ct A ad S x0 No) args s mc ms A) D cl ct A ad S nL N pc lv st0 := by
  obtain ⟨hC, -, hl0, htab, hlk⟩ := hX
  intro H locs ls hP hS hl
  refine vx_calli (hr H locs ls hP hS hl.1) hS (fun q _ h => h) (fun q h => h) (fun q _ h => h) ?_ (fun r0 u t H1 locs1 ht hvm hw hB hz hk hS1 => by obtain ⟨h0, hw⟩ := hw; subst hw; exact kk h0 H1 locs1 ls (by rw [← ht]; exact hB) hS1 hl)
  intro E ce q9 u t H1 locs1 ht hvm hpx hB hz hk hS1 hce hcv hcl
  obtain ⟨rfl, rfl⟩ := kx hpx
  obtain ⟨rfl, hB⟩ := hB
  refine vx_out (fun z hz => absurd hz (fun h => htab z h)) hlk hce hcv hcl (fun t2 h3 h4 => ⟨(), hpx, ⟨rfl, ?_⟩, hS1.F h3⟩) hS1.2.2 h1 h2
  show nWd D cl ct ad S N1 t2.heap
  rw [h3, ← ht]
  exact hB
theorem nvx_calll (hX : nCx l p s m args meth c D cl ct A ad S nL cc own Ts) {Qc : Array Value → State → Outcome → State → Prop} {mc1 ms1 : Nat} {x x0 : Int} {r : Int} {N1 No : nS} {a : Array Value} {st0 : List Value} (hr : nRunx p l e R s m args below meth c cells slots mc1 ms1 D cl ct A ad S nL N pc st0 st (nQxl D cl ct A ad S x r N1 a) (nXc D cl ct A ad S x N1)) (h1 : cells + mc1 ≤ mc) (h2 : slots + ms1 ≤ ms)
    (kk : x = 0 → nV p l e R s m args below meth c (cells + mc1) (slots + ms1) (vx_MQ below Qc (nXc D cl ct A ad S x0 No) args s mc ms A) D cl ct A ad S nL N1 (pc + 3) lv (.long (lI r) :: st)) (kx : ¬ x = 0 → x = x0 ∧ N1 = No) : nV p l e R s m args below meth c cells slots (vx_MQ below Qc (nXc D cl ct A ad S x0 No) args s mc ms A) D cl ct A ad S nL N pc lv st0 := by
  obtain ⟨hC, -, hl0, htab, hlk⟩ := hX
  intro H locs ls hP hS hl
  refine vx_calll (hr H locs ls hP hS hl.1) hS (fun q _ h => h) (fun q h => h) (fun q _ h => h) ?_ (fun r0 u t H1 locs1 ht hvm hw hB hz hk hS1 => by obtain ⟨h0, hw⟩ := hw; subst hw; exact kk h0 H1 locs1 ls (by rw [← ht]; exact hB) hS1 hl)
  intro E ce q9 u t H1 locs1 ht hvm hpx hB hz hk hS1 hce hcv hcl
  obtain ⟨rfl, rfl⟩ := kx hpx
  obtain ⟨rfl, hB⟩ := hB
  refine vx_out (fun z hz => absurd hz (fun h => htab z h)) hlk hce hcv hcl (fun t2 h3 h4 => ⟨(), hpx, ⟨rfl, ?_⟩, hS1.F h3⟩) hS1.2.2 h1 h2
  show nWd D cl ct ad S N1 t2.heap
  rw [h3, ← ht]
  exact hB
theorem nvx_callv (hX : nCx l p s m args meth c D cl ct A ad S nL cc own Ts) {Qc : Array Value → State → Outcome → State → Prop} {mc1 ms1 : Nat} {x x0 : Int} {N1 No : nS} {a : Array Value} {st0 : List Value} (hr : nRunx p l e R s m args below meth c cells slots mc1 ms1 D cl ct A ad S nL N pc st0 st (nQxv D cl ct A ad S x N1 a) (nXc D cl ct A ad S x N1)) (h1 : cells + mc1 ≤ mc) (h2 : slots + ms1 ≤ ms)
    (kk : x = 0 → nV p l e R s m args below meth c (cells + mc1) (slots + ms1) (vx_MQ below Qc (nXc D cl ct A ad S x0 No) args s mc ms A) D cl ct A ad S nL N1 (pc + 3) lv st) (kx : ¬ x = 0 → x = x0 ∧ N1 = No) : nV p l e R s m args below meth c cells slots (vx_MQ below Qc (nXc D cl ct A ad S x0 No) args s mc ms A) D cl ct A ad S nL N pc lv st0 := by
  obtain ⟨hC, -, hl0, htab, hlk⟩ := hX
  intro H locs ls hP hS hl
  refine vx_callv (hr H locs ls hP hS hl.1) hS (fun q _ h => h) (fun q h => h) (fun q _ h => h) ?_ (fun u t H1 locs1 ht hvm hw hB hz hk hS1 => by exact kk hw H1 locs1 ls (by rw [← ht]; exact hB) hS1 hl)
  intro E ce q9 u t H1 locs1 ht hvm hpx hB hz hk hS1 hce hcv hcl
  obtain ⟨rfl, rfl⟩ := kx hpx
  obtain ⟨rfl, hB⟩ := hB
  refine vx_out (fun z hz => absurd hz (fun h => htab z h)) hlk hce hcv hcl (fun t2 h3 h4 => ⟨(), hpx, ⟨rfl, ?_⟩, hS1.F h3⟩) hS1.2.2 h1 h2
  show nWd D cl ct ad S N1 t2.heap
  rw [h3, ← ht]
  exact hB
theorem nrx_pre {av : List Value} (hC : nC p s m args c D cl ct A ad S nL cc own Ts) (hx : nX A s s.heap) {H : Heap} {locs : List Loc} (hP : nWd D cl ct ad S N H) (hS : va_S A s.heap H locs) : ∀ U : State, U.heap = H → s.WarmedH U.vm → nPx D cl ct A ad S N av av.toArray U := fun U hU hW => ⟨rfl, ⟨fun q hq => hC.2.2.2 q (Nat.le_trans hS.1 (by rw [← hU]; exact hq)), by rw [hU]; exact hP, va_K.moved hW.alike hC.2.1⟩, by rw [hU]; exact hx.go hW hS⟩
theorem nrx_V (hC : nC p s m args c D cl ct A ad S nL cc own Ts) (hx : nX A s s.heap) {y : MethodName} {bytes : ByteArray} {maxL n index mc1 ms1 : Nat} {ret : Option FieldType} {ws : List Cond} {rm : Room} {Qc : Array Value → State → Outcome → State → Prop} {x : Int} {N1 : nS} {As st0 : List Value} {k ci : Nat} {fs : List (Nat × Nat)} {C : String} {T : u_T} {F : Nat} (hs : S[k]? = some (4, ci, fs)) (hc : cl[ci]? = some (C, T, F)) (hM : nMx l y ws rm mc1 ms1 D cl ct A ad S N (.ref (ad k) :: As) Qc x N1) (cw : CallW R s args own C index y bytes maxL ret ws rm mc1 ms1 n) (hn : As.length = n) (hst : st0 = As.reverse ++ .ref (ad k) :: st) (hW : (st.map fun v => v.category).sum ≤ 8) (hcs : cells + mc1 ≤ R.cells ∧ slots + ms1 ≤ R.slots) (hdg : decode cc pc = .ok (.invokevirtual index, 3)) : nRunx p l e R s m args below meth c cells slots mc1 ms1 D cl ct A ad S nL N pc st0 st (Qc (Value.ref (ad k) :: As).toArray) (nXc D cl ct A ad S x N1) := fun H locs ls hP hS hl => vx_runV hC.1 hM cw ⟨nPx_blind, nr_recv hC hs hc hP, nrx_pre hC hx hP hS⟩ rfl hn hl hst (lv_room hW) hdg hcs
theorem nrx_S (hC : nC p s m args c D cl ct A ad S nL cc own Ts) (hx : nX A s s.heap) {y : MethodName} {bytes : ByteArray} {maxL n index mc1 ms1 : Nat} {ret : Option FieldType} {ws : List Cond} {rm : Room} {Qc : Array Value → State → Outcome → State → Prop} {x : Int} {N1 : nS} {As st0 : List Value} (hM : nMx l y ws rm mc1 ms1 D cl ct A ad S N As Qc x N1) (cw : CallB R s args own index y bytes maxL ret ws rm mc1 ms1 n ∧ (Cond.static y).before args s = true) (hn : As.length = n) (hst : st0 = As.reverse ++ st) (hW : (st.map fun v => v.category).sum ≤ 8) (hcs : cells + mc1 ≤ R.cells ∧ slots + ms1 ≤ R.slots) (hdg : decode cc pc = .ok (.invokestatic index, 3)) : nRunx p l e R s m args below meth c cells slots mc1 ms1 D cl ct A ad S nL N pc st0 st (Qc As.toArray) (nXc D cl ct A ad S x N1) := fun H locs ls hP hS hl => vx_runS hC.1 hM cw ⟨nPx_blind, nrx_pre hC hx hP hS⟩ rfl hn hl hst (lv_room hW) hdg hcs
theorem retx_s {x r x0 r0 : Int} {N No : nS} (h : some ((x, r), N) = some ((x0, r0), No)) : x = x0 ∧ r = r0 ∧ N = No := by
  cases h
  exact ⟨rfl, rfl, rfl⟩
theorem retx_x {x r x0 r0 : Int} {N No : nS} (h : some ((x, r), N) = some ((x0, r0), No)) : x = x0 ∧ N = No := ⟨(retx_s h).1, (retx_s h).2.2⟩
end NX
