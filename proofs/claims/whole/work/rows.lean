section
-- ===== PART A: goes FIRST, ahead of the names: the tables' words, and 'selects' of the private methods out of them =====
/-- a private method of a class that the tables say can be made, by its rows of tables_1 -/
def lw_okq (q : MethodName × Nat) : Prop := (q.1.cls ≠ "java/lang/invoke/MethodHandle" ∧ q.1.cls ≠ "java/lang/invoke/VarHandle") ∧ Cond.instantiable q.1.cls q.2 ∈ tables_1 ∧ Cond.privateMethod q.1 ∈ tables_1 ∧ Cond.instanceMethod q.1 ∈ tables_1
theorem lw_p0 : lw_okq (⟨"HotLoops", "needPipe", "(I)V"⟩, 5) := ⟨⟨by decide +kernel, by decide +kernel⟩, List.mem_of_getElem? (i := 14) (by decide +kernel), List.mem_of_getElem? (i := 199) (by decide +kernel), List.mem_of_getElem? (i := 200) (by decide +kernel)⟩
theorem lw_p1 : lw_okq (⟨"java/lang/Throwable", "fillInStackTrace", "(I)Ljava/lang/Throwable;"⟩, 6) := ⟨⟨by decide +kernel, by decide +kernel⟩, List.mem_of_getElem? (i := 240) (by decide +kernel), List.mem_of_getElem? (i := 238) (by decide +kernel), List.mem_of_getElem? (i := 239) (by decide +kernel)⟩
theorem lw_p2 : lw_okq (⟨"HotLoops", "takeDraws", "()V"⟩, 5) := ⟨⟨by decide +kernel, by decide +kernel⟩, List.mem_of_getElem? (i := 14) (by decide +kernel), List.mem_of_getElem? (i := 359) (by decide +kernel), List.mem_of_getElem? (i := 360) (by decide +kernel)⟩
theorem lw_p3 : lw_okq (⟨"HotLoops$Water", "findWay", "(I)I"⟩, 14) := ⟨⟨by decide +kernel, by decide +kernel⟩, List.mem_of_getElem? (i := 57) (by decide +kernel), List.mem_of_getElem? (i := 371) (by decide +kernel), List.mem_of_getElem? (i := 372) (by decide +kernel)⟩
theorem lw_p4 : lw_okq (⟨"HotLoops$Water", "pushThrough", "(I)V"⟩, 14) := ⟨⟨by decide +kernel, by decide +kernel⟩, List.mem_of_getElem? (i := 57) (by decide +kernel), List.mem_of_getElem? (i := 375) (by decide +kernel), List.mem_of_getElem? (i := 376) (by decide +kernel)⟩
theorem lw_p5 : lw_okq (⟨"HotLoops$Plugs", "likest", "()I"⟩, 3) := ⟨⟨by decide +kernel, by decide +kernel⟩, List.mem_of_getElem? (i := 64) (by decide +kernel), List.mem_of_getElem? (i := 396) (by decide +kernel), List.mem_of_getElem? (i := 397) (by decide +kernel)⟩
theorem lw_p6 : lw_okq (⟨"HotLoops$Plugs", "joinBehind", "(I)I"⟩, 3) := ⟨⟨by decide +kernel, by decide +kernel⟩, List.mem_of_getElem? (i := 64) (by decide +kernel), List.mem_of_getElem? (i := 403) (by decide +kernel), List.mem_of_getElem? (i := 404) (by decide +kernel)⟩
theorem lw_p7 : lw_okq (⟨"HotLoops", "markedPipe", "(I)I"⟩, 5) := ⟨⟨by decide +kernel, by decide +kernel⟩, List.mem_of_getElem? (i := 14) (by decide +kernel), List.mem_of_getElem? (i := 467) (by decide +kernel), List.mem_of_getElem? (i := 468) (by decide +kernel)⟩
theorem lw_p8 : lw_okq (⟨"HotLoops", "markMissed", "(IIII)V"⟩, 5) := ⟨⟨by decide +kernel, by decide +kernel⟩, List.mem_of_getElem? (i := 14) (by decide +kernel), List.mem_of_getElem? (i := 507) (by decide +kernel), List.mem_of_getElem? (i := 508) (by decide +kernel)⟩
theorem lw_p9 : lw_okq (⟨"HotLoops", "takeShock", "(II)V"⟩, 5) := ⟨⟨by decide +kernel, by decide +kernel⟩, List.mem_of_getElem? (i := 14) (by decide +kernel), List.mem_of_getElem? (i := 515) (by decide +kernel), List.mem_of_getElem? (i := 516) (by decide +kernel)⟩
theorem lw_p10 : lw_okq (⟨"HotLoopsModel", "fill", "(I)V"⟩, 41) := ⟨⟨by decide +kernel, by decide +kernel⟩, List.mem_of_getElem? (i := 519) (by decide +kernel), List.mem_of_getElem? (i := 660) (by decide +kernel), List.mem_of_getElem? (i := 661) (by decide +kernel)⟩
theorem lw_p11 : lw_okq (⟨"HotLoopsModel", "isPipe", "(I)Z"⟩, 41) := ⟨⟨by decide +kernel, by decide +kernel⟩, List.mem_of_getElem? (i := 519) (by decide +kernel), List.mem_of_getElem? (i := 668) (by decide +kernel), List.mem_of_getElem? (i := 669) (by decide +kernel)⟩
theorem lw_p12 : lw_okq (⟨"HotLoopsModel", "take", "(II)V"⟩, 41) := ⟨⟨by decide +kernel, by decide +kernel⟩, List.mem_of_getElem? (i := 519) (by decide +kernel), List.mem_of_getElem? (i := 688) (by decide +kernel), List.mem_of_getElem? (i := 689) (by decide +kernel)⟩
theorem lw_p13 : lw_okq (⟨"HotLoopsModel", "push", "(I)V"⟩, 41) := ⟨⟨by decide +kernel, by decide +kernel⟩, List.mem_of_getElem? (i := 519) (by decide +kernel), List.mem_of_getElem? (i := 692) (by decide +kernel), List.mem_of_getElem? (i := 693) (by decide +kernel)⟩
theorem lw_p14 : lw_okq (⟨"HotLoopsModel", "lay", "(II)V"⟩, 41) := ⟨⟨by decide +kernel, by decide +kernel⟩, List.mem_of_getElem? (i := 519) (by decide +kernel), List.mem_of_getElem? (i := 696) (by decide +kernel), List.mem_of_getElem? (i := 697) (by decide +kernel)⟩
theorem lw_p15 : lw_okq (⟨"HotLoopsModel", "joinTillFew", "()V"⟩, 41) := ⟨⟨by decide +kernel, by decide +kernel⟩, List.mem_of_getElem? (i := 519) (by decide +kernel), List.mem_of_getElem? (i := 700) (by decide +kernel), List.mem_of_getElem? (i := 701) (by decide +kernel)⟩
def lw_privs_1 : List (MethodName × Nat) := [(⟨"HotLoops", "needPipe", "(I)V"⟩, 5), (⟨"java/lang/Throwable", "fillInStackTrace", "(I)Ljava/lang/Throwable;"⟩, 6), (⟨"HotLoops", "takeDraws", "()V"⟩, 5), (⟨"HotLoops$Water", "findWay", "(I)I"⟩, 14), (⟨"HotLoops$Water", "pushThrough", "(I)V"⟩, 14), (⟨"HotLoops$Plugs", "likest", "()I"⟩, 3), (⟨"HotLoops$Plugs", "joinBehind", "(I)I"⟩, 3), (⟨"HotLoops", "markedPipe", "(I)I"⟩, 5), (⟨"HotLoops", "markMissed", "(IIII)V"⟩, 5), (⟨"HotLoops", "takeShock", "(II)V"⟩, 5), (⟨"HotLoopsModel", "fill", "(I)V"⟩, 41), (⟨"HotLoopsModel", "isPipe", "(I)Z"⟩, 41), (⟨"HotLoopsModel", "take", "(II)V"⟩, 41), (⟨"HotLoopsModel", "push", "(I)V"⟩, 41), (⟨"HotLoopsModel", "lay", "(II)V"⟩, 41), (⟨"HotLoopsModel", "joinTillFew", "()V"⟩, 41)]
theorem lw_r1 : ∀ q ∈ lw_privs_1, lw_okq q := List.forall_mem_cons.mpr ⟨lw_p0, List.forall_mem_cons.mpr ⟨lw_p1, List.forall_mem_cons.mpr ⟨lw_p2, List.forall_mem_cons.mpr ⟨lw_p3, List.forall_mem_cons.mpr ⟨lw_p4, List.forall_mem_cons.mpr ⟨lw_p5, List.forall_mem_cons.mpr ⟨lw_p6, List.forall_mem_cons.mpr ⟨lw_p7, List.forall_mem_cons.mpr ⟨lw_p8, List.forall_mem_cons.mpr ⟨lw_p9, List.forall_mem_cons.mpr ⟨lw_p10, List.forall_mem_cons.mpr ⟨lw_p11, List.forall_mem_cons.mpr ⟨lw_p12, List.forall_mem_cons.mpr ⟨lw_p13, List.forall_mem_cons.mpr ⟨lw_p14, List.forall_mem_cons.mpr ⟨lw_p15, fun _ h => absurd h List.not_mem_nil⟩⟩⟩⟩⟩⟩⟩⟩⟩⟩⟩⟩⟩⟩⟩⟩
theorem lw_p16 : lw_okq (⟨"HotLoopsModel", "join", "(I)V"⟩, 41) := ⟨⟨by decide +kernel, by decide +kernel⟩, List.mem_of_getElem? (i := 519) (by decide +kernel), List.mem_of_getElem? (i := 704) (by decide +kernel), List.mem_of_getElem? (i := 705) (by decide +kernel)⟩
theorem lw_p17 : lw_okq (⟨"HotLoopsModel", "putBack", "(I)V"⟩, 41) := ⟨⟨by decide +kernel, by decide +kernel⟩, List.mem_of_getElem? (i := 519) (by decide +kernel), List.mem_of_getElem? (i := 708) (by decide +kernel), List.mem_of_getElem? (i := 709) (by decide +kernel)⟩
theorem lw_p18 : lw_okq (⟨"HotLoopsModel", "rest", "()V"⟩, 41) := ⟨⟨by decide +kernel, by decide +kernel⟩, List.mem_of_getElem? (i := 519) (by decide +kernel), List.mem_of_getElem? (i := 712) (by decide +kernel), List.mem_of_getElem? (i := 713) (by decide +kernel)⟩
theorem lw_p19 : lw_okq (⟨"HotLoopsModel", "leastOf", "(I)I"⟩, 41) := ⟨⟨by decide +kernel, by decide +kernel⟩, List.mem_of_getElem? (i := 519) (by decide +kernel), List.mem_of_getElem? (i := 716) (by decide +kernel), List.mem_of_getElem? (i := 717) (by decide +kernel)⟩
theorem lw_p20 : lw_okq (⟨"HotLoopsModel", "mostOf", "(I)I"⟩, 41) := ⟨⟨by decide +kernel, by decide +kernel⟩, List.mem_of_getElem? (i := 519) (by decide +kernel), List.mem_of_getElem? (i := 728) (by decide +kernel), List.mem_of_getElem? (i := 729) (by decide +kernel)⟩
theorem lw_p21 : lw_okq (⟨"HotLoopsModel", "copy", "([I[I)V"⟩, 41) := ⟨⟨by decide +kernel, by decide +kernel⟩, List.mem_of_getElem? (i := 519) (by decide +kernel), List.mem_of_getElem? (i := 752) (by decide +kernel), List.mem_of_getElem? (i := 753) (by decide +kernel)⟩
def lw_privs_2 : List (MethodName × Nat) := [(⟨"HotLoopsModel", "join", "(I)V"⟩, 41), (⟨"HotLoopsModel", "putBack", "(I)V"⟩, 41), (⟨"HotLoopsModel", "rest", "()V"⟩, 41), (⟨"HotLoopsModel", "leastOf", "(I)I"⟩, 41), (⟨"HotLoopsModel", "mostOf", "(I)I"⟩, 41), (⟨"HotLoopsModel", "copy", "([I[I)V"⟩, 41)]
theorem lw_r2 : ∀ q ∈ lw_privs_2, lw_okq q := List.forall_mem_cons.mpr ⟨lw_p16, List.forall_mem_cons.mpr ⟨lw_p17, List.forall_mem_cons.mpr ⟨lw_p18, List.forall_mem_cons.mpr ⟨lw_p19, List.forall_mem_cons.mpr ⟨lw_p20, List.forall_mem_cons.mpr ⟨lw_p21, fun _ h => absurd h List.not_mem_nil⟩⟩⟩⟩⟩⟩
def lw_privs : List (MethodName × Nat) := lw_privs_1 ++ (lw_privs_2)
def lw_tbl : List Cond := k2_sels lw_privs ++ tables_1
theorem lw_privs_ok : ∀ q ∈ lw_privs, lw_okq q := by
  show ∀ q ∈ lw_privs_1 ++ (lw_privs_2), lw_okq q
  exact List.forall_mem_append.mpr ⟨lw_r1, lw_r2⟩
end
section
/-! ===== BEGIN words of one list among another's, by their places ===== -/
theorem goodIn_r {big : List Cond} (ws : List Cond) (ps : List Nat) (hp : ws = ps.filterMap (fun i => big[i]?)) (h : ws.all goodWord = true) : GoodIn big ws := by
  intro w hw
  have h1 := List.all_eq_true.mp h w hw
  rw [hp] at hw
  obtain ⟨i, -, hi⟩ := List.mem_filterMap.mp hw
  have hm : w ∈ big := by first | exact List.mem_of_getElem? hi | exact List.getElem?_mem hi
  exact ⟨hm, good_of_word h1⟩
theorem goodIn_app {big a b : List Cond} (ha : GoodIn big a) (hb : GoodIn big b) : GoodIn big (a ++ b) := fun w h => (List.mem_append.mp h).elim (ha w) (hb w)
theorem goodIn_ca {big a b : List Cond} {c : Cond} (ha : GoodIn big (c :: a)) (hb : GoodIn big b) : GoodIn big (c :: (a ++ b)) := fun w h => (List.mem_cons.mp h).elim (fun e => ha w (List.mem_cons.mpr (Or.inl e))) (fun h => (List.mem_append.mp h).elim (fun h => ha w (List.mem_cons.mpr (Or.inr h))) (hb w))
theorem goodIn_sub {big ws : List Cond} (hm : ∀ w ∈ ws, w ∈ big) (h : ws.all goodWord = true) : GoodIn big ws := fun w hw => ⟨hm w hw, good_of_word (List.all_eq_true.mp h w hw)⟩
/-! ===== END ===== -/

/-! ===== BEGIN exceptions that leave a method, and their catching by the caller (launches without stack traces) ===== -/
section VXA
/-! The laws vx_back, vx_callV, vx_callS, vx_callSW, vx_throw0, vx_throwS follow proofs of the library, with one case more: JvmDerived/Free/Laws.lean (Back.of_free), Shelf42/LK1.lean (callV, callS), Shelf/KitTraced.lean (throwNew0V, throwNewS). -/
/-- where a method has thrown q: the class by its name, the cell, what was written, the world -/
def vx_T (XC : String → State → State → Prop) (st : State) (q : Addr) (t : State) (mc ms : Nat) (free : Addr → Prop) : Prop :=
  ∃ (E : String) (ce : Cell) (L : List Loc), XC E st t ∧ t.heap[q]? = some ce ∧ ce.vm = .none ∧ st.vm.findClass E = some ce.cls ∧ st.WarmedH t.vm ∧ st.sameButNew ({ t with vm := st.vm } : State) L mc ms ∧ ∀ z ∈ L, free z.base
def vx_Q (Qc : Array Value → State → Outcome → State → Prop) (XC : String → State → State → Prop) (mc ms : Nat) (free : Addr → Prop) : Array Value → State → Outcome → State → Prop := fun a st o t =>
  (Qc a st o t ∧ ∃ L, FrameEnd st o t L mc ms ∧ ∀ q ∈ L, free q.base) ∨ ∃ q, o = .threw q ∧ vx_T XC st q t mc ms free
/-- a callee that returns or throws -/
def vx_Met (l : Launch) (y : MethodName) (ws : List Cond) (rm : Room) (Pc : Array Value → State → Prop) (Qc : Array Value → State → Outcome → State → Prop) (XC : String → State → State → Prop) (mc ms : Nat) (free : Addr → Prop) : Prop :=
  MetFree l y (headSpec ws rm) Pc (fun _ _ _ _ _ => True) (vx_Q Qc XC mc ms free)
def vx_Post (XC : String → State → State → Prop) (mc ms : Nat) (free : Addr → Prop) : Pt → Array Value → Addr → Pt → Prop := fun A a q B =>
  ∃ (g : JFrame) (mk : MethodId) (t : State) (L : List Loc) (E : String) (ce : Cell), B.U.heap = t.heap ∧ B.U.vm = t.vm ∧ XC E (A.U.calling g mk a) t ∧ t.heap[q]? = some ce ∧ ce.vm = .none ∧ A.U.vm.findClass E = some ce.cls ∧ B.locs = A.locs ++ L ∧ (∀ z ∈ L, free z.base) ∧ B.cells = A.cells + mc ∧ B.slots = A.slots + ms
def vx_Back (l : Launch) (R : Room) (p : Program) (e : Env) (below : List Frame) (s : State) (sargs : Array Value) (y : MethodName) (len W9 : Nat)
    (Pre : Pt → Array Value → Prop) (Post : Pt → Array Value → Option Value → Pt → Prop) (PostX : Pt → Array Value → Addr → Pt → Prop) : Prop :=
  ∀ (m : MethodId) (meth : Method) (c : Code) (A : Pt) (g : JFrame) (ig : Instr) (mk : MethodId) (a : Array Value),
    Stand p l e R s m sargs below meth c A.U A.locs A.cells A.slots → g.method = m → g.locals.size = c.maxLocals → decode c.code g.pc = .ok (ig, len) →
    2 * g.monitorRoom + (g.stack.map fun v => v.category).sum ≤ W9 → A.U.methodNamed? y = some mk → Pre A a →
    (∃ (v : Option Value) (B : Pt), Stand p l e R s m sargs below meth c B.U B.locs B.cells B.slots ∧ Post A a v B ∧
      Steps p.tables e below (doInvoke e (A.U.setTop g) [] mk a).1 (B.U.setTop { g with pc := g.pc + len, stack := v.toList ++ g.stack })) ∨
    (∃ (q : Addr) (B : Pt), Stand p l e R s m sargs below meth c B.U B.locs B.cells B.slots ∧ PostX A a q B ∧
      Steps p.tables e below (doInvoke e (A.U.setTop g) [] mk a).1 ((B.U.setTop g).pushFrame (.throwing q)))
section Payer
variable {l : Launch} {R : Room} {p : Program} {e : Env} {below : List Frame} {s : State} {sargs : Array Value} {y : MethodName} {len W9 : Nat}
theorem vx_back {ws : List Cond} {rm : Room} {Pc : Array Value → State → Prop} {Qc : Array Value → State → Outcome → State → Prop} {XC : String → State → State → Prop} {mc ms : Nat} {free : Addr → Prop} {bytes : ByteArray} {maxL : Nat} {ret : Option FieldType}
    (hM : vx_Met l y ws rm Pc Qc XC mc ms free) (hblind : FrameBlind Pc) (hrc : rm.cells = mc) (hrs : rm.slots = ms)
    (hframes : rm.frames + 1 ≤ R.frames) (hlocals : W9 + (maxL + 11) + rm.locals ≤ R.locals)
    (hws : ∀ w ∈ ws, ∀ a' U, s.WarmedH U.vm → w.before a' U = true) (hcode : Cond.code y bytes maxL ret ∈ ws) (hinit : ∀ a' U, s.WarmedH U.vm → (Cond.initialized y.cls).before a' U = true) :
    vx_Back l R p e below s sargs y len W9 (PreOf R mc ms Pc) (PostOf Qc mc ms free) (vx_Post XC mc ms free) := by
  intro m meth c A g ig mk a X hg hsize hdg hW hn hp
  have h1 : (headSpec ws rm).pre.before a A.U = true := atoms_intro fun w hw => hws w hw _ _ X.warmed
  have h2 : (Cond.code y bytes maxL ret).before a A.U = true := hws _ hcode _ _ X.warmed
  have h3 : (Cond.initialized y.cls).before a A.U = true := hinit _ _ X.warmed
  have h4 : A.cells + (headSpec ws rm).room.cells ≤ R.cells := by rw [show (headSpec ws rm).room.cells = mc from hrc]; exact hp.1
  have h5 : A.slots + (headSpec ws rm).room.slots ≤ R.slots := by rw [show (headSpec ws rm).room.slots = ms from hrs]; exact hp.2.1
  have hPc : Pc a (A.U.calling g mk a) := hblind _ _ _ _ hp.2.2
  obtain ⟨U, Ls, c0, s0⟩ := A
  dsimp only [Pt.U, Pt.locs, Pt.cells, Pt.slots] at h1 h2 h3 h4 h5 X hn hPc ⊢
  obtain ⟨methY, cY, hmY, hcY, -, hlY, -, -, -, -⟩ := Cond.code_spec hn h2
  obtain ⟨kY, hkY, -⟩ := className_of_methodNamed hn
  have hinitY : kY.init = .initialized := Cond.initialized_spec (findClass_of_methodNamed hn) hkY h3
  have h : At U g.method c below := by rw [hg]; exact X.here
  have hlocals9 : W9 + (maxL + 11) + (headSpec ws rm).room.locals ≤ R.locals := hlocals
  have happ : (headSpec ws rm).appliesLoose y e.platform (U.calling g mk a) = true :=
    Spec.appliesLoose_calling (g := g) h hdg hn hkY hinitY
      (X.room_calling (g := g) (R' := (headSpec ws rm).room) hsize hmY hcY hframes (by rw [hlY]; omega) h4 h5) h1
  obtain ⟨mid, hmid⟩ := h.above
  have hfr : (U.setTop g).frames = (.java g :: mid) ++ below := by rw [State.frames_setTop' g h.top, hmid]; rfl
  obtain ⟨o, s₂, hsteps, -, hend, hq⟩ := Steps.callFree hM p X.admits X.cas X.clock (acts := []) hfr happ hPc trivial
  have hq' : vx_Q Qc XC mc ms free a (U.calling g mk a) o s₂ := hq
  rw [State.frames_setTop' g h.top] at hend
  obtain ⟨g₀, hg0⟩ := Option.isSome_iff_exists.mp h.top
  obtain ⟨r, hr⟩ := State.topJava?_eq_some.mp hg0
  have hr' : (({ U with heap := s₂.heap, slotsUsed := s₂.slotsUsed } : State).setVm s₂.vm).frames = .java g₀ :: r := hr
  rcases hq' with ⟨hqc, L, hfe, hL⟩ | ⟨q, rfl, E, ce, L, hx, hce, hcv, hcl, hW₂, hsm, hL⟩
  · obtain ⟨⟨v, rfl⟩, hW₂, e2, q2, q3, q4, q5, q6⟩ := id hfe
    have e3 : s₂ = ({ (U.calling g mk a).setFrames s₂.frames with heap := s₂.heap, slotsUsed := s₂.slotsUsed } : State).setVm s₂.vm := by
      have : s₂ = ({ s₂ with vm := (U.calling g mk a).vm } : State).setVm s₂.vm := rfl
      rw [e2] at this
      exact this
    obtain ⟨c₂, i₂, len₂, hc₂, hd₂, hf₂⟩ := hend
    have hW' : U.WarmedH s₂.vm := hW₂
    have hcc : c₂ = c := by
      have h1 : s₂.code? g.method = U.code? g.method := by
        rw [State.code?_eq, State.code?_eq, hW'.alike.method?]
      exact Option.some.inj (hc₂.symm.trans (h1.trans h.code))
    subst hcc
    have hlen : len₂ = len := by rw [hdg] at hd₂; cases hd₂; rfl
    subst hlen
    have hs₂ : s₂ = (({ U with heap := s₂.heap, slotsUsed := s₂.slotsUsed } : State).setVm s₂.vm).setTop { g with pc := g.pc + len₂, stack := v.toList ++ g.stack } := by
      refine e3.trans ?_
      rw [hf₂, State.calling_eq h.top, State.setFrames_setFrames, State.setTop_of_frames _ hr', hr]
      rfl
    have hsame : U.sameButNew ({ U with heap := s₂.heap, slotsUsed := s₂.slotsUsed } : State) L mc ms := by
      refine ⟨?_, q2, q3, q4, q5, q6⟩
      obtain ⟨t, ht, -⟩ := State.frames_cons hr
      show ({ U with heap := s₂.heap, slotsUsed := s₂.slotsUsed } : State) = { U.setFrames U.frames with heap := s₂.heap, slotsUsed := s₂.slotsUsed }
      rw [State.setFrames_self ht]
    subst hg
    refine Or.inl ⟨v, ⟨(({ U with heap := s₂.heap, slotsUsed := s₂.slotsUsed } : State).setVm s₂.vm), Ls ++ L, c0 + mc, s0 + ms⟩,
      ⟨X.admits, X.cas, X.clock, X.frames, X.room, X.hears, X.method, X.code, (X.here.setHeapUsed s₂.heap s₂.slotsUsed).setVm hW'.alike, X.tail, State.WarmedH.trans X.warmed hW', X.limits, X.bytes, X.same.trans (hsame.setVm s.vm)⟩,
      ⟨g, mk, s₂, L, rfl, rfl, hqc, rfl, hL, rfl, rfl⟩, ?_⟩
    show Steps p.tables e below _ ((({ U with heap := s₂.heap, slotsUsed := s₂.slotsUsed } : State).setVm s₂.vm).setTop { g with pc := g.pc + len₂, stack := v.toList ++ g.stack })
    rw [← hs₂]
    exact hsteps
  · obtain ⟨e2, q2, q3, q4, q5, q6⟩ := id hsm
    have e3 : s₂ = ({ (U.calling g mk a).setFrames s₂.frames with heap := s₂.heap, slotsUsed := s₂.slotsUsed } : State).setVm s₂.vm := by
      have : s₂ = ({ s₂ with vm := (U.calling g mk a).vm } : State).setVm s₂.vm := rfl
      rw [e2] at this
      exact this
    have hf₂ : s₂.frames = .throwing q :: .java g :: U.frames.tail := hend
    have hW' : U.WarmedH s₂.vm := hW₂
    have hs₂ : s₂ = ((({ U with heap := s₂.heap, slotsUsed := s₂.slotsUsed } : State).setVm s₂.vm).setTop g).pushFrame (.throwing q) := by
      refine e3.trans ?_
      rw [hf₂, State.calling_eq h.top, State.setFrames_setFrames, State.pushFrame, State.frames_setTop _ hr', State.setTop_of_frames _ hr', State.setFrames_setFrames, hr]
      rfl
    have hsame : U.sameButNew ({ U with heap := s₂.heap, slotsUsed := s₂.slotsUsed } : State) L mc ms := by
      refine ⟨?_, q2, q3, q4, q5, q6⟩
      obtain ⟨t, ht, -⟩ := State.frames_cons hr
      show ({ U with heap := s₂.heap, slotsUsed := s₂.slotsUsed } : State) = { U.setFrames U.frames with heap := s₂.heap, slotsUsed := s₂.slotsUsed }
      rw [State.setFrames_self ht]
    subst hg
    refine Or.inr ⟨q, ⟨(({ U with heap := s₂.heap, slotsUsed := s₂.slotsUsed } : State).setVm s₂.vm), Ls ++ L, c0 + mc, s0 + ms⟩,
      ⟨X.admits, X.cas, X.clock, X.frames, X.room, X.hears, X.method, X.code, (X.here.setHeapUsed s₂.heap s₂.slotsUsed).setVm hW'.alike, X.tail, State.WarmedH.trans X.warmed hW', X.limits, X.bytes, X.same.trans (hsame.setVm s.vm)⟩,
      ⟨g, mk, s₂, L, E, ce, rfl, rfl, hx, hce, hcv, hcl, rfl, hL, rfl, rfl⟩, ?_⟩
    show Steps p.tables e below _ (((({ U with heap := s₂.heap, slotsUsed := s₂.slotsUsed } : State).setVm s₂.vm).setTop g).pushFrame (.throwing q))
    rw [← hs₂]
    exact hsteps
end Payer
section Calls
variable {p : Program} {l : Launch} {e : Env} {R : Room} {s : State} {m : MethodId} {args : Array Value} {below : List Frame} {meth : Method} {c : Code} {T : State} {locs : List Loc} {cells slots : Nat}
theorem vx_callV (X : Stand p l e R s m args below meth c T locs cells slots) (hexec : p.tables.exec = Jvm.exec) {own C : String} {index : Nat} {y : MethodName} {bytes : ByteArray} {maxL : Nat} {ret : Option FieldType}
    (hown : s.vm.findClass own = some m.cls) (hlink : (Cond.methodLink own index y).before args s = true) (hinst : (Cond.instanceMethod y).before args s = true) (hsel : (Cond.selects C y y).before args s = true)
    (hcode : (Cond.code y bytes maxL ret).before args s = true) (hy : y.cls ≠ "java/lang/invoke/MethodHandle" ∧ y.cls ≠ "java/lang/invoke/VarHandle")
    {W9 : Nat} {Pre : Pt → Array Value → Prop} {Post : Pt → Array Value → Option Value → Pt → Prop} {PostX : Pt → Array Value → Addr → Pt → Prop} (hK : vx_Back l R p e below s args y 3 W9 Pre Post PostX)
    {b : Addr} {cellB : Cell} (hcell : T.heap[b]? = some cellB) (hobj : cellB.vm.isStatics = false) (hcls : s.vm.findClass C = some cellB.cls)
    {g : JFrame} (hg : g.method = m) (hsize : g.locals.size = c.maxLocals) {argsL rest : List Value} (hlen : ∀ sig, parseMethodDescriptor y.desc = some sig → argsL.length = sig.parameters.length)
    (hstack : g.stack = argsL.reverse ++ .ref b :: rest) (hW : 2 * g.monitorRoom + (rest.map fun v => v.category).sum ≤ W9) (hdg : decode c.code g.pc = .ok (.invokevirtual index, 3))
    (hpre : ∀ vm₁, s.WarmedH vm₁ → Pre ⟨T.setVm vm₁, locs, cells, slots⟩ (Value.ref b :: argsL).toArray) :
    (∃ (v : Option Value) (vm₁ : Vm) (B : Pt), s.WarmedH vm₁ ∧ Stand p l e R s m args below meth c B.U B.locs B.cells B.slots ∧ Post ⟨T.setVm vm₁, locs, cells, slots⟩ (Value.ref b :: argsL).toArray v B ∧
      ∀ target, Steps p.tables e below (B.U.setTop { g with pc := g.pc + 3, stack := v.toList ++ rest }) target → Steps p.tables e below (T.setTop g) target) ∨
    (∃ (q : Addr) (vm₁ : Vm) (B : Pt), s.WarmedH vm₁ ∧ Stand p l e R s m args below meth c B.U B.locs B.cells B.slots ∧ PostX ⟨T.setVm vm₁, locs, cells, slots⟩ (Value.ref b :: argsL).toArray q B ∧
      Steps p.tables e below (T.setTop g) ((B.U.setTop { g with stack := rest }).pushFrame (.throwing q))) := by
  obtain ⟨mk, methM, hnamed, hmethM, hstM, habM⟩ := Cond.instanceMethod_spec hinst
  obtain ⟨methM', cM, hmethM', -, -, -, -, -, -, hsigM⟩ := Cond.code_spec hnamed hcode
  cases hmethM.symm.trans hmethM'
  obtain ⟨c2, r2, m2, q1, q2, q3, q4, kP, hkP, hkPi⟩ := Cond.selects_spec hsel
  cases hcls.symm.trans q1
  cases (State.methodFound?_of_named hnamed hy).symm.trans q2
  cases hnamed.symm.trans q3
  have hselP : selectMethod e.platform s.vm cellB.cls mk = .method mk := by rw [Launch.admits_selectMethod X.admits]; exact q4
  obtain ⟨vm₁, X₁, hstep₁⟩ := X.invokevirtual hexec hown hlink hnamed hmethM hstM hkP hkPi hy (a := b) (cell := cellB) hcell
    (fun z h => by rw [h] at hobj; cases hobj) hselP hmethM habM hkP hkPi (g := g) hg (argsL := argsL) (rest := rest) (hlen _ hsigM) hstack hdg
  rcases hK m meth c ⟨T.setVm vm₁, locs, cells, slots⟩ { g with stack := rest } (.invokevirtual index) mk (Value.ref b :: argsL).toArray X₁ hg hsize hdg hW (X₁.named hnamed) (hpre vm₁ X₁.warmed) with ⟨v, B, X', hpost, hsteps⟩ | ⟨q, B, X', hpost, hsteps⟩
  · exact Or.inl ⟨v, vm₁, B, X₁.warmed, X', hpost, fun target h => hstep₁ _ fun acts => by rw [doInvoke_state]; exact hsteps.trans h⟩
  · exact Or.inr ⟨q, vm₁, B, X₁.warmed, X', hpost, hstep₁ _ fun acts => by rw [doInvoke_state]; exact hsteps⟩
theorem vx_callS (X : Stand p l e R s m args below meth c T locs cells slots) (hexec : p.tables.exec = Jvm.exec) {own : String} {index : Nat} {y : MethodName} {bytes : ByteArray} {maxL : Nat} {ret : Option FieldType}
    (hown : s.vm.findClass own = some m.cls) (hlink : (Cond.methodLink own index y).before args s = true) (hstat : (Cond.static y).before args s = true) (hinit : (Cond.initialized y.cls).before args s = true)
    (hcode : (Cond.code y bytes maxL ret).before args s = true) (hy : y.cls ≠ "java/lang/invoke/MethodHandle" ∧ y.cls ≠ "java/lang/invoke/VarHandle")
    {W9 : Nat} {Pre : Pt → Array Value → Prop} {Post : Pt → Array Value → Option Value → Pt → Prop} {PostX : Pt → Array Value → Addr → Pt → Prop} (hK : vx_Back l R p e below s args y 3 W9 Pre Post PostX)
    {g : JFrame} (hg : g.method = m) (hsize : g.locals.size = c.maxLocals) {argsL rest : List Value} (hlen : ∀ sig, parseMethodDescriptor y.desc = some sig → argsL.length = sig.parameters.length)
    (hstack : g.stack = argsL.reverse ++ rest) (hW : 2 * g.monitorRoom + (rest.map fun v => v.category).sum ≤ W9) (hdg : decode c.code g.pc = .ok (.invokestatic index, 3))
    (hpre : ∀ vm₁, s.WarmedH vm₁ → Pre ⟨T.setVm vm₁, locs, cells, slots⟩ argsL.toArray) :
    (∃ (v : Option Value) (vm₁ : Vm) (B : Pt), s.WarmedH vm₁ ∧ Stand p l e R s m args below meth c B.U B.locs B.cells B.slots ∧ Post ⟨T.setVm vm₁, locs, cells, slots⟩ argsL.toArray v B ∧
      ∀ target, Steps p.tables e below (B.U.setTop { g with pc := g.pc + 3, stack := v.toList ++ rest }) target → Steps p.tables e below (T.setTop g) target) ∨
    (∃ (q : Addr) (vm₁ : Vm) (B : Pt), s.WarmedH vm₁ ∧ Stand p l e R s m args below meth c B.U B.locs B.cells B.slots ∧ PostX ⟨T.setVm vm₁, locs, cells, slots⟩ argsL.toArray q B ∧
      Steps p.tables e below (T.setTop g) ((B.U.setTop { g with stack := rest }).pushFrame (.throwing q))) := by
  obtain ⟨mk, hnamed⟩ := Cond.code_named hcode
  obtain ⟨methM, cM, hmethM, -, -, -, -, -, -, hsigM⟩ := Cond.code_spec hnamed hcode
  have hstatic : methM.isStatic = true := Cond.static_spec hnamed hmethM hstat
  obtain ⟨kP, hkP, -⟩ := className_of_methodNamed hnamed
  have hinitP : kP.init = .initialized := Cond.initialized_spec (findClass_of_methodNamed hnamed) hkP hinit
  obtain ⟨vm₁, X₁, hstep₁⟩ := X.invokestatic hexec hown hlink hnamed hmethM hstatic hkP hinitP hy (g := g) hg (argsL := argsL) (rest := rest) (hlen _ hsigM) hstack hdg
  rcases hK m meth c ⟨T.setVm vm₁, locs, cells, slots⟩ { g with stack := rest } (.invokestatic index) mk argsL.toArray X₁ hg hsize hdg hW (X₁.named hnamed) (hpre vm₁ X₁.warmed) with ⟨v, B, X', hpost, hsteps⟩ | ⟨q, B, X', hpost, hsteps⟩
  · exact Or.inl ⟨v, vm₁, B, X₁.warmed, X', hpost, fun target h => hstep₁ _ fun acts => by rw [doInvoke_state]; exact hsteps.trans h⟩
  · exact Or.inr ⟨q, vm₁, B, X₁.warmed, X', hpost, hstep₁ _ fun acts => by rw [doInvoke_state]; exact hsteps⟩
end Calls
theorem vx_cls {s : State} {T : State} {vm₁ : Vm} {E : String} {k : ClassId} (hW : s.WarmedH vm₁) (h : (T.setVm vm₁).vm.findClass E = some k) : s.vm.findClass E = some k := by
  have h1 : vm₁.findClass E = some k := h
  rw [hW.alike.findClass] at h1
  exact h1
/-- the method's frame g, with q thrown over it -/
def vx_W (p : Program) (l : Launch) (e : Env) (R : Room) (s : State) (m : MethodId) (args : Array Value) (below : List Frame) (meth : Method) (c : Code) (H : Heap) (locs : List Loc) (cells slots : Nat) (Q : State → Prop) (g : JFrame) (q : Addr) : Prop :=
  ∀ T : State, T.heap = H → Stand p l e R s m args below meth c T locs cells slots → ∃ t, Steps p.tables e below ((T.setTop g).pushFrame (.throwing q)) t ∧ Q t
def vx_Run (p : Program) (l : Launch) (e : Env) (R : Room) (s : State) (m : MethodId) (args : Array Value) (below : List Frame) (meth : Method) (c : Code) (H : Heap) (locs : List Loc) (cells slots mc ms : Nat) (g : JFrame) (rest : List Value) (Qa : State → Outcome → State → Prop) (XC : String → State → State → Prop) (free : Addr → Prop) : Prop :=
  ∀ T : State, T.heap = H → Stand p l e R s m args below meth c T locs cells slots →
    (∃ (v : Option Value) (st₀ t T' : State) (L : List Loc), st₀.heap = H ∧ Stand p l e R s m args below meth c T' (locs ++ L) (cells + mc) (slots + ms) ∧ (∀ q ∈ L, free q.base) ∧ T'.heap = t.heap ∧ T'.vm = t.vm ∧ Qa st₀ (.returned v) t ∧
      Goes p e below T g T' { g with pc := g.pc + 3, stack := v.toList ++ rest }) ∨
    (∃ (q : Addr) (st₀ t T' : State) (L : List Loc) (E : String) (ce : Cell), st₀.heap = H ∧ Stand p l e R s m args below meth c T' (locs ++ L) (cells + mc) (slots + ms) ∧ (∀ z ∈ L, free z.base) ∧ T'.heap = t.heap ∧ T'.vm = t.vm ∧ XC E st₀ t ∧ t.heap[q]? = some ce ∧ ce.vm = .none ∧ s.vm.findClass E = some ce.cls ∧
      Steps p.tables e below (T.setTop g) ((T'.setTop { g with stack := rest }).pushFrame (.throwing q)))
def vx_X {S : Type} (px : S → Prop) (B : String → S → State → Prop) (A : Nat → Prop) : String → State → State → Prop := fun E st t => ∃ u : S, px u ∧ B E u t ∧ va_F A st t
section Runs
variable {p : Program} {l : Launch} {e : Env} {R : Room} {s : State} {m : MethodId} {args : Array Value} {below : List Frame} {meth : Method} {c : Code} {H : Heap} {locs : List Loc} {cells slots : Nat}
variable {y : MethodName} {bytes cc : ByteArray} {maxL nL mc ms n index : Nat} {ret : Option FieldType} {ws : List Cond} {rm : Room} {Pc : Array Value → State → Prop} {Qc : Array Value → State → Outcome → State → Prop} {XC : String → State → State → Prop} {free : Addr → Prop} {Ts : List Cond} {own C : String} {b : Addr} {As rest : List Value} {g : JFrame}
theorem vx_callBack (cb : CallB R s args own index y bytes maxL ret ws rm mc ms n) (hM : vx_Met l y ws rm Pc Qc XC mc ms free) (hbl : FrameBlind Pc) : vx_Back l R p e below s args y 3 8 (PreOf R mc ms Pc) (PostOf Qc mc ms free) (vx_Post XC mc ms free) := by
  obtain ⟨hrc, hrs, hfr, hlo, hws, hcw, -, hini, -⟩ := cb
  exact vx_back (bytes := bytes) (maxL := maxL) (ret := ret) hM hbl hrc hrs hfr hlo hws hcw (fun a' U hW => word_at hW (Or.inl (by first | rfl | simp [Cond.onTables, Cond.keeps, Cond.steady])) hini)
theorem vx_runV (S : CallFix p m c cc nL s args Ts own) (hM : vx_Met l y ws rm Pc Qc XC mc ms free) (cw : CallW R s args own C index y bytes maxL ret ws rm mc ms n) (hp : PreV s H C b Pc As)
    (hg : g.method = m) (hn : As.length = n) (hsize : g.locals.size = nL) (hstack : g.stack = As.reverse ++ .ref b :: rest) (hW : 2 * g.monitorRoom + (rest.map fun v => v.category).sum ≤ 8) (hdg : decode cc g.pc = .ok (.invokevirtual index, 3)) (hf : cells + mc ≤ R.cells ∧ slots + ms ≤ R.slots) :
    vx_Run p l e R s m args below meth c H locs cells slots mc ms g rest (Qc (Value.ref b :: As).toArray) XC free := by
  have hK : vx_Back l R p e below s args y 3 8 (PreOf R mc ms Pc) (PostOf Qc mc ms free) (vx_Post XC mc ms free) := vx_callBack cw.1 hM hp.1
  obtain ⟨⟨-, -, -, -, -, -, hcode, -, hy, hlen, hl⟩, hin, hse⟩ := cw
  obtain ⟨hx, hb, hml, ho, -⟩ := S
  obtain ⟨-, ⟨cellB, hcB, hoB, hclB⟩, hPc⟩ := hp
  intro T hT X
  rcases vx_callV X hx (C := C) (bytes := bytes) (maxL := maxL) (ret := ret) ho hl hin hse hcode hy hK (by rw [hT]; exact hcB) hoB hclB hg (hsize.trans hml.symm) (argsL := As) (rest := rest) (fun sig h => hn.trans (hlen sig h)) hstack hW (by rw [hb]; exact hdg)
    (fun vm₁ hW₁ => ⟨hf.1, hf.2, hPc (T.setVm vm₁) hT hW₁⟩) with ⟨v, vm₁, ⟨U', l2, c2, s2⟩, hW₁, X', ⟨g', mk, t, L, e1, e2, hq, h1, hL, h2, h3⟩, st⟩ | ⟨q, vm₁, ⟨U', l2, c2, s2⟩, hW₁, X', ⟨g', mk, t, L, E, ce, e1, e2, hq, hce, hcv, hcl, h1, hL, h2, h3⟩, st⟩
  · dsimp only [Pt.U, Pt.locs, Pt.cells, Pt.slots] at X' e1 e2 h1 h2 h3 st
    subst h1; subst h2; subst h3
    exact Or.inl ⟨v, (T.setVm vm₁).calling g' mk (Value.ref b :: As).toArray, t, U', L, hT, X', hL, e1, e2, hq, st⟩
  · dsimp only [Pt.U, Pt.locs, Pt.cells, Pt.slots] at X' e1 e2 h1 h2 h3 st hcl
    subst h1; subst h2; subst h3
    exact Or.inr ⟨q, (T.setVm vm₁).calling g' mk (Value.ref b :: As).toArray, t, U', L, E, ce, hT, X', hL, e1, e2, hq, hce, hcv, vx_cls hW₁ hcl, st⟩
theorem vx_runS (S : CallFix p m c cc nL s args Ts own) (hM : vx_Met l y ws rm Pc Qc XC mc ms free) (cw : CallB R s args own index y bytes maxL ret ws rm mc ms n ∧ (Cond.static y).before args s = true) (hp : PreS s H Pc As)
    (hg : g.method = m) (hn : As.length = n) (hsize : g.locals.size = nL) (hstack : g.stack = As.reverse ++ rest) (hW : 2 * g.monitorRoom + (rest.map fun v => v.category).sum ≤ 8) (hdg : decode cc g.pc = .ok (.invokestatic index, 3)) (hf : cells + mc ≤ R.cells ∧ slots + ms ≤ R.slots) :
    vx_Run p l e R s m args below meth c H locs cells slots mc ms g rest (Qc As.toArray) XC free := by
  have hK : vx_Back l R p e below s args y 3 8 (PreOf R mc ms Pc) (PostOf Qc mc ms free) (vx_Post XC mc ms free) := vx_callBack cw.1 hM hp.1
  obtain ⟨⟨-, -, -, -, -, -, hcode, hini, hy, hlen, hl⟩, hstt⟩ := cw
  obtain ⟨hx, hb, hml, ho, -⟩ := S
  intro T hT X
  rcases vx_callS X hx (bytes := bytes) (maxL := maxL) (ret := ret) ho hl hstt hini hcode hy hK hg (hsize.trans hml.symm) (argsL := As) (rest := rest) (fun sig h => hn.trans (hlen sig h)) hstack hW (by rw [hb]; exact hdg)
    (fun vm₁ hW₁ => ⟨hf.1, hf.2, hp.2 (T.setVm vm₁) hT hW₁⟩) with ⟨v, vm₁, ⟨U', l2, c2, s2⟩, hW₁, X', ⟨g', mk, t, L, e1, e2, hq, h1, hL, h2, h3⟩, st⟩ | ⟨q, vm₁, ⟨U', l2, c2, s2⟩, hW₁, X', ⟨g', mk, t, L, E, ce, e1, e2, hq, hce, hcv, hcl, h1, hL, h2, h3⟩, st⟩
  · dsimp only [Pt.U, Pt.locs, Pt.cells, Pt.slots] at X' e1 e2 h1 h2 h3 st
    subst h1; subst h2; subst h3
    exact Or.inl ⟨v, (T.setVm vm₁).calling g' mk As.toArray, t, U', L, hT, X', hL, e1, e2, hq, st⟩
  · dsimp only [Pt.U, Pt.locs, Pt.cells, Pt.slots] at X' e1 e2 h1 h2 h3 st hcl
    subst h1; subst h2; subst h3
    exact Or.inr ⟨q, (T.setVm vm₁).calling g' mk As.toArray, t, U', L, E, ce, hT, X', hL, e1, e2, hq, hce, hcv, vx_cls hW₁ hcl, st⟩
end Runs
section Rows
variable {p : Program} {l : Launch} {e : Env} {R : Room} {s : State} {m : MethodId} {args : Array Value} {below : List Frame} {meth : Method} {c : Code} {H : Heap} {locs : List Loc} {cells slots : Nat} {Q : State → Prop}
variable {mc ms : Nat} {free : Addr → Prop} {A0 A1 : Nat → Prop} {H0 : Heap} {a : Array Value} {pc : Nat} {ls : Array Slot} {st0 rest : List Value}
theorem vx_keep {st₀ t T' : State} {L : List Loc} (h0 : st₀.heap = H) (e1 : T'.heap = t.heap) (hS : va_S A0 H0 H locs) (hA : ∀ q, q < H.size → A1 q → A0 q) (hf : ∀ q, free q → A0 q) (hL : ∀ q ∈ L, free q.base) (hF : va_F A1 st₀ t) :
    H.size ≤ T'.heap.size ∧ (∀ q : Nat, q < H.size → ¬ A1 q → T'.heap[q]? = H[q]?) ∧ va_S A0 H0 T'.heap (locs ++ L) := by
  obtain ⟨hz, hk⟩ := hF
  rw [h0] at hz hk
  exact ⟨by rw [e1]; exact hz, fun q h1 h2 => by rw [e1]; exact hk q h1 h2,
    ⟨Nat.le_trans hS.1 (by rw [e1]; exact hz), fun q h1 h2 => by rw [e1, hk q (Nat.lt_of_lt_of_le h1 hS.1) (fun z => h2 (hA q (Nat.lt_of_lt_of_le h1 hS.1) z))]; exact hS.2.1 q h1 h2, fun q hq => by
      rcases List.mem_append.mp hq with h | h
      · exact hS.2.2 q h
      · exact hf _ (hL q h)⟩⟩
theorem vx_calli {S SX : Type} {post : Int32 → S → Prop} {px : SX → Prop} {B : S → State → Prop} {BX : String → SX → State → Prop} {AX : Nat → Prop} (hr : vx_Run p l e R s m args below meth c H locs cells slots mc ms (F0 m pc ls st0) rest (va_Qi post B A1 a) (vx_X px BX AX) free) (hS : va_S A0 H0 H locs) (hA : ∀ q, q < H.size → A1 q → A0 q) (hf : ∀ q, free q → A0 q) (hAX : ∀ q, q < H.size → AX q → A0 q)
    (kx : ∀ (E : String) (ce : Cell) (q9 : Addr) (u : SX) (t : State) (H1 : Heap) (locs1 : List Loc), t.heap = H1 → s.vm.Alike t.vm → px u → BX E u t → H.size ≤ H1.size → (∀ q : Nat, q < H.size → ¬ AX q → H1[q]? = H[q]?) → va_S A0 H0 H1 locs1 → H1[q9]? = some ce → ce.vm = .none → s.vm.findClass E = some ce.cls → vx_W p l e R s m args below meth c H1 locs1 (cells + mc) (slots + ms) Q (F0 m pc ls rest) q9)
    (kk : ∀ (r : Int32) (u : S) (t : State) (H1 : Heap) (locs1 : List Loc), t.heap = H1 → s.vm.Alike t.vm → post r u → B u t → H.size ≤ H1.size → (∀ q : Nat, q < H.size → ¬ A1 q → H1[q]? = H[q]?) → va_S A0 H0 H1 locs1 → W p l e R s m args below meth c H1 locs1 (cells + mc) (slots + ms) Q (F0 m (pc + 3) ls (.int r :: rest))) : W p l e R s m args below meth c H locs cells slots Q (F0 m pc ls st0) := by
  intro T hT X
  rcases hr T hT X with ⟨v, st₀, t, T', L, h0, X', hL, e1, e2, ⟨⟨r, u, hv, hp, hb⟩, hF⟩, st⟩ | ⟨q, st₀, t, T', L, E, ce, h0, X', hL, e1, e2, ⟨u, hp, hb, hF⟩, hce, hcv, hcl, st⟩
  · cases hv
    obtain ⟨k1, k2, k3⟩ := vx_keep h0 e1 hS hA hf hL hF
    obtain ⟨t2, a1, b1⟩ := kk r u t T'.heap (locs ++ L) e1.symm (by rw [← e2]; exact X'.warmed.alike) hp hb k1 k2 k3 T' rfl X'
    exact ⟨t2, st t2 a1, b1⟩
  · obtain ⟨k1, k2, k3⟩ := vx_keep h0 e1 hS hAX hf hL hF
    obtain ⟨t2, a1, b1⟩ := kx E ce q u t T'.heap (locs ++ L) e1.symm (by rw [← e2]; exact X'.warmed.alike) hp hb k1 k2 k3 (by rw [e1]; exact hce) hcv hcl T' rfl X'
    exact ⟨t2, st.trans a1, b1⟩
theorem vx_calll {S SX : Type} {post : Int64 → S → Prop} {px : SX → Prop} {B : S → State → Prop} {BX : String → SX → State → Prop} {AX : Nat → Prop} (hr : vx_Run p l e R s m args below meth c H locs cells slots mc ms (F0 m pc ls st0) rest (va_Ql post B A1 a) (vx_X px BX AX) free) (hS : va_S A0 H0 H locs) (hA : ∀ q, q < H.size → A1 q → A0 q) (hf : ∀ q, free q → A0 q) (hAX : ∀ q, q < H.size → AX q → A0 q)
    (kx : ∀ (E : String) (ce : Cell) (q9 : Addr) (u : SX) (t : State) (H1 : Heap) (locs1 : List Loc), t.heap = H1 → s.vm.Alike t.vm → px u → BX E u t → H.size ≤ H1.size → (∀ q : Nat, q < H.size → ¬ AX q → H1[q]? = H[q]?) → va_S A0 H0 H1 locs1 → H1[q9]? = some ce → ce.vm = .none → s.vm.findClass E = some ce.cls → vx_W p l e R s m args below meth c H1 locs1 (cells + mc) (slots + ms) Q (F0 m pc ls rest) q9)
    (kk : ∀ (r : Int64) (u : S) (t : State) (H1 : Heap) (locs1 : List Loc), t.heap = H1 → s.vm.Alike t.vm → post r u → B u t → H.size ≤ H1.size → (∀ q : Nat, q < H.size → ¬ A1 q → H1[q]? = H[q]?) → va_S A0 H0 H1 locs1 → W p l e R s m args below meth c H1 locs1 (cells + mc) (slots + ms) Q (F0 m (pc + 3) ls (.long r :: rest))) : W p l e R s m args below meth c H locs cells slots Q (F0 m pc ls st0) := by
  intro T hT X
  rcases hr T hT X with ⟨v, st₀, t, T', L, h0, X', hL, e1, e2, ⟨⟨r, u, hv, hp, hb⟩, hF⟩, st⟩ | ⟨q, st₀, t, T', L, E, ce, h0, X', hL, e1, e2, ⟨u, hp, hb, hF⟩, hce, hcv, hcl, st⟩
  · cases hv
    obtain ⟨k1, k2, k3⟩ := vx_keep h0 e1 hS hA hf hL hF
    obtain ⟨t2, a1, b1⟩ := kk r u t T'.heap (locs ++ L) e1.symm (by rw [← e2]; exact X'.warmed.alike) hp hb k1 k2 k3 T' rfl X'
    exact ⟨t2, st t2 a1, b1⟩
  · obtain ⟨k1, k2, k3⟩ := vx_keep h0 e1 hS hAX hf hL hF
    obtain ⟨t2, a1, b1⟩ := kx E ce q u t T'.heap (locs ++ L) e1.symm (by rw [← e2]; exact X'.warmed.alike) hp hb k1 k2 k3 (by rw [e1]; exact hce) hcv hcl T' rfl X'
    exact ⟨t2, st.trans a1, b1⟩
theorem vx_callf {S SX : Type} {post : UInt32 → S → Prop} {px : SX → Prop} {B : S → State → Prop} {BX : String → SX → State → Prop} {AX : Nat → Prop} (hr : vx_Run p l e R s m args below meth c H locs cells slots mc ms (F0 m pc ls st0) rest (va_Qf post B A1 a) (vx_X px BX AX) free) (hS : va_S A0 H0 H locs) (hA : ∀ q, q < H.size → A1 q → A0 q) (hf : ∀ q, free q → A0 q) (hAX : ∀ q, q < H.size → AX q → A0 q)
    (kx : ∀ (E : String) (ce : Cell) (q9 : Addr) (u : SX) (t : State) (H1 : Heap) (locs1 : List Loc), t.heap = H1 → s.vm.Alike t.vm → px u → BX E u t → H.size ≤ H1.size → (∀ q : Nat, q < H.size → ¬ AX q → H1[q]? = H[q]?) → va_S A0 H0 H1 locs1 → H1[q9]? = some ce → ce.vm = .none → s.vm.findClass E = some ce.cls → vx_W p l e R s m args below meth c H1 locs1 (cells + mc) (slots + ms) Q (F0 m pc ls rest) q9)
    (kk : ∀ (r : UInt32) (u : S) (t : State) (H1 : Heap) (locs1 : List Loc), t.heap = H1 → s.vm.Alike t.vm → post r u → B u t → H.size ≤ H1.size → (∀ q : Nat, q < H.size → ¬ A1 q → H1[q]? = H[q]?) → va_S A0 H0 H1 locs1 → W p l e R s m args below meth c H1 locs1 (cells + mc) (slots + ms) Q (F0 m (pc + 3) ls (.float r :: rest))) : W p l e R s m args below meth c H locs cells slots Q (F0 m pc ls st0) := by
  intro T hT X
  rcases hr T hT X with ⟨v, st₀, t, T', L, h0, X', hL, e1, e2, ⟨⟨r, u, hv, hp, hb⟩, hF⟩, st⟩ | ⟨q, st₀, t, T', L, E, ce, h0, X', hL, e1, e2, ⟨u, hp, hb, hF⟩, hce, hcv, hcl, st⟩
  · cases hv
    obtain ⟨k1, k2, k3⟩ := vx_keep h0 e1 hS hA hf hL hF
    obtain ⟨t2, a1, b1⟩ := kk r u t T'.heap (locs ++ L) e1.symm (by rw [← e2]; exact X'.warmed.alike) hp hb k1 k2 k3 T' rfl X'
    exact ⟨t2, st t2 a1, b1⟩
  · obtain ⟨k1, k2, k3⟩ := vx_keep h0 e1 hS hAX hf hL hF
    obtain ⟨t2, a1, b1⟩ := kx E ce q u t T'.heap (locs ++ L) e1.symm (by rw [← e2]; exact X'.warmed.alike) hp hb k1 k2 k3 (by rw [e1]; exact hce) hcv hcl T' rfl X'
    exact ⟨t2, st.trans a1, b1⟩
theorem vx_calld {S SX : Type} {post : UInt64 → S → Prop} {px : SX → Prop} {B : S → State → Prop} {BX : String → SX → State → Prop} {AX : Nat → Prop} (hr : vx_Run p l e R s m args below meth c H locs cells slots mc ms (F0 m pc ls st0) rest (va_Qd post B A1 a) (vx_X px BX AX) free) (hS : va_S A0 H0 H locs) (hA : ∀ q, q < H.size → A1 q → A0 q) (hf : ∀ q, free q → A0 q) (hAX : ∀ q, q < H.size → AX q → A0 q)
    (kx : ∀ (E : String) (ce : Cell) (q9 : Addr) (u : SX) (t : State) (H1 : Heap) (locs1 : List Loc), t.heap = H1 → s.vm.Alike t.vm → px u → BX E u t → H.size ≤ H1.size → (∀ q : Nat, q < H.size → ¬ AX q → H1[q]? = H[q]?) → va_S A0 H0 H1 locs1 → H1[q9]? = some ce → ce.vm = .none → s.vm.findClass E = some ce.cls → vx_W p l e R s m args below meth c H1 locs1 (cells + mc) (slots + ms) Q (F0 m pc ls rest) q9)
    (kk : ∀ (r : UInt64) (u : S) (t : State) (H1 : Heap) (locs1 : List Loc), t.heap = H1 → s.vm.Alike t.vm → post r u → B u t → H.size ≤ H1.size → (∀ q : Nat, q < H.size → ¬ A1 q → H1[q]? = H[q]?) → va_S A0 H0 H1 locs1 → W p l e R s m args below meth c H1 locs1 (cells + mc) (slots + ms) Q (F0 m (pc + 3) ls (.double r :: rest))) : W p l e R s m args below meth c H locs cells slots Q (F0 m pc ls st0) := by
  intro T hT X
  rcases hr T hT X with ⟨v, st₀, t, T', L, h0, X', hL, e1, e2, ⟨⟨r, u, hv, hp, hb⟩, hF⟩, st⟩ | ⟨q, st₀, t, T', L, E, ce, h0, X', hL, e1, e2, ⟨u, hp, hb, hF⟩, hce, hcv, hcl, st⟩
  · cases hv
    obtain ⟨k1, k2, k3⟩ := vx_keep h0 e1 hS hA hf hL hF
    obtain ⟨t2, a1, b1⟩ := kk r u t T'.heap (locs ++ L) e1.symm (by rw [← e2]; exact X'.warmed.alike) hp hb k1 k2 k3 T' rfl X'
    exact ⟨t2, st t2 a1, b1⟩
  · obtain ⟨k1, k2, k3⟩ := vx_keep h0 e1 hS hAX hf hL hF
    obtain ⟨t2, a1, b1⟩ := kx E ce q u t T'.heap (locs ++ L) e1.symm (by rw [← e2]; exact X'.warmed.alike) hp hb k1 k2 k3 (by rw [e1]; exact hce) hcv hcl T' rfl X'
    exact ⟨t2, st.trans a1, b1⟩
theorem vx_callv {S SX : Type} {post : S → Prop} {px : SX → Prop} {B : S → State → Prop} {BX : String → SX → State → Prop} {AX : Nat → Prop} (hr : vx_Run p l e R s m args below meth c H locs cells slots mc ms (F0 m pc ls st0) rest (va_Qv post B A1 a) (vx_X px BX AX) free) (hS : va_S A0 H0 H locs) (hA : ∀ q, q < H.size → A1 q → A0 q) (hf : ∀ q, free q → A0 q) (hAX : ∀ q, q < H.size → AX q → A0 q)
    (kx : ∀ (E : String) (ce : Cell) (q9 : Addr) (u : SX) (t : State) (H1 : Heap) (locs1 : List Loc), t.heap = H1 → s.vm.Alike t.vm → px u → BX E u t → H.size ≤ H1.size → (∀ q : Nat, q < H.size → ¬ AX q → H1[q]? = H[q]?) → va_S A0 H0 H1 locs1 → H1[q9]? = some ce → ce.vm = .none → s.vm.findClass E = some ce.cls → vx_W p l e R s m args below meth c H1 locs1 (cells + mc) (slots + ms) Q (F0 m pc ls rest) q9)
    (kk : ∀ (u : S) (t : State) (H1 : Heap) (locs1 : List Loc), t.heap = H1 → s.vm.Alike t.vm → post u → B u t → H.size ≤ H1.size → (∀ q : Nat, q < H.size → ¬ A1 q → H1[q]? = H[q]?) → va_S A0 H0 H1 locs1 → W p l e R s m args below meth c H1 locs1 (cells + mc) (slots + ms) Q (F0 m (pc + 3) ls (rest))) : W p l e R s m args below meth c H locs cells slots Q (F0 m pc ls st0) := by
  intro T hT X
  rcases hr T hT X with ⟨v, st₀, t, T', L, h0, X', hL, e1, e2, ⟨⟨u, hv, hp, hb⟩, hF⟩, st⟩ | ⟨q, st₀, t, T', L, E, ce, h0, X', hL, e1, e2, ⟨u, hp, hb, hF⟩, hce, hcv, hcl, st⟩
  · cases hv
    obtain ⟨k1, k2, k3⟩ := vx_keep h0 e1 hS hA hf hL hF
    obtain ⟨t2, a1, b1⟩ := kk u t T'.heap (locs ++ L) e1.symm (by rw [← e2]; exact X'.warmed.alike) hp hb k1 k2 k3 T' rfl X'
    exact ⟨t2, st t2 a1, b1⟩
  · obtain ⟨k1, k2, k3⟩ := vx_keep h0 e1 hS hAX hf hL hF
    obtain ⟨t2, a1, b1⟩ := kx E ce q u t T'.heap (locs ++ L) e1.symm (by rw [← e2]; exact X'.warmed.alike) hp hb k1 k2 k3 (by rw [e1]; exact hce) hcv hcl T' rfl X'
    exact ⟨t2, st.trans a1, b1⟩
/-- caught by the row x of this method's table; the rows ahead don't take it -/
theorem vx_catch {own name : String} {E : String} {ce : Cell} {q : Addr} (hown : s.vm.findClass own = some m.cls) (pre : List ExceptionTableEntry) (x : ExceptionTableEntry) (suf : List ExceptionTableEntry) (hsplit : c.exceptionTable.toList = pre ++ x :: suf)
    (hpass : ∀ z ∈ pre, covers z pc = false ∨ (z.catchType ≠ 0 ∧ ∃ nm : String, (Cond.classLink own z.catchType nm).before args s = true ∧ va_Nc E nm s)) (hx : covers x pc = true) (h0 : x.catchType ≠ 0)
    (hlink : (Cond.classLink own x.catchType name).before args s = true) (hcast : (Cond.castable E name).before args s = true) (hcell : H[q]? = some ce) (hv : ce.vm = .none) (hcl : s.vm.findClass E = some ce.cls)
    (kk : W p l e R s m args below meth c H locs cells slots Q (F0 m x.handlerPc ls [.ref q])) : vx_W p l e R s m args below meth c H locs cells slots Q (F0 m pc ls rest) q := by
  intro T hT X
  have hpl : e.platform.magicAccessors = ({} : Platform).magicAccessors := by rw [X.admits.platform]
  obtain ⟨c3, c4, hc3, hc4, hasg⟩ := Cond.castable_spec hcast
  cases Option.some.inj (hc3.symm.trans hcl)
  obtain ⟨c5, hc5, hcl5⟩ := Cond.classLink_spec hown hlink e.platform hpl
  cases Option.some.inj (hc4.symm.trans hc5)
  obtain ⟨vm', X', st⟩ := X.thenCaughtThrough q (g := F0 m pc ls rest) rfl (Steps.refl _) (by rw [hT]; exact hcell) (by rw [hv]; rfl) (by obtain ⟨k9, h9, -⟩ := Vm.findClass_spec hcl; exact ⟨k9, h9⟩) pre x suf hsplit
    (fun z hz => by
      rcases hpass z hz with h | ⟨hz0, nm, hl1, hn1⟩
      · exact Or.inl h
      · obtain ⟨c6, hc6, hcl6⟩ := Cond.classLink_spec hown hl1 e.platform hpl
        obtain ⟨a8, b8, h1, h2, h3⟩ := hn1
        cases Option.some.inj (h1.symm.trans hcl)
        cases Option.some.inj (h2.symm.trans hc6)
        exact Or.inr ⟨hz0, _, hcl6, h3⟩) hx (Or.inr ⟨h0, c4, hcl5, hasg⟩)
  obtain ⟨t, a1, b1⟩ := kk (T.setVm vm') hT X'
  exact ⟨t, st.trans a1, b1⟩
end Rows
section Ends
variable {p : Program} {l : Launch} {e : Env} {R : Room} {s : State} {m : MethodId} {args : Array Value} {below : List Frame} {meth : Method} {c : Code} {H : Heap} {locs : List Loc} {cells slots : Nat} {Q : State → Prop}
variable {mc ms : Nat} {free : Addr → Prop} {A0 A1 : Nat → Prop} {H0 : Heap} {a : Array Value} {ls : Array Slot} {st0 rest : List Value}
variable {Qc : Array Value → State → Outcome → State → Prop} {XC : String → State → State → Prop}
/-- what a body that may throw owes at its end -/
def vx_MQ (below : List Frame) (Qc : Array Value → State → Outcome → State → Prop) (XC : String → State → State → Prop) (a : Array Value) (s : State) (mc ms : Nat) (free : Addr → Prop) : State → Prop := fun t =>
  ∃ o, t.status = .running ∧ Ended t below o ∧ vx_Q Qc XC mc ms free a s o t
theorem vx_ret {g : JFrame} {mc ms : Nat} (k : W p l e R s m args below meth c H locs cells slots (MQ below Qc args s mc ms free) g) : W p l e R s m args below meth c H locs cells slots (vx_MQ below Qc XC args s mc ms free) g := by
  intro T hT X
  obtain ⟨t, a1, o, b1, b2, b3, b4⟩ := k T hT X
  exact ⟨t, a1, o, b1, b2, Or.inl ⟨b3, b4⟩⟩
/-- not caught here: it goes on to the caller -/
theorem vx_widen {g : JFrame} {q : Addr} {k n : Nat} (h1 : cells ≤ k) (h2 : slots ≤ n) (kk : vx_W p l e R s m args below meth c H locs k n Q g q) : vx_W p l e R s m args below meth c H locs cells slots Q g q := fun T hT X => kk T hT (stand_widen X h1 h2)
theorem vx_out {pc : Nat} {E : String} {ce : Cell} {q : Addr} {mc ms : Nat} (hout : ∀ x ∈ c.exceptionTable.toList, covers x pc = false) (hlocks : meth.locks = false) (hcell : H[q]? = some ce) (hv : ce.vm = .none) (hcl : s.vm.findClass E = some ce.cls)
    (hx : ∀ t : State, t.heap = H → s.vm.Alike t.vm → XC E s t) (hf : ∀ z ∈ locs, free z.base) (hc : cells ≤ mc) (hs : slots ≤ ms) :
    vx_W p l e R s m args below meth c H locs cells slots (vx_MQ below Qc XC args s mc ms free) (F0 m pc ls rest) q := by
  intro T hT X
  obtain ⟨st1, hrun, hend, hW, hsm⟩ := X.leaveThrown q (g := F0 m pc ls rest) rfl rfl rfl hout hlocks
  have hcell9 : (T.setFrames (.throwing q :: below)).heap[q]? = some ce := by
    show T.heap[q]? = some ce
    rw [hT]; exact hcell
  exact ⟨_, st1, .threw q, hrun, hend, Or.inr ⟨q, rfl, E, ce, locs, hx _ hT hW.alike, hcell9, hv, hcl, hW, hsm.mono hc hs, hf⟩⟩
theorem vx_frame {U : State} {k n : Nat} (h : s.sameButNew ({ U with vm := s.vm } : State) locs k n) : s.heap.size ≤ U.heap.size ∧ ∀ q : Nat, q < s.heap.size → (∀ z ∈ locs, z.base ≠ q) → U.heap[q]? = s.heap[q]? := by
  obtain ⟨-, h2, -, -, -, h6⟩ := h
  refine ⟨h2, fun q hq hz => ?_⟩
  obtain ⟨c9, e1, e2, e3, e4⟩ := h6 q _ (Array.getElem?_eq_getElem hq)
  have hs : c9.slots = (s.heap[q]).slots := Array.ext_getElem? fun i => e4 i fun hm => hz _ hm rfl
  have h9 : c9 = s.heap[q] := by
    rw [hs] at e2
    exact e2
  have e5 : U.heap[q]? = some c9 := e1
  rw [e5, h9, Array.getElem?_eq_getElem hq]
/-- the words of a throw but the four that speak of the heap -/
def vx_no (w : Cond) : Bool := decide (w ≠ .isRef (.static Bundle.tN "UNASSIGNED_STACK" Bundle.steD)) && decide (w ≠ .isRef (.static Bundle.tN "SUPPRESSED_SENTINEL" Bundle.listD)) && decide (w ≠ .laysStatic Bundle.tN "UNASSIGNED_STACK" Bundle.steD) && decide (w ≠ .laysStatic Bundle.tN "SUPPRESSED_SENTINEL" Bundle.listD)
def vx_at0 (own : String) (ic : Nat) (X : String) (names : List String) : List Cond := (Bundle.ownAtoms0 own ic X names).filter vx_no
def vx_atS (own : String) (ic : Nat) (X : String) (names : List String) : List Cond := (Bundle.ownAtoms own ic X names).filter vx_no
/-- a word that the tables alone decide, or a good one -/
def vx_ot (w : Cond) : Bool := w.onTables || goodWord w
theorem vx_ot_at {args a' : Array Value} {s U : State} {w : Cond} (hW : s.WarmedH U.vm) (hvm : s.vm = U.vm) (hg : vx_ot w = true) (h : w.before args s = true) : w.before a' U = true := by
  simp only [vx_ot, Bool.or_eq_true] at hg
  rcases hg with hg | hg
  · exact va_tabs hg hvm h
  · exact word_at hW (good_of_word hg) h
/-- a list's words: the good ones out of the method's own list, the others by premises of their own -/
theorem vx_hat {args : Array Value} {s : State} {L B : List Cond} (h1 : ∀ w ∈ L.filter goodWord, w.before args s = true) (h2 : ∀ w ∈ L.filter (fun w => !goodWord w), w ∈ B) (h3 : ∀ w ∈ B, w.before args s = true) : ∀ w ∈ L, w.before args s = true := by
  intro w hw
  by_cases g : goodWord w = true
  · exact h1 w (List.mem_filter.mpr ⟨hw, g⟩)
  · refine h3 w (h2 w (List.mem_filter.mpr ⟨hw, ?_⟩))
    show (!goodWord w) = true
    cases hgw : goodWord w
    · rfl
    · exact absurd hgw g
theorem vx_c {args : Array Value} {s : State} {w : Cond} {B : List Cond} (h : w.before args s = true) (t : ∀ w ∈ B, w.before args s = true) : ∀ w' ∈ w :: B, w'.before args s = true := fun w' h' => (List.mem_cons.mp h').elim (fun e => by rw [e]; exact h) (t w')
theorem vx_n {args : Array Value} {s : State} : ∀ w ∈ ([] : List Cond), w.before args s = true := fun _ h => nomatch h
theorem vx_own {args : Array Value} {s : State} {L : List Cond} (h1 : ∀ w ∈ L.filter vx_no, w.before args s = true)
    (hU : (Cond.isRef (.static Bundle.tN "UNASSIGNED_STACK" Bundle.steD)).before args s = true) (hN : (Cond.isRef (.static Bundle.tN "SUPPRESSED_SENTINEL" Bundle.listD)).before args s = true)
    (lU : (Cond.laysStatic Bundle.tN "UNASSIGNED_STACK" Bundle.steD).before args s = true) (lN : (Cond.laysStatic Bundle.tN "SUPPRESSED_SENTINEL" Bundle.listD).before args s = true) : ∀ w ∈ L, w.before args s = true := by
  intro w hw
  by_cases e1 : w = .isRef (.static Bundle.tN "UNASSIGNED_STACK" Bundle.steD)
  · rw [e1]; exact hU
  · by_cases e2 : w = .isRef (.static Bundle.tN "SUPPRESSED_SENTINEL" Bundle.listD)
    · rw [e2]; exact hN
    · by_cases e3 : w = .laysStatic Bundle.tN "UNASSIGNED_STACK" Bundle.steD
      · rw [e3]; exact lU
      · by_cases e4 : w = .laysStatic Bundle.tN "SUPPRESSED_SENTINEL" Bundle.listD
        · rw [e4]; exact lN
        · exact h1 w (List.mem_filter.mpr ⟨hw, by unfold vx_no; rw [decide_eq_true e1, decide_eq_true e2, decide_eq_true e3, decide_eq_true e4]; rfl⟩)
/-- where a static field lies, its class's statics cell in H -/
def vx_L (C n d : String) (A : Nat → Prop) (U : State) (H : Heap) : Prop := ∃ (c : ClassId) (k : Class) (i : Nat) (f : Field) (a : Nat) (cell : Cell), U.vm.findClass C = some c ∧ U.fieldFound? C n d = some (c, k, i, f) ∧ f.isStatic = true ∧ k.statics = some a ∧ H[a]? = some cell ∧ cell.vm.isStatics = true ∧ cell.cls = c ∧ f.slot < cell.slots.size ∧ k.staticTypes[f.slot]? = some f.type ∧ ¬ A a
theorem vx_L.moved {C n d : String} {A : Nat → Prop} {u U : State} {H : Heap} (hvm : u.vm.Alike U.vm) (h : vx_L C n d A u H) : vx_L C n d A U H := by
  obtain ⟨c, k, i, f, a, cell, h1, h2, h3, h4, h5, h6, h7, h8, h9, h10⟩ := h
  obtain ⟨k', hi', he⟩ := State.fieldFound?_setVm hvm h2
  exact ⟨c, k', i, f, a, cell, by rw [hvm.findClass]; exact h1, hi', h3, by rw [he]; exact h4, h5, h6, h7, h8, by rw [he]; exact h9, h10⟩
theorem vx_L.kept {C n d : String} {A : Nat → Prop} {U : State} {H H1 : Heap} (h : vx_L C n d A U H) (hq : ∀ a : Nat, a < H.size → ¬ A a → H1[a]? = H[a]?) : vx_L C n d A U H1 := by
  obtain ⟨c, k, i, f, a, cell, h1, h2, h3, h4, h5, h6, h7, h8, h9, h10⟩ := h
  exact ⟨c, k, i, f, a, cell, h1, h2, h3, h4, by rw [hq a (Array.getElem?_eq_some_iff.mp h5).1 h10]; exact h5, h6, h7, h8, h9, h10⟩
theorem vx_L.narrow {C n d : String} {A B : Nat → Prop} {U : State} {H : Heap} (h : vx_L C n d A U H) (hAB : ∀ q, B q → A q) : vx_L C n d B U H := by
  obtain ⟨c, k, i, f, a, cell, h1, h2, h3, h4, h5, h6, h7, h8, h9, h10⟩ := h
  exact ⟨c, k, i, f, a, cell, h1, h2, h3, h4, h5, h6, h7, h8, h9, fun z => h10 (hAB _ z)⟩
theorem vx_L.word {C n d : String} {A : Nat → Prop} {s : State} {args : Array Value} (h : vx_L C n d A s s.heap) : (Cond.laysStatic C n d).before args s = true := by
  obtain ⟨c, k, i, f, a, cell, h1, h2, h3, h4, h5, h6, h7, h8, h9, -⟩ := h
  show (Cond.laysStatic C n d).holds args s none s [] = true
  exact Cond.laysStatic_of h1 h2 h3 h4 h5 h6 h7 h8 h9
/-- .. and what it holds: null or some reference -/
def vx_Zq (C n d : String) (A : Nat → Prop) (U : State) (H : Heap) : Prop := va_Zq C n d A U H ∧ vx_L C n d A U H
theorem vx_Zq.moved {C n d : String} {A : Nat → Prop} {u U : State} {H : Heap} (hvm : u.vm.Alike U.vm) (h : vx_Zq C n d A u H) : vx_Zq C n d A U H := ⟨va_Zq.moved hvm h.1, vx_L.moved hvm h.2⟩
theorem vx_Zq.kept {C n d : String} {A : Nat → Prop} {U : State} {H H1 : Heap} (h : vx_Zq C n d A U H) (hq : ∀ a : Nat, a < H.size → ¬ A a → H1[a]? = H[a]?) : vx_Zq C n d A U H1 := ⟨va_Zq.kept h.1 hq, vx_L.kept h.2 hq⟩
theorem vx_Zq.narrow {C n d : String} {A B : Nat → Prop} {U : State} {H : Heap} (h : vx_Zq C n d A U H) (hAB : ∀ q, B q → A q) : vx_Zq C n d B U H := ⟨va_Zq.narrow h.1 hAB, vx_L.narrow h.2 hAB⟩
theorem vx_Zqof {args : Array Value} {s : State} {C n d : String} {A : Nat → Prop} (hl : (Cond.laysStatic C n d).before args s = true) (hini : (Cond.initialized C).before args s = true) (h : (Cond.isRef (.static C n d)).before args s = true) (hA : ∀ a : Nat, a < s.heap.size → ¬ A a) : vx_Zq C n d A s s.heap := by
  refine ⟨va_Zqof hl hini h hA, ?_⟩
  obtain ⟨c, k, i, f, a, cell, h1, h2, h3, h4, h5, h6, h7, h8, h9⟩ := Cond.laysStatic_spec hl
  exact ⟨c, k, i, f, a, cell, h1, h2, h3, h4, h5, h6, h7, h8, h9, hA a (Array.getElem?_eq_some_iff.mp h5).1⟩
theorem vx_isRef {C n d : String} {v : Value} {A : Nat → Prop} {s : State} {args : Array Value} (h : va_Z C n d v A s s.heap) (hv : v.isRef = true) : (Cond.isRef (.static C n d)).before args s = true := by
  obtain ⟨cf, kf, fi, f, a, cell, h1, h2, h3, h4, h5, h6, h7, -⟩ := h
  have he : (Term.static C n d).eval args s none [] s = some v := by
    simp [Term.eval, State.fieldNamed?, h1, h2, h4, h5, h6, h7]
  simp only [Cond.before, Cond.holds, Cond.value, he]
  cases v <;> simp_all [Value.isRef]
theorem vx_isRefq {C n d : String} {A : Nat → Prop} {s : State} {args : Array Value} (h : va_Zq C n d A s s.heap) : (Cond.isRef (.static C n d)).before args s = true := by
  rcases h with h | ⟨t, h⟩
  · exact vx_isRef h rfl
  · exact vx_isRef h rfl
/-- the same frame, seen from here: as if the method were called anew in this heap -/
theorem vx_rebase {T : State} (X : Stand p l e R s m args below meth c T locs cells slots) {R' : Room} (hf : R'.frames ≤ R.frames) (hl : R'.locals ≤ R.locals) (hc : cells + R'.cells ≤ R.cells) (hs : slots + R'.slots ≤ R.slots) :
    Stand p l e R' ((T.setVm s.vm).setFrames (.invoking m args :: below)) m args below meth c T [] 0 0 := by
  have htop : (T.setVm s.vm).topJava?.isSome := X.here.top
  have hF : ((T.setVm s.vm).setFrames (.invoking m args :: below)).frames = .invoking m args :: below := State.frames_setFrames _ (State.cur_lt_of_top htop)
  obtain ⟨g₀, hg0⟩ := Option.isSome_iff_exists.mp htop
  obtain ⟨r, hr⟩ := State.topJava?_eq_some.mp hg0
  have hl9 : e.platform.stackLimits (T.setVm s.vm).me = e.platform.stackLimits s.me := X.limits
  have hb9 : (T.setVm s.vm).me.stackBytes = s.me.stackBytes := X.bytes
  refine ⟨X.admits, X.cas, X.clock, hF, ?_, X.hears, X.method, X.code, X.here, X.tail, X.warmed, ?_, ?_, ?_⟩
  · have h := X.room
    have hU : ((T.setVm s.vm).setFrames (.invoking m args :: below)).localsInUse = s.localsInUse := by
      rw [State.localsInUse_invoking hF (meth := meth) (c := c) X.method X.code, State.localsInUse_invoking X.frames X.method X.code]
    simp only [State.hasRoom, Bool.and_eq_true, decide_eq_true_eq] at h ⊢
    obtain ⟨⟨⟨⟨h1, h2, h3, h4, h5, h6⟩, h7⟩, h8⟩, h9⟩ := h
    rw [X.frames, List.length_cons] at h2 h3
    have q1 := X.heapSize
    have q2 := X.used
    simp only [hF, hU, List.length_cons, State.stackLimits_setFrames, State.stackBytes_setFrames, hl9, hb9]
    refine ⟨⟨⟨⟨by omega, by omega, by omega, by omega, by omega, h6⟩, ?_⟩, ?_⟩, X.book⟩
    · show T.heap.size + R'.cells ≤ e.platform.maxCells
      omega
    · show T.slotsUsed + R'.slots ≤ e.platform.maxSlots
      omega
  · rw [State.stackLimits_setFrames]; rfl
  · rw [State.stackBytes_setFrames]; rfl
  · refine ⟨?_, Nat.le_refl _, Nat.le_refl _, ?_, ?_, fun a c9 h9 => ⟨c9, h9, rfl, rfl, fun _ _ => rfl⟩⟩
    · obtain ⟨t, ht, -⟩ := State.frames_cons hr
      show T.setVm s.vm = { ((T.setVm s.vm).setFrames (.invoking m args :: below)).setFrames (T.setVm s.vm).frames with heap := T.heap, slotsUsed := T.slotsUsed }
      rw [State.setFrames_setFrames, State.setFrames_self ht]
      rfl
    · show T.slotsUsed = T.slotsUsed + ((T.heap.toList.drop T.heap.size).map (·.slots.size)).sum
      rw [List.drop_eq_nil_of_le (Nat.le_of_eq Array.length_toList)]
      rfl
    · show ((T.heap.toList.drop T.heap.size).map (·.slots.size)).sum ≤ 0
      rw [List.drop_eq_nil_of_le (Nat.le_of_eq Array.length_toList)]
      exact Nat.le_refl _
/-- 'throw new E()': new; dup; invokespecial; athrow -/
theorem vx_throw0 {cc : ByteArray} {pc : Nat} (hexec : p.tables.exec = Jvm.exec) (hb : c.code = cc) (hl : l.stackTraces = false) {own cls : String} {names : List String} {ik ic mc ms : Nat} {A : Nat → Prop}
    (hown : s.vm.findClass own = some m.cls) (hcls : Bundle.fit cls = true) (hnames : ∀ n ∈ names, Bundle.fit n = true)
    (hk : (Cond.classLink own ik cls).before args s = true) (hini : (Cond.initialized cls).before args s = true) (hat : ∀ w ∈ vx_at0 own ic cls names, w.before args s = true)
    (hgood : ∀ w ∈ Cond.classLink own ik cls :: Cond.initialized cls :: vx_at0 own ic cls names, vx_ot w = true)
    (hU : vx_Zq Bundle.tN "UNASSIGNED_STACK" Bundle.steD A s s.heap) (hN : vx_Zq Bundle.tN "SUPPRESSED_SENTINEL" Bundle.listD A s s.heap) (hS : va_S A s.heap H locs) (hsize : ls.size = c.maxLocals)
    (d0 : decode cc pc = .ok (.new ik, 3)) (d3 : decode cc (pc + 3) = .ok (.dup, 1)) (d4 : decode cc (pc + 4) = .ok (.invokespecial ic, 3)) (d7 : decode cc (pc + 7) = .ok (.athrow, 1))
    (hout : ∀ x ∈ c.exceptionTable.toList, covers x (pc + 7) = false)
    (hRframes : names.length + 3 < R.frames) (hRlocals : (rest.map fun v => v.category).sum + (13 * (names.length + 1) + 42) ≤ R.locals) (hRcells : cells + 1 ≤ R.cells) (hRslots : slots + 6 ≤ R.slots) (hlocks : meth.locks = false)
    (hx : ∀ t : State, s.vm.Alike t.vm → H.size ≤ t.heap.size → (∀ q : Nat, q < H.size → t.heap[q]? = H[q]?) → XC cls s t)
    (hf : ∀ z ∈ locs, free z.base) (hc : cells + 1 ≤ mc) (hs : slots + 6 ≤ ms) :
    W p l e R s m args below meth c H locs cells slots (vx_MQ below Qc XC args s mc ms free) (F0 m pc ls rest) := by
  intro T hT X
  have htr : e.platform.stackTraces = false := (show e.platform.stackTraces = l.stackTraces by rw [X.admits.platform]).trans hl
  have Y := vx_rebase X (R' := { frames := R.frames, locals := R.locals, cells := 1, slots := 6 }) (Nat.le_refl _) (Nat.le_refl _) hRcells hRslots
  obtain ⟨s', hA⟩ : ∃ z, z = (T.setVm s.vm).setFrames (.invoking m args :: below) := ⟨_, rfl⟩
  rw [← hA] at Y
  have hvm : s'.vm = s.vm := by rw [hA]; rfl
  have hhp : s'.heap = H := by rw [hA]; exact hT
  have hW0 : s.WarmedH s'.vm := by rw [hvm]; exact State.WarmedH.refl s
  have hat' : ∀ w ∈ vx_at0 own ic cls names, w.before args s' = true := fun w hw => vx_ot_at hW0 hvm.symm (hgood w (List.mem_cons_of_mem _ (List.mem_cons_of_mem _ hw))) (hat w hw)
  have hk' : (Cond.classLink own ik cls).before args s' = true := vx_ot_at hW0 hvm.symm (hgood _ List.mem_cons_self) hk
  have hini' : (Cond.initialized cls).before args s' = true := vx_ot_at hW0 hvm.symm (hgood _ (List.mem_cons_of_mem _ List.mem_cons_self)) hini
  have hU' : vx_Zq Bundle.tN "UNASSIGNED_STACK" Bundle.steD A s' s'.heap := by rw [hhp]; exact vx_Zq.moved hW0.alike (hU.kept hS.2.1)
  have hN' : vx_Zq Bundle.tN "SUPPRESSED_SENTINEL" Bundle.listD A s' s'.heap := by rw [hhp]; exact vx_Zq.moved hW0.alike (hN.kept hS.2.1)
  have h : ∀ w ∈ Bundle.ownAtoms0 own ic cls names, w.before args s' = true := vx_own hat' (vx_isRefq hU'.1) (vx_isRefq hN'.1) hU'.2.word hN'.2.word
  have hown' : s'.vm.findClass own = some m.cls := by rw [hvm]; exact hown
  have hins : (Cond.instantiable cls 6).before args s' = true := h _ (by simp [Bundle.ownAtoms0])
  obtain ⟨vm₁, cX, kX, hfX, hkX, -, -, X₁, st1⟩ := Y.newCold hexec (own := own) (C := cls) (index := ik) (n := 6) hown' hk' hins hini'
    (g := F0 m pc ls rest) rfl (by rw [hb]; exact d0) (Nat.le_refl _) (Nat.le_refl _)
  generalize hT1 : (T.setVm vm₁).pushCell { cls := cX, slots := kX.instanceTypes.map defaultValue, vm := .none } = T1 at X₁ st1
  have hcat : (Value.ref T.heap.size).category = 1 := rfl
  have hcellA : T1.heap[T.heap.size]? = some (freshCell cX kX) := by rw [← hT1]; exact State.heap_pushCell_size _ _
  have d3' : decode c.code (pc + 3) = .ok (.dup, 1) := by rw [hb]; exact d3
  obtain ⟨U, hsteps, hrun, hend, hW, hsame, ce, hce, hO⟩ := X₁.ctorThrow0 hexec htr (own := own) (cls := cls) (names := names) (ic := ic) hown' hcls hnames h (fun x hx => nomatch hx) hfX hkX hcellA (by rw [hhp, hT]; exact Nat.le_refl _)
    (g := { method := m, pc := pc + 4, locals := ls, stack := .ref T.heap.size :: .ref T.heap.size :: rest, locked := none }) rfl hsize rfl rfl (rest := rest) rfl
    (by rw [hb]; exact d4) (by rw [hb]; exact d7) hout hRframes (by simp only [List.map_cons, List.sum_cons, hcat]; omega) hlocks
  obtain ⟨f1, f2⟩ := vx_frame hsame
  rw [hhp] at f1 f2
  have hWs : s.WarmedH U.vm := State.WarmedH.trans hW0 hW
  have hcl : s.vm.findClass cls = some ce.cls := by
    have h9 := hO.cls
    rw [hvm] at h9
    exact h9
  have hall : s.sameButNew ({ U with vm := s.vm } : State) locs mc ms := by
    subst hA
    obtain ⟨e1, e2⟩ := hsame
    rw [State.setFrames_setFrames] at e1
    have h2 : (T.setVm s.vm).sameButNew ({ U with vm := s.vm } : State) [] (0 + 1) (0 + 6) := ⟨e1, e2⟩
    have h3 := X.same.trans h2
    rw [List.append_nil] at h3
    exact h3.mono hc hs
  refine ⟨U, ?_, .threw T.heap.size, hrun, hend, Or.inr ⟨T.heap.size, rfl, cls, ce, locs, hx U hWs.alike f1 (fun q hq => f2 q hq (fun z hz => nomatch hz)), hce, hO.vm, hcl, hWs, hall, hf⟩⟩
  refine st1 _ ?_
  show Steps p.tables e below (T1.setTop { method := m, pc := pc + 3, locals := ls, stack := .ref T.heap.size :: rest, locked := none }) _
  jvm_step X₁.here [X₁.here.top, hexec, d3', Value.category]
  exact hsteps
/-- 'throw new E("text")': new; dup; ldc; invokespecial; athrow -/
theorem vx_throwS {cc : ByteArray} {pc : Nat} (hexec : p.tables.exec = Jvm.exec) (hb : c.code = cc) (hl : l.stackTraces = false) {own cls text : String} {names : List String} {ik is ic mc ms sa : Nat} {A : Nat → Prop}
    (hown : s.vm.findClass own = some m.cls) (hcls : Bundle.fit cls = true) (hnames : ∀ n ∈ names, Bundle.fit n = true)
    (hk : (Cond.classLink own ik cls).before args s = true) (hini : (Cond.initialized cls).before args s = true) (hstr : vk_R own is text sa s) (hat : ∀ w ∈ vx_atS own ic cls names, w.before args s = true)
    (hgood : ∀ w ∈ Cond.classLink own ik cls :: Cond.initialized cls :: vx_atS own ic cls names, vx_ot w = true)
    (hU : vx_Zq Bundle.tN "UNASSIGNED_STACK" Bundle.steD A s s.heap) (hN : vx_Zq Bundle.tN "SUPPRESSED_SENTINEL" Bundle.listD A s s.heap) (hS : va_S A s.heap H locs) (hsize : ls.size = c.maxLocals)
    (d0 : decode cc pc = .ok (.new ik, 3)) (d3 : decode cc (pc + 3) = .ok (.dup, 1)) (d4 : decode cc (pc + 4) = .ok (.ldc is, 2)) (d6 : decode cc (pc + 6) = .ok (.invokespecial ic, 3)) (d9 : decode cc (pc + 9) = .ok (.athrow, 1))
    (hout : ∀ x ∈ c.exceptionTable.toList, covers x (pc + 9) = false)
    (hRframes : names.length + 3 < R.frames) (hRlocals : (rest.map fun v => v.category).sum + (13 * (names.length + 1) + 43) ≤ R.locals) (hRcells : cells + 1 ≤ R.cells) (hRslots : slots + 6 ≤ R.slots) (hlocks : meth.locks = false)
    (hx : ∀ t : State, s.vm.Alike t.vm → H.size ≤ t.heap.size → (∀ q : Nat, q < H.size → t.heap[q]? = H[q]?) → XC cls s t)
    (hf : ∀ z ∈ locs, free z.base) (hc : cells + 1 ≤ mc) (hs : slots + 6 ≤ ms) :
    W p l e R s m args below meth c H locs cells slots (vx_MQ below Qc XC args s mc ms free) (F0 m pc ls rest) := by
  intro T hT X
  have htr : e.platform.stackTraces = false := (show e.platform.stackTraces = l.stackTraces by rw [X.admits.platform]).trans hl
  have Y := vx_rebase X (R' := { frames := R.frames, locals := R.locals, cells := 1, slots := 6 }) (Nat.le_refl _) (Nat.le_refl _) hRcells hRslots
  obtain ⟨s', hA⟩ : ∃ z, z = (T.setVm s.vm).setFrames (.invoking m args :: below) := ⟨_, rfl⟩
  rw [← hA] at Y
  have hvm : s'.vm = s.vm := by rw [hA]; rfl
  have hhp : s'.heap = H := by rw [hA]; exact hT
  have hW0 : s.WarmedH s'.vm := by rw [hvm]; exact State.WarmedH.refl s
  have hat' : ∀ w ∈ vx_atS own ic cls names, w.before args s' = true := fun w hw => vx_ot_at hW0 hvm.symm (hgood w (List.mem_cons_of_mem _ (List.mem_cons_of_mem _ hw))) (hat w hw)
  have hk' : (Cond.classLink own ik cls).before args s' = true := vx_ot_at hW0 hvm.symm (hgood _ List.mem_cons_self) hk
  have hini' : (Cond.initialized cls).before args s' = true := vx_ot_at hW0 hvm.symm (hgood _ (List.mem_cons_of_mem _ List.mem_cons_self)) hini
  have hU' : vx_Zq Bundle.tN "UNASSIGNED_STACK" Bundle.steD A s' s'.heap := by rw [hhp]; exact vx_Zq.moved hW0.alike (hU.kept hS.2.1)
  have hN' : vx_Zq Bundle.tN "SUPPRESSED_SENTINEL" Bundle.listD A s' s'.heap := by rw [hhp]; exact vx_Zq.moved hW0.alike (hN.kept hS.2.1)
  have h : ∀ w ∈ Bundle.ownAtoms own ic cls names, w.before args s' = true := vx_own hat' (vx_isRefq hU'.1) (vx_isRefq hN'.1) hU'.2.word hN'.2.word
  have hown' : s'.vm.findClass own = some m.cls := by rw [hvm]; exact hown
  have hins : (Cond.instantiable cls 6).before args s' = true := h _ (by simp [Bundle.ownAtoms])
  obtain ⟨vm₁, cX, kX, hfX, hkX, -, -, X₁, st1⟩ := Y.newCold hexec (own := own) (C := cls) (index := ik) (n := 6) hown' hk' hins hini'
    (g := F0 m pc ls rest) rfl (by rw [hb]; exact d0) (Nat.le_refl _) (Nat.le_refl _)
  generalize hT1 : (T.setVm vm₁).pushCell { cls := cX, slots := kX.instanceTypes.map defaultValue, vm := .none } = T1 at X₁ st1
  have hcat : (Value.ref T.heap.size).category = 1 := rfl
  have hcellA : T1.heap[T.heap.size]? = some (freshCell cX kX) := by rw [← hT1]; exact State.heap_pushCell_size _ _
  have d3' : decode c.code (pc + 3) = .ok (.dup, 1) := by rw [hb]; exact d3
  have d4' : decode c.code (pc + 4) = .ok (.ldc is, 2) := by rw [hb]; exact d4
  have hstr' : vk_R own is text sa s' := vk_R.warm hW0 hstr
  obtain ⟨U, hsteps, hrun, hend, hW, hsame, ce, hce, hO⟩ := X₁.ctorThrowS hexec htr (own := own) (cls := cls) (names := names) (ic := ic) hown' hcls hnames h (fun x hx => nomatch hx) hfX hkX hcellA (by rw [hhp, hT]; exact Nat.le_refl _) (msg := .ref sa) rfl
    (g := { method := m, pc := pc + 6, locals := ls, stack := .ref sa :: .ref T.heap.size :: .ref T.heap.size :: rest, locked := none }) rfl hsize rfl rfl (rest := rest) rfl
    (by rw [hb]; exact d6) (by rw [hb]; exact d9) hout hRframes (by simp only [List.map_cons, List.sum_cons, hcat]; omega) hlocks
  obtain ⟨f1, f2⟩ := vx_frame hsame
  rw [hhp] at f1 f2
  have hWs : s.WarmedH U.vm := State.WarmedH.trans hW0 hW
  have hcl : s.vm.findClass cls = some ce.cls := by
    have h9 := hO.cls
    rw [hvm] at h9
    exact h9
  have hall : s.sameButNew ({ U with vm := s.vm } : State) locs mc ms := by
    subst hA
    obtain ⟨e1, e2⟩ := hsame
    rw [State.setFrames_setFrames] at e1
    have h2 : (T.setVm s.vm).sameButNew ({ U with vm := s.vm } : State) [] (0 + 1) (0 + 6) := ⟨e1, e2⟩
    have h3 := X.same.trans h2
    rw [List.append_nil] at h3
    exact h3.mono hc hs
  refine ⟨U, ?_, .threw T.heap.size, hrun, hend, Or.inr ⟨T.heap.size, rfl, cls, ce, locs, hx U hWs.alike f1 (fun q hq => f2 q hq (fun z hz => nomatch hz)), hce, hO.vm, hcl, hWs, hall, hf⟩⟩
  refine st1 _ ?_
  show Steps p.tables e below (T1.setTop { method := m, pc := pc + 3, locals := ls, stack := .ref T.heap.size :: rest, locked := none }) _
  jvm_step X₁.here [X₁.here.top, hexec, d3', Value.category]
  exact X₁.ldcString hexec (own := own) (text := text) (index := is) (a := sa) hown' hstr'.1 hstr'.2
    (g := { method := m, pc := pc + 4, locals := ls, stack := .ref T.heap.size :: .ref T.heap.size :: rest, locked := none }) rfl d4' _ hsteps
/-- 'throw new E("text")', the text by a wide index -/
theorem vx_throwSW {cc : ByteArray} {pc : Nat} (hexec : p.tables.exec = Jvm.exec) (hb : c.code = cc) (hl : l.stackTraces = false) {own cls text : String} {names : List String} {ik is ic mc ms sa : Nat} {A : Nat → Prop}
    (hown : s.vm.findClass own = some m.cls) (hcls : Bundle.fit cls = true) (hnames : ∀ n ∈ names, Bundle.fit n = true)
    (hk : (Cond.classLink own ik cls).before args s = true) (hini : (Cond.initialized cls).before args s = true) (hstr : vk_R own is text sa s) (hat : ∀ w ∈ vx_atS own ic cls names, w.before args s = true)
    (hgood : ∀ w ∈ Cond.classLink own ik cls :: Cond.initialized cls :: vx_atS own ic cls names, vx_ot w = true)
    (hU : vx_Zq Bundle.tN "UNASSIGNED_STACK" Bundle.steD A s s.heap) (hN : vx_Zq Bundle.tN "SUPPRESSED_SENTINEL" Bundle.listD A s s.heap) (hS : va_S A s.heap H locs) (hsize : ls.size = c.maxLocals)
    (d0 : decode cc pc = .ok (.new ik, 3)) (d3 : decode cc (pc + 3) = .ok (.dup, 1)) (d4 : decode cc (pc + 4) = .ok (.ldc_w is, 3)) (d7 : decode cc (pc + 7) = .ok (.invokespecial ic, 3)) (d10 : decode cc (pc + 10) = .ok (.athrow, 1))
    (hout : ∀ x ∈ c.exceptionTable.toList, covers x (pc + 10) = false)
    (hRframes : names.length + 3 < R.frames) (hRlocals : (rest.map fun v => v.category).sum + (13 * (names.length + 1) + 43) ≤ R.locals) (hRcells : cells + 1 ≤ R.cells) (hRslots : slots + 6 ≤ R.slots) (hlocks : meth.locks = false)
    (hx : ∀ t : State, s.vm.Alike t.vm → H.size ≤ t.heap.size → (∀ q : Nat, q < H.size → t.heap[q]? = H[q]?) → XC cls s t)
    (hf : ∀ z ∈ locs, free z.base) (hc : cells + 1 ≤ mc) (hs : slots + 6 ≤ ms) :
    W p l e R s m args below meth c H locs cells slots (vx_MQ below Qc XC args s mc ms free) (F0 m pc ls rest) := by
  intro T hT X
  have htr : e.platform.stackTraces = false := (show e.platform.stackTraces = l.stackTraces by rw [X.admits.platform]).trans hl
  have Y := vx_rebase X (R' := { frames := R.frames, locals := R.locals, cells := 1, slots := 6 }) (Nat.le_refl _) (Nat.le_refl _) hRcells hRslots
  obtain ⟨s', hA⟩ : ∃ z, z = (T.setVm s.vm).setFrames (.invoking m args :: below) := ⟨_, rfl⟩
  rw [← hA] at Y
  have hvm : s'.vm = s.vm := by rw [hA]; rfl
  have hhp : s'.heap = H := by rw [hA]; exact hT
  have hW0 : s.WarmedH s'.vm := by rw [hvm]; exact State.WarmedH.refl s
  have hat' : ∀ w ∈ vx_atS own ic cls names, w.before args s' = true := fun w hw => vx_ot_at hW0 hvm.symm (hgood w (List.mem_cons_of_mem _ (List.mem_cons_of_mem _ hw))) (hat w hw)
  have hk' : (Cond.classLink own ik cls).before args s' = true := vx_ot_at hW0 hvm.symm (hgood _ List.mem_cons_self) hk
  have hini' : (Cond.initialized cls).before args s' = true := vx_ot_at hW0 hvm.symm (hgood _ (List.mem_cons_of_mem _ List.mem_cons_self)) hini
  have hU' : vx_Zq Bundle.tN "UNASSIGNED_STACK" Bundle.steD A s' s'.heap := by rw [hhp]; exact vx_Zq.moved hW0.alike (hU.kept hS.2.1)
  have hN' : vx_Zq Bundle.tN "SUPPRESSED_SENTINEL" Bundle.listD A s' s'.heap := by rw [hhp]; exact vx_Zq.moved hW0.alike (hN.kept hS.2.1)
  have h : ∀ w ∈ Bundle.ownAtoms own ic cls names, w.before args s' = true := vx_own hat' (vx_isRefq hU'.1) (vx_isRefq hN'.1) hU'.2.word hN'.2.word
  have hown' : s'.vm.findClass own = some m.cls := by rw [hvm]; exact hown
  have hins : (Cond.instantiable cls 6).before args s' = true := h _ (by simp [Bundle.ownAtoms])
  obtain ⟨vm₁, cX, kX, hfX, hkX, -, -, X₁, st1⟩ := Y.newCold hexec (own := own) (C := cls) (index := ik) (n := 6) hown' hk' hins hini'
    (g := F0 m pc ls rest) rfl (by rw [hb]; exact d0) (Nat.le_refl _) (Nat.le_refl _)
  generalize hT1 : (T.setVm vm₁).pushCell { cls := cX, slots := kX.instanceTypes.map defaultValue, vm := .none } = T1 at X₁ st1
  have hcat : (Value.ref T.heap.size).category = 1 := rfl
  have hcellA : T1.heap[T.heap.size]? = some (freshCell cX kX) := by rw [← hT1]; exact State.heap_pushCell_size _ _
  have d3' : decode c.code (pc + 3) = .ok (.dup, 1) := by rw [hb]; exact d3
  have d4' : decode c.code (pc + 4) = .ok (.ldc_w is, 3) := by rw [hb]; exact d4
  have hstr' : vk_R own is text sa s' := vk_R.warm hW0 hstr
  obtain ⟨U, hsteps, hrun, hend, hW, hsame, ce, hce, hO⟩ := X₁.ctorThrowS hexec htr (own := own) (cls := cls) (names := names) (ic := ic) hown' hcls hnames h (fun x hx => nomatch hx) hfX hkX hcellA (by rw [hhp, hT]; exact Nat.le_refl _) (msg := .ref sa) rfl
    (g := { method := m, pc := pc + 7, locals := ls, stack := .ref sa :: .ref T.heap.size :: .ref T.heap.size :: rest, locked := none }) rfl hsize rfl rfl (rest := rest) rfl
    (by rw [hb]; exact d7) (by rw [hb]; exact d10) hout hRframes (by simp only [List.map_cons, List.sum_cons, hcat]; omega) hlocks
  obtain ⟨f1, f2⟩ := vx_frame hsame
  rw [hhp] at f1 f2
  have hWs : s.WarmedH U.vm := State.WarmedH.trans hW0 hW
  have hcl : s.vm.findClass cls = some ce.cls := by
    have h9 := hO.cls
    rw [hvm] at h9
    exact h9
  have hall : s.sameButNew ({ U with vm := s.vm } : State) locs mc ms := by
    subst hA
    obtain ⟨e1, e2⟩ := hsame
    rw [State.setFrames_setFrames] at e1
    have h2 : (T.setVm s.vm).sameButNew ({ U with vm := s.vm } : State) [] (0 + 1) (0 + 6) := ⟨e1, e2⟩
    have h3 := X.same.trans h2
    rw [List.append_nil] at h3
    exact h3.mono hc hs
  refine ⟨U, ?_, .threw T.heap.size, hrun, hend, Or.inr ⟨T.heap.size, rfl, cls, ce, locs, hx U hWs.alike f1 (fun q hq => f2 q hq (fun z hz => nomatch hz)), hce, hO.vm, hcl, hWs, hall, hf⟩⟩
  refine st1 _ ?_
  show Steps p.tables e below (T1.setTop { method := m, pc := pc + 3, locals := ls, stack := .ref T.heap.size :: rest, locked := none }) _
  jvm_step X₁.here [X₁.here.top, hexec, d3', Value.category]
  exact X₁.ldcStringW hexec (own := own) (text := text) (index := is) (a := sa) hown' hstr'.1 hstr'.2
    (g := { method := m, pc := pc + 4, locals := ls, stack := .ref T.heap.size :: .ref T.heap.size :: rest, locked := none }) rfl d4' _ hsteps
end Ends
section Bodies
variable {l : Launch}
theorem vx_ofW {y : MethodName} {ws ws' : List Cond} {rm : Room} {Pc : Array Value → State → Prop} {Qc : Array Value → State → Outcome → State → Prop} {XC : String → State → State → Prop} {mc ms : Nat} {free : Addr → Prop} {cc : ByteArray} {maxL : Nat} {ret : Option FieldType}
    (hy : plainName y.cls = true) (hw : ws = Cond.code y cc maxL ret :: ws')
    (body : ∀ p e s m args below meth c s₁, BodyLoose p l y (headSpec ws rm) cc maxL ret e s m args below meth c s₁ → c.maxLocals = maxL → (∀ x ∈ c.exceptionTable.toList, False) → Pc args s →
      W p l e (headSpec ws rm).room s m args below meth c s.heap [] 0 0 (vx_MQ below Qc XC args s mc ms free) (entryFrame m args maxL)) : vx_Met l y ws rm Pc Qc XC mc ms free := by
  refine MetFree.of_bodyS (code := cc) (maxLocals := maxL) (ret := ret) hy ?_ ?_
  · intro args s m h hn
    obtain ⟨meth, c, h1, h2, h3, h4, h5, h6, -, -⟩ := Cond.code_spec hn (atoms_spec (ws := ws) h _ (by rw [hw]; exact List.mem_cons_self))
    exact ⟨meth, c, h1, h2, h3, h4, h5, h6⟩
  · intro p e s m args below meth c s₁ B hml hP _
    have hh0 : s₁.heap = s.heap := by rw [B.state]; rfl
    have ht : ∀ x ∈ c.exceptionTable.toList, False := by
      obtain ⟨meth9, c9, h1, h2, -, -, -, -, h7, -⟩ := Cond.code_spec B.named (atoms_spec (ws := ws) B.pre _ (by rw [hw]; exact List.mem_cons_self))
      cases Option.some.inj (h1.symm.trans B.method)
      cases Option.some.inj (h2.symm.trans (Stand.of_body B).code)
      intro x hx
      rw [Array.isEmpty_iff.mp h7] at hx
      cases hx
    obtain ⟨t, a1, o, b1, b2, b3⟩ := body p e s m args below meth c s₁ B hml ht hP s₁ hh0 (Stand.of_body B)
    exact ⟨t, o, a1, b1, b2, b3⟩
/-- the table of a body with handlers -/
theorem vx_table {p : Program} {x y : MethodName} {S : Spec} {cc bytes : ByteArray} {maxL maxL' : Nat} {ret ret' : Option FieldType} {e : Env} {s s₁ : State} {m : MethodId} {args : Array Value} {below : List Frame} {meth : Method} {c : Code} {hh : List (Nat × Nat × Nat × Nat)}
    (B : BodyLoose p l y S cc maxL ret e s m args below meth c s₁) (h : (Cond.codeWith y bytes maxL' ret' hh).before args s = true) : c.exceptionTable.toList = tableOf hh := by
  obtain ⟨m9, meth9, c9, hn9, h1, h2, -, -, h6, -⟩ := Cond.codeWith_spec h
  cases Option.some.inj (hn9.symm.trans B.named)
  cases Option.some.inj (h1.symm.trans B.method)
  cases Option.some.inj (h2.symm.trans (Stand.of_body B).code)
  rw [← h6, table_eq]
end Bodies
end VXA
/-! ===== END ===== -/
/-! ===== BEGIN a static call of a method with an exception table ===== -/
section VXS
variable {p : Program} {l : Launch} {e : Env} {R : Room} {s : State} {m : MethodId} {args : Array Value} {below : List Frame} {meth : Method} {c : Code} {T : State} {H : Heap} {locs : List Loc} {cells slots : Nat}
abbrev vx_CSW (R : Room) (s : State) (args : Array Value) (own : String) (index : Nat) (y : MethodName) (bytes : ByteArray) (maxL : Nat) (ret : Option FieldType) (hh : List (Nat × Nat × Nat × Nat)) (ws : List Cond) (rm : Room) (mc ms n : Nat) : Prop :=
  (rm.cells = mc ∧ rm.slots = ms ∧ rm.frames + 1 ≤ R.frames ∧ 8 + (maxL + 11) + rm.locals ≤ R.locals ∧ (∀ w ∈ ws, ∀ (a' : Array Value) (U : State), s.WarmedH U.vm → w.before a' U = true) ∧ Cond.codeWith y bytes maxL ret hh ∈ ws) ∧
  (Cond.codeWith y bytes maxL ret hh).before args s = true ∧ (Cond.initialized y.cls).before args s = true ∧ (y.cls ≠ "java/lang/invoke/MethodHandle" ∧ y.cls ≠ "java/lang/invoke/VarHandle") ∧
  (∀ sig, parseMethodDescriptor y.desc = some sig → n = sig.parameters.length) ∧ (Cond.methodLink own index y).before args s = true ∧ (Cond.static y).before args s = true
theorem vx_cwSW {own : String} {index maxL mc ms : Nat} {y : MethodName} {bytes : ByteArray} {ret : Option FieldType} {hh : List (Nat × Nat × Nat × Nat)} {Ts ws ws' : List Cond} {rm : Room} (n : Nat) (ht : ∀ w ∈ Ts, w.before args s = true) (hT : GoodIn Ts (va_wsS own index y ws)) (hw : ws = Cond.codeWith y bytes maxL ret hh :: ws') (hrc : rm.cells = mc) (hrs : rm.slots = ms)
    (hd : y.cls ≠ "java/lang/invoke/MethodHandle" ∧ y.cls ≠ "java/lang/invoke/VarHandle" ∧ (parseMethodDescriptor y.desc).map (fun d => d.parameters.length) = some n) (hR : rm.frames + 1 ≤ R.frames ∧ 8 + (maxL + 11) + rm.locals ≤ R.locals) :
    vx_CSW R s args own index y bytes maxL ret hh ws rm mc ms n := by
  have ok : ∀ w ∈ va_wsS own index y ws, w.before args s = true := fun w h => ht w (hT w h).1
  have hG : GoodIn Ts ws := fun w h => hT w (by unfold va_wsS; exact List.mem_append_right _ h)
  have hc : Cond.codeWith y bytes maxL ret hh ∈ ws := by rw [hw]; exact List.mem_cons_self
  refine ⟨⟨hrc, hrs, hR.1, hR.2, pay_in ht hG, hc⟩, ht _ (hG _ hc).1, ok _ (by simp [va_wsS]), ⟨hd.1, hd.2.1⟩, fun sig h => ?_, ok _ (by simp [va_wsS]), ok _ (by simp [va_wsS])⟩
  have h2 := hd.2.2
  rw [h] at h2
  exact (Option.some.inj h2).symm
theorem vx_callSW (X : Stand p l e R s m args below meth c T locs cells slots) (hexec : p.tables.exec = Jvm.exec) {own : String} {index : Nat} {y : MethodName} {bytes : ByteArray} {maxL : Nat} {ret : Option FieldType} {hh : List (Nat × Nat × Nat × Nat)}
    (hown : s.vm.findClass own = some m.cls) (hlink : (Cond.methodLink own index y).before args s = true) (hstat : (Cond.static y).before args s = true) (hinit : (Cond.initialized y.cls).before args s = true)
    (hcode : (Cond.codeWith y bytes maxL ret hh).before args s = true) (hy : y.cls ≠ "java/lang/invoke/MethodHandle" ∧ y.cls ≠ "java/lang/invoke/VarHandle")
    {W9 : Nat} {Pre : Pt → Array Value → Prop} {Post : Pt → Array Value → Option Value → Pt → Prop} (hK : Back l R p e below s args y 3 W9 Pre Post)
    {g : JFrame} (hg : g.method = m) (hsize : g.locals.size = c.maxLocals) {argsL rest : List Value} (hlen : ∀ sig, parseMethodDescriptor y.desc = some sig → argsL.length = sig.parameters.length)
    (hstack : g.stack = argsL.reverse ++ rest) (hW : 2 * g.monitorRoom + (rest.map fun v => v.category).sum ≤ W9) (hdg : decode c.code g.pc = .ok (.invokestatic index, 3))
    (hpre : ∀ vm₁, s.WarmedH vm₁ → Pre ⟨T.setVm vm₁, locs, cells, slots⟩ argsL.toArray) :
    ∃ (v : Option Value) (vm₁ : Vm) (B : Pt), s.WarmedH vm₁ ∧ Stand p l e R s m args below meth c B.U B.locs B.cells B.slots ∧ Post ⟨T.setVm vm₁, locs, cells, slots⟩ argsL.toArray v B ∧
      ∀ target, Steps p.tables e below (B.U.setTop { g with pc := g.pc + 3, stack := v.toList ++ rest }) target → Steps p.tables e below (T.setTop g) target := by
  obtain ⟨mk, methM, cM, hnamed, hmethM, -, -, -, -, -, -, hsigM⟩ := Cond.codeWith_spec hcode
  have hstatic : methM.isStatic = true := Cond.static_spec hnamed hmethM hstat
  obtain ⟨kP, hkP, -⟩ := className_of_methodNamed hnamed
  have hinitP : kP.init = .initialized := Cond.initialized_spec (findClass_of_methodNamed hnamed) hkP hinit
  obtain ⟨vm₁, X₁, hstep₁⟩ := X.invokestatic hexec hown hlink hnamed hmethM hstatic hkP hinitP hy (g := g) hg (argsL := argsL) (rest := rest) (hlen _ hsigM) hstack hdg
  obtain ⟨v, B, X', hpost, hsteps⟩ := hK m meth c ⟨T.setVm vm₁, locs, cells, slots⟩ { g with stack := rest } (.invokestatic index) mk argsL.toArray X₁ hg hsize hdg hW (X₁.named hnamed) (hpre vm₁ X₁.warmed)
  exact ⟨v, vm₁, B, X₁.warmed, X', hpost, fun target h => hstep₁ _ fun acts => by rw [doInvoke_state]; exact hsteps.trans h⟩
theorem vx_runSW {y : MethodName} {bytes cc : ByteArray} {maxL nL mc ms n index : Nat} {ret : Option FieldType} {hh : List (Nat × Nat × Nat × Nat)} {ws : List Cond} {rm : Room} {Pc : Array Value → State → Prop} {Qc : Array Value → State → Outcome → State → Prop} {free : Addr → Prop} {Ts : List Cond} {own : String} {As rest : List Value} {g : JFrame}
    (S : CallFix p m c cc nL s args Ts own) (hM : Met l y ws rm Pc Qc mc ms free) (cw : vx_CSW R s args own index y bytes maxL ret hh ws rm mc ms n) (hp : PreS s H Pc As)
    (hg : g.method = m) (hn : As.length = n) (hsize : g.locals.size = nL) (hstack : g.stack = As.reverse ++ rest) (hW : 2 * g.monitorRoom + (rest.map fun v => v.category).sum ≤ 8) (hdg : decode cc g.pc = .ok (.invokestatic index, 3)) (hf : cells + mc ≤ R.cells ∧ slots + ms ≤ R.slots) :
    va_Run p l e R s m args below meth c H locs cells slots mc ms g rest (Qc As.toArray) (free) := by
  obtain ⟨⟨hrc, hrs, hfr, hlo, hws, hcw⟩, hcode, hini, hy, hlen, hl, hstt⟩ := cw
  have hK : Back l R p e below s args y 3 8 (PreOf R mc ms Pc) (PostOf Qc mc ms free) := va_backW (hh := hh) (bytes := bytes) (maxL := maxL) (ret := ret) hM hp.1 hrc hrs hfr hlo hws hcw (fun a' U hW => word_at hW (Or.inl (by first | rfl | simp [Cond.onTables, Cond.keeps, Cond.steady])) hini)
  obtain ⟨hx, hb, hml, ho, -⟩ := S
  intro T hT X
  obtain ⟨v, vm₁, ⟨U', l2, c2, s2⟩, hW₁, X', ⟨g', mk, t, L, e1, e2, hq, h1, hL, h2, h3⟩, st⟩ := vx_callSW X hx (hh := hh) (bytes := bytes) (maxL := maxL) (ret := ret) ho hl hstt hini hcode hy hK hg (hsize.trans hml.symm) (argsL := As) (rest := rest) (fun sig h => hn.trans (hlen sig h)) hstack hW (by rw [hb]; exact hdg)
    (fun vm₁ hW₁ => ⟨hf.1, hf.2, hp.2 (T.setVm vm₁) hT hW₁⟩)
  dsimp only [Pt.U, Pt.locs, Pt.cells, Pt.slots] at X' e1 e2 h1 h2 h3 st
  subst h1; subst h2; subst h3
  exact ⟨v, (T.setVm vm₁).calling g' mk As.toArray, t, U', L, hT, X', hL, e1, e2, hq, st⟩
/-- not caught here, past rows that name other classes: it goes on to the caller -/
theorem vx_outP {p : Program} {l : Launch} {e : Env} {R : Room} {s : State} {m : MethodId} {args : Array Value} {below : List Frame} {meth : Method} {c : Code} {H : Heap} {locs : List Loc} {cells slots : Nat} {free : Addr → Prop} {ls : Array Slot} {rest : List Value} {Qc : Array Value → State → Outcome → State → Prop} {XC : String → State → State → Prop}
    {pc : Nat} {own E : String} {ce : Cell} {q : Addr} {mc ms : Nat} (hown : s.vm.findClass own = some m.cls) (hlocks : meth.locks = false)
    (hpass : ∀ z ∈ c.exceptionTable.toList, covers z pc = false ∨ (z.catchType ≠ 0 ∧ ∃ nm : String, (Cond.classLink own z.catchType nm).before args s = true ∧ va_Nc E nm s)) (hcell : H[q]? = some ce) (hv : ce.vm = .none) (hcl : s.vm.findClass E = some ce.cls)
    (hx : ∀ t : State, t.heap = H → s.vm.Alike t.vm → XC E s t) (hf : ∀ z ∈ locs, free z.base) (hc : cells ≤ mc) (hs : slots ≤ ms) :
    vx_W p l e R s m args below meth c H locs cells slots (vx_MQ below Qc XC args s mc ms free) (F0 m pc ls rest) q := by
  intro T hT X
  have hpl : e.platform.magicAccessors = ({} : Platform).magicAccessors := by rw [X.admits.platform]
  obtain ⟨vm', hW', X', st⟩ := X.outThrough hlocks q (g := F0 m pc ls rest) rfl rfl rfl (cell := ce) (by rw [hT]; exact hcell) (by rw [hv]; rfl)
    (by obtain ⟨k9, h9, -⟩ := Vm.findClass_spec hcl; exact ⟨k9, h9⟩) (fun z hz => by
      rcases hpass z hz with h | ⟨hz0, nm, hl1, hn1⟩
      · exact Or.inl h
      · obtain ⟨c6, hc6, hcl6⟩ := Cond.classLink_spec hown hl1 e.platform hpl
        obtain ⟨a8, b8, h1, h2, h3⟩ := hn1
        cases Option.some.inj (h1.symm.trans hcl)
        cases Option.some.inj (h2.symm.trans hc6)
        exact Or.inr ⟨hz0, _, hcl6, h3⟩)
  obtain ⟨g₀, hfr⟩ := X'.frames_eq
  have hcell9 : ((T.setVm vm').setFrames (.throwing q :: below)).heap[q]? = some ce := by
    show T.heap[q]? = some ce
    rw [hT]; exact hcell
  have hend : Ended ((T.setVm vm').setFrames (.throwing q :: below)) below (.threw q) := State.frames_setFrames _ (State.cur_lt_of_frames hfr)
  refine ⟨(T.setVm vm').setFrames (.throwing q :: below), ?_, .threw q, X'.here.running, hend, Or.inr ⟨q, rfl, E, ce, locs, hx _ hT (X'.ends _).1.alike, hcell9, hv, hcl, (X'.ends _).1, (X'.ends _).2.mono hc hs, hf⟩⟩
  rw [X.pushThrowing_eq]
  exact st
/-- a thing of a world lies in the heap -/
theorem vx_lt {D : va_G} {cl : List vw_C} {ws : va_W} {H1 : Heap} (h : va_P D cl ws H1) {k : Nat} {q : Nat × va_E} (hk : ws[k]? = some q) : q.1 < H1.size := (h k q hk).lt
end VXS
/-! ===== END ===== -/
/-! ===== BEGIN methods with a table of their own: called by a name, returning or throwing ===== -/
section VXH
/-! vx_backW, vx_callVX, vx_callSX, vx_callVW, vx_runVW, vx_runVX, vx_runSX, vx_ofWH follow the same proofs as their sisters above (Free/Laws.lean, Shelf42/LK1.lean); vx_outP calls Shelf42/NT130.lean (outThrough). -/
section
variable {l : Launch} {R : Room} {p : Program} {e : Env} {below : List Frame} {s : State} {sargs : Array Value} {y : MethodName} {len W9 : Nat}
theorem vx_backW {ws : List Cond} {rm : Room} {Pc : Array Value → State → Prop} {Qc : Array Value → State → Outcome → State → Prop} {XC : String → State → State → Prop} {mc ms : Nat} {free : Addr → Prop} {bytes : ByteArray} {maxL : Nat} {ret : Option FieldType} {hh : List (Nat × Nat × Nat × Nat)}
    (hM : vx_Met l y ws rm Pc Qc XC mc ms free) (hblind : FrameBlind Pc) (hrc : rm.cells = mc) (hrs : rm.slots = ms)
    (hframes : rm.frames + 1 ≤ R.frames) (hlocals : W9 + (maxL + 11) + rm.locals ≤ R.locals)
    (hws : ∀ w ∈ ws, ∀ a' U, s.WarmedH U.vm → w.before a' U = true) (hcode : Cond.codeWith y bytes maxL ret hh ∈ ws) (hinit : ∀ a' U, s.WarmedH U.vm → (Cond.initialized y.cls).before a' U = true) :
    vx_Back l R p e below s sargs y len W9 (PreOf R mc ms Pc) (PostOf Qc mc ms free) (vx_Post XC mc ms free) := by
  intro m meth c A g ig mk a X hg hsize hdg hW hn hp
  have h1 : (headSpec ws rm).pre.before a A.U = true := atoms_intro fun w hw => hws w hw _ _ X.warmed
  have h2 : (Cond.codeWith y bytes maxL ret hh).before a A.U = true := hws _ hcode _ _ X.warmed
  have h3 : (Cond.initialized y.cls).before a A.U = true := hinit _ _ X.warmed
  have h4 : A.cells + (headSpec ws rm).room.cells ≤ R.cells := by rw [show (headSpec ws rm).room.cells = mc from hrc]; exact hp.1
  have h5 : A.slots + (headSpec ws rm).room.slots ≤ R.slots := by rw [show (headSpec ws rm).room.slots = ms from hrs]; exact hp.2.1
  have hPc : Pc a (A.U.calling g mk a) := hblind _ _ _ _ hp.2.2
  obtain ⟨U, Ls, c0, s0⟩ := A
  dsimp only [Pt.U, Pt.locs, Pt.cells, Pt.slots] at h1 h2 h3 h4 h5 X hn hPc ⊢
  obtain ⟨m9, methY, cY, hn9, hmY, hcY, -, hlY, -⟩ := Cond.codeWith_spec h2
  cases Option.some.inj (hn9.symm.trans hn)
  obtain ⟨kY, hkY, -⟩ := className_of_methodNamed hn
  have hinitY : kY.init = .initialized := Cond.initialized_spec (findClass_of_methodNamed hn) hkY h3
  have h : At U g.method c below := by rw [hg]; exact X.here
  have hlocals9 : W9 + (maxL + 11) + (headSpec ws rm).room.locals ≤ R.locals := hlocals
  have happ : (headSpec ws rm).appliesLoose y e.platform (U.calling g mk a) = true :=
    Spec.appliesLoose_calling (g := g) h hdg hn hkY hinitY
      (X.room_calling (g := g) (R' := (headSpec ws rm).room) hsize hmY hcY hframes (by rw [hlY]; omega) h4 h5) h1
  obtain ⟨mid, hmid⟩ := h.above
  have hfr : (U.setTop g).frames = (.java g :: mid) ++ below := by rw [State.frames_setTop' g h.top, hmid]; rfl
  obtain ⟨o, s₂, hsteps, -, hend, hq⟩ := Steps.callFree hM p X.admits X.cas X.clock (acts := []) hfr happ hPc trivial
  have hq' : vx_Q Qc XC mc ms free a (U.calling g mk a) o s₂ := hq
  rw [State.frames_setTop' g h.top] at hend
  obtain ⟨g₀, hg0⟩ := Option.isSome_iff_exists.mp h.top
  obtain ⟨r, hr⟩ := State.topJava?_eq_some.mp hg0
  have hr' : (({ U with heap := s₂.heap, slotsUsed := s₂.slotsUsed } : State).setVm s₂.vm).frames = .java g₀ :: r := hr
  rcases hq' with ⟨hqc, L, hfe, hL⟩ | ⟨q, rfl, E, ce, L, hx, hce, hcv, hcl, hW₂, hsm, hL⟩
  · obtain ⟨⟨v, rfl⟩, hW₂, e2, q2, q3, q4, q5, q6⟩ := id hfe
    have e3 : s₂ = ({ (U.calling g mk a).setFrames s₂.frames with heap := s₂.heap, slotsUsed := s₂.slotsUsed } : State).setVm s₂.vm := by
      have : s₂ = ({ s₂ with vm := (U.calling g mk a).vm } : State).setVm s₂.vm := rfl
      rw [e2] at this
      exact this
    obtain ⟨c₂, i₂, len₂, hc₂, hd₂, hf₂⟩ := hend
    have hW' : U.WarmedH s₂.vm := hW₂
    have hcc : c₂ = c := by
      have h1 : s₂.code? g.method = U.code? g.method := by
        rw [State.code?_eq, State.code?_eq, hW'.alike.method?]
      exact Option.some.inj (hc₂.symm.trans (h1.trans h.code))
    subst hcc
    have hlen : len₂ = len := by rw [hdg] at hd₂; cases hd₂; rfl
    subst hlen
    have hs₂ : s₂ = (({ U with heap := s₂.heap, slotsUsed := s₂.slotsUsed } : State).setVm s₂.vm).setTop { g with pc := g.pc + len₂, stack := v.toList ++ g.stack } := by
      refine e3.trans ?_
      rw [hf₂, State.calling_eq h.top, State.setFrames_setFrames, State.setTop_of_frames _ hr', hr]
      rfl
    have hsame : U.sameButNew ({ U with heap := s₂.heap, slotsUsed := s₂.slotsUsed } : State) L mc ms := by
      refine ⟨?_, q2, q3, q4, q5, q6⟩
      obtain ⟨t, ht, -⟩ := State.frames_cons hr
      show ({ U with heap := s₂.heap, slotsUsed := s₂.slotsUsed } : State) = { U.setFrames U.frames with heap := s₂.heap, slotsUsed := s₂.slotsUsed }
      rw [State.setFrames_self ht]
    subst hg
    refine Or.inl ⟨v, ⟨(({ U with heap := s₂.heap, slotsUsed := s₂.slotsUsed } : State).setVm s₂.vm), Ls ++ L, c0 + mc, s0 + ms⟩,
      ⟨X.admits, X.cas, X.clock, X.frames, X.room, X.hears, X.method, X.code, (X.here.setHeapUsed s₂.heap s₂.slotsUsed).setVm hW'.alike, X.tail, State.WarmedH.trans X.warmed hW', X.limits, X.bytes, X.same.trans (hsame.setVm s.vm)⟩,
      ⟨g, mk, s₂, L, rfl, rfl, hqc, rfl, hL, rfl, rfl⟩, ?_⟩
    show Steps p.tables e below _ ((({ U with heap := s₂.heap, slotsUsed := s₂.slotsUsed } : State).setVm s₂.vm).setTop { g with pc := g.pc + len₂, stack := v.toList ++ g.stack })
    rw [← hs₂]
    exact hsteps
  · obtain ⟨e2, q2, q3, q4, q5, q6⟩ := id hsm
    have e3 : s₂ = ({ (U.calling g mk a).setFrames s₂.frames with heap := s₂.heap, slotsUsed := s₂.slotsUsed } : State).setVm s₂.vm := by
      have : s₂ = ({ s₂ with vm := (U.calling g mk a).vm } : State).setVm s₂.vm := rfl
      rw [e2] at this
      exact this
    have hf₂ : s₂.frames = .throwing q :: .java g :: U.frames.tail := hend
    have hW' : U.WarmedH s₂.vm := hW₂
    have hs₂ : s₂ = ((({ U with heap := s₂.heap, slotsUsed := s₂.slotsUsed } : State).setVm s₂.vm).setTop g).pushFrame (.throwing q) := by
      refine e3.trans ?_
      rw [hf₂, State.calling_eq h.top, State.setFrames_setFrames, State.pushFrame, State.frames_setTop _ hr', State.setTop_of_frames _ hr', State.setFrames_setFrames, hr]
      rfl
    have hsame : U.sameButNew ({ U with heap := s₂.heap, slotsUsed := s₂.slotsUsed } : State) L mc ms := by
      refine ⟨?_, q2, q3, q4, q5, q6⟩
      obtain ⟨t, ht, -⟩ := State.frames_cons hr
      show ({ U with heap := s₂.heap, slotsUsed := s₂.slotsUsed } : State) = { U.setFrames U.frames with heap := s₂.heap, slotsUsed := s₂.slotsUsed }
      rw [State.setFrames_self ht]
    subst hg
    refine Or.inr ⟨q, ⟨(({ U with heap := s₂.heap, slotsUsed := s₂.slotsUsed } : State).setVm s₂.vm), Ls ++ L, c0 + mc, s0 + ms⟩,
      ⟨X.admits, X.cas, X.clock, X.frames, X.room, X.hears, X.method, X.code, (X.here.setHeapUsed s₂.heap s₂.slotsUsed).setVm hW'.alike, X.tail, State.WarmedH.trans X.warmed hW', X.limits, X.bytes, X.same.trans (hsame.setVm s.vm)⟩,
      ⟨g, mk, s₂, L, E, ce, rfl, rfl, hx, hce, hcv, hcl, rfl, hL, rfl, rfl⟩, ?_⟩
    show Steps p.tables e below _ (((({ U with heap := s₂.heap, slotsUsed := s₂.slotsUsed } : State).setVm s₂.vm).setTop g).pushFrame (.throwing q))
    rw [← hs₂]
    exact hsteps
end
variable {p : Program} {l : Launch} {e : Env} {R : Room} {s : State} {m : MethodId} {args : Array Value} {below : List Frame} {meth : Method} {c : Code} {T : State} {H : Heap} {locs : List Loc} {cells slots : Nat}
theorem vx_callVX (X : Stand p l e R s m args below meth c T locs cells slots) (hexec : p.tables.exec = Jvm.exec) {own C : String} {index : Nat} {y : MethodName} {bytes : ByteArray} {maxL : Nat} {ret : Option FieldType} {hh : List (Nat × Nat × Nat × Nat)}
    (hown : s.vm.findClass own = some m.cls) (hlink : (Cond.methodLink own index y).before args s = true) (hinst : (Cond.instanceMethod y).before args s = true) (hsel : (Cond.selects C y y).before args s = true)
    (hcode : (Cond.codeWith y bytes maxL ret hh).before args s = true) (hy : y.cls ≠ "java/lang/invoke/MethodHandle" ∧ y.cls ≠ "java/lang/invoke/VarHandle")
    {W9 : Nat} {Pre : Pt → Array Value → Prop} {Post : Pt → Array Value → Option Value → Pt → Prop} {PostX : Pt → Array Value → Addr → Pt → Prop} (hK : vx_Back l R p e below s args y 3 W9 Pre Post PostX)
    {b : Addr} {cellB : Cell} (hcell : T.heap[b]? = some cellB) (hobj : cellB.vm.isStatics = false) (hcls : s.vm.findClass C = some cellB.cls)
    {g : JFrame} (hg : g.method = m) (hsize : g.locals.size = c.maxLocals) {argsL rest : List Value} (hlen : ∀ sig, parseMethodDescriptor y.desc = some sig → argsL.length = sig.parameters.length)
    (hstack : g.stack = argsL.reverse ++ .ref b :: rest) (hW : 2 * g.monitorRoom + (rest.map fun v => v.category).sum ≤ W9) (hdg : decode c.code g.pc = .ok (.invokevirtual index, 3))
    (hpre : ∀ vm₁, s.WarmedH vm₁ → Pre ⟨T.setVm vm₁, locs, cells, slots⟩ (Value.ref b :: argsL).toArray) :
    (∃ (v : Option Value) (vm₁ : Vm) (B : Pt), s.WarmedH vm₁ ∧ Stand p l e R s m args below meth c B.U B.locs B.cells B.slots ∧ Post ⟨T.setVm vm₁, locs, cells, slots⟩ (Value.ref b :: argsL).toArray v B ∧
      ∀ target, Steps p.tables e below (B.U.setTop { g with pc := g.pc + 3, stack := v.toList ++ rest }) target → Steps p.tables e below (T.setTop g) target) ∨
    (∃ (q : Addr) (vm₁ : Vm) (B : Pt), s.WarmedH vm₁ ∧ Stand p l e R s m args below meth c B.U B.locs B.cells B.slots ∧ PostX ⟨T.setVm vm₁, locs, cells, slots⟩ (Value.ref b :: argsL).toArray q B ∧
      Steps p.tables e below (T.setTop g) ((B.U.setTop { g with stack := rest }).pushFrame (.throwing q))) := by
  obtain ⟨mk, methM, hnamed, hmethM, hstM, habM⟩ := Cond.instanceMethod_spec hinst
  obtain ⟨m8, methM', cM, hn8, hmethM', -, -, -, -, -, -, hsigM⟩ := Cond.codeWith_spec hcode
  cases Option.some.inj (hn8.symm.trans hnamed)
  cases hmethM.symm.trans hmethM'
  obtain ⟨c2, r2, m2, q1, q2, q3, q4, kP, hkP, hkPi⟩ := Cond.selects_spec hsel
  cases hcls.symm.trans q1
  cases (State.methodFound?_of_named hnamed hy).symm.trans q2
  cases hnamed.symm.trans q3
  have hselP : selectMethod e.platform s.vm cellB.cls mk = .method mk := by rw [Launch.admits_selectMethod X.admits]; exact q4
  obtain ⟨vm₁, X₁, hstep₁⟩ := X.invokevirtual hexec hown hlink hnamed hmethM hstM hkP hkPi hy (a := b) (cell := cellB) hcell
    (fun z h => by rw [h] at hobj; cases hobj) hselP hmethM habM hkP hkPi (g := g) hg (argsL := argsL) (rest := rest) (hlen _ hsigM) hstack hdg
  rcases hK m meth c ⟨T.setVm vm₁, locs, cells, slots⟩ { g with stack := rest } (.invokevirtual index) mk (Value.ref b :: argsL).toArray X₁ hg hsize hdg hW (X₁.named hnamed) (hpre vm₁ X₁.warmed) with ⟨v, B, X', hpost, hsteps⟩ | ⟨q, B, X', hpost, hsteps⟩
  · exact Or.inl ⟨v, vm₁, B, X₁.warmed, X', hpost, fun target h => hstep₁ _ fun acts => by rw [doInvoke_state]; exact hsteps.trans h⟩
  · exact Or.inr ⟨q, vm₁, B, X₁.warmed, X', hpost, hstep₁ _ fun acts => by rw [doInvoke_state]; exact hsteps⟩
theorem vx_callSX (X : Stand p l e R s m args below meth c T locs cells slots) (hexec : p.tables.exec = Jvm.exec) {own : String} {index : Nat} {y : MethodName} {bytes : ByteArray} {maxL : Nat} {ret : Option FieldType} {hh : List (Nat × Nat × Nat × Nat)}
    (hown : s.vm.findClass own = some m.cls) (hlink : (Cond.methodLink own index y).before args s = true) (hstat : (Cond.static y).before args s = true) (hinit : (Cond.initialized y.cls).before args s = true)
    (hcode : (Cond.codeWith y bytes maxL ret hh).before args s = true) (hy : y.cls ≠ "java/lang/invoke/MethodHandle" ∧ y.cls ≠ "java/lang/invoke/VarHandle")
    {W9 : Nat} {Pre : Pt → Array Value → Prop} {Post : Pt → Array Value → Option Value → Pt → Prop} {PostX : Pt → Array Value → Addr → Pt → Prop} (hK : vx_Back l R p e below s args y 3 W9 Pre Post PostX)
    {g : JFrame} (hg : g.method = m) (hsize : g.locals.size = c.maxLocals) {argsL rest : List Value} (hlen : ∀ sig, parseMethodDescriptor y.desc = some sig → argsL.length = sig.parameters.length)
    (hstack : g.stack = argsL.reverse ++ rest) (hW : 2 * g.monitorRoom + (rest.map fun v => v.category).sum ≤ W9) (hdg : decode c.code g.pc = .ok (.invokestatic index, 3))
    (hpre : ∀ vm₁, s.WarmedH vm₁ → Pre ⟨T.setVm vm₁, locs, cells, slots⟩ argsL.toArray) :
    (∃ (v : Option Value) (vm₁ : Vm) (B : Pt), s.WarmedH vm₁ ∧ Stand p l e R s m args below meth c B.U B.locs B.cells B.slots ∧ Post ⟨T.setVm vm₁, locs, cells, slots⟩ argsL.toArray v B ∧
      ∀ target, Steps p.tables e below (B.U.setTop { g with pc := g.pc + 3, stack := v.toList ++ rest }) target → Steps p.tables e below (T.setTop g) target) ∨
    (∃ (q : Addr) (vm₁ : Vm) (B : Pt), s.WarmedH vm₁ ∧ Stand p l e R s m args below meth c B.U B.locs B.cells B.slots ∧ PostX ⟨T.setVm vm₁, locs, cells, slots⟩ argsL.toArray q B ∧
      Steps p.tables e below (T.setTop g) ((B.U.setTop { g with stack := rest }).pushFrame (.throwing q))) := by
  obtain ⟨mk, methM, cM, hnamed, hmethM, -, -, -, -, -, -, hsigM⟩ := Cond.codeWith_spec hcode
  have hstatic : methM.isStatic = true := Cond.static_spec hnamed hmethM hstat
  obtain ⟨kP, hkP, -⟩ := className_of_methodNamed hnamed
  have hinitP : kP.init = .initialized := Cond.initialized_spec (findClass_of_methodNamed hnamed) hkP hinit
  obtain ⟨vm₁, X₁, hstep₁⟩ := X.invokestatic hexec hown hlink hnamed hmethM hstatic hkP hinitP hy (g := g) hg (argsL := argsL) (rest := rest) (hlen _ hsigM) hstack hdg
  rcases hK m meth c ⟨T.setVm vm₁, locs, cells, slots⟩ { g with stack := rest } (.invokestatic index) mk argsL.toArray X₁ hg hsize hdg hW (X₁.named hnamed) (hpre vm₁ X₁.warmed) with ⟨v, B, X', hpost, hsteps⟩ | ⟨q, B, X', hpost, hsteps⟩
  · exact Or.inl ⟨v, vm₁, B, X₁.warmed, X', hpost, fun target h => hstep₁ _ fun acts => by rw [doInvoke_state]; exact hsteps.trans h⟩
  · exact Or.inr ⟨q, vm₁, B, X₁.warmed, X', hpost, hstep₁ _ fun acts => by rw [doInvoke_state]; exact hsteps⟩
theorem vx_callVW (X : Stand p l e R s m args below meth c T locs cells slots) (hexec : p.tables.exec = Jvm.exec) {own C : String} {index : Nat} {y : MethodName} {bytes : ByteArray} {maxL : Nat} {ret : Option FieldType} {hh : List (Nat × Nat × Nat × Nat)}
    (hown : s.vm.findClass own = some m.cls) (hlink : (Cond.methodLink own index y).before args s = true) (hinst : (Cond.instanceMethod y).before args s = true) (hsel : (Cond.selects C y y).before args s = true)
    (hcode : (Cond.codeWith y bytes maxL ret hh).before args s = true) (hy : y.cls ≠ "java/lang/invoke/MethodHandle" ∧ y.cls ≠ "java/lang/invoke/VarHandle")
    {W9 : Nat} {Pre : Pt → Array Value → Prop} {Post : Pt → Array Value → Option Value → Pt → Prop} (hK : Back l R p e below s args y 3 W9 Pre Post)
    {b : Addr} {cellB : Cell} (hcell : T.heap[b]? = some cellB) (hobj : cellB.vm.isStatics = false) (hcls : s.vm.findClass C = some cellB.cls)
    {g : JFrame} (hg : g.method = m) (hsize : g.locals.size = c.maxLocals) {argsL rest : List Value} (hlen : ∀ sig, parseMethodDescriptor y.desc = some sig → argsL.length = sig.parameters.length)
    (hstack : g.stack = argsL.reverse ++ .ref b :: rest) (hW : 2 * g.monitorRoom + (rest.map fun v => v.category).sum ≤ W9) (hdg : decode c.code g.pc = .ok (.invokevirtual index, 3))
    (hpre : ∀ vm₁, s.WarmedH vm₁ → Pre ⟨T.setVm vm₁, locs, cells, slots⟩ (Value.ref b :: argsL).toArray) :
    ∃ (v : Option Value) (vm₁ : Vm) (B : Pt), s.WarmedH vm₁ ∧ Stand p l e R s m args below meth c B.U B.locs B.cells B.slots ∧ Post ⟨T.setVm vm₁, locs, cells, slots⟩ (Value.ref b :: argsL).toArray v B ∧
      ∀ target, Steps p.tables e below (B.U.setTop { g with pc := g.pc + 3, stack := v.toList ++ rest }) target → Steps p.tables e below (T.setTop g) target := by
  obtain ⟨mk, methM, hnamed, hmethM, hstM, habM⟩ := Cond.instanceMethod_spec hinst
  obtain ⟨m8, methM', cM, hn8, hmethM', -, -, -, -, -, -, hsigM⟩ := Cond.codeWith_spec hcode
  cases Option.some.inj (hn8.symm.trans hnamed)
  cases hmethM.symm.trans hmethM'
  obtain ⟨c2, r2, m2, q1, q2, q3, q4, kP, hkP, hkPi⟩ := Cond.selects_spec hsel
  cases hcls.symm.trans q1
  cases (State.methodFound?_of_named hnamed hy).symm.trans q2
  cases hnamed.symm.trans q3
  have hselP : selectMethod e.platform s.vm cellB.cls mk = .method mk := by rw [Launch.admits_selectMethod X.admits]; exact q4
  obtain ⟨vm₁, X₁, hstep₁⟩ := X.invokevirtual hexec hown hlink hnamed hmethM hstM hkP hkPi hy (a := b) (cell := cellB) hcell
    (fun z h => by rw [h] at hobj; cases hobj) hselP hmethM habM hkP hkPi (g := g) hg (argsL := argsL) (rest := rest) (hlen _ hsigM) hstack hdg
  obtain ⟨v, B, X', hpost, hsteps⟩ := hK m meth c ⟨T.setVm vm₁, locs, cells, slots⟩ { g with stack := rest } (.invokevirtual index) mk (Value.ref b :: argsL).toArray X₁ hg hsize hdg hW (X₁.named hnamed) (hpre vm₁ X₁.warmed)
  exact ⟨v, vm₁, B, X₁.warmed, X', hpost, fun target h => hstep₁ _ fun acts => by rw [doInvoke_state]; exact hsteps.trans h⟩
abbrev vx_CVW (R : Room) (s : State) (args : Array Value) (own C : String) (index : Nat) (y : MethodName) (bytes : ByteArray) (maxL : Nat) (ret : Option FieldType) (hh : List (Nat × Nat × Nat × Nat)) (ws : List Cond) (rm : Room) (mc ms n : Nat) : Prop :=
  (rm.cells = mc ∧ rm.slots = ms ∧ rm.frames + 1 ≤ R.frames ∧ 8 + (maxL + 11) + rm.locals ≤ R.locals ∧ (∀ w ∈ ws, ∀ (a' : Array Value) (U : State), s.WarmedH U.vm → w.before a' U = true) ∧ Cond.codeWith y bytes maxL ret hh ∈ ws) ∧
  (Cond.codeWith y bytes maxL ret hh).before args s = true ∧ (Cond.initialized y.cls).before args s = true ∧ (y.cls ≠ "java/lang/invoke/MethodHandle" ∧ y.cls ≠ "java/lang/invoke/VarHandle") ∧
  (∀ sig, parseMethodDescriptor y.desc = some sig → n = sig.parameters.length) ∧ (Cond.methodLink own index y).before args s = true ∧ (Cond.instanceMethod y).before args s = true ∧ (Cond.selects C y y).before args s = true
theorem vx_cwVW {own C : String} {index maxL mc ms : Nat} {y : MethodName} {bytes : ByteArray} {ret : Option FieldType} {hh : List (Nat × Nat × Nat × Nat)} {Ts ws ws' : List Cond} {rm : Room} (n : Nat) (ht : ∀ w ∈ Ts, w.before args s = true) (hT : GoodIn Ts (wsV own index C y ws)) (hw : ws = Cond.codeWith y bytes maxL ret hh :: ws') (hrc : rm.cells = mc) (hrs : rm.slots = ms)
    (hd : y.cls = C ∧ y.cls ≠ "java/lang/invoke/MethodHandle" ∧ y.cls ≠ "java/lang/invoke/VarHandle" ∧ (parseMethodDescriptor y.desc).map (fun d => d.parameters.length) = some n) (hR : rm.frames + 1 ≤ R.frames ∧ 8 + (maxL + 11) + rm.locals ≤ R.locals) :
    vx_CVW R s args own C index y bytes maxL ret hh ws rm mc ms n := by
  obtain ⟨hC, hd⟩ := hd
  subst hC
  have ok : ∀ w ∈ wsV own index y.cls y ws, w.before args s = true := fun w h => ht w (hT w h).1
  have hG : GoodIn Ts ws := fun w h => hT w (by unfold wsV; exact List.mem_append_right _ h)
  have hc : Cond.codeWith y bytes maxL ret hh ∈ ws := by rw [hw]; exact List.mem_cons_self
  refine ⟨⟨hrc, hrs, hR.1, hR.2, pay_in ht hG, hc⟩, ht _ (hG _ hc).1, ok _ (by simp [wsV]), ⟨hd.1, hd.2.1⟩, fun sig h => ?_, ok _ (by simp [wsV]), ok _ (by simp [wsV]), ok _ (by simp [wsV])⟩
  have h2 := hd.2.2
  rw [h] at h2
  exact (Option.some.inj h2).symm
theorem vx_runVW {y : MethodName} {bytes cc : ByteArray} {maxL nL mc ms n index : Nat} {ret : Option FieldType} {hh : List (Nat × Nat × Nat × Nat)} {ws : List Cond} {rm : Room} {Pc : Array Value → State → Prop} {Qc : Array Value → State → Outcome → State → Prop} {free : Addr → Prop} {Ts : List Cond} {own C : String} {b : Addr} {As rest : List Value} {g : JFrame}
    (S : CallFix p m c cc nL s args Ts own) (hM : Met l y ws rm Pc Qc mc ms free) (cw : vx_CVW R s args own C index y bytes maxL ret hh ws rm mc ms n) (hp : PreV s H C b Pc As)
    (hg : g.method = m) (hn : As.length = n) (hsize : g.locals.size = nL) (hstack : g.stack = As.reverse ++ .ref b :: rest) (hW : 2 * g.monitorRoom + (rest.map fun v => v.category).sum ≤ 8) (hdg : decode cc g.pc = .ok (.invokevirtual index, 3)) (hf : cells + mc ≤ R.cells ∧ slots + ms ≤ R.slots) :
    va_Run p l e R s m args below meth c H locs cells slots mc ms g rest (Qc (Value.ref b :: As).toArray) free := by
  obtain ⟨⟨hrc, hrs, hfr, hlo, hws, hcw⟩, hcode, hini, hy, hlen, hl, hin, hse⟩ := cw
  have hK : Back l R p e below s args y 3 8 (PreOf R mc ms Pc) (PostOf Qc mc ms free) := va_backW (hh := hh) (bytes := bytes) (maxL := maxL) (ret := ret) hM hp.1 hrc hrs hfr hlo hws hcw (fun a' U hW => word_at hW (Or.inl (by first | rfl | simp [Cond.onTables, Cond.keeps, Cond.steady])) hini)
  obtain ⟨hx, hb, hml, ho, -⟩ := S
  obtain ⟨-, ⟨cellB, hcB, hoB, hclB⟩, hPc⟩ := hp
  intro T hT X
  obtain ⟨v, vm₁, ⟨U', l2, c2, s2⟩, hW₁, X', ⟨g', mk, t, L, e1, e2, hq, h1, hL, h2, h3⟩, st⟩ := vx_callVW X hx (C := C) (hh := hh) (bytes := bytes) (maxL := maxL) (ret := ret) ho hl hin hse hcode hy hK (by rw [hT]; exact hcB) hoB hclB hg (hsize.trans hml.symm) (argsL := As) (rest := rest) (fun sig h => hn.trans (hlen sig h)) hstack hW (by rw [hb]; exact hdg)
    (fun vm₁ hW₁ => ⟨hf.1, hf.2, hPc (T.setVm vm₁) hT hW₁⟩)
  dsimp only [Pt.U, Pt.locs, Pt.cells, Pt.slots] at X' e1 e2 h1 h2 h3 st
  subst h1; subst h2; subst h3
  exact ⟨v, (T.setVm vm₁).calling g' mk (Value.ref b :: As).toArray, t, U', L, hT, X', hL, e1, e2, hq, st⟩
section
variable {y : MethodName} {bytes cc : ByteArray} {maxL nL mc ms n index : Nat} {ret : Option FieldType} {ws : List Cond} {rm : Room} {Pc : Array Value → State → Prop} {Qc : Array Value → State → Outcome → State → Prop} {XC : String → State → State → Prop} {free : Addr → Prop} {Ts : List Cond} {own C : String} {b : Addr} {As rest : List Value} {g : JFrame}
theorem vx_runVX {hh : List (Nat × Nat × Nat × Nat)} (S : CallFix p m c cc nL s args Ts own) (hM : vx_Met l y ws rm Pc Qc XC mc ms free) (cw : vx_CVW R s args own C index y bytes maxL ret hh ws rm mc ms n) (hp : PreV s H C b Pc As)
    (hg : g.method = m) (hn : As.length = n) (hsize : g.locals.size = nL) (hstack : g.stack = As.reverse ++ .ref b :: rest) (hW : 2 * g.monitorRoom + (rest.map fun v => v.category).sum ≤ 8) (hdg : decode cc g.pc = .ok (.invokevirtual index, 3)) (hf : cells + mc ≤ R.cells ∧ slots + ms ≤ R.slots) :
    vx_Run p l e R s m args below meth c H locs cells slots mc ms g rest (Qc (Value.ref b :: As).toArray) XC free := by
  obtain ⟨⟨hrc, hrs, hfr, hlo, hws, hcw⟩, hcode, hini, hy, hlen, hl, hin, hse⟩ := cw
  have hK : vx_Back l R p e below s args y 3 8 (PreOf R mc ms Pc) (PostOf Qc mc ms free) (vx_Post XC mc ms free) := vx_backW (hh := hh) (bytes := bytes) (maxL := maxL) (ret := ret) hM hp.1 hrc hrs hfr hlo hws hcw (fun a' U hW => word_at hW (Or.inl (by first | rfl | simp [Cond.onTables, Cond.keeps, Cond.steady])) hini)
  obtain ⟨hx, hb, hml, ho, -⟩ := S
  obtain ⟨-, ⟨cellB, hcB, hoB, hclB⟩, hPc⟩ := hp
  intro T hT X
  rcases vx_callVX X hx (C := C) (hh := hh) (bytes := bytes) (maxL := maxL) (ret := ret) ho hl hin hse hcode hy hK (by rw [hT]; exact hcB) hoB hclB hg (hsize.trans hml.symm) (argsL := As) (rest := rest) (fun sig h => hn.trans (hlen sig h)) hstack hW (by rw [hb]; exact hdg)
    (fun vm₁ hW₁ => ⟨hf.1, hf.2, hPc (T.setVm vm₁) hT hW₁⟩) with ⟨v, vm₁, ⟨U', l2, c2, s2⟩, hW₁, X', ⟨g', mk, t, L, e1, e2, hq, h1, hL, h2, h3⟩, st⟩ | ⟨q, vm₁, ⟨U', l2, c2, s2⟩, hW₁, X', ⟨g', mk, t, L, E, ce, e1, e2, hq, hce, hcv, hcl, h1, hL, h2, h3⟩, st⟩
  · dsimp only [Pt.U, Pt.locs, Pt.cells, Pt.slots] at X' e1 e2 h1 h2 h3 st
    subst h1; subst h2; subst h3
    exact Or.inl ⟨v, (T.setVm vm₁).calling g' mk (Value.ref b :: As).toArray, t, U', L, hT, X', hL, e1, e2, hq, st⟩
  · dsimp only [Pt.U, Pt.locs, Pt.cells, Pt.slots] at X' e1 e2 h1 h2 h3 st hcl
    subst h1; subst h2; subst h3
    exact Or.inr ⟨q, (T.setVm vm₁).calling g' mk (Value.ref b :: As).toArray, t, U', L, E, ce, hT, X', hL, e1, e2, hq, hce, hcv, vx_cls hW₁ hcl, st⟩
theorem vx_runSX {hh : List (Nat × Nat × Nat × Nat)} (S : CallFix p m c cc nL s args Ts own) (hM : vx_Met l y ws rm Pc Qc XC mc ms free) (cw : vx_CSW R s args own index y bytes maxL ret hh ws rm mc ms n) (hp : PreS s H Pc As)
    (hg : g.method = m) (hn : As.length = n) (hsize : g.locals.size = nL) (hstack : g.stack = As.reverse ++ rest) (hW : 2 * g.monitorRoom + (rest.map fun v => v.category).sum ≤ 8) (hdg : decode cc g.pc = .ok (.invokestatic index, 3)) (hf : cells + mc ≤ R.cells ∧ slots + ms ≤ R.slots) :
    vx_Run p l e R s m args below meth c H locs cells slots mc ms g rest (Qc As.toArray) XC free := by
  obtain ⟨⟨hrc, hrs, hfr, hlo, hws, hcw⟩, hcode, hini, hy, hlen, hl, hstt⟩ := cw
  have hK : vx_Back l R p e below s args y 3 8 (PreOf R mc ms Pc) (PostOf Qc mc ms free) (vx_Post XC mc ms free) := vx_backW (hh := hh) (bytes := bytes) (maxL := maxL) (ret := ret) hM hp.1 hrc hrs hfr hlo hws hcw (fun a' U hW => word_at hW (Or.inl (by first | rfl | simp [Cond.onTables, Cond.keeps, Cond.steady])) hini)
  obtain ⟨hx, hb, hml, ho, -⟩ := S
  intro T hT X
  rcases vx_callSX X hx (hh := hh) (bytes := bytes) (maxL := maxL) (ret := ret) ho hl hstt hini hcode hy hK hg (hsize.trans hml.symm) (argsL := As) (rest := rest) (fun sig h => hn.trans (hlen sig h)) hstack hW (by rw [hb]; exact hdg)
    (fun vm₁ hW₁ => ⟨hf.1, hf.2, hp.2 (T.setVm vm₁) hT hW₁⟩) with ⟨v, vm₁, ⟨U', l2, c2, s2⟩, hW₁, X', ⟨g', mk, t, L, e1, e2, hq, h1, hL, h2, h3⟩, st⟩ | ⟨q, vm₁, ⟨U', l2, c2, s2⟩, hW₁, X', ⟨g', mk, t, L, E, ce, e1, e2, hq, hce, hcv, hcl, h1, hL, h2, h3⟩, st⟩
  · dsimp only [Pt.U, Pt.locs, Pt.cells, Pt.slots] at X' e1 e2 h1 h2 h3 st
    subst h1; subst h2; subst h3
    exact Or.inl ⟨v, (T.setVm vm₁).calling g' mk As.toArray, t, U', L, hT, X', hL, e1, e2, hq, st⟩
  · dsimp only [Pt.U, Pt.locs, Pt.cells, Pt.slots] at X' e1 e2 h1 h2 h3 st hcl
    subst h1; subst h2; subst h3
    exact Or.inr ⟨q, (T.setVm vm₁).calling g' mk As.toArray, t, U', L, E, ce, hT, X', hL, e1, e2, hq, hce, hcv, vx_cls hW₁ hcl, st⟩
end
end VXH
theorem vx_ofWH {l : Launch} {y : MethodName} {ws ws' : List Cond} {rm : Room} {Pc : Array Value → State → Prop} {Qc : Array Value → State → Outcome → State → Prop} {XC : String → State → State → Prop} {mc ms : Nat} {free : Addr → Prop} {cc : ByteArray} {maxL : Nat} {ret : Option FieldType} {hh : List (Nat × Nat × Nat × Nat)}
    (hy : plainName y.cls = true) (hw : ws = Cond.codeWith y cc maxL ret hh :: ws')
    (body : ∀ p e s m args below meth c s₁, BodyLoose p l y (headSpec ws rm) cc maxL ret e s m args below meth c s₁ → c.maxLocals = maxL → Pc args s →
      W p l e (headSpec ws rm).room s m args below meth c s.heap [] 0 0 (vx_MQ below Qc XC args s mc ms free) (entryFrame m args maxL)) : vx_Met l y ws rm Pc Qc XC mc ms free := by
  refine MetFree.of_bodyS (code := cc) (maxLocals := maxL) (ret := ret) hy ?_ ?_
  · intro args s m h hn
    obtain ⟨m9, meth, c, hn9, h1, h2, h3, h4, -, h5, h6, -⟩ := Cond.codeWith_spec (atoms_spec (ws := ws) h _ (by rw [hw]; exact List.mem_cons_self))
    cases hn.symm.trans hn9
    exact ⟨meth, c, h1, h2, h3, h4, h5, h6⟩
  · intro p e s m args below meth c s₁ B hml hP _
    have hh0 : s₁.heap = s.heap := by rw [B.state]; rfl
    obtain ⟨t, a1, o, b1, b2, b3⟩ := body p e s m args below meth c s₁ B hml hP s₁ hh0 (Stand.of_body B)
    exact ⟨t, o, a1, b1, b2, b3⟩
/-! ===== END ===== -/

/-! ===== BEGIN printed: names, fields, word lists, decode rows ===== -/
end
section
/-! ===== numbers: ints and longs of the machine as integers ===== -/
def iI (z : Int) : Int32 := Int32.ofInt z
def lI (z : Int) : Int64 := Int64.ofInt z
abbrev rg (z : Int) : Prop := -2147483648 ≤ z ∧ z < 2147483648
abbrev rl (z : Int) : Prop := -9223372036854775808 ≤ z ∧ z < 9223372036854775808
theorem iI_t {z : Int} (h : rg z) : (iI z).toInt = z := Int32.toInt_ofInt_of_le (by have := h.1; omega) (by have := h.2; omega)
theorem lI_t {z : Int} (h : rl z) : (lI z).toInt = z := Int64.toInt_ofInt_of_le (by have := h.1; omega) (by have := h.2; omega)
theorem iI_of (x : Int32) : iI x.toInt = x := Int32.ofInt_toInt x
theorem rg_of (x : Int32) : rg x.toInt := ⟨by have := x.le_toInt; omega, by have := x.toInt_lt; omega⟩
theorem iI_add (a b : Int) : iI a + iI b = iI (a + b) := (Int32.ofInt_add a b).symm
theorem iI_sub (a b : Int) : iI a - iI b = iI (a - b) := (Int32.ofInt_sub a b).symm
theorem iI_mul (a b : Int) : iI a * iI b = iI (a * b) := (Int32.ofInt_mul a b).symm
theorem lI_add (a b : Int) : lI a + lI b = lI (a + b) := (Int64.ofInt_add a b).symm
theorem lI_sub (a b : Int) : lI a - lI b = lI (a - b) := (Int64.ofInt_sub a b).symm
theorem lI_mul (a b : Int) : lI a * lI b = lI (a * b) := (Int64.ofInt_mul a b).symm
theorem iI_lt {a b : Int} (ha : rg a) (hb : rg b) : iI a < iI b ↔ a < b := by rw [Int32.lt_iff_toInt_lt, iI_t ha, iI_t hb]
theorem iI_le {a b : Int} (ha : rg a) (hb : rg b) : iI a ≤ iI b ↔ a ≤ b := by rw [Int32.le_iff_toInt_le, iI_t ha, iI_t hb]
theorem iI_eq {a b : Int} (ha : rg a) (hb : rg b) : iI a = iI b ↔ a = b := by rw [← Int32.toInt_inj, iI_t ha, iI_t hb]
theorem lI_lt {a b : Int} (ha : rl a) (hb : rl b) : lI a < lI b ↔ a < b := by rw [Int64.lt_iff_toInt_lt, lI_t ha, lI_t hb]
theorem lI_eq {a b : Int} (ha : rl a) (hb : rl b) : lI a = lI b ↔ a = b := by rw [← Int64.toInt_inj, lI_t ha, lI_t hb]
theorem iI_div {a b : Int} (ha : rg a) (hb : rg b) : iI a / iI b = iI (a.tdiv b) := (Int32.ofInt_tdiv (by rw [Int32.toInt_minValue]; have := ha.1; omega) (by rw [Int32.toInt_maxValue]; have := ha.2; omega) (by rw [Int32.toInt_minValue]; have := hb.1; omega) (by rw [Int32.toInt_maxValue]; have := hb.2; omega)).symm
theorem lI_div {a b : Int} (ha : rl a) (hb : rl b) : lI a / lI b = lI (a.tdiv b) := (Int64.ofInt_tdiv (by rw [Int64.toInt_minValue]; have := ha.1; omega) (by rw [Int64.toInt_maxValue]; have := ha.2; omega) (by rw [Int64.toInt_minValue]; have := hb.1; omega) (by rw [Int64.toInt_maxValue]; have := hb.2; omega)).symm
theorem iI_l {a : Int} (h : rg a) : (iI a).toInt64 = lI a := Int64.toInt_inj.mp (by rw [Int32.toInt_toInt64, iI_t h, lI_t ⟨by have := h.1; omega, by have := h.2; omega⟩])
theorem lI_i (a : Int) : (lI a).toInt32 = iI a := Int64.toInt32_ofInt
theorem iI_0 : iI 0 = 0 := rfl
theorem iI_ne0 {a : Int} (h : rg a) (h0 : ¬ a = 0) : ¬ iI a = 0 := fun q => h0 ((iI_eq h ⟨by decide, by decide⟩).mp (q.trans iI_0.symm))
theorem lI_ne0 {a : Int} (h : rl a) (h0 : ¬ a = 0) : ¬ lI a = 0 := fun q => h0 ((lI_eq h ⟨by decide, by decide⟩).mp (q.trans (show (0 : Int64) = lI 0 from rfl)))
theorem iI_in {x : Int} {n : Nat} (hn : n < 2147483648) (h : 0 ≤ x ∧ x < n) : vp_in (iI x) n := by
  rw [vp_in_iff, iI_t ⟨by have := h.1; omega, by have := h.2; omega⟩]
  exact h
theorem iI_cl {x : Int} {n : Nat} (hn : n < 2147483648) (h : 0 ≤ x ∧ x < n) : (iI x).toNatClampNeg = x.toNat := by
  show (iI x).toInt.toNat = x.toNat
  rw [iI_t ⟨by have := h.1; omega, by have := h.2; omega⟩]
theorem iI_nat {n : Nat} : Int32.ofNat n = iI (n : Int) := Int32.ofInt_eq_ofNat.symm
theorem rg_max {a b : Int} (ha : rg a) (hb : rg b) : rg (if a < b then b else a) := by split <;> assumption
theorem rg_min {a b : Int} (ha : rg a) (hb : rg b) : rg (if b < a then b else a) := by split <;> assumption
/-! ===== the glue of the models: an answer is there, or none ===== -/
abbrev nS : Type := Nat → Nat → Int
def up2 (N : nS) (k j : Nat) (x : Int) : nS := va_up N k (va_up (N k) j x)
def nlt {α β : Type} (x : α) (f : α → Option β) : Option β := f x
def nbd {α β : Type} (o : Option (α × nS)) (f : α → nS → Option β) : Option β := match o with
  | none => none
  | some q => f q.1 q.2
theorem ck_s {c : Prop} {h : Decidable c} {β : Type} {f : Option β} {r : β} (e : (@ite _ c h f none) = some r) : c ∧ f = some r := by
  by_cases q : c
  · rw [if_pos q] at e; exact ⟨q, e⟩
  · rw [if_neg q] at e; cases e
theorem if_t {c : Prop} {h : Decidable c} {β : Type} {f g r : β} (q : c) (e : (@ite _ c h f g) = r) : f = r := by rw [if_pos q] at e; exact e
theorem if_f {c : Prop} {h : Decidable c} {β : Type} {f g r : β} (q : ¬ c) (e : (@ite _ c h f g) = r) : g = r := by rw [if_neg q] at e; exact e
theorem nlt_s {α β : Type} {x : α} {f : α → Option β} {r : β} (e : nlt x f = some r) : ∃ y, y = x ∧ f y = some r := ⟨x, rfl, e⟩
theorem nbd_s {α β : Type} {o : Option (α × nS)} {f : α → nS → Option β} {r : β} (e : nbd o f = some r) : ∃ a N, o = some (a, N) ∧ f a N = some r := by
  cases o with
  | none => cases e
  | some q => exact ⟨q.1, q.2, rfl, e⟩
/-! ===== the named world: cell k of the world has the name k and the address ad k ===== -/
abbrev nH : Type := List (Nat × Nat × List (Nat × Nat))
def nw (ad : Nat → Nat) (g : Nat → va_E) (n : Nat) : va_W := (List.range n).map (fun i => (ad i, g i))
theorem nw_at {ad : Nat → Nat} {g : Nat → va_E} {n k : Nat} {e : va_E} (hk : k < n) (he : g k = e) : (nw ad g n)[k]? = some (ad k, e) := by
  subst he
  simp [nw, hk]
theorem nw_set {ad : Nat → Nat} {g : Nat → va_E} {n k : Nat} {e : va_E} : (nw ad g n).set k (ad k, e) = nw ad (va_up g k e) n := by
  apply List.ext_getElem?
  intro i
  by_cases hi : i < n
  · by_cases h : k = i
    · subst h
      simp [nw, hi, va_up]
    · rw [List.getElem?_set_ne h]
      simp [nw, hi, va_up, Ne.symm h]
  · rw [List.getElem?_eq_none (by simp [nw]; omega), List.getElem?_eq_none (by simp [nw]; omega)]
def nD (ad : Nat → Nat) (A : Nat → Prop) (n : Nat) : Prop := (∀ i j : Nat, i < n → j < n → ad i = ad j → i = j) ∧ ∀ i : Nat, i < n → A (ad i)
theorem nw_get {ad : Nat → Nat} {g : Nat → va_E} {n k : Nat} {q : Nat × va_E} (h : (nw ad g n)[k]? = some q) : k < n ∧ q = (ad k, g k) := by
  have hk : k < n := by
    have := (List.getElem?_eq_some_iff.mp h).1
    simpa [nw] using this
  rw [nw_at hk rfl] at h
  exact ⟨hk, (Option.some.inj h).symm⟩
theorem nw_D {ad : Nat → Nat} {A : Nat → Prop} {n : Nat} (h : nD ad A n) (g : Nat → va_E) : va_D A (nw ad g n) := by
  refine ⟨fun i j x y hx hy he => ?_, fun k q hq => ?_⟩
  · obtain ⟨h1, rfl⟩ := nw_get hx
    obtain ⟨h2, rfl⟩ := nw_get hy
    exact h.1 i j h1 h2 he
  · obtain ⟨h1, rfl⟩ := nw_get hq
    exact h.2 k h1
/-! shapes: (0, n, _) ints, (1, n, _) booleans, (2, n, _) longs, (3, n, [(b, d), (u, _)]) references of HotLoops$Plugs to the names k + b + d * j for j < u, (4, c, fields) an object; a field: 0 int, 1 long, 2 a name, 3 a name from k on, else null -/
def nf (ad : Nat → Nat) (k : Nat) (f : Nat → Int) : List (Nat × Nat) → Nat → List Value
  | [], _ => []
  | q :: fs, j => (if q.1 = 0 then Value.int (iI (f j)) else if q.1 = 1 then Value.long (lI (f j)) else if q.1 = 2 then Value.ref (ad q.2) else if q.1 = 3 then Value.ref (ad (k + q.2)) else Value.null) :: nf ad k f fs (j + 1)
def ne1 (ct : Nat → ClassId) (ad : Nat → Nat) (k : Nat) (f : Nat → Int) (q : Nat × Nat × List (Nat × Nat)) : va_E :=
  if q.1 = 0 then .inl (ct 0, q.2.1, .inl (fun j => iI (f j)))
  else if q.1 = 1 then .inl (ct 1, q.2.1, .inl (fun j => iI (f j)))
  else if q.1 = 2 then .inl (ct 2, q.2.1, .inr (.inl (fun j => lI (f j))))
  else if q.1 = 3 then .inl (ct 3, q.2.1, .inr (.inr (.inr (.inr (fun j => if j < (q.2.2.getD 1 (0, 0)).1 then some (ad (k + (q.2.2.getD 0 (0, 0)).1 + (q.2.2.getD 0 (0, 0)).2 * j)) else none)))))
  else .inr (q.2.1, nf ad k f q.2.2 0)
def ne (ct : Nat → ClassId) (ad : Nat → Nat) (S : nH) (k : Nat) (f : Nat → Int) : va_E := ne1 ct ad k f ((S[k]?).getD (0, 0, []))
theorem nf_get {ad : Nat → Nat} {k : Nat} {f : Nat → Int} : ∀ {fs : List (Nat × Nat)} {b j : Nat} {q : Nat × Nat}, fs[j]? = some q → (nf ad k f fs b)[j]? = some (if q.1 = 0 then Value.int (iI (f (b + j))) else if q.1 = 1 then Value.long (lI (f (b + j))) else if q.1 = 2 then Value.ref (ad q.2) else if q.1 = 3 then Value.ref (ad (k + q.2)) else Value.null)
  | [], b, j, q, h => by simp at h
  | x :: fs, b, 0, q, h => by
    simp at h
    subst h
    rfl
  | x :: fs, b, j + 1, q, h => by
    have h1 : fs[j]? = some q := by simpa using h
    have h2 := nf_get (ad := ad) (k := k) (f := f) (b := b + 1) h1
    rw [show b + 1 + j = b + (j + 1) by omega] at h2
    show (nf ad k f fs (b + 1))[j]? = _
    exact h2
theorem nf_len {ad : Nat → Nat} {k : Nat} {f : Nat → Int} : ∀ {fs : List (Nat × Nat)} {b : Nat}, (nf ad k f fs b).length = fs.length
  | [], b => rfl
  | x :: fs, b => by show (nf ad k f fs (b + 1)).length + 1 = _; rw [nf_len]; rfl
theorem nf_cg {ad : Nat → Nat} {k : Nat} {f g : Nat → Int} : ∀ {fs : List (Nat × Nat)} {b : Nat}, (∀ i, b ≤ i → f i = g i) → nf ad k f fs b = nf ad k g fs b
  | [], b, h => rfl
  | x :: fs, b, h => by
    show _ :: nf ad k f fs (b + 1) = _ :: nf ad k g fs (b + 1)
    rw [nf_cg (b := b + 1) (fun i hi => h i (by omega)), h b (Nat.le_refl _)]
theorem nf_set {ad : Nat → Nat} {k : Nat} {f : Nat → Int} {x : Int} : ∀ {fs : List (Nat × Nat)} {b j : Nat} {q : Nat × Nat}, fs[j]? = some q → (nf ad k f fs b).set j (if q.1 = 0 then Value.int (iI x) else if q.1 = 1 then Value.long (lI x) else if q.1 = 2 then Value.ref (ad q.2) else if q.1 = 3 then Value.ref (ad (k + q.2)) else Value.null) = nf ad k (va_up f (b + j) x) fs b
  | [], b, j, q, h => by simp at h
  | y :: fs, b, 0, q, h => by
    simp at h
    subst h
    show _ :: nf ad k f fs (b + 1) = (if y.1 = 0 then Value.int (iI (va_up f (b + 0) x b)) else if y.1 = 1 then Value.long (lI (va_up f (b + 0) x b)) else if y.1 = 2 then Value.ref (ad y.2) else if y.1 = 3 then Value.ref (ad (k + y.2)) else Value.null) :: nf ad k (va_up f (b + 0) x) fs (b + 1)
    rw [show va_up f (b + 0) x b = x by simp [va_up], nf_cg (f := f) (g := va_up f (b + 0) x) (fun i hi => by simp [va_up]; intro h; omega)]
  | y :: fs, b, j + 1, q, h => by
    have h1 : fs[j]? = some q := by simpa using h
    have h2 := nf_set (ad := ad) (k := k) (f := f) (x := x) (b := b + 1) h1
    rw [show b + 1 + j = b + (j + 1) by omega] at h2
    show _ :: (nf ad k f fs (b + 1)).set j _ = (if y.1 = 0 then Value.int (iI (va_up f (b + (j + 1)) x b)) else if y.1 = 1 then Value.long (lI (va_up f (b + (j + 1)) x b)) else if y.1 = 2 then Value.ref (ad y.2) else if y.1 = 3 then Value.ref (ad (k + y.2)) else Value.null) :: nf ad k (va_up f (b + (j + 1)) x) fs (b + 1)
    rw [h2, show va_up f (b + (j + 1)) x b = f b by simp [va_up]]
theorem ne_at {ct : Nat → ClassId} {ad : Nat → Nat} {S : nH} {k : Nat} {f : Nat → Int} {q : Nat × Nat × List (Nat × Nat)} (h : S[k]? = some q) : ne ct ad S k f = ne1 ct ad k f q := by
  unfold ne
  rw [h]
  rfl
theorem ne_up {ct : Nat → ClassId} {ad : Nat → Nat} {S : nH} {N : nS} {k j : Nat} {x : Int} : va_up (fun i => ne ct ad S i (N i)) k (ne ct ad S k (va_up (N k) j x)) = fun i => ne ct ad S i (up2 N k j x i) := by
  funext i
  by_cases h : i = k
  · subst h
    simp [va_up, up2]
  · simp [va_up, up2, h]
theorem ret_s {α : Type} {a r : α} {N No : nS} (h : some (a, N) = some (r, No)) : a = r ∧ N = No := by
  cases h
  exact ⟨rfl, rfl⟩
theorem rg_n {n : Nat} (h : n < 2147483648) : rg ((n : Nat) : Int) := ⟨by omega, by omega⟩
theorem tn_lt {x : Int} {n : Nat} (h : 0 ≤ x ∧ x < ((n : Nat) : Int)) : x.toNat < n := by have := h.1; have := h.2; omega
def FU : Nat := 200
end
section
/-! ===== the judgement nV: the method's frame at pc with the listed locals and stack, over the named world with the numbers N ===== -/
def nt (ct : Nat → ClassId) : List (ClassId × FieldType) := [(ct 0, .int), (ct 1, .boolean), (ct 2, .long), (ct 3, .object "HotLoops$Plugs")]
abbrev nWd (D : va_G) (cl : List vw_C) (ct : Nat → ClassId) (ad : Nat → Nat) (S : nH) (N : nS) (H : Heap) : Prop := va_P D cl (nw ad (fun k => ne ct ad S k (N k)) S.length) H
def nV (p : Program) (l : Launch) (e : Env) (R : Room) (s : State) (m : MethodId) (args : Array Value) (below : List Frame) (meth : Method) (c : Code) (cells slots : Nat) (Q : State → Prop) (D : va_G) (cl : List vw_C) (ct : Nat → ClassId) (A : Nat → Prop) (ad : Nat → Nat) (S : nH) (nL : Nat) (N : nS) (pc : Nat) (lv : List (Nat × Value)) (st : List Value) : Prop :=
  ∀ (H : Heap) (locs : List Loc) (ls : Array Slot), nWd D cl ct ad S N H → va_S A s.heap H locs → lv_has ls nL lv → W p l e R s m args below meth c H locs cells slots Q (F0 m pc ls st)
/-- what holds all through a method -/
def nC (p : Program) (s : State) (m : MethodId) (args : Array Value) (c : Code) (D : va_G) (cl : List vw_C) (ct : Nat → ClassId) (A : Nat → Prop) (ad : Nat → Nat) (S : nH) (nL : Nat) (cc : ByteArray) (own : String) (Ts : List Cond) : Prop :=
  CallFix p m c cc nL s args Ts own ∧ va_K D cl (nt ct) s ∧ nD ad A S.length ∧ ∀ q, s.heap.size ≤ q → A q
section NR
variable {p : Program} {l : Launch} {e : Env} {R : Room} {s : State} {m : MethodId} {args : Array Value} {below : List Frame} {meth : Method} {c : Code} {cells slots : Nat} {Q : State → Prop} {D : va_G} {cl : List vw_C} {ct : Nat → ClassId} {A : Nat → Prop} {ad : Nat → Nat} {S : nH} {nL : Nat} {N : nS} {pc : Nat} {lv : List (Nat × Value)} {st : List Value} {cc : ByteArray} {own : String} {Ts : List Cond}
theorem nv_iconst (hC : nC p s m args c D cl ct A ad S nL cc own Ts) {n : Int} (hdg : decode cc pc = .ok (.iconst n, 1)) (kk : nV p l e R s m args below meth c cells slots Q D cl ct A ad S nL N (pc + 1) lv (.int (iI n) :: st)) : nV p l e R s m args below meth c cells slots Q D cl ct A ad S nL N pc lv st := fun H locs ls hP hS hl => lv_iconst hC.1.1 hC.1.2.1 hdg rfl (kk H locs ls hP hS hl)
theorem nv_bipush (hC : nC p s m args c D cl ct A ad S nL cc own Ts) {n z : Int} (hdg : decode cc pc = .ok (.bipush n, 2)) (hz : (Int8.ofInt n).toInt32 = iI z) (kk : nV p l e R s m args below meth c cells slots Q D cl ct A ad S nL N (pc + 2) lv (.int (iI z) :: st)) : nV p l e R s m args below meth c cells slots Q D cl ct A ad S nL N pc lv st := fun H locs ls hP hS hl => lv_bipush hC.1.1 hC.1.2.1 hdg hz (kk H locs ls hP hS hl)
theorem nv_sipush (hC : nC p s m args c D cl ct A ad S nL cc own Ts) {n z : Int} (hdg : decode cc pc = .ok (.sipush n, 3)) (hz : (Int16.ofInt n).toInt32 = iI z) (kk : nV p l e R s m args below meth c cells slots Q D cl ct A ad S nL N (pc + 3) lv (.int (iI z) :: st)) : nV p l e R s m args below meth c cells slots Q D cl ct A ad S nL N pc lv st := fun H locs ls hP hS hl => lv_sipush hC.1.1 hC.1.2.1 hdg hz (kk H locs ls hP hS hl)
theorem nv_lconst (hC : nC p s m args c D cl ct A ad S nL cc own Ts) {n : Fin 2} {z : Int} (hdg : decode cc pc = .ok (.lconst n, 1)) (hz : Int64.ofNat (n : Nat) = lI z) (kk : nV p l e R s m args below meth c cells slots Q D cl ct A ad S nL N (pc + 1) lv (.long (lI z) :: st)) : nV p l e R s m args below meth c cells slots Q D cl ct A ad S nL N pc lv st := fun H locs ls hP hS hl => lv_lconst hC.1.1 hC.1.2.1 hdg hz (kk H locs ls hP hS hl)
theorem nv_ldc (hC : nC p s m args c D cl ct A ad S nL cc own Ts) {index : Nat} {z : Int} (hdg : decode cc pc = .ok (.ldc index, 2)) (hz : Cond.constant own index (iI z) ∈ Ts) (kk : nV p l e R s m args below meth c cells slots Q D cl ct A ad S nL N (pc + 2) lv (.int (iI z) :: st)) : nV p l e R s m args below meth c cells slots Q D cl ct A ad S nL N pc lv st := fun H locs ls hP hS hl => lv_ldc hC.1.1 hC.1.2.1 hC.1.2.2.2.1 (hC.1.2.2.2.2 _ hz) hdg (kk H locs ls hP hS hl)
theorem nv_ldcw (hC : nC p s m args c D cl ct A ad S nL cc own Ts) {index : Nat} {z : Int} (hdg : decode cc pc = .ok (.ldc_w index, 3)) (hz : Cond.constant own index (iI z) ∈ Ts) (kk : nV p l e R s m args below meth c cells slots Q D cl ct A ad S nL N (pc + 3) lv (.int (iI z) :: st)) : nV p l e R s m args below meth c cells slots Q D cl ct A ad S nL N pc lv st := fun H locs ls hP hS hl => lv_ldcw hC.1.1 hC.1.2.1 hC.1.2.2.2.1 (hC.1.2.2.2.2 _ hz) hdg (kk H locs ls hP hS hl)
theorem nv_iload_n (hC : nC p s m args c D cl ct A ad S nL cc own Ts) {f : Fin 4} {i : Nat} {x : Int} (hdg : decode cc pc = .ok (.iload_n f, 1)) (hi : (f : Nat) = i) (k : Nat) (hk : lv[k]? = some (i, .int (iI x))) (kk : nV p l e R s m args below meth c cells slots Q D cl ct A ad S nL N (pc + 1) lv (.int (iI x) :: st)) : nV p l e R s m args below meth c cells slots Q D cl ct A ad S nL N pc lv st := fun H locs ls hP hS hl => lv_iload_n hC.1.1 hC.1.2.1 hdg hi (lv_at hl k hk) (kk H locs ls hP hS hl)
theorem nv_iload (hC : nC p s m args c D cl ct A ad S nL cc own Ts) {i : Nat} {x : Int} (hdg : decode cc pc = .ok (.iload i, 2)) (k : Nat) (hk : lv[k]? = some (i, .int (iI x))) (kk : nV p l e R s m args below meth c cells slots Q D cl ct A ad S nL N (pc + 2) lv (.int (iI x) :: st)) : nV p l e R s m args below meth c cells slots Q D cl ct A ad S nL N pc lv st := fun H locs ls hP hS hl => lv_iload hC.1.1 hC.1.2.1 hdg (lv_at hl k hk) (kk H locs ls hP hS hl)
theorem nv_lload_n (hC : nC p s m args c D cl ct A ad S nL cc own Ts) {f : Fin 4} {i : Nat} {x : Int} (hdg : decode cc pc = .ok (.lload_n f, 1)) (hi : (f : Nat) = i) (k : Nat) (hk : lv[k]? = some (i, .long (lI x))) (kk : nV p l e R s m args below meth c cells slots Q D cl ct A ad S nL N (pc + 1) lv (.long (lI x) :: st)) : nV p l e R s m args below meth c cells slots Q D cl ct A ad S nL N pc lv st := fun H locs ls hP hS hl => lv_lload_n hC.1.1 hC.1.2.1 hdg hi (lv_at hl k hk) (kk H locs ls hP hS hl)
theorem nv_lload (hC : nC p s m args c D cl ct A ad S nL cc own Ts) {i : Nat} {x : Int} (hdg : decode cc pc = .ok (.lload i, 2)) (k : Nat) (hk : lv[k]? = some (i, .long (lI x))) (kk : nV p l e R s m args below meth c cells slots Q D cl ct A ad S nL N (pc + 2) lv (.long (lI x) :: st)) : nV p l e R s m args below meth c cells slots Q D cl ct A ad S nL N pc lv st := fun H locs ls hP hS hl => lv_lload hC.1.1 hC.1.2.1 hdg (lv_at hl k hk) (kk H locs ls hP hS hl)
theorem nv_aload_n (hC : nC p s m args c D cl ct A ad S nL cc own Ts) {f : Fin 4} {i : Nat} {x : Nat} (hdg : decode cc pc = .ok (.aload_n f, 1)) (hi : (f : Nat) = i) (k : Nat) (hk : lv[k]? = some (i, .ref x)) (kk : nV p l e R s m args below meth c cells slots Q D cl ct A ad S nL N (pc + 1) lv (.ref x :: st)) : nV p l e R s m args below meth c cells slots Q D cl ct A ad S nL N pc lv st := fun H locs ls hP hS hl => lv_aload_n hC.1.1 hC.1.2.1 hdg hi (lv_at hl k hk) (kk H locs ls hP hS hl)
theorem nv_aload (hC : nC p s m args c D cl ct A ad S nL cc own Ts) {i : Nat} {x : Nat} (hdg : decode cc pc = .ok (.aload i, 2)) (k : Nat) (hk : lv[k]? = some (i, .ref x)) (kk : nV p l e R s m args below meth c cells slots Q D cl ct A ad S nL N (pc + 2) lv (.ref x :: st)) : nV p l e R s m args below meth c cells slots Q D cl ct A ad S nL N pc lv st := fun H locs ls hP hS hl => lv_aload hC.1.1 hC.1.2.1 hdg (lv_at hl k hk) (kk H locs ls hP hS hl)
theorem nv_istore_n (hC : nC p s m args c D cl ct A ad S nL cc own Ts) {f : Fin 4} {i : Nat} {x : Int} {lv' : List (Nat × Value)} (hdg : decode cc pc = .ok (.istore_n f, 1)) (hi : (f : Nat) = i) (hn : i < nL) (hlv : (i, Value.int (iI x)) :: lv.filter (fun q => !(q.1 == i) && !(q.1 + 1 == i && q.2.category == 2)) = lv') (kk : nV p l e R s m args below meth c cells slots Q D cl ct A ad S nL N (pc + 1) lv' st) : nV p l e R s m args below meth c cells slots Q D cl ct A ad S nL N pc lv (.int (iI x) :: st) := fun H locs ls hP hS hl => lv_istore_n hC.1.1 hC.1.2.1 hdg hi hl hn hlv (fun ls' hl' => kk H locs ls' hP hS hl')
theorem nv_istore (hC : nC p s m args c D cl ct A ad S nL cc own Ts) {i : Nat} {x : Int} {lv' : List (Nat × Value)} (hdg : decode cc pc = .ok (.istore i, 2)) (hn : i < nL) (hlv : (i, Value.int (iI x)) :: lv.filter (fun q => !(q.1 == i) && !(q.1 + 1 == i && q.2.category == 2)) = lv') (kk : nV p l e R s m args below meth c cells slots Q D cl ct A ad S nL N (pc + 2) lv' st) : nV p l e R s m args below meth c cells slots Q D cl ct A ad S nL N pc lv (.int (iI x) :: st) := fun H locs ls hP hS hl => lv_istore hC.1.1 hC.1.2.1 hdg hl hn hlv (fun ls' hl' => kk H locs ls' hP hS hl')
theorem nv_lstore_n (hC : nC p s m args c D cl ct A ad S nL cc own Ts) {f : Fin 4} {i : Nat} {x : Int} {lv' : List (Nat × Value)} (hdg : decode cc pc = .ok (.lstore_n f, 1)) (hi : (f : Nat) = i) (hn : i + 1 < nL) (hlv : (i, Value.long (lI x)) :: lv.filter (fun q => !(q.1 == i) && (!(q.1 == i + 1) && !(q.1 + 1 == i && q.2.category == 2))) = lv') (kk : nV p l e R s m args below meth c cells slots Q D cl ct A ad S nL N (pc + 1) lv' st) : nV p l e R s m args below meth c cells slots Q D cl ct A ad S nL N pc lv (.long (lI x) :: st) := fun H locs ls hP hS hl => lv_lstore_n hC.1.1 hC.1.2.1 hdg hi hl hn hlv (fun ls' hl' => kk H locs ls' hP hS hl')
theorem nv_lstore (hC : nC p s m args c D cl ct A ad S nL cc own Ts) {i : Nat} {x : Int} {lv' : List (Nat × Value)} (hdg : decode cc pc = .ok (.lstore i, 2)) (hn : i + 1 < nL) (hlv : (i, Value.long (lI x)) :: lv.filter (fun q => !(q.1 == i) && (!(q.1 == i + 1) && !(q.1 + 1 == i && q.2.category == 2))) = lv') (kk : nV p l e R s m args below meth c cells slots Q D cl ct A ad S nL N (pc + 2) lv' st) : nV p l e R s m args below meth c cells slots Q D cl ct A ad S nL N pc lv (.long (lI x) :: st) := fun H locs ls hP hS hl => lv_lstore hC.1.1 hC.1.2.1 hdg hl hn hlv (fun ls' hl' => kk H locs ls' hP hS hl')
theorem nv_astore_n (hC : nC p s m args c D cl ct A ad S nL cc own Ts) {f : Fin 4} {i : Nat} {x : Nat} {lv' : List (Nat × Value)} (hdg : decode cc pc = .ok (.astore_n f, 1)) (hi : (f : Nat) = i) (hn : i < nL) (hlv : (i, Value.ref x) :: lv.filter (fun q => !(q.1 == i) && !(q.1 + 1 == i && q.2.category == 2)) = lv') (kk : nV p l e R s m args below meth c cells slots Q D cl ct A ad S nL N (pc + 1) lv' st) : nV p l e R s m args below meth c cells slots Q D cl ct A ad S nL N pc lv (.ref x :: st) := fun H locs ls hP hS hl => lv_astore_n hC.1.1 hC.1.2.1 hdg hi hl hn hlv (fun ls' hl' => kk H locs ls' hP hS hl')
theorem nv_astore (hC : nC p s m args c D cl ct A ad S nL cc own Ts) {i : Nat} {x : Nat} {lv' : List (Nat × Value)} (hdg : decode cc pc = .ok (.astore i, 2)) (hn : i < nL) (hlv : (i, Value.ref x) :: lv.filter (fun q => !(q.1 == i) && !(q.1 + 1 == i && q.2.category == 2)) = lv') (kk : nV p l e R s m args below meth c cells slots Q D cl ct A ad S nL N (pc + 2) lv' st) : nV p l e R s m args below meth c cells slots Q D cl ct A ad S nL N pc lv (.ref x :: st) := fun H locs ls hP hS hl => lv_astore hC.1.1 hC.1.2.1 hdg hl hn hlv (fun ls' hl' => kk H locs ls' hP hS hl')
theorem nv_iinc (hC : nC p s m args c D cl ct A ad S nL cc own Ts) {i : Nat} {n x : Int} {lv' : List (Nat × Value)} (hdg : decode cc pc = .ok (.iinc i n, 3)) (k : Nat) (hk : lv[k]? = some (i, .int (iI x))) (hn : i < nL) (hlv : (i, Value.int (iI (x + n))) :: lv.filter (fun q => !(q.1 == i) && !(q.1 + 1 == i && q.2.category == 2)) = lv') (kk : nV p l e R s m args below meth c cells slots Q D cl ct A ad S nL N (pc + 3) lv' st) : nV p l e R s m args below meth c cells slots Q D cl ct A ad S nL N pc lv st := fun H locs ls hP hS hl => lv_iinc hC.1.1 hC.1.2.1 hdg hl hk (iI_add x n) hn hlv (fun ls' hl' => kk H locs ls' hP hS hl')
theorem nv_iadd (hC : nC p s m args c D cl ct A ad S nL cc own Ts) {x y : Int} (hdg : decode cc pc = .ok (.iadd, 1)) (kk : nV p l e R s m args below meth c cells slots Q D cl ct A ad S nL N (pc + 1) lv (.int (iI (x + y)) :: st)) : nV p l e R s m args below meth c cells slots Q D cl ct A ad S nL N pc lv (.int (iI y) :: .int (iI x) :: st) := fun H locs ls hP hS hl => lv_iadd hC.1.1 hC.1.2.1 hdg (by rw [iI_add]; exact (kk H locs ls hP hS hl))
theorem nv_isub (hC : nC p s m args c D cl ct A ad S nL cc own Ts) {x y : Int} (hdg : decode cc pc = .ok (.isub, 1)) (kk : nV p l e R s m args below meth c cells slots Q D cl ct A ad S nL N (pc + 1) lv (.int (iI (x - y)) :: st)) : nV p l e R s m args below meth c cells slots Q D cl ct A ad S nL N pc lv (.int (iI y) :: .int (iI x) :: st) := fun H locs ls hP hS hl => lv_isub hC.1.1 hC.1.2.1 hdg (by rw [iI_sub]; exact (kk H locs ls hP hS hl))
theorem nv_imul (hC : nC p s m args c D cl ct A ad S nL cc own Ts) {x y : Int} (hdg : decode cc pc = .ok (.imul, 1)) (kk : nV p l e R s m args below meth c cells slots Q D cl ct A ad S nL N (pc + 1) lv (.int (iI (x * y)) :: st)) : nV p l e R s m args below meth c cells slots Q D cl ct A ad S nL N pc lv (.int (iI y) :: .int (iI x) :: st) := fun H locs ls hP hS hl => lv_imul hC.1.1 hC.1.2.1 hdg (by rw [iI_mul]; exact (kk H locs ls hP hS hl))
theorem nv_ladd (hC : nC p s m args c D cl ct A ad S nL cc own Ts) {x y : Int} (hdg : decode cc pc = .ok (.ladd, 1)) (kk : nV p l e R s m args below meth c cells slots Q D cl ct A ad S nL N (pc + 1) lv (.long (lI (x + y)) :: st)) : nV p l e R s m args below meth c cells slots Q D cl ct A ad S nL N pc lv (.long (lI y) :: .long (lI x) :: st) := fun H locs ls hP hS hl => lv_ladd hC.1.1 hC.1.2.1 hdg (by rw [lI_add]; exact (kk H locs ls hP hS hl))
theorem nv_lsub (hC : nC p s m args c D cl ct A ad S nL cc own Ts) {x y : Int} (hdg : decode cc pc = .ok (.lsub, 1)) (kk : nV p l e R s m args below meth c cells slots Q D cl ct A ad S nL N (pc + 1) lv (.long (lI (x - y)) :: st)) : nV p l e R s m args below meth c cells slots Q D cl ct A ad S nL N pc lv (.long (lI y) :: .long (lI x) :: st) := fun H locs ls hP hS hl => lv_lsub hC.1.1 hC.1.2.1 hdg (by rw [lI_sub]; exact (kk H locs ls hP hS hl))
theorem nv_lmul (hC : nC p s m args c D cl ct A ad S nL cc own Ts) {x y : Int} (hdg : decode cc pc = .ok (.lmul, 1)) (kk : nV p l e R s m args below meth c cells slots Q D cl ct A ad S nL N (pc + 1) lv (.long (lI (x * y)) :: st)) : nV p l e R s m args below meth c cells slots Q D cl ct A ad S nL N pc lv (.long (lI y) :: .long (lI x) :: st) := fun H locs ls hP hS hl => lv_lmul hC.1.1 hC.1.2.1 hdg (by rw [lI_mul]; exact (kk H locs ls hP hS hl))
theorem nv_idiv (hC : nC p s m args c D cl ct A ad S nL cc own Ts) {x y : Int} (hdg : decode cc pc = .ok (.idiv, 1)) (hx : rg x) (hy : rg y) (h0 : ¬ y = 0) (kk : nV p l e R s m args below meth c cells slots Q D cl ct A ad S nL N (pc + 1) lv (.int (iI (x.tdiv y)) :: st)) : nV p l e R s m args below meth c cells slots Q D cl ct A ad S nL N pc lv (.int (iI y) :: .int (iI x) :: st) := fun H locs ls hP hS hl => lv_idiv hC.1.1 hC.1.2.1 hdg (iI_ne0 hy h0) (by rw [iI_div hx hy]; exact (kk H locs ls hP hS hl))
theorem nv_irem (hC : nC p s m args c D cl ct A ad S nL cc own Ts) {x y : Int} (hdg : decode cc pc = .ok (.irem, 1)) (hx : rg x) (hy : rg y) (h0 : ¬ y = 0) (kk : nV p l e R s m args below meth c cells slots Q D cl ct A ad S nL N (pc + 1) lv (.int (iI (x - x.tdiv y * y)) :: st)) : nV p l e R s m args below meth c cells slots Q D cl ct A ad S nL N pc lv (.int (iI y) :: .int (iI x) :: st) := fun H locs ls hP hS hl => lv_irem hC.1.1 hC.1.2.1 hdg (iI_ne0 hy h0) (by rw [iI_div hx hy, iI_mul, iI_sub]; exact (kk H locs ls hP hS hl))
theorem nv_ldiv (hC : nC p s m args c D cl ct A ad S nL cc own Ts) {x y : Int} (hdg : decode cc pc = .ok (.ldiv, 1)) (hx : rl x) (hy : rl y) (h0 : ¬ y = 0) (kk : nV p l e R s m args below meth c cells slots Q D cl ct A ad S nL N (pc + 1) lv (.long (lI (x.tdiv y)) :: st)) : nV p l e R s m args below meth c cells slots Q D cl ct A ad S nL N pc lv (.long (lI y) :: .long (lI x) :: st) := fun H locs ls hP hS hl => lv_ldiv hC.1.1 hC.1.2.1 hdg (lI_ne0 hy h0) (by rw [lI_div hx hy]; exact (kk H locs ls hP hS hl))
theorem nv_i2l (hC : nC p s m args c D cl ct A ad S nL cc own Ts) {x : Int} (hdg : decode cc pc = .ok (.i2l, 1)) (hx : rg x) (kk : nV p l e R s m args below meth c cells slots Q D cl ct A ad S nL N (pc + 1) lv (.long (lI x) :: st)) : nV p l e R s m args below meth c cells slots Q D cl ct A ad S nL N pc lv (.int (iI x) :: st) := fun H locs ls hP hS hl => lv_i2l hC.1.1 hC.1.2.1 hdg (iI_l hx) (kk H locs ls hP hS hl)
theorem nv_l2i (hC : nC p s m args c D cl ct A ad S nL cc own Ts) {x : Int} (hdg : decode cc pc = .ok (.l2i, 1)) (kk : nV p l e R s m args below meth c cells slots Q D cl ct A ad S nL N (pc + 1) lv (.int (iI x) :: st)) : nV p l e R s m args below meth c cells slots Q D cl ct A ad S nL N pc lv (.long (lI x) :: st) := fun H locs ls hP hS hl => lv_l2i hC.1.1 hC.1.2.1 hdg (lI_i x) (kk H locs ls hP hS hl)
theorem nv_dup (hC : nC p s m args c D cl ct A ad S nL cc own Ts) {va : Value} (hdg : decode cc pc = .ok (.dup, 1)) (h1 : va.category = 1) (kk : nV p l e R s m args below meth c cells slots Q D cl ct A ad S nL N (pc + 1) lv (va :: va :: st)) : nV p l e R s m args below meth c cells slots Q D cl ct A ad S nL N pc lv (va :: st) := fun H locs ls hP hS hl => lv_dup hC.1.1 hC.1.2.1 hdg h1 (kk H locs ls hP hS hl)
theorem nv_pop (hC : nC p s m args c D cl ct A ad S nL cc own Ts) {va : Value} (hdg : decode cc pc = .ok (.pop, 1)) (h1 : va.category = 1) (kk : nV p l e R s m args below meth c cells slots Q D cl ct A ad S nL N (pc + 1) lv st) : nV p l e R s m args below meth c cells slots Q D cl ct A ad S nL N pc lv (va :: st) := fun H locs ls hP hS hl => lv_pop hC.1.1 hC.1.2.1 hdg h1 (kk H locs ls hP hS hl)
theorem nv_dup_x1 (hC : nC p s m args c D cl ct A ad S nL cc own Ts) {va vb : Value} (hdg : decode cc pc = .ok (.dup_x1, 1)) (h1 : va.category = 1) (h2 : vb.category = 1) (kk : nV p l e R s m args below meth c cells slots Q D cl ct A ad S nL N (pc + 1) lv (va :: vb :: va :: st)) : nV p l e R s m args below meth c cells slots Q D cl ct A ad S nL N pc lv (va :: vb :: st) := fun H locs ls hP hS hl => lv_dup_x1 hC.1.1 hC.1.2.1 hdg h1 h2 (kk H locs ls hP hS hl)
theorem nv_dup_x2 (hC : nC p s m args c D cl ct A ad S nL cc own Ts) {va vb vd : Value} (hdg : decode cc pc = .ok (.dup_x2, 1)) (h1 : va.category = 1) (h2 : vb.category = 1) (h3 : vd.category = 1) (kk : nV p l e R s m args below meth c cells slots Q D cl ct A ad S nL N (pc + 1) lv (va :: vb :: vd :: va :: st)) : nV p l e R s m args below meth c cells slots Q D cl ct A ad S nL N pc lv (va :: vb :: vd :: st) := fun H locs ls hP hS hl => lv_dup_x2 hC.1.1 hC.1.2.1 hdg h1 h2 h3 (kk H locs ls hP hS hl)
theorem nv_dup2_11 (hC : nC p s m args c D cl ct A ad S nL cc own Ts) {va vb : Value} (hdg : decode cc pc = .ok (.dup2, 1)) (h1 : va.category = 1) (h2 : vb.category = 1) (kk : nV p l e R s m args below meth c cells slots Q D cl ct A ad S nL N (pc + 1) lv (va :: vb :: va :: vb :: st)) : nV p l e R s m args below meth c cells slots Q D cl ct A ad S nL N pc lv (va :: vb :: st) := fun H locs ls hP hS hl => lv_dup2_11 hC.1.1 hC.1.2.1 hdg h1 h2 (kk H locs ls hP hS hl)
theorem nv_dup2_2 (hC : nC p s m args c D cl ct A ad S nL cc own Ts) {va : Value} (hdg : decode cc pc = .ok (.dup2, 1)) (h1 : va.category = 2) (kk : nV p l e R s m args below meth c cells slots Q D cl ct A ad S nL N (pc + 1) lv (va :: va :: st)) : nV p l e R s m args below meth c cells slots Q D cl ct A ad S nL N pc lv (va :: st) := fun H locs ls hP hS hl => lv_dup2_2 hC.1.1 hC.1.2.1 hdg h1 (kk H locs ls hP hS hl)
theorem nv_icmp_eq (hC : nC p s m args c D cl ct A ad S nL cc own Ts) {x y : Int} {off : Int} {tgt : Nat} (hx : rg x) (hy : rg y) (hdg : decode cc pc = .ok (.if_icmp .eq off, 3)) (ht : (pc : Int) + off = (tgt : Int)) (kt : x = y → nV p l e R s m args below meth c cells slots Q D cl ct A ad S nL N tgt lv st) (kf : ¬ x = y → nV p l e R s m args below meth c cells slots Q D cl ct A ad S nL N (pc + 3) lv st) : nV p l e R s m args below meth c cells slots Q D cl ct A ad S nL N pc lv (.int (iI y) :: .int (iI x) :: st) := fun H locs ls hP hS hl => lv_icmp_eq hC.1.1 hC.1.2.1 hdg ht (fun q => kt ((iI_eq hx hy).mp q) H locs ls hP hS hl) (fun q => kf (fun h => q ((iI_eq hx hy).mpr h)) H locs ls hP hS hl)
theorem nv_if_eq (hC : nC p s m args c D cl ct A ad S nL cc own Ts) {x : Int} {off : Int} {tgt : Nat} (hx : rg x) (hdg : decode cc pc = .ok (.ifCond .eq off, 3)) (ht : (pc : Int) + off = (tgt : Int)) (kt : x = 0 → nV p l e R s m args below meth c cells slots Q D cl ct A ad S nL N tgt lv st) (kf : ¬ x = 0 → nV p l e R s m args below meth c cells slots Q D cl ct A ad S nL N (pc + 3) lv st) : nV p l e R s m args below meth c cells slots Q D cl ct A ad S nL N pc lv (.int (iI x) :: st) := by
  have hz : rg 0 := ⟨by decide, by decide⟩
  exact fun H locs ls hP hS hl => lv_if_eq hC.1.1 hC.1.2.1 hdg ht (fun q => kt ((iI_eq hx hz).mp q) H locs ls hP hS hl) (fun q => kf (fun h => q ((iI_eq hx hz).mpr h)) H locs ls hP hS hl)
theorem nv_icmp_ne (hC : nC p s m args c D cl ct A ad S nL cc own Ts) {x y : Int} {off : Int} {tgt : Nat} (hx : rg x) (hy : rg y) (hdg : decode cc pc = .ok (.if_icmp .ne off, 3)) (ht : (pc : Int) + off = (tgt : Int)) (kt : ¬ x = y → nV p l e R s m args below meth c cells slots Q D cl ct A ad S nL N tgt lv st) (kf : x = y → nV p l e R s m args below meth c cells slots Q D cl ct A ad S nL N (pc + 3) lv st) : nV p l e R s m args below meth c cells slots Q D cl ct A ad S nL N pc lv (.int (iI y) :: .int (iI x) :: st) := fun H locs ls hP hS hl => lv_icmp_ne hC.1.1 hC.1.2.1 hdg ht (fun q => kt (fun h => q ((iI_eq hx hy).mpr h)) H locs ls hP hS hl) (fun q => kf ((iI_eq hx hy).mp q) H locs ls hP hS hl)
theorem nv_if_ne (hC : nC p s m args c D cl ct A ad S nL cc own Ts) {x : Int} {off : Int} {tgt : Nat} (hx : rg x) (hdg : decode cc pc = .ok (.ifCond .ne off, 3)) (ht : (pc : Int) + off = (tgt : Int)) (kt : ¬ x = 0 → nV p l e R s m args below meth c cells slots Q D cl ct A ad S nL N tgt lv st) (kf : x = 0 → nV p l e R s m args below meth c cells slots Q D cl ct A ad S nL N (pc + 3) lv st) : nV p l e R s m args below meth c cells slots Q D cl ct A ad S nL N pc lv (.int (iI x) :: st) := by
  have hz : rg 0 := ⟨by decide, by decide⟩
  exact fun H locs ls hP hS hl => lv_if_ne hC.1.1 hC.1.2.1 hdg ht (fun q => kt (fun h => q ((iI_eq hx hz).mpr h)) H locs ls hP hS hl) (fun q => kf ((iI_eq hx hz).mp q) H locs ls hP hS hl)
theorem nv_icmp_lt (hC : nC p s m args c D cl ct A ad S nL cc own Ts) {x y : Int} {off : Int} {tgt : Nat} (hx : rg x) (hy : rg y) (hdg : decode cc pc = .ok (.if_icmp .lt off, 3)) (ht : (pc : Int) + off = (tgt : Int)) (kt : x < y → nV p l e R s m args below meth c cells slots Q D cl ct A ad S nL N tgt lv st) (kf : ¬ x < y → nV p l e R s m args below meth c cells slots Q D cl ct A ad S nL N (pc + 3) lv st) : nV p l e R s m args below meth c cells slots Q D cl ct A ad S nL N pc lv (.int (iI y) :: .int (iI x) :: st) := fun H locs ls hP hS hl => lv_icmp_lt hC.1.1 hC.1.2.1 hdg ht (fun q => kt ((iI_lt hx hy).mp q) H locs ls hP hS hl) (fun q => kf (fun h => q ((iI_lt hx hy).mpr h)) H locs ls hP hS hl)
theorem nv_if_lt (hC : nC p s m args c D cl ct A ad S nL cc own Ts) {x : Int} {off : Int} {tgt : Nat} (hx : rg x) (hdg : decode cc pc = .ok (.ifCond .lt off, 3)) (ht : (pc : Int) + off = (tgt : Int)) (kt : x < 0 → nV p l e R s m args below meth c cells slots Q D cl ct A ad S nL N tgt lv st) (kf : ¬ x < 0 → nV p l e R s m args below meth c cells slots Q D cl ct A ad S nL N (pc + 3) lv st) : nV p l e R s m args below meth c cells slots Q D cl ct A ad S nL N pc lv (.int (iI x) :: st) := by
  have hz : rg 0 := ⟨by decide, by decide⟩
  exact fun H locs ls hP hS hl => lv_if_lt hC.1.1 hC.1.2.1 hdg ht (fun q => kt ((iI_lt hx hz).mp q) H locs ls hP hS hl) (fun q => kf (fun h => q ((iI_lt hx hz).mpr h)) H locs ls hP hS hl)
theorem nv_icmp_ge (hC : nC p s m args c D cl ct A ad S nL cc own Ts) {x y : Int} {off : Int} {tgt : Nat} (hx : rg x) (hy : rg y) (hdg : decode cc pc = .ok (.if_icmp .ge off, 3)) (ht : (pc : Int) + off = (tgt : Int)) (kt : y ≤ x → nV p l e R s m args below meth c cells slots Q D cl ct A ad S nL N tgt lv st) (kf : ¬ y ≤ x → nV p l e R s m args below meth c cells slots Q D cl ct A ad S nL N (pc + 3) lv st) : nV p l e R s m args below meth c cells slots Q D cl ct A ad S nL N pc lv (.int (iI y) :: .int (iI x) :: st) := fun H locs ls hP hS hl => lv_icmp_ge hC.1.1 hC.1.2.1 hdg ht (fun q => kt ((iI_le hy hx).mp q) H locs ls hP hS hl) (fun q => kf (fun h => q ((iI_le hy hx).mpr h)) H locs ls hP hS hl)
theorem nv_if_ge (hC : nC p s m args c D cl ct A ad S nL cc own Ts) {x : Int} {off : Int} {tgt : Nat} (hx : rg x) (hdg : decode cc pc = .ok (.ifCond .ge off, 3)) (ht : (pc : Int) + off = (tgt : Int)) (kt : 0 ≤ x → nV p l e R s m args below meth c cells slots Q D cl ct A ad S nL N tgt lv st) (kf : ¬ 0 ≤ x → nV p l e R s m args below meth c cells slots Q D cl ct A ad S nL N (pc + 3) lv st) : nV p l e R s m args below meth c cells slots Q D cl ct A ad S nL N pc lv (.int (iI x) :: st) := by
  have hz : rg 0 := ⟨by decide, by decide⟩
  exact fun H locs ls hP hS hl => lv_if_ge hC.1.1 hC.1.2.1 hdg ht (fun q => kt ((iI_le hz hx).mp q) H locs ls hP hS hl) (fun q => kf (fun h => q ((iI_le hz hx).mpr h)) H locs ls hP hS hl)
theorem nv_icmp_gt (hC : nC p s m args c D cl ct A ad S nL cc own Ts) {x y : Int} {off : Int} {tgt : Nat} (hx : rg x) (hy : rg y) (hdg : decode cc pc = .ok (.if_icmp .gt off, 3)) (ht : (pc : Int) + off = (tgt : Int)) (kt : y < x → nV p l e R s m args below meth c cells slots Q D cl ct A ad S nL N tgt lv st) (kf : ¬ y < x → nV p l e R s m args below meth c cells slots Q D cl ct A ad S nL N (pc + 3) lv st) : nV p l e R s m args below meth c cells slots Q D cl ct A ad S nL N pc lv (.int (iI y) :: .int (iI x) :: st) := fun H locs ls hP hS hl => lv_icmp_gt hC.1.1 hC.1.2.1 hdg ht (fun q => kt ((iI_lt hy hx).mp q) H locs ls hP hS hl) (fun q => kf (fun h => q ((iI_lt hy hx).mpr h)) H locs ls hP hS hl)
theorem nv_if_gt (hC : nC p s m args c D cl ct A ad S nL cc own Ts) {x : Int} {off : Int} {tgt : Nat} (hx : rg x) (hdg : decode cc pc = .ok (.ifCond .gt off, 3)) (ht : (pc : Int) + off = (tgt : Int)) (kt : 0 < x → nV p l e R s m args below meth c cells slots Q D cl ct A ad S nL N tgt lv st) (kf : ¬ 0 < x → nV p l e R s m args below meth c cells slots Q D cl ct A ad S nL N (pc + 3) lv st) : nV p l e R s m args below meth c cells slots Q D cl ct A ad S nL N pc lv (.int (iI x) :: st) := by
  have hz : rg 0 := ⟨by decide, by decide⟩
  exact fun H locs ls hP hS hl => lv_if_gt hC.1.1 hC.1.2.1 hdg ht (fun q => kt ((iI_lt hz hx).mp q) H locs ls hP hS hl) (fun q => kf (fun h => q ((iI_lt hz hx).mpr h)) H locs ls hP hS hl)
theorem nv_icmp_le (hC : nC p s m args c D cl ct A ad S nL cc own Ts) {x y : Int} {off : Int} {tgt : Nat} (hx : rg x) (hy : rg y) (hdg : decode cc pc = .ok (.if_icmp .le off, 3)) (ht : (pc : Int) + off = (tgt : Int)) (kt : x ≤ y → nV p l e R s m args below meth c cells slots Q D cl ct A ad S nL N tgt lv st) (kf : ¬ x ≤ y → nV p l e R s m args below meth c cells slots Q D cl ct A ad S nL N (pc + 3) lv st) : nV p l e R s m args below meth c cells slots Q D cl ct A ad S nL N pc lv (.int (iI y) :: .int (iI x) :: st) := fun H locs ls hP hS hl => lv_icmp_le hC.1.1 hC.1.2.1 hdg ht (fun q => kt ((iI_le hx hy).mp q) H locs ls hP hS hl) (fun q => kf (fun h => q ((iI_le hx hy).mpr h)) H locs ls hP hS hl)
theorem nv_if_le (hC : nC p s m args c D cl ct A ad S nL cc own Ts) {x : Int} {off : Int} {tgt : Nat} (hx : rg x) (hdg : decode cc pc = .ok (.ifCond .le off, 3)) (ht : (pc : Int) + off = (tgt : Int)) (kt : x ≤ 0 → nV p l e R s m args below meth c cells slots Q D cl ct A ad S nL N tgt lv st) (kf : ¬ x ≤ 0 → nV p l e R s m args below meth c cells slots Q D cl ct A ad S nL N (pc + 3) lv st) : nV p l e R s m args below meth c cells slots Q D cl ct A ad S nL N pc lv (.int (iI x) :: st) := by
  have hz : rg 0 := ⟨by decide, by decide⟩
  exact fun H locs ls hP hS hl => lv_if_le hC.1.1 hC.1.2.1 hdg ht (fun q => kt ((iI_le hx hz).mp q) H locs ls hP hS hl) (fun q => kf (fun h => q ((iI_le hx hz).mpr h)) H locs ls hP hS hl)
theorem nv_goto (hC : nC p s m args c D cl ct A ad S nL cc own Ts) {off : Int} {tgt : Nat} (hdg : decode cc pc = .ok (.goto off, 3)) (ht : (pc : Int) + off = (tgt : Int)) (kk : nV p l e R s m args below meth c cells slots Q D cl ct A ad S nL N tgt lv st) : nV p l e R s m args below meth c cells slots Q D cl ct A ad S nL N pc lv st := fun H locs ls hP hS hl => lv_goto hC.1.1 hC.1.2.1 hdg ht (kk H locs ls hP hS hl)
theorem nv_lv {lv' : List (Nat × Value)} (h : lv = lv') (kk : nV p l e R s m args below meth c cells slots Q D cl ct A ad S nL N pc lv' st) : nV p l e R s m args below meth c cells slots Q D cl ct A ad S nL N pc lv st := h ▸ kk
theorem nv_st {st' : List Value} (h : st = st') (kk : nV p l e R s m args below meth c cells slots Q D cl ct A ad S nL N pc lv st') : nV p l e R s m args below meth c cells slots Q D cl ct A ad S nL N pc lv st := h ▸ kk
theorem nv_sub {lv' : List (Nat × Value)} (ks : List Nat) (h : lv_pick lv ks = lv') (kk : nV p l e R s m args below meth c cells slots Q D cl ct A ad S nL N pc lv' st) : nV p l e R s m args below meth c cells slots Q D cl ct A ad S nL N pc lv st := fun H locs ls hP hS hl => kk H locs ls hP hS (lv_sub hl ks h)
theorem nv_tableOut (hC : nC p s m args c D cl ct A ad S nL cc own Ts) {dflt lo hi : Int} {offs : Array Int} {len : Nat} {x : Int} {tgt : Nat} (hx : rg x) (hdg : decode cc pc = .ok (.tableswitch dflt lo hi offs, len)) (h : x < lo ∨ hi < x) (ht : (pc : Int) + dflt = (tgt : Int)) (kk : nV p l e R s m args below meth c cells slots Q D cl ct A ad S nL N tgt lv st) : nV p l e R s m args below meth c cells slots Q D cl ct A ad S nL N pc lv (.int (iI x) :: st) := fun H locs ls hP hS hl => lv_tableOut hC.1.1 hC.1.2.1 hdg (by rw [iI_t hx]; exact h) ht (kk H locs ls hP hS hl)
theorem nv_tableIn (hC : nC p s m args c D cl ct A ad S nL cc own Ts) {dflt lo hi : Int} {offs : Array Int} {len : Nat} {x : Int} (z : Int) {off : Int} {tgt : Nat} (hx : rg x) (hz : x = z) (hdg : decode cc pc = .ok (.tableswitch dflt lo hi offs, len)) (h1 : ¬ z < lo) (h2 : ¬ hi < z) (ho : offs[(z - lo).toNat]? = some off) (ht : (pc : Int) + off = (tgt : Int)) (kk : nV p l e R s m args below meth c cells slots Q D cl ct A ad S nL N tgt lv st) : nV p l e R s m args below meth c cells slots Q D cl ct A ad S nL N pc lv (.int (iI x) :: st) := by
  subst hz
  exact fun H locs ls hP hS hl => lv_tableIn hC.1.1 hC.1.2.1 hdg (by rw [iI_t hx]; exact h1) (by rw [iI_t hx]; exact h2) (by rw [iI_t hx]; exact ho) ht (kk H locs ls hP hS hl)
theorem nv_getI (hC : nC p s m args c D cl ct A ad S nL cc own Ts) {k ci j index : Nat} {C : String} {T : u_T} {F : Nat} {fs : List (Nat × Nat)} {r : Nat} (hs : S[k]? = some (4, ci, fs)) (hc : cl[ci]? = some (C, T, F)) (hin : ∀ w ∈ u_ws C T F, w ∈ Ts) (hj : j < F) (hlk : Cond.fieldLink own index (T j).1 (T j).2.1 (T j).2.2.1 ∈ Ts) (hf : fs[j]? = some (0, r)) (hdg : decode cc pc = .ok (.getfield index, 3)) (kk : nV p l e R s m args below meth c cells slots Q D cl ct A ad S nL N (pc + 3) lv (.int (iI (N k j)) :: st)) : nV p l e R s m args below meth c cells slots Q D cl ct A ad S nL N pc lv (.ref (ad k) :: st) := fun H locs ls hP hS hl => va_get hC.1.1 hC.1.2.1 hC.1.2.2.2.2 hin hC.1.2.2.2.1 hC.2.1 hP k (nw_at (List.getElem?_eq_some_iff.mp hs).1 (ne_at hs)) hc j hj (hC.1.2.2.2.2 _ hlk) (fun _ h9 => h9) (by rw [nf_get hf]; simp) hdg (kk H locs ls hP hS hl)
theorem nv_getJ (hC : nC p s m args c D cl ct A ad S nL cc own Ts) {k ci j index : Nat} {C : String} {T : u_T} {F : Nat} {fs : List (Nat × Nat)} {r : Nat} (hs : S[k]? = some (4, ci, fs)) (hc : cl[ci]? = some (C, T, F)) (hin : ∀ w ∈ u_ws C T F, w ∈ Ts) (hj : j < F) (hlk : Cond.fieldLink own index (T j).1 (T j).2.1 (T j).2.2.1 ∈ Ts) (hf : fs[j]? = some (1, r)) (hdg : decode cc pc = .ok (.getfield index, 3)) (kk : nV p l e R s m args below meth c cells slots Q D cl ct A ad S nL N (pc + 3) lv (.long (lI (N k j)) :: st)) : nV p l e R s m args below meth c cells slots Q D cl ct A ad S nL N pc lv (.ref (ad k) :: st) := fun H locs ls hP hS hl => va_get hC.1.1 hC.1.2.1 hC.1.2.2.2.2 hin hC.1.2.2.2.1 hC.2.1 hP k (nw_at (List.getElem?_eq_some_iff.mp hs).1 (ne_at hs)) hc j hj (hC.1.2.2.2.2 _ hlk) (fun _ h9 => h9) (by rw [nf_get hf]; simp) hdg (kk H locs ls hP hS hl)
theorem nv_getA (hC : nC p s m args c D cl ct A ad S nL cc own Ts) {k ci j index : Nat} {C : String} {T : u_T} {F : Nat} {fs : List (Nat × Nat)} {r : Nat} (hs : S[k]? = some (4, ci, fs)) (hc : cl[ci]? = some (C, T, F)) (hin : ∀ w ∈ u_ws C T F, w ∈ Ts) (hj : j < F) (hlk : Cond.fieldLink own index (T j).1 (T j).2.1 (T j).2.2.1 ∈ Ts) (hf : fs[j]? = some (2, r)) (hdg : decode cc pc = .ok (.getfield index, 3)) (kk : nV p l e R s m args below meth c cells slots Q D cl ct A ad S nL N (pc + 3) lv (.ref (ad r) :: st)) : nV p l e R s m args below meth c cells slots Q D cl ct A ad S nL N pc lv (.ref (ad k) :: st) := fun H locs ls hP hS hl => va_get hC.1.1 hC.1.2.1 hC.1.2.2.2.2 hin hC.1.2.2.2.1 hC.2.1 hP k (nw_at (List.getElem?_eq_some_iff.mp hs).1 (ne_at hs)) hc j hj (hC.1.2.2.2.2 _ hlk) (fun _ h9 => h9) (by rw [nf_get hf]; simp) hdg (kk H locs ls hP hS hl)
theorem nv_getR (hC : nC p s m args c D cl ct A ad S nL cc own Ts) {k ci j index : Nat} {C : String} {T : u_T} {F : Nat} {fs : List (Nat × Nat)} {r : Nat} (hs : S[k]? = some (4, ci, fs)) (hc : cl[ci]? = some (C, T, F)) (hin : ∀ w ∈ u_ws C T F, w ∈ Ts) (hj : j < F) (hlk : Cond.fieldLink own index (T j).1 (T j).2.1 (T j).2.2.1 ∈ Ts) (hf : fs[j]? = some (3, r)) (hdg : decode cc pc = .ok (.getfield index, 3)) (kk : nV p l e R s m args below meth c cells slots Q D cl ct A ad S nL N (pc + 3) lv (.ref (ad (k + r)) :: st)) : nV p l e R s m args below meth c cells slots Q D cl ct A ad S nL N pc lv (.ref (ad k) :: st) := fun H locs ls hP hS hl => va_get hC.1.1 hC.1.2.1 hC.1.2.2.2.2 hin hC.1.2.2.2.1 hC.2.1 hP k (nw_at (List.getElem?_eq_some_iff.mp hs).1 (ne_at hs)) hc j hj (hC.1.2.2.2.2 _ hlk) (fun _ h9 => h9) (by rw [nf_get hf]; simp) hdg (kk H locs ls hP hS hl)
theorem nv_putI (hC : nC p s m args c D cl ct A ad S nL cc own Ts) {k ci j index : Nat} {C : String} {T : u_T} {F : Nat} {fs : List (Nat × Nat)} {r : Nat} (hs : S[k]? = some (4, ci, fs)) (hc : cl[ci]? = some (C, T, F)) (hin : ∀ w ∈ u_ws C T F, w ∈ Ts) (hj : j < F) (tyf : Nat → FieldType) (hty : ∀ k, k < F → parseFieldDescriptor (T k).2.2.1 = some (tyf k)) (hnm : ∀ a, a < F → ∀ b, b < F → a ≠ b → (T a).2.1 ≠ (T b).2.1) (hlk : Cond.fieldLink own index (T j).1 (T j).2.1 (T j).2.2.1 ∈ Ts) (hf : fs[j]? = some (0, r)) (hfin : (T j).2.2.2 = false) (hd : parseFieldDescriptor (T j).2.2.1 = some .int) {x : Int} {N' : nS} (hN : N' = up2 N k j x) (hdg : decode cc pc = .ok (.putfield index, 3)) (kk : nV p l e R s m args below meth c cells slots Q D cl ct A ad S nL N' (pc + 3) lv st) : nV p l e R s m args below meth c cells slots Q D cl ct A ad S nL N pc lv (.int (iI x) :: .ref (ad k) :: st) := by
  subst hN
  intro H locs ls hP hS hl
  refine va_put hC.1.1 hC.1.2.1 hC.1.2.2.2.2 hin tyf hty hnm hC.1.2.2.2.1 hC.2.1 hP (nw_D hC.2.2.1 _) hS k (nw_at (List.getElem?_eq_some_iff.mp hs).1 (ne_at hs)) hc j hj (hC.1.2.2.2.2 _ hlk) (fun _ h9 => h9) hfin hd rfl rfl (by rw [nf_len]; exact (List.getElem?_eq_some_iff.mp hf).1) hdg (fun H1 locs1 hP1 _ hS1 => kk H1 locs1 ls ?_ hS1 hl)
  have h1 := nf_set (ad := ad) (k := k) (f := N k) (x := x) (b := 0) hf
  rw [Nat.zero_add] at h1
  rw [nw_set] at hP1
  show va_P D cl (nw ad (fun i => ne ct ad S i (up2 N k j x i)) S.length) H1
  rw [← ne_up, ne_at hs]
  have h2 : ne1 ct ad k (va_up (N k) j x) (4, ci, fs) = .inr (ci, (nf ad k (N k) fs 0).set j (.int (iI x))) := by
    show Sum.inr (ci, nf ad k (va_up (N k) j x) fs 0) = _
    rw [← h1]
    rfl
  rw [h2]
  exact hP1
theorem nv_putJ (hC : nC p s m args c D cl ct A ad S nL cc own Ts) {k ci j index : Nat} {C : String} {T : u_T} {F : Nat} {fs : List (Nat × Nat)} {r : Nat} (hs : S[k]? = some (4, ci, fs)) (hc : cl[ci]? = some (C, T, F)) (hin : ∀ w ∈ u_ws C T F, w ∈ Ts) (hj : j < F) (tyf : Nat → FieldType) (hty : ∀ k, k < F → parseFieldDescriptor (T k).2.2.1 = some (tyf k)) (hnm : ∀ a, a < F → ∀ b, b < F → a ≠ b → (T a).2.1 ≠ (T b).2.1) (hlk : Cond.fieldLink own index (T j).1 (T j).2.1 (T j).2.2.1 ∈ Ts) (hf : fs[j]? = some (1, r)) (hfin : (T j).2.2.2 = false) (hd : parseFieldDescriptor (T j).2.2.1 = some .long) {x : Int} {N' : nS} (hN : N' = up2 N k j x) (hdg : decode cc pc = .ok (.putfield index, 3)) (kk : nV p l e R s m args below meth c cells slots Q D cl ct A ad S nL N' (pc + 3) lv st) : nV p l e R s m args below meth c cells slots Q D cl ct A ad S nL N pc lv (.long (lI x) :: .ref (ad k) :: st) := by
  subst hN
  intro H locs ls hP hS hl
  refine va_put hC.1.1 hC.1.2.1 hC.1.2.2.2.2 hin tyf hty hnm hC.1.2.2.2.1 hC.2.1 hP (nw_D hC.2.2.1 _) hS k (nw_at (List.getElem?_eq_some_iff.mp hs).1 (ne_at hs)) hc j hj (hC.1.2.2.2.2 _ hlk) (fun _ h9 => h9) hfin hd rfl rfl (by rw [nf_len]; exact (List.getElem?_eq_some_iff.mp hf).1) hdg (fun H1 locs1 hP1 _ hS1 => kk H1 locs1 ls ?_ hS1 hl)
  have h1 := nf_set (ad := ad) (k := k) (f := N k) (x := x) (b := 0) hf
  rw [Nat.zero_add] at h1
  rw [nw_set] at hP1
  show va_P D cl (nw ad (fun i => ne ct ad S i (up2 N k j x i)) S.length) H1
  rw [← ne_up, ne_at hs]
  have h2 : ne1 ct ad k (va_up (N k) j x) (4, ci, fs) = .inr (ci, (nf ad k (N k) fs 0).set j (.long (lI x))) := by
    show Sum.inr (ci, nf ad k (va_up (N k) j x) fs 0) = _
    rw [← h1]
    rfl
  rw [h2]
  exact hP1
theorem nv_iald (hC : nC p s m args c D cl ct A ad S nL cc own Ts) {k n : Nat} {xs : List (Nat × Nat)} {x : Int} (hs : S[k]? = some (0, n, xs)) (hn : n < 2147483648) (hi : 0 ≤ x ∧ x < n) (hdg : decode cc pc = .ok (.iaload, 1)) (kk : nV p l e R s m args below meth c cells slots Q D cl ct A ad S nL N (pc + 1) lv (.int (iI (N k x.toNat)) :: st)) : nV p l e R s m args below meth c cells slots Q D cl ct A ad S nL N pc lv (.int (iI x) :: .ref (ad k) :: st) := fun H locs ls hP hS hl => va_iald hC.1.1 hC.1.2.1 hC.2.1 hP k 0 (f := fun j => iI (N k j)) (nw_at (List.getElem?_eq_some_iff.mp hs).1 (ne_at hs)) rfl (iI_in hn hi) hdg (by rw [iI_cl hn hi]; exact kk H locs ls hP hS hl)
theorem nv_iast (hC : nC p s m args c D cl ct A ad S nL cc own Ts) {k n : Nat} {xs : List (Nat × Nat)} {i x : Int} {N' : nS} (hs : S[k]? = some (0, n, xs)) (hn : n < 2147483648) (hi : 0 ≤ i ∧ i < n) (hN : N' = up2 N k i.toNat x) (hdg : decode cc pc = .ok (.iastore, 1)) (kk : nV p l e R s m args below meth c cells slots Q D cl ct A ad S nL N' (pc + 1) lv st) : nV p l e R s m args below meth c cells slots Q D cl ct A ad S nL N pc lv (.int (iI x) :: .int (iI i) :: .ref (ad k) :: st) := by
  subst hN
  intro H locs ls hP hS hl
  refine va_iast hC.1.1 hC.1.2.1 hC.2.1 hP (nw_D hC.2.2.1 _) hS k 0 (f := fun j => iI (N k j)) (nw_at (List.getElem?_eq_some_iff.mp hs).1 (ne_at hs)) rfl (iI_in hn hi) hdg (fun H1 locs1 hP1 _ hS1 => kk H1 locs1 ls ?_ hS1 hl)
  rw [nw_set, iI_cl hn hi] at hP1
  show va_P D cl (nw ad (fun i' => ne ct ad S i' (up2 N k i.toNat x i')) S.length) H1
  rw [← ne_up, ne_at hs]
  have h2 : ne1 ct ad k (va_up (N k) i.toNat x) (0, n, xs) = .inl (ct 0, n, .inl (upd (fun j => iI (N k j)) i.toNat (iI x))) := by
    show Sum.inl (ct 0, n, Sum.inl (fun j => iI (va_up (N k) i.toNat x j))) = _
    congr 4
    funext j
    by_cases h : j = i.toNat
    · simp [va_up, upd, h]
    · simp [va_up, upd, h]
  rw [h2]
  exact hP1
theorem nv_zald (hC : nC p s m args c D cl ct A ad S nL cc own Ts) {k n : Nat} {xs : List (Nat × Nat)} {x : Int} (hs : S[k]? = some (1, n, xs)) (hn : n < 2147483648) (hi : 0 ≤ x ∧ x < n) (hdg : decode cc pc = .ok (.baload, 1)) (kk : nV p l e R s m args below meth c cells slots Q D cl ct A ad S nL N (pc + 1) lv (.int (iI (N k x.toNat)) :: st)) : nV p l e R s m args below meth c cells slots Q D cl ct A ad S nL N pc lv (.int (iI x) :: .ref (ad k) :: st) := fun H locs ls hP hS hl => va_zald hC.1.1 hC.1.2.1 hC.2.1 hP k 1 (f := fun j => iI (N k j)) (nw_at (List.getElem?_eq_some_iff.mp hs).1 (ne_at hs)) rfl (iI_in hn hi) hdg (by rw [iI_cl hn hi]; exact kk H locs ls hP hS hl)
theorem nv_zast (hC : nC p s m args c D cl ct A ad S nL cc own Ts) {k n : Nat} {xs : List (Nat × Nat)} {i x : Int} {N' : nS} (hs : S[k]? = some (1, n, xs)) (hn : n < 2147483648) (hi : 0 ≤ i ∧ i < n) (hb : x = 0 ∨ x = 1) (hN : N' = up2 N k i.toNat x) (hdg : decode cc pc = .ok (.bastore, 1)) (kk : nV p l e R s m args below meth c cells slots Q D cl ct A ad S nL N' (pc + 1) lv st) : nV p l e R s m args below meth c cells slots Q D cl ct A ad S nL N pc lv (.int (iI x) :: .int (iI i) :: .ref (ad k) :: st) := by
  subst hN
  intro H locs ls hP hS hl
  refine va_zast hC.1.1 hC.1.2.1 hC.2.1 hP (nw_D hC.2.2.1 _) hS k 1 (f := fun j => iI (N k j)) (nw_at (List.getElem?_eq_some_iff.mp hs).1 (ne_at hs)) rfl (iI_in hn hi) hdg (fun H1 locs1 hP1 _ hS1 => kk H1 locs1 ls ?_ hS1 hl)
  rw [nw_set, iI_cl hn hi] at hP1
  rw [show vp_nar .boolean (iI x) = iI x by rcases hb with rfl | rfl <;> rfl] at hP1
  show va_P D cl (nw ad (fun i' => ne ct ad S i' (up2 N k i.toNat x i')) S.length) H1
  rw [← ne_up, ne_at hs]
  have h2 : ne1 ct ad k (va_up (N k) i.toNat x) (1, n, xs) = .inl (ct 1, n, .inl (upd (fun j => iI (N k j)) i.toNat (iI x))) := by
    show Sum.inl (ct 1, n, Sum.inl (fun j => iI (va_up (N k) i.toNat x j))) = _
    congr 4
    funext j
    by_cases h : j = i.toNat
    · simp [va_up, upd, h]
    · simp [va_up, upd, h]
  rw [h2]
  exact hP1
theorem nv_lald (hC : nC p s m args c D cl ct A ad S nL cc own Ts) {k n : Nat} {xs : List (Nat × Nat)} {x : Int} (hs : S[k]? = some (2, n, xs)) (hn : n < 2147483648) (hi : 0 ≤ x ∧ x < n) (hdg : decode cc pc = .ok (.laload, 1)) (kk : nV p l e R s m args below meth c cells slots Q D cl ct A ad S nL N (pc + 1) lv (.long (lI (N k x.toNat)) :: st)) : nV p l e R s m args below meth c cells slots Q D cl ct A ad S nL N pc lv (.int (iI x) :: .ref (ad k) :: st) := fun H locs ls hP hS hl => va_lald hC.1.1 hC.1.2.1 hC.2.1 hP k 2 (f := fun j => lI (N k j)) (nw_at (List.getElem?_eq_some_iff.mp hs).1 (ne_at hs)) rfl (iI_in hn hi) hdg (by rw [iI_cl hn hi]; exact kk H locs ls hP hS hl)
theorem nv_last (hC : nC p s m args c D cl ct A ad S nL cc own Ts) {k n : Nat} {xs : List (Nat × Nat)} {i x : Int} {N' : nS} (hs : S[k]? = some (2, n, xs)) (hn : n < 2147483648) (hi : 0 ≤ i ∧ i < n) (hN : N' = up2 N k i.toNat x) (hdg : decode cc pc = .ok (.lastore, 1)) (kk : nV p l e R s m args below meth c cells slots Q D cl ct A ad S nL N' (pc + 1) lv st) : nV p l e R s m args below meth c cells slots Q D cl ct A ad S nL N pc lv (.long (lI x) :: .int (iI i) :: .ref (ad k) :: st) := by
  subst hN
  intro H locs ls hP hS hl
  refine va_last hC.1.1 hC.1.2.1 hC.2.1 hP (nw_D hC.2.2.1 _) hS k 2 (f := fun j => lI (N k j)) (nw_at (List.getElem?_eq_some_iff.mp hs).1 (ne_at hs)) rfl (iI_in hn hi) hdg (fun H1 locs1 hP1 _ hS1 => kk H1 locs1 ls ?_ hS1 hl)
  rw [nw_set, iI_cl hn hi] at hP1
  show va_P D cl (nw ad (fun i' => ne ct ad S i' (up2 N k i.toNat x i')) S.length) H1
  rw [← ne_up, ne_at hs]
  have h2 : ne1 ct ad k (va_up (N k) i.toNat x) (2, n, xs) = .inl (ct 2, n, .inr (.inl (vp_updL (fun j => lI (N k j)) i.toNat (lI x)))) := by
    show Sum.inl (ct 2, n, Sum.inr (Sum.inl (fun j => lI (va_up (N k) i.toNat x j)))) = _
    congr 5
    funext j
    by_cases h : j = i.toNat
    · simp [va_up, vp_updL, h]
    · simp [va_up, vp_updL, h]
  rw [h2]
  exact hP1
theorem nv_aald (hC : nC p s m args c D cl ct A ad S nL cc own Ts) {k n b d u w9 : Nat} {x : Int} (hs : S[k]? = some (3, n, [(b, d), (u, w9)])) (hn : n < 2147483648) (hi : 0 ≤ x ∧ x < n) (hu : n = u) (hdg : decode cc pc = .ok (.aaload, 1)) (kk : nV p l e R s m args below meth c cells slots Q D cl ct A ad S nL N (pc + 1) lv (.ref (ad (k + b + d * x.toNat)) :: st)) : nV p l e R s m args below meth c cells slots Q D cl ct A ad S nL N pc lv (.int (iI x) :: .ref (ad k) :: st) := by
  subst hu
  exact fun H locs ls hP hS hl => va_aldq hC.1.1 hC.1.2.1 hC.2.1 hP k 3 (C := "HotLoops$Plugs") (f := fun j => if j < n then some (ad (k + b + d * j)) else none) (nw_at (List.getElem?_eq_some_iff.mp hs).1 (ne_at hs)) rfl (iI_in hn hi) hdg (by rw [iI_cl hn hi, if_pos (show x.toNat < n by have := hi.1; have := hi.2; omega)]; exact kk H locs ls hP hS hl)
theorem nv_alen0 (hC : nC p s m args c D cl ct A ad S nL cc own Ts) {k n : Nat} {xs : List (Nat × Nat)} (hs : S[k]? = some (0, n, xs)) (hdg : decode cc pc = .ok (.arraylength, 1)) (kk : nV p l e R s m args below meth c cells slots Q D cl ct A ad S nL N (pc + 1) lv (.int (iI (n : Int)) :: st)) : nV p l e R s m args below meth c cells slots Q D cl ct A ad S nL N pc lv (.ref (ad k) :: st) := fun H locs ls hP hS hl => va_alen hC.1.1 hC.1.2.1 hC.2.1 hP k 0 (nw_at (List.getElem?_eq_some_iff.mp hs).1 (ne_at hs)) rfl iI_nat hdg (kk H locs ls hP hS hl)
theorem nv_alen1 (hC : nC p s m args c D cl ct A ad S nL cc own Ts) {k n : Nat} {xs : List (Nat × Nat)} (hs : S[k]? = some (1, n, xs)) (hdg : decode cc pc = .ok (.arraylength, 1)) (kk : nV p l e R s m args below meth c cells slots Q D cl ct A ad S nL N (pc + 1) lv (.int (iI (n : Int)) :: st)) : nV p l e R s m args below meth c cells slots Q D cl ct A ad S nL N pc lv (.ref (ad k) :: st) := fun H locs ls hP hS hl => va_alen hC.1.1 hC.1.2.1 hC.2.1 hP k 1 (nw_at (List.getElem?_eq_some_iff.mp hs).1 (ne_at hs)) rfl iI_nat hdg (kk H locs ls hP hS hl)
theorem nv_alen2 (hC : nC p s m args c D cl ct A ad S nL cc own Ts) {k n : Nat} {xs : List (Nat × Nat)} (hs : S[k]? = some (2, n, xs)) (hdg : decode cc pc = .ok (.arraylength, 1)) (kk : nV p l e R s m args below meth c cells slots Q D cl ct A ad S nL N (pc + 1) lv (.int (iI (n : Int)) :: st)) : nV p l e R s m args below meth c cells slots Q D cl ct A ad S nL N pc lv (.ref (ad k) :: st) := fun H locs ls hP hS hl => va_alen hC.1.1 hC.1.2.1 hC.2.1 hP k 2 (nw_at (List.getElem?_eq_some_iff.mp hs).1 (ne_at hs)) rfl iI_nat hdg (kk H locs ls hP hS hl)
theorem nv_alen3 (hC : nC p s m args c D cl ct A ad S nL cc own Ts) {k n : Nat} {xs : List (Nat × Nat)} (hs : S[k]? = some (3, n, xs)) (hdg : decode cc pc = .ok (.arraylength, 1)) (kk : nV p l e R s m args below meth c cells slots Q D cl ct A ad S nL N (pc + 1) lv (.int (iI (n : Int)) :: st)) : nV p l e R s m args below meth c cells slots Q D cl ct A ad S nL N pc lv (.ref (ad k) :: st) := fun H locs ls hP hS hl => va_alen hC.1.1 hC.1.2.1 hC.2.1 hP k 3 (nw_at (List.getElem?_eq_some_iff.mp hs).1 (ne_at hs)) rfl iI_nat hdg (kk H locs ls hP hS hl)
theorem nv_mmax (hC : nC p s m args c D cl ct A ad S nL cc own Ts) {index : Nat} (hlk : Cond.methodLink own index Lib.Math.max.name ∈ Ts) (hst : Cond.static Lib.Math.max.name ∈ Ts) (hini : Cond.initialized "java/lang/Math" ∈ Ts) (hco : Cond.code Lib.Math.max.name Lib.Math.max.code 2 (some .int) ∈ Ts) (hf : 1 ≤ R.frames) (hlo : (st.map fun v => v.category).sum + 13 ≤ R.locals) (hce : cells ≤ R.cells) (hsl : slots ≤ R.slots) {x y : Int} (hx : rg x) (hy : rg y) (hdg : decode cc pc = .ok (.invokestatic index, 3)) (kk : nV p l e R s m args below meth c cells slots Q D cl ct A ad S nL N (pc + 3) lv (.int (iI (if x < y then y else x)) :: st)) : nV p l e R s m args below meth c cells slots Q D cl ct A ad S nL N pc lv (.int (iI y) :: .int (iI x) :: st) := fun H locs ls hP hS hl => va_mmax hC.1.1 hC.1.2.1 (hC.1.2.2.1.trans hl.1.symm) hC.1.2.2.2.1 (hC.1.2.2.2.2 _ hlk) (hC.1.2.2.2.2 _ hst) (hC.1.2.2.2.2 _ hini) (hC.1.2.2.2.2 _ hco) hf hlo hce hsl hdg (by
  have e9 : (if iI x < iI y then iI y else iI x) = iI (if x < y then y else x) := by
    by_cases h : x < y
    · rw [if_pos h, if_pos ((iI_lt hx hy).mpr h)]
    · rw [if_neg h, if_neg (fun q => h ((iI_lt hx hy).mp q))]
  rw [e9]; exact kk H locs ls hP hS hl)
theorem nv_mmin (hC : nC p s m args c D cl ct A ad S nL cc own Ts) {index : Nat} (hlk : Cond.methodLink own index Lib.Math.min.name ∈ Ts) (hst : Cond.static Lib.Math.min.name ∈ Ts) (hini : Cond.initialized "java/lang/Math" ∈ Ts) (hco : Cond.code Lib.Math.min.name Lib.Math.min.code 2 (some .int) ∈ Ts) (hf : 1 ≤ R.frames) (hlo : (st.map fun v => v.category).sum + 13 ≤ R.locals) (hce : cells ≤ R.cells) (hsl : slots ≤ R.slots) {x y : Int} (hx : rg x) (hy : rg y) (hdg : decode cc pc = .ok (.invokestatic index, 3)) (kk : nV p l e R s m args below meth c cells slots Q D cl ct A ad S nL N (pc + 3) lv (.int (iI (if y < x then y else x)) :: st)) : nV p l e R s m args below meth c cells slots Q D cl ct A ad S nL N pc lv (.int (iI y) :: .int (iI x) :: st) := fun H locs ls hP hS hl => va_mmin hC.1.1 hC.1.2.1 (hC.1.2.2.1.trans hl.1.symm) hC.1.2.2.2.1 (hC.1.2.2.2.2 _ hlk) (hC.1.2.2.2.2 _ hst) (hC.1.2.2.2.2 _ hini) (hC.1.2.2.2.2 _ hco) hf hlo hce hsl hdg (by
  have e9 : (if iI y < iI x then iI y else iI x) = iI (if y < x then y else x) := by
    by_cases h : y < x
    · rw [if_pos h, if_pos ((iI_lt hy hx).mpr h)]
    · rw [if_neg h, if_neg (fun q => h ((iI_lt hy hx).mp q))]
  rw [e9]; exact kk H locs ls hP hS hl)
theorem nv_mabs (hC : nC p s m args c D cl ct A ad S nL cc own Ts) {index : Nat} (hlk : Cond.methodLink own index Lib.Math.abs.name ∈ Ts) (hst : Cond.static Lib.Math.abs.name ∈ Ts) (hini : Cond.initialized "java/lang/Math" ∈ Ts) (hco : Cond.code Lib.Math.abs.name Lib.Math.abs.code 1 (some .int) ∈ Ts) (hf : 1 ≤ R.frames) (hlo : (st.map fun v => v.category).sum + 13 ≤ R.locals) (hce : cells ≤ R.cells) (hsl : slots ≤ R.slots) {x : Int} (hx : rg x) (hdg : decode cc pc = .ok (.invokestatic index, 3)) (kk : nV p l e R s m args below meth c cells slots Q D cl ct A ad S nL N (pc + 3) lv (.int (iI (if 0 ≤ x then x else 0 - x)) :: st)) : nV p l e R s m args below meth c cells slots Q D cl ct A ad S nL N pc lv (.int (iI x) :: st) := fun H locs ls hP hS hl => va_mabs hC.1.1 hC.1.2.1 (hC.1.2.2.1.trans hl.1.symm) hC.1.2.2.2.1 (hC.1.2.2.2.2 _ hlk) (hC.1.2.2.2.2 _ hst) (hC.1.2.2.2.2 _ hini) (hC.1.2.2.2.2 _ hco) hf hlo hce hsl hdg (by
  have e9 : (if 0 ≤ iI x then iI x else 0 - iI x) = iI (if 0 ≤ x then x else 0 - x) := by
    have hz : rg 0 := ⟨by decide, by decide⟩
    by_cases h : 0 ≤ x
    · rw [if_pos h, if_pos (by rw [← iI_0]; exact (iI_le hz hx).mpr h)]
    · rw [if_neg h, if_neg (fun q => h ((iI_le hz hx).mp (by rw [iI_0]; exact q))), ← iI_sub, iI_0]
  rw [e9]; exact kk H locs ls hP hS hl)
end NR
/-! ===== contracts over the named world ===== -/
def nPc (D : va_G) (cl : List vw_C) (ct : Nat → ClassId) (A : Nat → Prop) (ad : Nat → Nat) (S : nH) (N : nS) (av : List Value) : Array Value → State → Prop := va_Pc av (fun U => (∀ q, U.heap.size ≤ q → A q) ∧ nWd D cl ct ad S N U.heap ∧ va_K D cl (nt ct) U)
def nQi (D : va_G) (cl : List vw_C) (ct : Nat → ClassId) (A : Nat → Prop) (ad : Nat → Nat) (S : nH) (x : Int) (N : nS) : Array Value → State → Outcome → State → Prop := va_Qi (fun r (_ : Unit) => r = iI x) (fun _ t => nWd D cl ct ad S N t.heap) A
def nQl (D : va_G) (cl : List vw_C) (ct : Nat → ClassId) (A : Nat → Prop) (ad : Nat → Nat) (S : nH) (x : Int) (N : nS) : Array Value → State → Outcome → State → Prop := va_Ql (fun r (_ : Unit) => r = lI x) (fun _ t => nWd D cl ct ad S N t.heap) A
def nQv (D : va_G) (cl : List vw_C) (ct : Nat → ClassId) (A : Nat → Prop) (ad : Nat → Nat) (S : nH) (N : nS) : Array Value → State → Outcome → State → Prop := va_Qv (fun (_ : Unit) => True) (fun _ t => nWd D cl ct ad S N t.heap) A
def nM (l : Launch) (y : MethodName) (ws : List Cond) (rm : Room) (D : va_G) (cl : List vw_C) (ct : Nat → ClassId) (A : Nat → Prop) (ad : Nat → Nat) (S : nH) (N : nS) (av : List Value) (Qc : Array Value → State → Outcome → State → Prop) : Prop := Met l y ws rm (nPc D cl ct A ad S N av) Qc 0 0 A
theorem nPc_blind {D : va_G} {cl : List vw_C} {ct : Nat → ClassId} {A : Nat → Prop} {ad : Nat → Nat} {S : nH} {N : nS} {av : List Value} : FrameBlind (nPc D cl ct A ad S N av) := fun a U g mk q => by
  obtain ⟨q0, q1, qP, qK⟩ := q
  exact ⟨q0, q1, qP, va_K.moved (u := U) (U := U.calling g mk a) (Vm.Alike.refl U.vm) qK⟩
set_option maxHeartbeats 1000000 in
theorem nM_of {l : Launch} {y : MethodName} {ws ws' : List Cond} {rm : Room} {D : va_G} {cl : List vw_C} {ct : Nat → ClassId} {A : Nat → Prop} {ad : Nat → Nat} {S : nH} {N : nS} {av : List Value} {Qc : Array Value → State → Outcome → State → Prop} {cc : ByteArray} {maxL : Nat} {ret : Option FieldType} (hy : plainName y.cls = true) (hw : ws = Cond.code y cc maxL ret :: ws') (hsz : (lg_sl av).length ≤ maxL) (hD : nD ad A S.length)
    (body : ∀ (p : Program) (e : Env) (s : State) (m : MethodId) (below : List Frame) (meth : Method) (c : Code), nC p s m av.toArray c D cl ct A ad S maxL cc y.cls ws' → meth.sig.returnType = ret → meth.locks = false → nV p l e rm s m av.toArray below meth c 0 0 (MQ below Qc av.toArray s 0 0 A) D cl ct A ad S maxL N 0 (lv_args 0 av) []) : nM l y ws rm D cl ct A ad S N av Qc := by
  refine Met.ofW (cc := cc) (maxL := maxL) (ret := ret) hy hw ?_
  intro p e s m args below meth c s₁ B hml hv
  obtain ⟨rfl, hA, hP, hK⟩ := hv
  have hown : s.vm.findClass y.cls = some m.cls := findClass_of_methodNamed B.named
  have hts0 := atoms_spec (ws := ws) B.pre
  have hts : ∀ w ∈ ws', w.before av.toArray s = true := fun w h => hts0 w (by rw [hw]; exact List.mem_cons_of_mem _ h)
  have hl := lv_entry av (n := maxL) hsz
  rw [lg_entry_eq]
  exact body p e s m below meth c ⟨⟨B.exec, B.bytes, hml, hown, hts⟩, hK, hD, hA⟩ B.returns B.notSynchronized s.heap [] _ hP va_S.rf hl
section NE
variable {p : Program} {l : Launch} {e : Env} {R : Room} {s : State} {m : MethodId} {args : Array Value} {below : List Frame} {meth : Method} {c : Code} {cells slots : Nat} {Q : State → Prop} {D : va_G} {cl : List vw_C} {ct : Nat → ClassId} {A : Nat → Prop} {ad : Nat → Nat} {S : nH} {nL : Nat} {N : nS} {pc : Nat} {lv : List (Nat × Value)} {st : List Value} {cc : ByteArray} {own : String} {Ts : List Cond}
theorem nv_iret (hC : nC p s m args c D cl ct A ad S nL cc own Ts) {x : Int} (hr : meth.sig.returnType = some .int) (hlk : meth.locks = false) (hdg : decode cc pc = .ok (.ireturn, 1)) : nV p l e R s m args below meth c cells slots (MQ below (nQi D cl ct A ad S x N) args s cells slots A) D cl ct A ad S nL N pc lv [.int (iI x)] := fun H locs ls hP hS hl => W.iret (v := iI x) hC.1.1 hC.1.2.1 hr (fun t ht hW => ⟨⟨iI x, (), rfl, rfl, by show nWd D cl ct ad S N t.heap; rw [ht]; exact hP⟩, hS.F ht⟩) hS.2.2 hdg hlk
theorem nv_zret (hC : nC p s m args c D cl ct A ad S nL cc own Ts) {x : Int} (hr : meth.sig.returnType = some .boolean) (hlk : meth.locks = false) (hx : x = 0 ∨ x = 1) (hdg : decode cc pc = .ok (.ireturn, 1)) : nV p l e R s m args below meth c cells slots (MQ below (nQi D cl ct A ad S x N) args s cells slots A) D cl ct A ad S nL N pc lv [.int (iI x)] := fun H locs ls hP hS hl => W.zret (v := iI x) hC.1.1 hC.1.2.1 hr (by rcases hx with rfl | rfl <;> rfl) (fun t ht hW => ⟨⟨iI x, (), rfl, rfl, by show nWd D cl ct ad S N t.heap; rw [ht]; exact hP⟩, hS.F ht⟩) hS.2.2 hdg hlk
theorem nv_lret (hC : nC p s m args c D cl ct A ad S nL cc own Ts) {x : Int} (hr : meth.sig.returnType = some .long) (hlk : meth.locks = false) (hdg : decode cc pc = .ok (.lreturn, 1)) : nV p l e R s m args below meth c cells slots (MQ below (nQl D cl ct A ad S x N) args s cells slots A) D cl ct A ad S nL N pc lv [.long (lI x)] := fun H locs ls hP hS hl => W.lret (v := lI x) hC.1.1 hC.1.2.1 hr (fun t ht hW => ⟨⟨lI x, (), rfl, rfl, by show nWd D cl ct ad S N t.heap; rw [ht]; exact hP⟩, hS.F ht⟩) hS.2.2 hdg hlk
theorem nv_vret (hC : nC p s m args c D cl ct A ad S nL cc own Ts) (hr : meth.sig.returnType = none) (hlk : meth.locks = false) (hdg : decode cc pc = .ok (.return_, 1)) : nV p l e R s m args below meth c cells slots (MQ below (nQv D cl ct A ad S N) args s cells slots A) D cl ct A ad S nL N pc lv [] := fun H locs ls hP hS hl => W.vret hC.1.1 hC.1.2.1 hr (fun t ht hW => ⟨⟨(), rfl, trivial, by show nWd D cl ct ad S N t.heap; rw [ht]; exact hP⟩, hS.F ht⟩) hS.2.2 hdg hlk
/-- a call that comes back, from any heap that holds the world -/
def nRun (p : Program) (l : Launch) (e : Env) (R : Room) (s : State) (m : MethodId) (args : Array Value) (below : List Frame) (meth : Method) (c : Code) (cells slots : Nat) (D : va_G) (cl : List vw_C) (ct : Nat → ClassId) (A : Nat → Prop) (ad : Nat → Nat) (S : nH) (nL : Nat) (N : nS) (pc : Nat) (st0 rest : List Value) (Qa : State → Outcome → State → Prop) : Prop :=
  ∀ (H : Heap) (locs : List Loc) (ls : Array Slot), nWd D cl ct ad S N H → va_S A s.heap H locs → ls.size = nL → va_Run p l e R s m args below meth c H locs cells slots 0 0 (F0 m pc ls st0) rest Qa A
theorem nv_calli {x : Int} {N' : nS} {a : Array Value} {st0 : List Value} (hr : nRun p l e R s m args below meth c cells slots D cl ct A ad S nL N pc st0 st (nQi D cl ct A ad S x N' a)) (kk : nV p l e R s m args below meth c cells slots Q D cl ct A ad S nL N' (pc + 3) lv (.int (iI x) :: st)) : nV p l e R s m args below meth c cells slots Q D cl ct A ad S nL N pc lv st0 := fun H locs ls hP hS hl => va_calli (hr H locs ls hP hS hl.1) hS (fun q _ h => h) (fun q h => h) (fun r u t H1 locs1 ht hvm hw hB hz hk hS1 => by subst hw; exact kk H1 locs1 ls (by rw [← ht]; exact hB) hS1 hl)
theorem nv_calll {x : Int} {N' : nS} {a : Array Value} {st0 : List Value} (hr : nRun p l e R s m args below meth c cells slots D cl ct A ad S nL N pc st0 st (nQl D cl ct A ad S x N' a)) (kk : nV p l e R s m args below meth c cells slots Q D cl ct A ad S nL N' (pc + 3) lv (.long (lI x) :: st)) : nV p l e R s m args below meth c cells slots Q D cl ct A ad S nL N pc lv st0 := fun H locs ls hP hS hl => va_calll (hr H locs ls hP hS hl.1) hS (fun q _ h => h) (fun q h => h) (fun r u t H1 locs1 ht hvm hw hB hz hk hS1 => by subst hw; exact kk H1 locs1 ls (by rw [← ht]; exact hB) hS1 hl)
theorem nv_callv {N' : nS} {a : Array Value} {st0 : List Value} (hr : nRun p l e R s m args below meth c cells slots D cl ct A ad S nL N pc st0 st (nQv D cl ct A ad S N' a)) (kk : nV p l e R s m args below meth c cells slots Q D cl ct A ad S nL N' (pc + 3) lv st) : nV p l e R s m args below meth c cells slots Q D cl ct A ad S nL N pc lv st0 := fun H locs ls hP hS hl => va_callv (hr H locs ls hP hS hl.1) hS (fun q _ h => h) (fun q h => h) (fun u t H1 locs1 ht hvm hw hB hz hk hS1 => by exact kk H1 locs1 ls (by rw [← ht]; exact hB) hS1 hl)
theorem nr_pre {N : nS} {av : List Value} (hC : nC p s m args c D cl ct A ad S nL cc own Ts) {H : Heap} {locs : List Loc} (hP : nWd D cl ct ad S N H) (hS : va_S A s.heap H locs) : ∀ U : State, U.heap = H → s.WarmedH U.vm → nPc D cl ct A ad S N av av.toArray U := fun U hU hW => ⟨rfl, fun q hq => hC.2.2.2 q (Nat.le_trans hS.1 (by rw [← hU]; exact hq)), by rw [hU]; exact hP, va_K.moved hW.alike hC.2.1⟩
theorem nr_recv (hC : nC p s m args c D cl ct A ad S nL cc own Ts) {H : Heap} {k ci : Nat} {fs : List (Nat × Nat)} {C : String} {T : u_T} {F : Nat} (hs : S[k]? = some (4, ci, fs)) (hc : cl[ci]? = some (C, T, F)) (hP : nWd D cl ct ad S N H) : ∃ cell : Cell, H[ad k]? = some cell ∧ cell.vm.isStatics = false ∧ s.vm.findClass C = some cell.cls := va_recv (q := (C, T, F)) hC.2.1 hP hc (nw_at (List.getElem?_eq_some_iff.mp hs).1 (ne_at hs))
theorem nr_V (hC : nC p s m args c D cl ct A ad S nL cc own Ts) {y : MethodName} {bytes : ByteArray} {maxL n index : Nat} {ret : Option FieldType} {ws : List Cond} {rm : Room} {Qc : Array Value → State → Outcome → State → Prop} {As st0 : List Value} {k ci : Nat} {fs : List (Nat × Nat)} {C : String} {T : u_T} {F : Nat} (hs : S[k]? = some (4, ci, fs)) (hc : cl[ci]? = some (C, T, F)) (hM : nM l y ws rm D cl ct A ad S N (.ref (ad k) :: As) Qc) (cw : CallW R s args own C index y bytes maxL ret ws rm 0 0 n) (hn : As.length = n) (hst : st0 = As.reverse ++ .ref (ad k) :: st) (hW : (st.map fun v => v.category).sum ≤ 8) (hcs : cells ≤ R.cells ∧ slots ≤ R.slots) (hdg : decode cc pc = .ok (.invokevirtual index, 3)) : nRun p l e R s m args below meth c cells slots D cl ct A ad S nL N pc st0 st (Qc (Value.ref (ad k) :: As).toArray) := fun H locs ls hP hS hl => va_runV hC.1 hM cw ⟨nPc_blind, nr_recv hC hs hc hP, nr_pre hC hP hS⟩ rfl hn hl hst (lv_room hW) hdg ⟨hcs.1, hcs.2⟩
theorem nr_VN (hC : nC p s m args c D cl ct A ad S nL cc own Ts) {y : MethodName} {bytes : ByteArray} {maxL n index : Nat} {ret : Option FieldType} {ws : List Cond} {rm : Room} {Qc : Array Value → State → Outcome → State → Prop} {As st0 : List Value} {host : String} {k ci : Nat} {fs : List (Nat × Nat)} {C : String} {T : u_T} {F : Nat} (hs : S[k]? = some (4, ci, fs)) (hc : cl[ci]? = some (C, T, F)) (hM : nM l y ws rm D cl ct A ad S N (.ref (ad k) :: As) Qc) (cw : va_CN R s args own index y host bytes maxL ret ws rm 0 0 n) (hi1 : Cond.instanceMethod y ∈ Ts) (hi2 : Cond.selects C y y ∈ Ts) (hn : As.length = n) (hst : st0 = As.reverse ++ .ref (ad k) :: st) (hW : (st.map fun v => v.category).sum ≤ 8) (hcs : cells ≤ R.cells ∧ slots ≤ R.slots) (hdg : decode cc pc = .ok (.invokevirtual index, 3)) : nRun p l e R s m args below meth c cells slots D cl ct A ad S nL N pc st0 st (Qc (Value.ref (ad k) :: As).toArray) := fun H locs ls hP hS hl => va_runVN hC.1 hM ⟨cw, hC.1.2.2.2.2 _ hi1, hC.1.2.2.2.2 _ hi2⟩ ⟨nPc_blind, nr_recv hC hs hc hP, nr_pre hC hP hS⟩ rfl hn hl hst (lv_room hW) hdg ⟨hcs.1, hcs.2⟩
theorem nr_S (hC : nC p s m args c D cl ct A ad S nL cc own Ts) {y : MethodName} {bytes : ByteArray} {maxL n index : Nat} {ret : Option FieldType} {ws : List Cond} {rm : Room} {Qc : Array Value → State → Outcome → State → Prop} {As st0 : List Value} (hM : nM l y ws rm D cl ct A ad S N As Qc) (cw : CallB R s args own index y bytes maxL ret ws rm 0 0 n ∧ (Cond.static y).before args s = true) (hn : As.length = n) (hst : st0 = As.reverse ++ st) (hW : (st.map fun v => v.category).sum ≤ 8) (hcs : cells ≤ R.cells ∧ slots ≤ R.slots) (hdg : decode cc pc = .ok (.invokestatic index, 3)) : nRun p l e R s m args below meth c cells slots D cl ct A ad S nL N pc st0 st (Qc As.toArray) := fun H locs ls hP hS hl => va_runS hC.1 hM cw ⟨nPc_blind, nr_pre hC hP hS⟩ rfl hn hl hst (lv_room hW) hdg ⟨hcs.1, hcs.2⟩
end NE
end
section
/-! ===== the words: all good ones of the tables ===== -/
def TT : List Cond := lw_tbl.filter goodWord
theorem tt_i (i : Nat) {w : Cond} (h : lw_tbl[i]? = some w) (g : goodWord w = true) : w ∈ TT := List.mem_filter.mpr ⟨List.mem_of_getElem? h, g⟩
theorem tt_good : GoodIn TT TT := fun w h => ⟨h, good_of_word (List.mem_filter.mp h).2⟩
theorem tt_c {y : MethodName} {b : ByteArray} {n : Nat} {r : Option FieldType} (h : Cond.code y b n r ∈ TT) : GoodIn TT (Cond.code y b n r :: TT) := fun w q => (List.mem_cons.mp q).elim (fun e => by rw [e]; exact tt_good _ h) (tt_good w)
theorem tt_V {own C : String} {i : Nat} {y : MethodName} {b : ByteArray} {n : Nat} {r : Option FieldType} (h1 : Cond.methodLink own i y ∈ TT) (h2 : Cond.instanceMethod y ∈ TT) (h3 : Cond.selects C y y ∈ TT) (h4 : Cond.initialized C ∈ TT) (h5 : Cond.code y b n r ∈ TT) : GoodIn TT (wsV own i C y (Cond.code y b n r :: TT)) := by
  intro w q
  rcases List.mem_append.mp q with q | q
  · simp only [List.mem_cons, List.not_mem_nil, or_false] at q
    rcases q with e | e | e | e <;> rw [e] <;> apply tt_good <;> assumption
  · exact tt_c h5 w q
theorem tt_S {own : String} {i : Nat} {y : MethodName} {b : ByteArray} {n : Nat} {r : Option FieldType} (h1 : Cond.methodLink own i y ∈ TT) (h2 : Cond.static y ∈ TT) (h3 : Cond.initialized own ∈ TT) (h5 : Cond.code y b n r ∈ TT) : GoodIn TT (wsS own i y (Cond.code y b n r :: TT)) := by
  intro w q
  rcases List.mem_append.mp q with q | q
  · simp only [List.mem_cons, List.not_mem_nil, or_false] at q
    rcases q with e | e | e <;> rw [e] <;> apply tt_good <;> assumption
  · exact tt_c h5 w q
/-! ===== classes and fields ===== -/
def R_Plugs : String := "HotLoops$Plugs"
def T_Plugs : u_T := fun k => match k with
  | 0 => ("HotLoops$Plugs", "volumes", "[I", true)
  | 1 => ("HotLoops$Plugs", "warmths", "[I", true)
  | _ => ("HotLoops$Plugs", "count", "I", false)
def ty_Plugs : Nat → FieldType := fun k => match k with
  | 0 => .array .int
  | 1 => .array .int
  | _ => .int
set_option maxRecDepth 20000 in
theorem nm_Plugs : ∀ a, a < 3 → ∀ b, b < 3 → a ≠ b → (T_Plugs a).2.1 ≠ (T_Plugs b).2.1 := by decide +kernel
set_option maxRecDepth 20000 in
theorem tyok_Plugs : ∀ k, k < 3 → parseFieldDescriptor (T_Plugs k).2.2.1 = some (ty_Plugs k) := by decide +kernel
set_option maxRecDepth 20000 in
theorem in_Plugs : ∀ w ∈ u_ws R_Plugs T_Plugs 3, w ∈ TT := by decide +kernel
def R_Net : String := "HotLoops$Net"
def T_Net : u_T := fun k => match k with
  | 0 => ("HotLoops$Net", "froms", "[I", true)
  | 1 => ("HotLoops$Net", "volumes", "[I", true)
  | 2 => ("HotLoops$Net", "leads", "[I", true)
  | 3 => ("HotLoops$Net", "loops", "[I", true)
  | 4 => ("HotLoops$Net", "tapped", "[Z", true)
  | _ => ("HotLoops$Net", "count", "I", false)
def ty_Net : Nat → FieldType := fun k => match k with
  | 0 => .array .int
  | 1 => .array .int
  | 2 => .array .int
  | 3 => .array .int
  | 4 => .array .boolean
  | _ => .int
set_option maxRecDepth 20000 in
theorem nm_Net : ∀ a, a < 6 → ∀ b, b < 6 → a ≠ b → (T_Net a).2.1 ≠ (T_Net b).2.1 := by decide +kernel
set_option maxRecDepth 20000 in
theorem tyok_Net : ∀ k, k < 6 → parseFieldDescriptor (T_Net k).2.2.1 = some (ty_Net k) := by decide +kernel
set_option maxRecDepth 20000 in
theorem in_Net : ∀ w ∈ u_ws R_Net T_Net 6, w ∈ TT := by decide +kernel
def R_Draws : String := "HotLoops$Draws"
def T_Draws : u_T := fun k => match k with
  | 0 => ("HotLoops$Draws", "pipes", "[I", true)
  | 1 => ("HotLoops$Draws", "minutes", "[I", true)
  | 2 => ("HotLoops$Draws", "volumes", "[I", true)
  | 3 => ("HotLoops$Draws", "means", "[I", true)
  | 4 => ("HotLoops$Draws", "leasts", "[I", true)
  | 5 => ("HotLoops$Draws", "greatests", "[I", true)
  | _ => ("HotLoops$Draws", "count", "I", false)
def ty_Draws : Nat → FieldType := fun k => match k with
  | 0 => .array .int
  | 1 => .array .int
  | 2 => .array .int
  | 3 => .array .int
  | 4 => .array .int
  | 5 => .array .int
  | _ => .int
set_option maxRecDepth 20000 in
theorem nm_Draws : ∀ a, a < 7 → ∀ b, b < 7 → a ≠ b → (T_Draws a).2.1 ≠ (T_Draws b).2.1 := by decide +kernel
set_option maxRecDepth 20000 in
theorem tyok_Draws : ∀ k, k < 7 → parseFieldDescriptor (T_Draws k).2.2.1 = some (ty_Draws k) := by decide +kernel
set_option maxRecDepth 20000 in
theorem in_Draws : ∀ w ∈ u_ws R_Draws T_Draws 7, w ∈ TT := by decide +kernel
def R_Water : String := "HotLoops$Water"
def T_Water : u_T := fun k => match k with
  | 0 => ("HotLoops$Water", "net", "LHotLoops$Net;", true)
  | 1 => ("HotLoops$Water", "rows", "[LHotLoops$Plugs;", true)
  | 2 => ("HotLoops$Water", "taken", "LHotLoops$Plugs;", true)
  | 3 => ("HotLoops$Water", "pushed", "LHotLoops$Plugs;", true)
  | 4 => ("HotLoops$Water", "rest", "LHotLoops$Plugs;", true)
  | 5 => ("HotLoops$Water", "way", "[I", true)
  | 6 => ("HotLoops$Water", "flowMinutes", "[I", true)
  | 7 => ("HotLoops$Water", "tepidMinutes", "[I", true)
  | 8 => ("HotLoops$Water", "minute", "I", false)
  | 9 => ("HotLoops$Water", "heat", "I", false)
  | 10 => ("HotLoops$Water", "air", "I", false)
  | 11 => ("HotLoops$Water", "given", "J", false)
  | 12 => ("HotLoops$Water", "out", "J", false)
  | _ => ("HotLoops$Water", "lost", "J", false)
def ty_Water : Nat → FieldType := fun k => match k with
  | 0 => .object "HotLoops$Net"
  | 1 => .array (.object "HotLoops$Plugs")
  | 2 => .object "HotLoops$Plugs"
  | 3 => .object "HotLoops$Plugs"
  | 4 => .object "HotLoops$Plugs"
  | 5 => .array .int
  | 6 => .array .int
  | 7 => .array .int
  | 8 => .int
  | 9 => .int
  | 10 => .int
  | 11 => .long
  | 12 => .long
  | _ => .long
set_option maxRecDepth 20000 in
theorem nm_Water : ∀ a, a < 14 → ∀ b, b < 14 → a ≠ b → (T_Water a).2.1 ≠ (T_Water b).2.1 := by decide +kernel
set_option maxRecDepth 20000 in
theorem tyok_Water : ∀ k, k < 14 → parseFieldDescriptor (T_Water k).2.2.1 = some (ty_Water k) := by decide +kernel
set_option maxRecDepth 20000 in
theorem in_Water : ∀ w ∈ u_ws R_Water T_Water 14, w ∈ TT := by decide +kernel
def R_HL : String := "HotLoops"
def T_HL : u_T := fun k => match k with
  | 0 => ("HotLoops", "net", "LHotLoops$Net;", true)
  | 1 => ("HotLoops", "water", "LHotLoops$Water;", true)
  | 2 => ("HotLoops", "trial", "LHotLoops$Water;", true)
  | 3 => ("HotLoops", "draws", "LHotLoops$Draws;", true)
  | _ => ("HotLoops", "marked", "[Z", true)
def ty_HL : Nat → FieldType := fun k => match k with
  | 0 => .object "HotLoops$Net"
  | 1 => .object "HotLoops$Water"
  | 2 => .object "HotLoops$Water"
  | 3 => .object "HotLoops$Draws"
  | _ => .array .boolean
set_option maxRecDepth 20000 in
theorem nm_HL : ∀ a, a < 5 → ∀ b, b < 5 → a ≠ b → (T_HL a).2.1 ≠ (T_HL b).2.1 := by decide +kernel
set_option maxRecDepth 20000 in
theorem tyok_HL : ∀ k, k < 5 → parseFieldDescriptor (T_HL k).2.2.1 = some (ty_HL k) := by decide +kernel
set_option maxRecDepth 20000 in
theorem in_HL : ∀ w ∈ u_ws R_HL T_HL 5, w ∈ TT := by decide +kernel
def R_Mo : String := "HotLoopsModel"
def T_Mo : u_T := fun k => match k with
  | 0 => ("HotLoopsModel", "thrown", "I", false)
  | 1 => ("HotLoopsModel", "pipes", "I", false)
  | 2 => ("HotLoopsModel", "froms", "[I", true)
  | 3 => ("HotLoopsModel", "volumes", "[I", true)
  | 4 => ("HotLoopsModel", "leads", "[I", true)
  | 5 => ("HotLoopsModel", "taps", "[Z", true)
  | 6 => ("HotLoopsModel", "loops", "[I", true)
  | 7 => ("HotLoopsModel", "heat", "I", false)
  | 8 => ("HotLoopsModel", "air", "I", false)
  | 9 => ("HotLoopsModel", "now", "I", false)
  | 10 => ("HotLoopsModel", "many", "[I", true)
  | 11 => ("HotLoopsModel", "vol", "[I", true)
  | 12 => ("HotLoopsModel", "warmths", "[I", true)
  | 13 => ("HotLoopsModel", "flowed", "[I", true)
  | 14 => ("HotLoopsModel", "risky", "[I", true)
  | 15 => ("HotLoopsModel", "draws", "I", false)
  | 16 => ("HotLoopsModel", "drawPipe", "[I", true)
  | 17 => ("HotLoopsModel", "drawMinute", "[I", true)
  | 18 => ("HotLoopsModel", "drawVolume", "[I", true)
  | 19 => ("HotLoopsModel", "drawMean", "[I", true)
  | 20 => ("HotLoopsModel", "drawLeast", "[I", true)
  | 21 => ("HotLoopsModel", "drawMost", "[I", true)
  | 22 => ("HotLoopsModel", "given", "J", false)
  | 23 => ("HotLoopsModel", "out", "J", false)
  | 24 => ("HotLoopsModel", "lost", "J", false)
  | 25 => ("HotLoopsModel", "taken", "I", false)
  | 26 => ("HotLoopsModel", "takenVol", "[I", true)
  | 27 => ("HotLoopsModel", "takenWarm", "[I", true)
  | 28 => ("HotLoopsModel", "row", "I", false)
  | 29 => ("HotLoopsModel", "rowVol", "[I", true)
  | 30 => ("HotLoopsModel", "rowWarm", "[I", true)
  | 31 => ("HotLoopsModel", "way", "[I", true)
  | 32 => ("HotLoopsModel", "sum", "J", false)
  | 33 => ("HotLoopsModel", "least", "I", false)
  | 34 => ("HotLoopsModel", "most", "I", false)
  | 35 => ("HotLoopsModel", "keptMany", "[I", true)
  | 36 => ("HotLoopsModel", "keptVol", "[I", true)
  | 37 => ("HotLoopsModel", "keptWarm", "[I", true)
  | 38 => ("HotLoopsModel", "keptFlowed", "[I", true)
  | 39 => ("HotLoopsModel", "keptRisky", "[I", true)
  | _ => ("HotLoopsModel", "comes", "[Z", true)
def ty_Mo : Nat → FieldType := fun k => match k with
  | 0 => .int
  | 1 => .int
  | 2 => .array .int
  | 3 => .array .int
  | 4 => .array .int
  | 5 => .array .boolean
  | 6 => .array .int
  | 7 => .int
  | 8 => .int
  | 9 => .int
  | 10 => .array .int
  | 11 => .array .int
  | 12 => .array .int
  | 13 => .array .int
  | 14 => .array .int
  | 15 => .int
  | 16 => .array .int
  | 17 => .array .int
  | 18 => .array .int
  | 19 => .array .int
  | 20 => .array .int
  | 21 => .array .int
  | 22 => .long
  | 23 => .long
  | 24 => .long
  | 25 => .int
  | 26 => .array .int
  | 27 => .array .int
  | 28 => .int
  | 29 => .array .int
  | 30 => .array .int
  | 31 => .array .int
  | 32 => .long
  | 33 => .int
  | 34 => .int
  | 35 => .array .int
  | 36 => .array .int
  | 37 => .array .int
  | 38 => .array .int
  | 39 => .array .int
  | _ => .array .boolean
set_option maxRecDepth 20000 in
theorem nm_Mo : ∀ a, a < 41 → ∀ b, b < 41 → a ≠ b → (T_Mo a).2.1 ≠ (T_Mo b).2.1 := by decide +kernel
set_option maxRecDepth 20000 in
theorem tyok_Mo : ∀ k, k < 41 → parseFieldDescriptor (T_Mo k).2.2.1 = some (ty_Mo k) := by decide +kernel
set_option maxRecDepth 20000 in
theorem in_Mo : ∀ w ∈ u_ws R_Mo T_Mo 41, w ∈ TT := by decide +kernel
def R_Law : String := "HotLoopsLaw"
abbrev vwCl : List vw_C := [(R_Plugs, T_Plugs, 3), (R_Net, T_Net, 6), (R_Draws, T_Draws, 7), (R_Water, T_Water, 14), (R_HL, T_HL, 5), (R_Mo, T_Mo, 41)]
abbrev ci_Plugs : Nat := 0
abbrev ci_Net : Nat := 1
abbrev ci_Draws : Nat := 2
abbrev ci_Water : Nat := 3
abbrev ci_HL : Nat := 4
abbrev ci_Mo : Nat := 5
/-! ===== methods ===== -/
abbrev b_HL_init : ByteArray := prog_1_method_1_code
def y_HL_init : MethodName := ⟨R_HL, "<init>", "()V"⟩
abbrev b_HL_pipe : ByteArray := prog_1_method_2_code
def y_HL_pipe : MethodName := ⟨R_HL, "pipe", "(III)I"⟩
abbrev b_HL_tap : ByteArray := prog_1_method_3_code
def y_HL_tap : MethodName := ⟨R_HL, "tap", "(I)Z"⟩
abbrev b_HL_set : ByteArray := prog_1_method_4_code
def y_HL_set : MethodName := ⟨R_HL, "set", "(II)I"⟩
abbrev b_HL_loop : ByteArray := prog_1_method_5_code
def y_HL_loop : MethodName := ⟨R_HL, "loop", "(II)I"⟩
abbrev b_HL_draw : ByteArray := prog_1_method_6_code
def y_HL_draw : MethodName := ⟨R_HL, "draw", "(III)I"⟩
abbrev b_HL_run : ByteArray := prog_1_method_7_code
def y_HL_run : MethodName := ⟨R_HL, "run", "(I)I"⟩
abbrev b_HL_plug : ByteArray := prog_1_method_8_code
def y_HL_plug : MethodName := ⟨R_HL, "plug", "(III)I"⟩
abbrev b_HL_told : ByteArray := prog_1_method_9_code
def y_HL_told : MethodName := ⟨R_HL, "told", "(II)I"⟩
abbrev b_HL_dead : ByteArray := prog_1_method_10_code
def y_HL_dead : MethodName := ⟨R_HL, "dead", "(II)I"⟩
abbrev b_HL_warm : ByteArray := prog_1_method_11_code
def y_HL_warm : MethodName := ⟨R_HL, "warm", "(II)I"⟩
abbrev b_HL_drawn : ByteArray := prog_1_method_12_code
def y_HL_drawn : MethodName := ⟨R_HL, "drawn", "(II)I"⟩
abbrev b_HL_heat : ByteArray := prog_1_method_13_code
def y_HL_heat : MethodName := ⟨R_HL, "heat", "(I)J"⟩
abbrev b_HL_shock : ByteArray := prog_1_method_14_code
def y_HL_shock : MethodName := ⟨R_HL, "shock", "(IIIII)I"⟩
abbrev b_HL_needPipe : ByteArray := prog_1_method_15_code
def y_HL_needPipe : MethodName := ⟨R_HL, "needPipe", "(I)V"⟩
abbrev b_HL_needWithin : ByteArray := prog_1_method_16_code
def y_HL_needWithin : MethodName := ⟨R_HL, "needWithin", "(III)V"⟩
abbrev b_HL_needNotBelowZero : ByteArray := prog_1_method_17_code
def y_HL_needNotBelowZero : MethodName := ⟨R_HL, "needNotBelowZero", "(I)V"⟩
abbrev b_HL_takeDraws : ByteArray := prog_1_method_18_code
def y_HL_takeDraws : MethodName := ⟨R_HL, "takeDraws", "()V"⟩
abbrev b_HL_markMissed : ByteArray := prog_1_method_19_code
def y_HL_markMissed : MethodName := ⟨R_HL, "markMissed", "(IIII)V"⟩
abbrev b_HL_takeShock : ByteArray := prog_1_method_20_code
def y_HL_takeShock : MethodName := ⟨R_HL, "takeShock", "(II)V"⟩
abbrev b_HL_markedPipe : ByteArray := prog_1_method_21_code
def y_HL_markedPipe : MethodName := ⟨R_HL, "markedPipe", "(I)I"⟩
abbrev b_Mo_init : ByteArray := prog_7_method_1_code
def y_Mo_init : MethodName := ⟨R_Mo, "<init>", "()V"⟩
abbrev b_Mo_thrown : ByteArray := prog_7_method_2_code
def y_Mo_thrown : MethodName := ⟨R_Mo, "thrown", "()I"⟩
abbrev b_Mo_in : ByteArray := prog_7_method_3_code
def y_Mo_in : MethodName := ⟨R_Mo, "in", "(III)Z"⟩
abbrev b_Mo_isPipe : ByteArray := prog_7_method_4_code
def y_Mo_isPipe : MethodName := ⟨R_Mo, "isPipe", "(I)Z"⟩
abbrev b_Mo_lay : ByteArray := prog_7_method_5_code
def y_Mo_lay : MethodName := ⟨R_Mo, "lay", "(II)V"⟩
abbrev b_Mo_join : ByteArray := prog_7_method_6_code
def y_Mo_join : MethodName := ⟨R_Mo, "join", "(I)V"⟩
abbrev b_Mo_joinTillFew : ByteArray := prog_7_method_7_code
def y_Mo_joinTillFew : MethodName := ⟨R_Mo, "joinTillFew", "()V"⟩
abbrev b_Mo_putBack : ByteArray := prog_7_method_8_code
def y_Mo_putBack : MethodName := ⟨R_Mo, "putBack", "(I)V"⟩
abbrev b_Mo_push : ByteArray := prog_7_method_9_code
def y_Mo_push : MethodName := ⟨R_Mo, "push", "(I)V"⟩
abbrev b_Mo_take : ByteArray := prog_7_method_10_code
def y_Mo_take : MethodName := ⟨R_Mo, "take", "(II)V"⟩
abbrev b_Mo_leastOf : ByteArray := prog_7_method_11_code
def y_Mo_leastOf : MethodName := ⟨R_Mo, "leastOf", "(I)I"⟩
abbrev b_Mo_mostOf : ByteArray := prog_7_method_12_code
def y_Mo_mostOf : MethodName := ⟨R_Mo, "mostOf", "(I)I"⟩
abbrev b_Mo_rest : ByteArray := prog_7_method_13_code
def y_Mo_rest : MethodName := ⟨R_Mo, "rest", "()V"⟩
abbrev b_Mo_fill : ByteArray := prog_7_method_14_code
def y_Mo_fill : MethodName := ⟨R_Mo, "fill", "(I)V"⟩
abbrev b_Mo_pipe : ByteArray := prog_7_method_15_code
def y_Mo_pipe : MethodName := ⟨R_Mo, "pipe", "(III)I"⟩
abbrev b_Mo_tap : ByteArray := prog_7_method_16_code
def y_Mo_tap : MethodName := ⟨R_Mo, "tap", "(I)Z"⟩
abbrev b_Mo_set : ByteArray := prog_7_method_17_code
def y_Mo_set : MethodName := ⟨R_Mo, "set", "(II)I"⟩
abbrev b_Mo_loop : ByteArray := prog_7_method_18_code
def y_Mo_loop : MethodName := ⟨R_Mo, "loop", "(II)I"⟩
abbrev b_Mo_draw : ByteArray := prog_7_method_19_code
def y_Mo_draw : MethodName := ⟨R_Mo, "draw", "(III)I"⟩
abbrev b_Mo_run : ByteArray := prog_7_method_20_code
def y_Mo_run : MethodName := ⟨R_Mo, "run", "(I)I"⟩
abbrev b_Mo_plug : ByteArray := prog_7_method_21_code
def y_Mo_plug : MethodName := ⟨R_Mo, "plug", "(III)I"⟩
abbrev b_Mo_told : ByteArray := prog_7_method_22_code
def y_Mo_told : MethodName := ⟨R_Mo, "told", "(II)I"⟩
abbrev b_Mo_dead : ByteArray := prog_7_method_23_code
def y_Mo_dead : MethodName := ⟨R_Mo, "dead", "(II)I"⟩
abbrev b_Mo_warm : ByteArray := prog_7_method_24_code
def y_Mo_warm : MethodName := ⟨R_Mo, "warm", "(II)I"⟩
abbrev b_Mo_drawn : ByteArray := prog_7_method_25_code
def y_Mo_drawn : MethodName := ⟨R_Mo, "drawn", "(II)I"⟩
abbrev b_Mo_heat : ByteArray := prog_7_method_26_code
def y_Mo_heat : MethodName := ⟨R_Mo, "heat", "(I)J"⟩
abbrev b_Mo_copy : ByteArray := prog_7_method_27_code
def y_Mo_copy : MethodName := ⟨R_Mo, "copy", "([I[I)V"⟩
abbrev b_Mo_shock : ByteArray := prog_7_method_28_code
def y_Mo_shock : MethodName := ⟨R_Mo, "shock", "(IIIII)I"⟩
abbrev b_Draws_init : ByteArray := prog_2_method_1_code
def y_Draws_init : MethodName := ⟨R_Draws, "<init>", "()V"⟩
abbrev b_Draws_add : ByteArray := prog_2_method_2_code
def y_Draws_add : MethodName := ⟨R_Draws, "add", "(III)I"⟩
abbrev b_Draws_keepAnswer : ByteArray := prog_2_method_3_code
def y_Draws_keepAnswer : MethodName := ⟨R_Draws, "keepAnswer", "(ILHotLoops$Plugs;)V"⟩
abbrev b_Net_init : ByteArray := prog_3_method_1_code
def y_Net_init : MethodName := ⟨R_Net, "<init>", "()V"⟩
abbrev b_Net_add : ByteArray := prog_3_method_2_code
def y_Net_add : MethodName := ⟨R_Net, "add", "(III)I"⟩
abbrev b_Plugs_init : ByteArray := prog_4_method_1_code
def y_Plugs_init : MethodName := ⟨R_Plugs, "<init>", "(I)V"⟩
abbrev b_Plugs_add : ByteArray := prog_4_method_2_code
def y_Plugs_add : MethodName := ⟨R_Plugs, "add", "(II)V"⟩
abbrev b_Plugs_addAll : ByteArray := prog_4_method_3_code
def y_Plugs_addAll : MethodName := ⟨R_Plugs, "addAll", "(LHotLoops$Plugs;)V"⟩
abbrev b_Plugs_clear : ByteArray := prog_4_method_4_code
def y_Plugs_clear : MethodName := ⟨R_Plugs, "clear", "()V"⟩
abbrev b_Plugs_split : ByteArray := prog_4_method_5_code
def y_Plugs_split : MethodName := ⟨R_Plugs, "split", "(ILHotLoops$Plugs;LHotLoops$Plugs;)V"⟩
abbrev b_Plugs_thin : ByteArray := prog_4_method_6_code
def y_Plugs_thin : MethodName := ⟨R_Plugs, "thin", "()I"⟩
abbrev b_Plugs_likest : ByteArray := prog_4_method_7_code
def y_Plugs_likest : MethodName := ⟨R_Plugs, "likest", "()I"⟩
abbrev b_Plugs_joinBehind : ByteArray := prog_4_method_8_code
def y_Plugs_joinBehind : MethodName := ⟨R_Plugs, "joinBehind", "(I)I"⟩
abbrev b_Plugs_cool : ByteArray := prog_4_method_9_code
def y_Plugs_cool : MethodName := ⟨R_Plugs, "cool", "(II)J"⟩
abbrev b_Plugs_volumeTimesWarmth : ByteArray := prog_4_method_10_code
def y_Plugs_volumeTimesWarmth : MethodName := ⟨R_Plugs, "volumeTimesWarmth", "()J"⟩
abbrev b_Plugs_least : ByteArray := prog_4_method_11_code
def y_Plugs_least : MethodName := ⟨R_Plugs, "least", "()I"⟩
abbrev b_Plugs_greatest : ByteArray := prog_4_method_12_code
def y_Plugs_greatest : MethodName := ⟨R_Plugs, "greatest", "()I"⟩
abbrev b_Water_init : ByteArray := prog_5_method_1_code
def y_Water_init : MethodName := ⟨R_Water, "<init>", "(LHotLoops$Net;)V"⟩
abbrev b_Water_copyFrom : ByteArray := prog_5_method_2_code
def y_Water_copyFrom : MethodName := ⟨R_Water, "copyFrom", "(LHotLoops$Water;)V"⟩
abbrev b_Water_changeHeat : ByteArray := prog_5_method_3_code
def y_Water_changeHeat : MethodName := ⟨R_Water, "changeHeat", "(I)I"⟩
abbrev b_Water_changeAir : ByteArray := prog_5_method_4_code
def y_Water_changeAir : MethodName := ⟨R_Water, "changeAir", "(I)I"⟩
abbrev b_Water_fillWithAir : ByteArray := prog_5_method_5_code
def y_Water_fillWithAir : MethodName := ⟨R_Water, "fillWithAir", "(I)V"⟩
abbrev b_Water_takeOut : ByteArray := prog_5_method_6_code
def y_Water_takeOut : MethodName := ⟨R_Water, "takeOut", "(II)V"⟩
abbrev b_Water_findWay : ByteArray := prog_5_method_7_code
def y_Water_findWay : MethodName := ⟨R_Water, "findWay", "(I)I"⟩
abbrev b_Water_pushThrough : ByteArray := prog_5_method_8_code
def y_Water_pushThrough : MethodName := ⟨R_Water, "pushThrough", "(I)V"⟩
abbrev b_Water_endMinute : ByteArray := prog_5_method_9_code
def y_Water_endMinute : MethodName := ⟨R_Water, "endMinute", "()V"⟩
abbrev b_Water_minutesSinceFlow : ByteArray := prog_5_method_10_code
def y_Water_minutesSinceFlow : MethodName := ⟨R_Water, "minutesSinceFlow", "(I)I"⟩
abbrev b_Water_stoodStill : ByteArray := prog_5_method_11_code
def y_Water_stoodStill : MethodName := ⟨R_Water, "stoodStill", "(II)Z"⟩
abbrev b_Water_volumeBefore : ByteArray := prog_5_method_12_code
def y_Water_volumeBefore : MethodName := ⟨R_Water, "volumeBefore", "(II)I"⟩
abbrev b_Water_held : ByteArray := prog_5_method_13_code
def y_Water_held : MethodName := ⟨R_Water, "held", "()J"⟩
abbrev b_Law_pipe : ByteArray := method_3_code
def y_Law_pipe : MethodName := ⟨R_Law, "pipe", "(LHotLoops;III[J)I"⟩
abbrev b_Law_tap : ByteArray := method_4_code
def y_Law_tap : MethodName := ⟨R_Law, "tap", "(LHotLoops;I[J)I"⟩
abbrev b_Law_set : ByteArray := method_5_code
def y_Law_set : MethodName := ⟨R_Law, "set", "(LHotLoops;II[J)I"⟩
abbrev b_Law_loop : ByteArray := method_6_code
def y_Law_loop : MethodName := ⟨R_Law, "loop", "(LHotLoops;II[J)I"⟩
abbrev b_Law_draw : ByteArray := method_7_code
def y_Law_draw : MethodName := ⟨R_Law, "draw", "(LHotLoops;III[J)I"⟩
abbrev b_Law_run : ByteArray := method_8_code
def y_Law_run : MethodName := ⟨R_Law, "run", "(LHotLoops;I[J)I"⟩
abbrev b_Law_plug : ByteArray := method_9_code
def y_Law_plug : MethodName := ⟨R_Law, "plug", "(LHotLoops;III[J)I"⟩
abbrev b_Law_told : ByteArray := method_10_code
def y_Law_told : MethodName := ⟨R_Law, "told", "(LHotLoops;II[J)I"⟩
abbrev b_Law_dead : ByteArray := method_11_code
def y_Law_dead : MethodName := ⟨R_Law, "dead", "(LHotLoops;II[J)I"⟩
abbrev b_Law_warm : ByteArray := method_12_code
def y_Law_warm : MethodName := ⟨R_Law, "warm", "(LHotLoops;II[J)I"⟩
abbrev b_Law_drawn : ByteArray := method_13_code
def y_Law_drawn : MethodName := ⟨R_Law, "drawn", "(LHotLoops;II[J)I"⟩
abbrev b_Law_heat : ByteArray := method_14_code
def y_Law_heat : MethodName := ⟨R_Law, "heat", "(LHotLoops;I[J)I"⟩
abbrev b_Law_shock : ByteArray := method_15_code
def y_Law_shock : MethodName := ⟨R_Law, "shock", "(LHotLoops;IIIII[J)I"⟩
abbrev b_Law_law : ByteArray := code
def y_Law_law : MethodName := ⟨R_Law, "law", "([I)Z"⟩
end
section
theorem d_Plugs_init_0 : decode b_Plugs_init 0 = .ok (.aload_n 0, 1) := by decide +kernel
theorem d_Plugs_init_1 : decode b_Plugs_init 1 = .ok (.invokespecial 3, 3) := by decide +kernel
theorem d_Plugs_init_4 : decode b_Plugs_init 4 = .ok (.iconst 1, 1) := by decide +kernel
theorem d_Plugs_init_5 : decode b_Plugs_init 5 = .ok (.iload_n 1, 1) := by decide +kernel
theorem d_Plugs_init_6 : decode b_Plugs_init 6 = .ok (.invokestatic 9, 3) := by decide +kernel
theorem d_Plugs_init_9 : decode b_Plugs_init 9 = .ok (.istore_n 2, 1) := by decide +kernel
theorem d_Plugs_init_10 : decode b_Plugs_init 10 = .ok (.aload_n 0, 1) := by decide +kernel
theorem d_Plugs_init_11 : decode b_Plugs_init 11 = .ok (.iload_n 2, 1) := by decide +kernel
theorem d_Plugs_init_12 : decode b_Plugs_init 12 = .ok (.newarray .int, 2) := by decide +kernel
theorem d_Plugs_init_14 : decode b_Plugs_init 14 = .ok (.putfield 15, 3) := by decide +kernel
theorem d_Plugs_init_17 : decode b_Plugs_init 17 = .ok (.aload_n 0, 1) := by decide +kernel
theorem d_Plugs_init_18 : decode b_Plugs_init 18 = .ok (.iload_n 2, 1) := by decide +kernel
theorem d_Plugs_init_19 : decode b_Plugs_init 19 = .ok (.newarray .int, 2) := by decide +kernel
theorem d_Plugs_init_21 : decode b_Plugs_init 21 = .ok (.putfield 21, 3) := by decide +kernel
theorem d_Plugs_init_24 : decode b_Plugs_init 24 = .ok (.return_, 1) := by decide +kernel
theorem d_Plugs_add_0 : decode b_Plugs_add 0 = .ok (.iload_n 1, 1) := by decide +kernel
theorem d_Plugs_add_1 : decode b_Plugs_add 1 = .ok (.iconst 1, 1) := by decide +kernel
theorem d_Plugs_add_2 : decode b_Plugs_add 2 = .ok (.if_icmp .ge 4, 3) := by decide +kernel
theorem d_Plugs_add_5 : decode b_Plugs_add 5 = .ok (.return_, 1) := by decide +kernel
theorem d_Plugs_add_6 : decode b_Plugs_add 6 = .ok (.aload_n 0, 1) := by decide +kernel
theorem d_Plugs_add_7 : decode b_Plugs_add 7 = .ok (.getfield 24, 3) := by decide +kernel
theorem d_Plugs_add_10 : decode b_Plugs_add 10 = .ok (.ifCond .le 36, 3) := by decide +kernel
theorem d_Plugs_add_13 : decode b_Plugs_add 13 = .ok (.aload_n 0, 1) := by decide +kernel
theorem d_Plugs_add_14 : decode b_Plugs_add 14 = .ok (.getfield 21, 3) := by decide +kernel
theorem d_Plugs_add_17 : decode b_Plugs_add 17 = .ok (.aload_n 0, 1) := by decide +kernel
theorem d_Plugs_add_18 : decode b_Plugs_add 18 = .ok (.getfield 24, 3) := by decide +kernel
theorem d_Plugs_add_21 : decode b_Plugs_add 21 = .ok (.iconst 1, 1) := by decide +kernel
theorem d_Plugs_add_22 : decode b_Plugs_add 22 = .ok (.isub, 1) := by decide +kernel
theorem d_Plugs_add_23 : decode b_Plugs_add 23 = .ok (.iaload, 1) := by decide +kernel
theorem d_Plugs_add_24 : decode b_Plugs_add 24 = .ok (.iload_n 2, 1) := by decide +kernel
theorem d_Plugs_add_25 : decode b_Plugs_add 25 = .ok (.if_icmp .ne 21, 3) := by decide +kernel
theorem d_Plugs_add_28 : decode b_Plugs_add 28 = .ok (.aload_n 0, 1) := by decide +kernel
theorem d_Plugs_add_29 : decode b_Plugs_add 29 = .ok (.getfield 15, 3) := by decide +kernel
theorem d_Plugs_add_32 : decode b_Plugs_add 32 = .ok (.aload_n 0, 1) := by decide +kernel
theorem d_Plugs_add_33 : decode b_Plugs_add 33 = .ok (.getfield 24, 3) := by decide +kernel
theorem d_Plugs_add_36 : decode b_Plugs_add 36 = .ok (.iconst 1, 1) := by decide +kernel
theorem d_Plugs_add_37 : decode b_Plugs_add 37 = .ok (.isub, 1) := by decide +kernel
theorem d_Plugs_add_38 : decode b_Plugs_add 38 = .ok (.dup2, 1) := by decide +kernel
theorem d_Plugs_add_39 : decode b_Plugs_add 39 = .ok (.iaload, 1) := by decide +kernel
theorem d_Plugs_add_40 : decode b_Plugs_add 40 = .ok (.iload_n 1, 1) := by decide +kernel
theorem d_Plugs_add_41 : decode b_Plugs_add 41 = .ok (.iadd, 1) := by decide +kernel
theorem d_Plugs_add_42 : decode b_Plugs_add 42 = .ok (.iastore, 1) := by decide +kernel
theorem d_Plugs_add_43 : decode b_Plugs_add 43 = .ok (.goto 45, 3) := by decide +kernel
theorem d_Plugs_add_46 : decode b_Plugs_add 46 = .ok (.aload_n 0, 1) := by decide +kernel
theorem d_Plugs_add_47 : decode b_Plugs_add 47 = .ok (.getfield 24, 3) := by decide +kernel
theorem d_Plugs_add_50 : decode b_Plugs_add 50 = .ok (.aload_n 0, 1) := by decide +kernel
theorem d_Plugs_add_51 : decode b_Plugs_add 51 = .ok (.getfield 15, 3) := by decide +kernel
theorem d_Plugs_add_54 : decode b_Plugs_add 54 = .ok (.arraylength, 1) := by decide +kernel
theorem d_Plugs_add_55 : decode b_Plugs_add 55 = .ok (.if_icmp .ge 33, 3) := by decide +kernel
theorem d_Plugs_add_58 : decode b_Plugs_add 58 = .ok (.aload_n 0, 1) := by decide +kernel
theorem d_Plugs_add_59 : decode b_Plugs_add 59 = .ok (.getfield 15, 3) := by decide +kernel
theorem d_Plugs_add_62 : decode b_Plugs_add 62 = .ok (.aload_n 0, 1) := by decide +kernel
theorem d_Plugs_add_63 : decode b_Plugs_add 63 = .ok (.getfield 24, 3) := by decide +kernel
theorem d_Plugs_add_66 : decode b_Plugs_add 66 = .ok (.iload_n 1, 1) := by decide +kernel
theorem d_Plugs_add_67 : decode b_Plugs_add 67 = .ok (.iastore, 1) := by decide +kernel
theorem d_Plugs_add_68 : decode b_Plugs_add 68 = .ok (.aload_n 0, 1) := by decide +kernel
theorem d_Plugs_add_69 : decode b_Plugs_add 69 = .ok (.getfield 21, 3) := by decide +kernel
theorem d_Plugs_add_72 : decode b_Plugs_add 72 = .ok (.aload_n 0, 1) := by decide +kernel
theorem d_Plugs_add_73 : decode b_Plugs_add 73 = .ok (.getfield 24, 3) := by decide +kernel
theorem d_Plugs_add_76 : decode b_Plugs_add 76 = .ok (.iload_n 2, 1) := by decide +kernel
theorem d_Plugs_add_77 : decode b_Plugs_add 77 = .ok (.iastore, 1) := by decide +kernel
theorem d_Plugs_add_78 : decode b_Plugs_add 78 = .ok (.aload_n 0, 1) := by decide +kernel
theorem d_Plugs_add_79 : decode b_Plugs_add 79 = .ok (.dup, 1) := by decide +kernel
theorem d_Plugs_add_80 : decode b_Plugs_add 80 = .ok (.getfield 24, 3) := by decide +kernel
theorem d_Plugs_add_83 : decode b_Plugs_add 83 = .ok (.iconst 1, 1) := by decide +kernel
theorem d_Plugs_add_84 : decode b_Plugs_add 84 = .ok (.iadd, 1) := by decide +kernel
theorem d_Plugs_add_85 : decode b_Plugs_add 85 = .ok (.putfield 24, 3) := by decide +kernel
theorem d_Plugs_add_88 : decode b_Plugs_add 88 = .ok (.return_, 1) := by decide +kernel
theorem d_Plugs_addAll_0 : decode b_Plugs_addAll 0 = .ok (.iconst 0, 1) := by decide +kernel
theorem d_Plugs_addAll_1 : decode b_Plugs_addAll 1 = .ok (.istore_n 2, 1) := by decide +kernel
theorem d_Plugs_addAll_2 : decode b_Plugs_addAll 2 = .ok (.iload_n 2, 1) := by decide +kernel
theorem d_Plugs_addAll_3 : decode b_Plugs_addAll 3 = .ok (.aload_n 1, 1) := by decide +kernel
theorem d_Plugs_addAll_4 : decode b_Plugs_addAll 4 = .ok (.getfield 24, 3) := by decide +kernel
theorem d_Plugs_addAll_7 : decode b_Plugs_addAll 7 = .ok (.if_icmp .ge 25, 3) := by decide +kernel
theorem d_Plugs_addAll_10 : decode b_Plugs_addAll 10 = .ok (.aload_n 0, 1) := by decide +kernel
theorem d_Plugs_addAll_11 : decode b_Plugs_addAll 11 = .ok (.aload_n 1, 1) := by decide +kernel
theorem d_Plugs_addAll_12 : decode b_Plugs_addAll 12 = .ok (.getfield 15, 3) := by decide +kernel
theorem d_Plugs_addAll_15 : decode b_Plugs_addAll 15 = .ok (.iload_n 2, 1) := by decide +kernel
theorem d_Plugs_addAll_16 : decode b_Plugs_addAll 16 = .ok (.iaload, 1) := by decide +kernel
theorem d_Plugs_addAll_17 : decode b_Plugs_addAll 17 = .ok (.aload_n 1, 1) := by decide +kernel
theorem d_Plugs_addAll_18 : decode b_Plugs_addAll 18 = .ok (.getfield 21, 3) := by decide +kernel
theorem d_Plugs_addAll_21 : decode b_Plugs_addAll 21 = .ok (.iload_n 2, 1) := by decide +kernel
theorem d_Plugs_addAll_22 : decode b_Plugs_addAll 22 = .ok (.iaload, 1) := by decide +kernel
theorem d_Plugs_addAll_23 : decode b_Plugs_addAll 23 = .ok (.invokevirtual 28, 3) := by decide +kernel
theorem d_Plugs_addAll_26 : decode b_Plugs_addAll 26 = .ok (.iinc 2 1, 3) := by decide +kernel
theorem d_Plugs_addAll_29 : decode b_Plugs_addAll 29 = .ok (.goto (-27), 3) := by decide +kernel
theorem d_Plugs_addAll_32 : decode b_Plugs_addAll 32 = .ok (.return_, 1) := by decide +kernel
theorem d_Plugs_clear_0 : decode b_Plugs_clear 0 = .ok (.aload_n 0, 1) := by decide +kernel
theorem d_Plugs_clear_1 : decode b_Plugs_clear 1 = .ok (.iconst 0, 1) := by decide +kernel
theorem d_Plugs_clear_2 : decode b_Plugs_clear 2 = .ok (.putfield 24, 3) := by decide +kernel
theorem d_Plugs_clear_5 : decode b_Plugs_clear 5 = .ok (.return_, 1) := by decide +kernel
theorem d_Plugs_split_0 : decode b_Plugs_split 0 = .ok (.aload_n 2, 1) := by decide +kernel
theorem d_Plugs_split_1 : decode b_Plugs_split 1 = .ok (.invokevirtual 32, 3) := by decide +kernel
theorem d_Plugs_split_4 : decode b_Plugs_split 4 = .ok (.aload_n 3, 1) := by decide +kernel
theorem d_Plugs_split_5 : decode b_Plugs_split 5 = .ok (.invokevirtual 32, 3) := by decide +kernel
theorem d_Plugs_split_8 : decode b_Plugs_split 8 = .ok (.iload_n 1, 1) := by decide +kernel
theorem d_Plugs_split_9 : decode b_Plugs_split 9 = .ok (.istore 4, 2) := by decide +kernel
theorem d_Plugs_split_11 : decode b_Plugs_split 11 = .ok (.iconst 0, 1) := by decide +kernel
theorem d_Plugs_split_12 : decode b_Plugs_split 12 = .ok (.istore 5, 2) := by decide +kernel
theorem d_Plugs_split_14 : decode b_Plugs_split 14 = .ok (.iload 5, 2) := by decide +kernel
theorem d_Plugs_split_16 : decode b_Plugs_split 16 = .ok (.aload_n 0, 1) := by decide +kernel
theorem d_Plugs_split_17 : decode b_Plugs_split 17 = .ok (.getfield 24, 3) := by decide +kernel
theorem d_Plugs_split_20 : decode b_Plugs_split 20 = .ok (.if_icmp .ge 64, 3) := by decide +kernel
theorem d_Plugs_split_23 : decode b_Plugs_split 23 = .ok (.iload 4, 2) := by decide +kernel
theorem d_Plugs_split_25 : decode b_Plugs_split 25 = .ok (.aload_n 0, 1) := by decide +kernel
theorem d_Plugs_split_26 : decode b_Plugs_split 26 = .ok (.getfield 15, 3) := by decide +kernel
theorem d_Plugs_split_29 : decode b_Plugs_split 29 = .ok (.iload 5, 2) := by decide +kernel
theorem d_Plugs_split_31 : decode b_Plugs_split 31 = .ok (.iaload, 1) := by decide +kernel
theorem d_Plugs_split_32 : decode b_Plugs_split 32 = .ok (.invokestatic 35, 3) := by decide +kernel
theorem d_Plugs_split_35 : decode b_Plugs_split 35 = .ok (.istore 6, 2) := by decide +kernel
theorem d_Plugs_split_37 : decode b_Plugs_split 37 = .ok (.aload_n 2, 1) := by decide +kernel
theorem d_Plugs_split_38 : decode b_Plugs_split 38 = .ok (.iload 6, 2) := by decide +kernel
theorem d_Plugs_split_40 : decode b_Plugs_split 40 = .ok (.aload_n 0, 1) := by decide +kernel
theorem d_Plugs_split_41 : decode b_Plugs_split 41 = .ok (.getfield 21, 3) := by decide +kernel
theorem d_Plugs_split_44 : decode b_Plugs_split 44 = .ok (.iload 5, 2) := by decide +kernel
theorem d_Plugs_split_46 : decode b_Plugs_split 46 = .ok (.iaload, 1) := by decide +kernel
theorem d_Plugs_split_47 : decode b_Plugs_split 47 = .ok (.invokevirtual 28, 3) := by decide +kernel
theorem d_Plugs_split_50 : decode b_Plugs_split 50 = .ok (.aload_n 3, 1) := by decide +kernel
theorem d_Plugs_split_51 : decode b_Plugs_split 51 = .ok (.aload_n 0, 1) := by decide +kernel
theorem d_Plugs_split_52 : decode b_Plugs_split 52 = .ok (.getfield 15, 3) := by decide +kernel
theorem d_Plugs_split_55 : decode b_Plugs_split 55 = .ok (.iload 5, 2) := by decide +kernel
theorem d_Plugs_split_57 : decode b_Plugs_split 57 = .ok (.iaload, 1) := by decide +kernel
theorem d_Plugs_split_58 : decode b_Plugs_split 58 = .ok (.iload 6, 2) := by decide +kernel
theorem d_Plugs_split_60 : decode b_Plugs_split 60 = .ok (.isub, 1) := by decide +kernel
theorem d_Plugs_split_61 : decode b_Plugs_split 61 = .ok (.aload_n 0, 1) := by decide +kernel
theorem d_Plugs_split_62 : decode b_Plugs_split 62 = .ok (.getfield 21, 3) := by decide +kernel
theorem d_Plugs_split_65 : decode b_Plugs_split 65 = .ok (.iload 5, 2) := by decide +kernel
theorem d_Plugs_split_67 : decode b_Plugs_split 67 = .ok (.iaload, 1) := by decide +kernel
theorem d_Plugs_split_68 : decode b_Plugs_split 68 = .ok (.invokevirtual 28, 3) := by decide +kernel
theorem d_Plugs_split_71 : decode b_Plugs_split 71 = .ok (.iload 4, 2) := by decide +kernel
theorem d_Plugs_split_73 : decode b_Plugs_split 73 = .ok (.iload 6, 2) := by decide +kernel
theorem d_Plugs_split_75 : decode b_Plugs_split 75 = .ok (.isub, 1) := by decide +kernel
theorem d_Plugs_split_76 : decode b_Plugs_split 76 = .ok (.istore 4, 2) := by decide +kernel
theorem d_Plugs_split_78 : decode b_Plugs_split 78 = .ok (.iinc 5 1, 3) := by decide +kernel
theorem d_Plugs_split_81 : decode b_Plugs_split 81 = .ok (.goto (-67), 3) := by decide +kernel
theorem d_Plugs_split_84 : decode b_Plugs_split 84 = .ok (.return_, 1) := by decide +kernel
theorem d_Plugs_thin_0 : decode b_Plugs_thin 0 = .ok (.iconst 0, 1) := by decide +kernel
theorem d_Plugs_thin_1 : decode b_Plugs_thin 1 = .ok (.istore_n 1, 1) := by decide +kernel
theorem d_Plugs_thin_2 : decode b_Plugs_thin 2 = .ok (.aload_n 0, 1) := by decide +kernel
theorem d_Plugs_thin_3 : decode b_Plugs_thin 3 = .ok (.getfield 24, 3) := by decide +kernel
theorem d_Plugs_thin_6 : decode b_Plugs_thin 6 = .ok (.bipush 12, 2) := by decide +kernel
theorem d_Plugs_thin_8 : decode b_Plugs_thin 8 = .ok (.isub, 1) := by decide +kernel
theorem d_Plugs_thin_9 : decode b_Plugs_thin 9 = .ok (.istore_n 2, 1) := by decide +kernel
theorem d_Plugs_thin_10 : decode b_Plugs_thin 10 = .ok (.iload_n 2, 1) := by decide +kernel
theorem d_Plugs_thin_11 : decode b_Plugs_thin 11 = .ok (.ifCond .le 20, 3) := by decide +kernel
theorem d_Plugs_thin_14 : decode b_Plugs_thin 14 = .ok (.iload_n 1, 1) := by decide +kernel
theorem d_Plugs_thin_15 : decode b_Plugs_thin 15 = .ok (.aload_n 0, 1) := by decide +kernel
theorem d_Plugs_thin_16 : decode b_Plugs_thin 16 = .ok (.aload_n 0, 1) := by decide +kernel
theorem d_Plugs_thin_17 : decode b_Plugs_thin 17 = .ok (.invokevirtual 38, 3) := by decide +kernel
theorem d_Plugs_thin_20 : decode b_Plugs_thin 20 = .ok (.invokevirtual 42, 3) := by decide +kernel
theorem d_Plugs_thin_23 : decode b_Plugs_thin 23 = .ok (.iadd, 1) := by decide +kernel
theorem d_Plugs_thin_24 : decode b_Plugs_thin 24 = .ok (.istore_n 1, 1) := by decide +kernel
theorem d_Plugs_thin_25 : decode b_Plugs_thin 25 = .ok (.iinc 2 (-1), 3) := by decide +kernel
theorem d_Plugs_thin_28 : decode b_Plugs_thin 28 = .ok (.goto (-18), 3) := by decide +kernel
theorem d_Plugs_thin_31 : decode b_Plugs_thin 31 = .ok (.iload_n 1, 1) := by decide +kernel
theorem d_Plugs_thin_32 : decode b_Plugs_thin 32 = .ok (.ireturn, 1) := by decide +kernel
theorem d_Plugs_likest_0 : decode b_Plugs_likest 0 = .ok (.iconst 0, 1) := by decide +kernel
theorem d_Plugs_likest_1 : decode b_Plugs_likest 1 = .ok (.istore_n 1, 1) := by decide +kernel
theorem d_Plugs_likest_2 : decode b_Plugs_likest 2 = .ok (.sipush 10001, 3) := by decide +kernel
theorem d_Plugs_likest_5 : decode b_Plugs_likest 5 = .ok (.istore_n 2, 1) := by decide +kernel
theorem d_Plugs_likest_6 : decode b_Plugs_likest 6 = .ok (.iconst 0, 1) := by decide +kernel
theorem d_Plugs_likest_7 : decode b_Plugs_likest 7 = .ok (.istore_n 3, 1) := by decide +kernel
theorem d_Plugs_likest_8 : decode b_Plugs_likest 8 = .ok (.iload_n 3, 1) := by decide +kernel
theorem d_Plugs_likest_9 : decode b_Plugs_likest 9 = .ok (.iconst 1, 1) := by decide +kernel
theorem d_Plugs_likest_10 : decode b_Plugs_likest 10 = .ok (.iadd, 1) := by decide +kernel
theorem d_Plugs_likest_11 : decode b_Plugs_likest 11 = .ok (.aload_n 0, 1) := by decide +kernel
theorem d_Plugs_likest_12 : decode b_Plugs_likest 12 = .ok (.getfield 24, 3) := by decide +kernel
theorem d_Plugs_likest_15 : decode b_Plugs_likest 15 = .ok (.if_icmp .ge 40, 3) := by decide +kernel
theorem d_Plugs_likest_18 : decode b_Plugs_likest 18 = .ok (.aload_n 0, 1) := by decide +kernel
theorem d_Plugs_likest_19 : decode b_Plugs_likest 19 = .ok (.getfield 21, 3) := by decide +kernel
theorem d_Plugs_likest_22 : decode b_Plugs_likest 22 = .ok (.iload_n 3, 1) := by decide +kernel
theorem d_Plugs_likest_23 : decode b_Plugs_likest 23 = .ok (.iaload, 1) := by decide +kernel
theorem d_Plugs_likest_24 : decode b_Plugs_likest 24 = .ok (.aload_n 0, 1) := by decide +kernel
theorem d_Plugs_likest_25 : decode b_Plugs_likest 25 = .ok (.getfield 21, 3) := by decide +kernel
theorem d_Plugs_likest_28 : decode b_Plugs_likest 28 = .ok (.iload_n 3, 1) := by decide +kernel
theorem d_Plugs_likest_29 : decode b_Plugs_likest 29 = .ok (.iconst 1, 1) := by decide +kernel
theorem d_Plugs_likest_30 : decode b_Plugs_likest 30 = .ok (.iadd, 1) := by decide +kernel
theorem d_Plugs_likest_31 : decode b_Plugs_likest 31 = .ok (.iaload, 1) := by decide +kernel
theorem d_Plugs_likest_32 : decode b_Plugs_likest 32 = .ok (.isub, 1) := by decide +kernel
theorem d_Plugs_likest_33 : decode b_Plugs_likest 33 = .ok (.invokestatic 46, 3) := by decide +kernel
theorem d_Plugs_likest_36 : decode b_Plugs_likest 36 = .ok (.istore 4, 2) := by decide +kernel
theorem d_Plugs_likest_38 : decode b_Plugs_likest 38 = .ok (.iload 4, 2) := by decide +kernel
theorem d_Plugs_likest_40 : decode b_Plugs_likest 40 = .ok (.iload_n 2, 1) := by decide +kernel
theorem d_Plugs_likest_41 : decode b_Plugs_likest 41 = .ok (.if_icmp .ge 8, 3) := by decide +kernel
theorem d_Plugs_likest_44 : decode b_Plugs_likest 44 = .ok (.iload_n 3, 1) := by decide +kernel
theorem d_Plugs_likest_45 : decode b_Plugs_likest 45 = .ok (.istore_n 1, 1) := by decide +kernel
theorem d_Plugs_likest_46 : decode b_Plugs_likest 46 = .ok (.iload 4, 2) := by decide +kernel
theorem d_Plugs_likest_48 : decode b_Plugs_likest 48 = .ok (.istore_n 2, 1) := by decide +kernel
theorem d_Plugs_likest_49 : decode b_Plugs_likest 49 = .ok (.iinc 3 1, 3) := by decide +kernel
theorem d_Plugs_likest_52 : decode b_Plugs_likest 52 = .ok (.goto (-44), 3) := by decide +kernel
theorem d_Plugs_likest_55 : decode b_Plugs_likest 55 = .ok (.iload_n 1, 1) := by decide +kernel
theorem d_Plugs_likest_56 : decode b_Plugs_likest 56 = .ok (.ireturn, 1) := by decide +kernel
theorem d_Plugs_joinBehind_0 : decode b_Plugs_joinBehind 0 = .ok (.iload_n 1, 1) := by decide +kernel
theorem d_Plugs_joinBehind_1 : decode b_Plugs_joinBehind 1 = .ok (.ifCond .lt 13, 3) := by decide +kernel
theorem d_Plugs_joinBehind_4 : decode b_Plugs_joinBehind 4 = .ok (.iload_n 1, 1) := by decide +kernel
theorem d_Plugs_joinBehind_5 : decode b_Plugs_joinBehind 5 = .ok (.iconst 1, 1) := by decide +kernel
theorem d_Plugs_joinBehind_6 : decode b_Plugs_joinBehind 6 = .ok (.iadd, 1) := by decide +kernel
theorem d_Plugs_joinBehind_7 : decode b_Plugs_joinBehind 7 = .ok (.aload_n 0, 1) := by decide +kernel
theorem d_Plugs_joinBehind_8 : decode b_Plugs_joinBehind 8 = .ok (.getfield 24, 3) := by decide +kernel
theorem d_Plugs_joinBehind_11 : decode b_Plugs_joinBehind 11 = .ok (.if_icmp .lt 5, 3) := by decide +kernel
theorem d_Plugs_joinBehind_14 : decode b_Plugs_joinBehind 14 = .ok (.iconst 0, 1) := by decide +kernel
theorem d_Plugs_joinBehind_15 : decode b_Plugs_joinBehind 15 = .ok (.ireturn, 1) := by decide +kernel
theorem d_Plugs_joinBehind_16 : decode b_Plugs_joinBehind 16 = .ok (.aload_n 0, 1) := by decide +kernel
theorem d_Plugs_joinBehind_17 : decode b_Plugs_joinBehind 17 = .ok (.getfield 15, 3) := by decide +kernel
theorem d_Plugs_joinBehind_20 : decode b_Plugs_joinBehind 20 = .ok (.iload_n 1, 1) := by decide +kernel
theorem d_Plugs_joinBehind_21 : decode b_Plugs_joinBehind 21 = .ok (.iaload, 1) := by decide +kernel
theorem d_Plugs_joinBehind_22 : decode b_Plugs_joinBehind 22 = .ok (.aload_n 0, 1) := by decide +kernel
theorem d_Plugs_joinBehind_23 : decode b_Plugs_joinBehind 23 = .ok (.getfield 15, 3) := by decide +kernel
theorem d_Plugs_joinBehind_26 : decode b_Plugs_joinBehind 26 = .ok (.iload_n 1, 1) := by decide +kernel
theorem d_Plugs_joinBehind_27 : decode b_Plugs_joinBehind 27 = .ok (.iconst 1, 1) := by decide +kernel
theorem d_Plugs_joinBehind_28 : decode b_Plugs_joinBehind 28 = .ok (.iadd, 1) := by decide +kernel
theorem d_Plugs_joinBehind_29 : decode b_Plugs_joinBehind 29 = .ok (.iaload, 1) := by decide +kernel
theorem d_Plugs_joinBehind_30 : decode b_Plugs_joinBehind 30 = .ok (.iadd, 1) := by decide +kernel
theorem d_Plugs_joinBehind_31 : decode b_Plugs_joinBehind 31 = .ok (.istore_n 2, 1) := by decide +kernel
theorem d_Plugs_joinBehind_32 : decode b_Plugs_joinBehind 32 = .ok (.iload_n 2, 1) := by decide +kernel
theorem d_Plugs_joinBehind_33 : decode b_Plugs_joinBehind 33 = .ok (.iconst 1, 1) := by decide +kernel
theorem d_Plugs_joinBehind_34 : decode b_Plugs_joinBehind 34 = .ok (.if_icmp .ge 5, 3) := by decide +kernel
theorem d_Plugs_joinBehind_37 : decode b_Plugs_joinBehind 37 = .ok (.iconst 0, 1) := by decide +kernel
theorem d_Plugs_joinBehind_38 : decode b_Plugs_joinBehind 38 = .ok (.ireturn, 1) := by decide +kernel
theorem d_Plugs_joinBehind_39 : decode b_Plugs_joinBehind 39 = .ok (.aload_n 0, 1) := by decide +kernel
theorem d_Plugs_joinBehind_40 : decode b_Plugs_joinBehind 40 = .ok (.getfield 15, 3) := by decide +kernel
theorem d_Plugs_joinBehind_43 : decode b_Plugs_joinBehind 43 = .ok (.iload_n 1, 1) := by decide +kernel
theorem d_Plugs_joinBehind_44 : decode b_Plugs_joinBehind 44 = .ok (.iaload, 1) := by decide +kernel
theorem d_Plugs_joinBehind_45 : decode b_Plugs_joinBehind 45 = .ok (.aload_n 0, 1) := by decide +kernel
theorem d_Plugs_joinBehind_46 : decode b_Plugs_joinBehind 46 = .ok (.getfield 21, 3) := by decide +kernel
theorem d_Plugs_joinBehind_49 : decode b_Plugs_joinBehind 49 = .ok (.iload_n 1, 1) := by decide +kernel
theorem d_Plugs_joinBehind_50 : decode b_Plugs_joinBehind 50 = .ok (.iaload, 1) := by decide +kernel
theorem d_Plugs_joinBehind_51 : decode b_Plugs_joinBehind 51 = .ok (.imul, 1) := by decide +kernel
theorem d_Plugs_joinBehind_52 : decode b_Plugs_joinBehind 52 = .ok (.aload_n 0, 1) := by decide +kernel
theorem d_Plugs_joinBehind_53 : decode b_Plugs_joinBehind 53 = .ok (.getfield 15, 3) := by decide +kernel
theorem d_Plugs_joinBehind_56 : decode b_Plugs_joinBehind 56 = .ok (.iload_n 1, 1) := by decide +kernel
theorem d_Plugs_joinBehind_57 : decode b_Plugs_joinBehind 57 = .ok (.iconst 1, 1) := by decide +kernel
theorem d_Plugs_joinBehind_58 : decode b_Plugs_joinBehind 58 = .ok (.iadd, 1) := by decide +kernel
theorem d_Plugs_joinBehind_59 : decode b_Plugs_joinBehind 59 = .ok (.iaload, 1) := by decide +kernel
theorem d_Plugs_joinBehind_60 : decode b_Plugs_joinBehind 60 = .ok (.aload_n 0, 1) := by decide +kernel
theorem d_Plugs_joinBehind_61 : decode b_Plugs_joinBehind 61 = .ok (.getfield 21, 3) := by decide +kernel
theorem d_Plugs_joinBehind_64 : decode b_Plugs_joinBehind 64 = .ok (.iload_n 1, 1) := by decide +kernel
theorem d_Plugs_joinBehind_65 : decode b_Plugs_joinBehind 65 = .ok (.iconst 1, 1) := by decide +kernel
theorem d_Plugs_joinBehind_66 : decode b_Plugs_joinBehind 66 = .ok (.iadd, 1) := by decide +kernel
theorem d_Plugs_joinBehind_67 : decode b_Plugs_joinBehind 67 = .ok (.iaload, 1) := by decide +kernel
theorem d_Plugs_joinBehind_68 : decode b_Plugs_joinBehind 68 = .ok (.imul, 1) := by decide +kernel
theorem d_Plugs_joinBehind_69 : decode b_Plugs_joinBehind 69 = .ok (.iadd, 1) := by decide +kernel
theorem d_Plugs_joinBehind_70 : decode b_Plugs_joinBehind 70 = .ok (.istore_n 3, 1) := by decide +kernel
theorem d_Plugs_joinBehind_71 : decode b_Plugs_joinBehind 71 = .ok (.aload_n 0, 1) := by decide +kernel
theorem d_Plugs_joinBehind_72 : decode b_Plugs_joinBehind 72 = .ok (.getfield 15, 3) := by decide +kernel
theorem d_Plugs_joinBehind_75 : decode b_Plugs_joinBehind 75 = .ok (.iload_n 1, 1) := by decide +kernel
theorem d_Plugs_joinBehind_76 : decode b_Plugs_joinBehind 76 = .ok (.iload_n 2, 1) := by decide +kernel
theorem d_Plugs_joinBehind_77 : decode b_Plugs_joinBehind 77 = .ok (.iastore, 1) := by decide +kernel
theorem d_Plugs_joinBehind_78 : decode b_Plugs_joinBehind 78 = .ok (.aload_n 0, 1) := by decide +kernel
theorem d_Plugs_joinBehind_79 : decode b_Plugs_joinBehind 79 = .ok (.getfield 21, 3) := by decide +kernel
theorem d_Plugs_joinBehind_82 : decode b_Plugs_joinBehind 82 = .ok (.iload_n 1, 1) := by decide +kernel
theorem d_Plugs_joinBehind_83 : decode b_Plugs_joinBehind 83 = .ok (.iload_n 3, 1) := by decide +kernel
theorem d_Plugs_joinBehind_84 : decode b_Plugs_joinBehind 84 = .ok (.iload_n 2, 1) := by decide +kernel
theorem d_Plugs_joinBehind_85 : decode b_Plugs_joinBehind 85 = .ok (.idiv, 1) := by decide +kernel
theorem d_Plugs_joinBehind_86 : decode b_Plugs_joinBehind 86 = .ok (.iastore, 1) := by decide +kernel
theorem d_Plugs_joinBehind_87 : decode b_Plugs_joinBehind 87 = .ok (.iload_n 1, 1) := by decide +kernel
theorem d_Plugs_joinBehind_88 : decode b_Plugs_joinBehind 88 = .ok (.iconst 1, 1) := by decide +kernel
theorem d_Plugs_joinBehind_89 : decode b_Plugs_joinBehind 89 = .ok (.iadd, 1) := by decide +kernel
theorem d_Plugs_joinBehind_90 : decode b_Plugs_joinBehind 90 = .ok (.istore 4, 2) := by decide +kernel
theorem d_Plugs_joinBehind_92 : decode b_Plugs_joinBehind 92 = .ok (.iload 4, 2) := by decide +kernel
theorem d_Plugs_joinBehind_94 : decode b_Plugs_joinBehind 94 = .ok (.iconst 1, 1) := by decide +kernel
theorem d_Plugs_joinBehind_95 : decode b_Plugs_joinBehind 95 = .ok (.iadd, 1) := by decide +kernel
theorem d_Plugs_joinBehind_96 : decode b_Plugs_joinBehind 96 = .ok (.aload_n 0, 1) := by decide +kernel
theorem d_Plugs_joinBehind_97 : decode b_Plugs_joinBehind 97 = .ok (.getfield 24, 3) := by decide +kernel
theorem d_Plugs_joinBehind_100 : decode b_Plugs_joinBehind 100 = .ok (.if_icmp .ge 41, 3) := by decide +kernel
theorem d_Plugs_joinBehind_103 : decode b_Plugs_joinBehind 103 = .ok (.aload_n 0, 1) := by decide +kernel
theorem d_Plugs_joinBehind_104 : decode b_Plugs_joinBehind 104 = .ok (.getfield 15, 3) := by decide +kernel
theorem d_Plugs_joinBehind_107 : decode b_Plugs_joinBehind 107 = .ok (.iload 4, 2) := by decide +kernel
theorem d_Plugs_joinBehind_109 : decode b_Plugs_joinBehind 109 = .ok (.aload_n 0, 1) := by decide +kernel
theorem d_Plugs_joinBehind_110 : decode b_Plugs_joinBehind 110 = .ok (.getfield 15, 3) := by decide +kernel
theorem d_Plugs_joinBehind_113 : decode b_Plugs_joinBehind 113 = .ok (.iload 4, 2) := by decide +kernel
theorem d_Plugs_joinBehind_115 : decode b_Plugs_joinBehind 115 = .ok (.iconst 1, 1) := by decide +kernel
theorem d_Plugs_joinBehind_116 : decode b_Plugs_joinBehind 116 = .ok (.iadd, 1) := by decide +kernel
theorem d_Plugs_joinBehind_117 : decode b_Plugs_joinBehind 117 = .ok (.iaload, 1) := by decide +kernel
theorem d_Plugs_joinBehind_118 : decode b_Plugs_joinBehind 118 = .ok (.iastore, 1) := by decide +kernel
theorem d_Plugs_joinBehind_119 : decode b_Plugs_joinBehind 119 = .ok (.aload_n 0, 1) := by decide +kernel
theorem d_Plugs_joinBehind_120 : decode b_Plugs_joinBehind 120 = .ok (.getfield 21, 3) := by decide +kernel
theorem d_Plugs_joinBehind_123 : decode b_Plugs_joinBehind 123 = .ok (.iload 4, 2) := by decide +kernel
theorem d_Plugs_joinBehind_125 : decode b_Plugs_joinBehind 125 = .ok (.aload_n 0, 1) := by decide +kernel
theorem d_Plugs_joinBehind_126 : decode b_Plugs_joinBehind 126 = .ok (.getfield 21, 3) := by decide +kernel
theorem d_Plugs_joinBehind_129 : decode b_Plugs_joinBehind 129 = .ok (.iload 4, 2) := by decide +kernel
theorem d_Plugs_joinBehind_131 : decode b_Plugs_joinBehind 131 = .ok (.iconst 1, 1) := by decide +kernel
theorem d_Plugs_joinBehind_132 : decode b_Plugs_joinBehind 132 = .ok (.iadd, 1) := by decide +kernel
theorem d_Plugs_joinBehind_133 : decode b_Plugs_joinBehind 133 = .ok (.iaload, 1) := by decide +kernel
theorem d_Plugs_joinBehind_134 : decode b_Plugs_joinBehind 134 = .ok (.iastore, 1) := by decide +kernel
theorem d_Plugs_joinBehind_135 : decode b_Plugs_joinBehind 135 = .ok (.iinc 4 1, 3) := by decide +kernel
theorem d_Plugs_joinBehind_138 : decode b_Plugs_joinBehind 138 = .ok (.goto (-46), 3) := by decide +kernel
theorem d_Plugs_joinBehind_141 : decode b_Plugs_joinBehind 141 = .ok (.aload_n 0, 1) := by decide +kernel
theorem d_Plugs_joinBehind_142 : decode b_Plugs_joinBehind 142 = .ok (.dup, 1) := by decide +kernel
theorem d_Plugs_joinBehind_143 : decode b_Plugs_joinBehind 143 = .ok (.getfield 24, 3) := by decide +kernel
theorem d_Plugs_joinBehind_146 : decode b_Plugs_joinBehind 146 = .ok (.iconst 1, 1) := by decide +kernel
theorem d_Plugs_joinBehind_147 : decode b_Plugs_joinBehind 147 = .ok (.isub, 1) := by decide +kernel
theorem d_Plugs_joinBehind_148 : decode b_Plugs_joinBehind 148 = .ok (.putfield 24, 3) := by decide +kernel
theorem d_Plugs_joinBehind_151 : decode b_Plugs_joinBehind 151 = .ok (.iload_n 3, 1) := by decide +kernel
theorem d_Plugs_joinBehind_152 : decode b_Plugs_joinBehind 152 = .ok (.iload_n 2, 1) := by decide +kernel
theorem d_Plugs_joinBehind_153 : decode b_Plugs_joinBehind 153 = .ok (.irem, 1) := by decide +kernel
theorem d_Plugs_joinBehind_154 : decode b_Plugs_joinBehind 154 = .ok (.ireturn, 1) := by decide +kernel
theorem d_Plugs_cool_0 : decode b_Plugs_cool 0 = .ok (.iconst 1, 1) := by decide +kernel
theorem d_Plugs_cool_1 : decode b_Plugs_cool 1 = .ok (.iload_n 2, 1) := by decide +kernel
theorem d_Plugs_cool_2 : decode b_Plugs_cool 2 = .ok (.invokestatic 9, 3) := by decide +kernel
theorem d_Plugs_cool_5 : decode b_Plugs_cool 5 = .ok (.istore_n 3, 1) := by decide +kernel
theorem d_Plugs_cool_6 : decode b_Plugs_cool 6 = .ok (.lconst 0, 1) := by decide +kernel
theorem d_Plugs_cool_7 : decode b_Plugs_cool 7 = .ok (.lstore 4, 2) := by decide +kernel
theorem d_Plugs_cool_9 : decode b_Plugs_cool 9 = .ok (.aload_n 0, 1) := by decide +kernel
theorem d_Plugs_cool_10 : decode b_Plugs_cool 10 = .ok (.getfield 24, 3) := by decide +kernel
theorem d_Plugs_cool_13 : decode b_Plugs_cool 13 = .ok (.istore 6, 2) := by decide +kernel
theorem d_Plugs_cool_15 : decode b_Plugs_cool 15 = .ok (.aload_n 0, 1) := by decide +kernel
theorem d_Plugs_cool_16 : decode b_Plugs_cool 16 = .ok (.invokevirtual 32, 3) := by decide +kernel
theorem d_Plugs_cool_19 : decode b_Plugs_cool 19 = .ok (.iconst 0, 1) := by decide +kernel
theorem d_Plugs_cool_20 : decode b_Plugs_cool 20 = .ok (.istore 7, 2) := by decide +kernel
theorem d_Plugs_cool_22 : decode b_Plugs_cool 22 = .ok (.iload 7, 2) := by decide +kernel
theorem d_Plugs_cool_24 : decode b_Plugs_cool 24 = .ok (.iload 6, 2) := by decide +kernel
theorem d_Plugs_cool_26 : decode b_Plugs_cool 26 = .ok (.if_icmp .ge 60, 3) := by decide +kernel
theorem d_Plugs_cool_29 : decode b_Plugs_cool 29 = .ok (.aload_n 0, 1) := by decide +kernel
theorem d_Plugs_cool_30 : decode b_Plugs_cool 30 = .ok (.getfield 21, 3) := by decide +kernel
theorem d_Plugs_cool_33 : decode b_Plugs_cool 33 = .ok (.iload 7, 2) := by decide +kernel
theorem d_Plugs_cool_35 : decode b_Plugs_cool 35 = .ok (.iaload, 1) := by decide +kernel
theorem d_Plugs_cool_36 : decode b_Plugs_cool 36 = .ok (.iload_n 1, 1) := by decide +kernel
theorem d_Plugs_cool_37 : decode b_Plugs_cool 37 = .ok (.isub, 1) := by decide +kernel
theorem d_Plugs_cool_38 : decode b_Plugs_cool 38 = .ok (.iload_n 3, 1) := by decide +kernel
theorem d_Plugs_cool_39 : decode b_Plugs_cool 39 = .ok (.idiv, 1) := by decide +kernel
theorem d_Plugs_cool_40 : decode b_Plugs_cool 40 = .ok (.istore 8, 2) := by decide +kernel
theorem d_Plugs_cool_42 : decode b_Plugs_cool 42 = .ok (.lload 4, 2) := by decide +kernel
theorem d_Plugs_cool_44 : decode b_Plugs_cool 44 = .ok (.aload_n 0, 1) := by decide +kernel
theorem d_Plugs_cool_45 : decode b_Plugs_cool 45 = .ok (.getfield 15, 3) := by decide +kernel
theorem d_Plugs_cool_48 : decode b_Plugs_cool 48 = .ok (.iload 7, 2) := by decide +kernel
theorem d_Plugs_cool_50 : decode b_Plugs_cool 50 = .ok (.iaload, 1) := by decide +kernel
theorem d_Plugs_cool_51 : decode b_Plugs_cool 51 = .ok (.i2l, 1) := by decide +kernel
theorem d_Plugs_cool_52 : decode b_Plugs_cool 52 = .ok (.iload 8, 2) := by decide +kernel
theorem d_Plugs_cool_54 : decode b_Plugs_cool 54 = .ok (.i2l, 1) := by decide +kernel
theorem d_Plugs_cool_55 : decode b_Plugs_cool 55 = .ok (.lmul, 1) := by decide +kernel
theorem d_Plugs_cool_56 : decode b_Plugs_cool 56 = .ok (.ladd, 1) := by decide +kernel
theorem d_Plugs_cool_57 : decode b_Plugs_cool 57 = .ok (.lstore 4, 2) := by decide +kernel
theorem d_Plugs_cool_59 : decode b_Plugs_cool 59 = .ok (.aload_n 0, 1) := by decide +kernel
theorem d_Plugs_cool_60 : decode b_Plugs_cool 60 = .ok (.aload_n 0, 1) := by decide +kernel
theorem d_Plugs_cool_61 : decode b_Plugs_cool 61 = .ok (.getfield 15, 3) := by decide +kernel
theorem d_Plugs_cool_64 : decode b_Plugs_cool 64 = .ok (.iload 7, 2) := by decide +kernel
theorem d_Plugs_cool_66 : decode b_Plugs_cool 66 = .ok (.iaload, 1) := by decide +kernel
theorem d_Plugs_cool_67 : decode b_Plugs_cool 67 = .ok (.aload_n 0, 1) := by decide +kernel
theorem d_Plugs_cool_68 : decode b_Plugs_cool 68 = .ok (.getfield 21, 3) := by decide +kernel
theorem d_Plugs_cool_71 : decode b_Plugs_cool 71 = .ok (.iload 7, 2) := by decide +kernel
theorem d_Plugs_cool_73 : decode b_Plugs_cool 73 = .ok (.iaload, 1) := by decide +kernel
theorem d_Plugs_cool_74 : decode b_Plugs_cool 74 = .ok (.iload 8, 2) := by decide +kernel
theorem d_Plugs_cool_76 : decode b_Plugs_cool 76 = .ok (.isub, 1) := by decide +kernel
theorem d_Plugs_cool_77 : decode b_Plugs_cool 77 = .ok (.invokevirtual 28, 3) := by decide +kernel
theorem d_Plugs_cool_80 : decode b_Plugs_cool 80 = .ok (.iinc 7 1, 3) := by decide +kernel
theorem d_Plugs_cool_83 : decode b_Plugs_cool 83 = .ok (.goto (-61), 3) := by decide +kernel
theorem d_Plugs_cool_86 : decode b_Plugs_cool 86 = .ok (.lload 4, 2) := by decide +kernel
theorem d_Plugs_cool_88 : decode b_Plugs_cool 88 = .ok (.lreturn, 1) := by decide +kernel
theorem d_Plugs_volumeTimesWarmth_0 : decode b_Plugs_volumeTimesWarmth 0 = .ok (.lconst 0, 1) := by decide +kernel
theorem d_Plugs_volumeTimesWarmth_1 : decode b_Plugs_volumeTimesWarmth 1 = .ok (.lstore_n 1, 1) := by decide +kernel
theorem d_Plugs_volumeTimesWarmth_2 : decode b_Plugs_volumeTimesWarmth 2 = .ok (.iconst 0, 1) := by decide +kernel
theorem d_Plugs_volumeTimesWarmth_3 : decode b_Plugs_volumeTimesWarmth 3 = .ok (.istore_n 3, 1) := by decide +kernel
theorem d_Plugs_volumeTimesWarmth_4 : decode b_Plugs_volumeTimesWarmth 4 = .ok (.iload_n 3, 1) := by decide +kernel
theorem d_Plugs_volumeTimesWarmth_5 : decode b_Plugs_volumeTimesWarmth 5 = .ok (.aload_n 0, 1) := by decide +kernel
theorem d_Plugs_volumeTimesWarmth_6 : decode b_Plugs_volumeTimesWarmth 6 = .ok (.getfield 24, 3) := by decide +kernel
theorem d_Plugs_volumeTimesWarmth_9 : decode b_Plugs_volumeTimesWarmth 9 = .ok (.if_icmp .ge 27, 3) := by decide +kernel
theorem d_Plugs_volumeTimesWarmth_12 : decode b_Plugs_volumeTimesWarmth 12 = .ok (.lload_n 1, 1) := by decide +kernel
theorem d_Plugs_volumeTimesWarmth_13 : decode b_Plugs_volumeTimesWarmth 13 = .ok (.aload_n 0, 1) := by decide +kernel
theorem d_Plugs_volumeTimesWarmth_14 : decode b_Plugs_volumeTimesWarmth 14 = .ok (.getfield 15, 3) := by decide +kernel
theorem d_Plugs_volumeTimesWarmth_17 : decode b_Plugs_volumeTimesWarmth 17 = .ok (.iload_n 3, 1) := by decide +kernel
theorem d_Plugs_volumeTimesWarmth_18 : decode b_Plugs_volumeTimesWarmth 18 = .ok (.iaload, 1) := by decide +kernel
theorem d_Plugs_volumeTimesWarmth_19 : decode b_Plugs_volumeTimesWarmth 19 = .ok (.i2l, 1) := by decide +kernel
theorem d_Plugs_volumeTimesWarmth_20 : decode b_Plugs_volumeTimesWarmth 20 = .ok (.aload_n 0, 1) := by decide +kernel
theorem d_Plugs_volumeTimesWarmth_21 : decode b_Plugs_volumeTimesWarmth 21 = .ok (.getfield 21, 3) := by decide +kernel
theorem d_Plugs_volumeTimesWarmth_24 : decode b_Plugs_volumeTimesWarmth 24 = .ok (.iload_n 3, 1) := by decide +kernel
theorem d_Plugs_volumeTimesWarmth_25 : decode b_Plugs_volumeTimesWarmth 25 = .ok (.iaload, 1) := by decide +kernel
theorem d_Plugs_volumeTimesWarmth_26 : decode b_Plugs_volumeTimesWarmth 26 = .ok (.i2l, 1) := by decide +kernel
theorem d_Plugs_volumeTimesWarmth_27 : decode b_Plugs_volumeTimesWarmth 27 = .ok (.lmul, 1) := by decide +kernel
theorem d_Plugs_volumeTimesWarmth_28 : decode b_Plugs_volumeTimesWarmth 28 = .ok (.ladd, 1) := by decide +kernel
theorem d_Plugs_volumeTimesWarmth_29 : decode b_Plugs_volumeTimesWarmth 29 = .ok (.lstore_n 1, 1) := by decide +kernel
theorem d_Plugs_volumeTimesWarmth_30 : decode b_Plugs_volumeTimesWarmth 30 = .ok (.iinc 3 1, 3) := by decide +kernel
theorem d_Plugs_volumeTimesWarmth_33 : decode b_Plugs_volumeTimesWarmth 33 = .ok (.goto (-29), 3) := by decide +kernel
theorem d_Plugs_volumeTimesWarmth_36 : decode b_Plugs_volumeTimesWarmth 36 = .ok (.lload_n 1, 1) := by decide +kernel
theorem d_Plugs_volumeTimesWarmth_37 : decode b_Plugs_volumeTimesWarmth 37 = .ok (.lreturn, 1) := by decide +kernel
theorem d_Plugs_least_0 : decode b_Plugs_least 0 = .ok (.sipush 10000, 3) := by decide +kernel
theorem d_Plugs_least_3 : decode b_Plugs_least 3 = .ok (.istore_n 1, 1) := by decide +kernel
theorem d_Plugs_least_4 : decode b_Plugs_least 4 = .ok (.iconst 0, 1) := by decide +kernel
theorem d_Plugs_least_5 : decode b_Plugs_least 5 = .ok (.istore_n 2, 1) := by decide +kernel
theorem d_Plugs_least_6 : decode b_Plugs_least 6 = .ok (.iload_n 2, 1) := by decide +kernel
theorem d_Plugs_least_7 : decode b_Plugs_least 7 = .ok (.aload_n 0, 1) := by decide +kernel
theorem d_Plugs_least_8 : decode b_Plugs_least 8 = .ok (.getfield 24, 3) := by decide +kernel
theorem d_Plugs_least_11 : decode b_Plugs_least 11 = .ok (.if_icmp .ge 20, 3) := by decide +kernel
theorem d_Plugs_least_14 : decode b_Plugs_least 14 = .ok (.iload_n 1, 1) := by decide +kernel
theorem d_Plugs_least_15 : decode b_Plugs_least 15 = .ok (.aload_n 0, 1) := by decide +kernel
theorem d_Plugs_least_16 : decode b_Plugs_least 16 = .ok (.getfield 21, 3) := by decide +kernel
theorem d_Plugs_least_19 : decode b_Plugs_least 19 = .ok (.iload_n 2, 1) := by decide +kernel
theorem d_Plugs_least_20 : decode b_Plugs_least 20 = .ok (.iaload, 1) := by decide +kernel
theorem d_Plugs_least_21 : decode b_Plugs_least 21 = .ok (.invokestatic 35, 3) := by decide +kernel
theorem d_Plugs_least_24 : decode b_Plugs_least 24 = .ok (.istore_n 1, 1) := by decide +kernel
theorem d_Plugs_least_25 : decode b_Plugs_least 25 = .ok (.iinc 2 1, 3) := by decide +kernel
theorem d_Plugs_least_28 : decode b_Plugs_least 28 = .ok (.goto (-22), 3) := by decide +kernel
theorem d_Plugs_least_31 : decode b_Plugs_least 31 = .ok (.iload_n 1, 1) := by decide +kernel
theorem d_Plugs_least_32 : decode b_Plugs_least 32 = .ok (.ireturn, 1) := by decide +kernel
theorem d_Plugs_greatest_0 : decode b_Plugs_greatest 0 = .ok (.iconst 0, 1) := by decide +kernel
theorem d_Plugs_greatest_1 : decode b_Plugs_greatest 1 = .ok (.istore_n 1, 1) := by decide +kernel
theorem d_Plugs_greatest_2 : decode b_Plugs_greatest 2 = .ok (.iconst 0, 1) := by decide +kernel
theorem d_Plugs_greatest_3 : decode b_Plugs_greatest 3 = .ok (.istore_n 2, 1) := by decide +kernel
theorem d_Plugs_greatest_4 : decode b_Plugs_greatest 4 = .ok (.iload_n 2, 1) := by decide +kernel
theorem d_Plugs_greatest_5 : decode b_Plugs_greatest 5 = .ok (.aload_n 0, 1) := by decide +kernel
theorem d_Plugs_greatest_6 : decode b_Plugs_greatest 6 = .ok (.getfield 24, 3) := by decide +kernel
theorem d_Plugs_greatest_9 : decode b_Plugs_greatest 9 = .ok (.if_icmp .ge 20, 3) := by decide +kernel
theorem d_Plugs_greatest_12 : decode b_Plugs_greatest 12 = .ok (.iload_n 1, 1) := by decide +kernel
theorem d_Plugs_greatest_13 : decode b_Plugs_greatest 13 = .ok (.aload_n 0, 1) := by decide +kernel
theorem d_Plugs_greatest_14 : decode b_Plugs_greatest 14 = .ok (.getfield 21, 3) := by decide +kernel
theorem d_Plugs_greatest_17 : decode b_Plugs_greatest 17 = .ok (.iload_n 2, 1) := by decide +kernel
theorem d_Plugs_greatest_18 : decode b_Plugs_greatest 18 = .ok (.iaload, 1) := by decide +kernel
theorem d_Plugs_greatest_19 : decode b_Plugs_greatest 19 = .ok (.invokestatic 9, 3) := by decide +kernel
theorem d_Plugs_greatest_22 : decode b_Plugs_greatest 22 = .ok (.istore_n 1, 1) := by decide +kernel
theorem d_Plugs_greatest_23 : decode b_Plugs_greatest 23 = .ok (.iinc 2 1, 3) := by decide +kernel
theorem d_Plugs_greatest_26 : decode b_Plugs_greatest 26 = .ok (.goto (-22), 3) := by decide +kernel
theorem d_Plugs_greatest_29 : decode b_Plugs_greatest 29 = .ok (.iload_n 1, 1) := by decide +kernel
theorem d_Plugs_greatest_30 : decode b_Plugs_greatest 30 = .ok (.ireturn, 1) := by decide +kernel
end
section
theorem d_Net_init_0 : decode b_Net_init 0 = .ok (.aload_n 0, 1) := by decide +kernel
theorem d_Net_init_1 : decode b_Net_init 1 = .ok (.invokespecial 3, 3) := by decide +kernel
theorem d_Net_init_4 : decode b_Net_init 4 = .ok (.aload_n 0, 1) := by decide +kernel
theorem d_Net_init_5 : decode b_Net_init 5 = .ok (.bipush 10, 2) := by decide +kernel
theorem d_Net_init_7 : decode b_Net_init 7 = .ok (.newarray .int, 2) := by decide +kernel
theorem d_Net_init_9 : decode b_Net_init 9 = .ok (.putfield 9, 3) := by decide +kernel
theorem d_Net_init_12 : decode b_Net_init 12 = .ok (.aload_n 0, 1) := by decide +kernel
theorem d_Net_init_13 : decode b_Net_init 13 = .ok (.bipush 10, 2) := by decide +kernel
theorem d_Net_init_15 : decode b_Net_init 15 = .ok (.newarray .int, 2) := by decide +kernel
theorem d_Net_init_17 : decode b_Net_init 17 = .ok (.putfield 15, 3) := by decide +kernel
theorem d_Net_init_20 : decode b_Net_init 20 = .ok (.aload_n 0, 1) := by decide +kernel
theorem d_Net_init_21 : decode b_Net_init 21 = .ok (.bipush 10, 2) := by decide +kernel
theorem d_Net_init_23 : decode b_Net_init 23 = .ok (.newarray .int, 2) := by decide +kernel
theorem d_Net_init_25 : decode b_Net_init 25 = .ok (.putfield 18, 3) := by decide +kernel
theorem d_Net_init_28 : decode b_Net_init 28 = .ok (.aload_n 0, 1) := by decide +kernel
theorem d_Net_init_29 : decode b_Net_init 29 = .ok (.bipush 10, 2) := by decide +kernel
theorem d_Net_init_31 : decode b_Net_init 31 = .ok (.newarray .int, 2) := by decide +kernel
theorem d_Net_init_33 : decode b_Net_init 33 = .ok (.putfield 21, 3) := by decide +kernel
theorem d_Net_init_36 : decode b_Net_init 36 = .ok (.aload_n 0, 1) := by decide +kernel
theorem d_Net_init_37 : decode b_Net_init 37 = .ok (.bipush 10, 2) := by decide +kernel
theorem d_Net_init_39 : decode b_Net_init 39 = .ok (.newarray .boolean, 2) := by decide +kernel
theorem d_Net_init_41 : decode b_Net_init 41 = .ok (.putfield 24, 3) := by decide +kernel
theorem d_Net_init_44 : decode b_Net_init 44 = .ok (.return_, 1) := by decide +kernel
theorem d_Net_add_0 : decode b_Net_add 0 = .ok (.aload_n 0, 1) := by decide +kernel
theorem d_Net_add_1 : decode b_Net_add 1 = .ok (.getfield 28, 3) := by decide +kernel
theorem d_Net_add_4 : decode b_Net_add 4 = .ok (.bipush 10, 2) := by decide +kernel
theorem d_Net_add_6 : decode b_Net_add 6 = .ok (.if_icmp .lt 5, 3) := by decide +kernel
theorem d_Net_add_9 : decode b_Net_add 9 = .ok (.iconst (-1), 1) := by decide +kernel
theorem d_Net_add_10 : decode b_Net_add 10 = .ok (.ireturn, 1) := by decide +kernel
theorem d_Net_add_11 : decode b_Net_add 11 = .ok (.aload_n 0, 1) := by decide +kernel
theorem d_Net_add_12 : decode b_Net_add 12 = .ok (.getfield 9, 3) := by decide +kernel
theorem d_Net_add_15 : decode b_Net_add 15 = .ok (.aload_n 0, 1) := by decide +kernel
theorem d_Net_add_16 : decode b_Net_add 16 = .ok (.getfield 28, 3) := by decide +kernel
theorem d_Net_add_19 : decode b_Net_add 19 = .ok (.iload_n 1, 1) := by decide +kernel
theorem d_Net_add_20 : decode b_Net_add 20 = .ok (.iastore, 1) := by decide +kernel
theorem d_Net_add_21 : decode b_Net_add 21 = .ok (.aload_n 0, 1) := by decide +kernel
theorem d_Net_add_22 : decode b_Net_add 22 = .ok (.getfield 15, 3) := by decide +kernel
theorem d_Net_add_25 : decode b_Net_add 25 = .ok (.aload_n 0, 1) := by decide +kernel
theorem d_Net_add_26 : decode b_Net_add 26 = .ok (.getfield 28, 3) := by decide +kernel
theorem d_Net_add_29 : decode b_Net_add 29 = .ok (.iload_n 2, 1) := by decide +kernel
theorem d_Net_add_30 : decode b_Net_add 30 = .ok (.iastore, 1) := by decide +kernel
theorem d_Net_add_31 : decode b_Net_add 31 = .ok (.aload_n 0, 1) := by decide +kernel
theorem d_Net_add_32 : decode b_Net_add 32 = .ok (.getfield 18, 3) := by decide +kernel
theorem d_Net_add_35 : decode b_Net_add 35 = .ok (.aload_n 0, 1) := by decide +kernel
theorem d_Net_add_36 : decode b_Net_add 36 = .ok (.getfield 28, 3) := by decide +kernel
theorem d_Net_add_39 : decode b_Net_add 39 = .ok (.iload_n 3, 1) := by decide +kernel
theorem d_Net_add_40 : decode b_Net_add 40 = .ok (.iastore, 1) := by decide +kernel
theorem d_Net_add_41 : decode b_Net_add 41 = .ok (.aload_n 0, 1) := by decide +kernel
theorem d_Net_add_42 : decode b_Net_add 42 = .ok (.dup, 1) := by decide +kernel
theorem d_Net_add_43 : decode b_Net_add 43 = .ok (.getfield 28, 3) := by decide +kernel
theorem d_Net_add_46 : decode b_Net_add 46 = .ok (.iconst 1, 1) := by decide +kernel
theorem d_Net_add_47 : decode b_Net_add 47 = .ok (.iadd, 1) := by decide +kernel
theorem d_Net_add_48 : decode b_Net_add 48 = .ok (.putfield 28, 3) := by decide +kernel
theorem d_Net_add_51 : decode b_Net_add 51 = .ok (.aload_n 0, 1) := by decide +kernel
theorem d_Net_add_52 : decode b_Net_add 52 = .ok (.getfield 28, 3) := by decide +kernel
theorem d_Net_add_55 : decode b_Net_add 55 = .ok (.iconst 1, 1) := by decide +kernel
theorem d_Net_add_56 : decode b_Net_add 56 = .ok (.isub, 1) := by decide +kernel
theorem d_Net_add_57 : decode b_Net_add 57 = .ok (.ireturn, 1) := by decide +kernel
end
section
theorem d_Draws_init_0 : decode b_Draws_init 0 = .ok (.aload_n 0, 1) := by decide +kernel
theorem d_Draws_init_1 : decode b_Draws_init 1 = .ok (.invokespecial 3, 3) := by decide +kernel
theorem d_Draws_init_4 : decode b_Draws_init 4 = .ok (.aload_n 0, 1) := by decide +kernel
theorem d_Draws_init_5 : decode b_Draws_init 5 = .ok (.bipush 60, 2) := by decide +kernel
theorem d_Draws_init_7 : decode b_Draws_init 7 = .ok (.newarray .int, 2) := by decide +kernel
theorem d_Draws_init_9 : decode b_Draws_init 9 = .ok (.putfield 9, 3) := by decide +kernel
theorem d_Draws_init_12 : decode b_Draws_init 12 = .ok (.aload_n 0, 1) := by decide +kernel
theorem d_Draws_init_13 : decode b_Draws_init 13 = .ok (.bipush 60, 2) := by decide +kernel
theorem d_Draws_init_15 : decode b_Draws_init 15 = .ok (.newarray .int, 2) := by decide +kernel
theorem d_Draws_init_17 : decode b_Draws_init 17 = .ok (.putfield 15, 3) := by decide +kernel
theorem d_Draws_init_20 : decode b_Draws_init 20 = .ok (.aload_n 0, 1) := by decide +kernel
theorem d_Draws_init_21 : decode b_Draws_init 21 = .ok (.bipush 60, 2) := by decide +kernel
theorem d_Draws_init_23 : decode b_Draws_init 23 = .ok (.newarray .int, 2) := by decide +kernel
theorem d_Draws_init_25 : decode b_Draws_init 25 = .ok (.putfield 18, 3) := by decide +kernel
theorem d_Draws_init_28 : decode b_Draws_init 28 = .ok (.aload_n 0, 1) := by decide +kernel
theorem d_Draws_init_29 : decode b_Draws_init 29 = .ok (.bipush 60, 2) := by decide +kernel
theorem d_Draws_init_31 : decode b_Draws_init 31 = .ok (.newarray .int, 2) := by decide +kernel
theorem d_Draws_init_33 : decode b_Draws_init 33 = .ok (.putfield 21, 3) := by decide +kernel
theorem d_Draws_init_36 : decode b_Draws_init 36 = .ok (.aload_n 0, 1) := by decide +kernel
theorem d_Draws_init_37 : decode b_Draws_init 37 = .ok (.bipush 60, 2) := by decide +kernel
theorem d_Draws_init_39 : decode b_Draws_init 39 = .ok (.newarray .int, 2) := by decide +kernel
theorem d_Draws_init_41 : decode b_Draws_init 41 = .ok (.putfield 24, 3) := by decide +kernel
theorem d_Draws_init_44 : decode b_Draws_init 44 = .ok (.aload_n 0, 1) := by decide +kernel
theorem d_Draws_init_45 : decode b_Draws_init 45 = .ok (.bipush 60, 2) := by decide +kernel
theorem d_Draws_init_47 : decode b_Draws_init 47 = .ok (.newarray .int, 2) := by decide +kernel
theorem d_Draws_init_49 : decode b_Draws_init 49 = .ok (.putfield 27, 3) := by decide +kernel
theorem d_Draws_init_52 : decode b_Draws_init 52 = .ok (.return_, 1) := by decide +kernel
theorem d_Draws_add_0 : decode b_Draws_add 0 = .ok (.aload_n 0, 1) := by decide +kernel
theorem d_Draws_add_1 : decode b_Draws_add 1 = .ok (.getfield 30, 3) := by decide +kernel
theorem d_Draws_add_4 : decode b_Draws_add 4 = .ok (.bipush 60, 2) := by decide +kernel
theorem d_Draws_add_6 : decode b_Draws_add 6 = .ok (.if_icmp .lt 5, 3) := by decide +kernel
theorem d_Draws_add_9 : decode b_Draws_add 9 = .ok (.iconst (-1), 1) := by decide +kernel
theorem d_Draws_add_10 : decode b_Draws_add 10 = .ok (.ireturn, 1) := by decide +kernel
theorem d_Draws_add_11 : decode b_Draws_add 11 = .ok (.aload_n 0, 1) := by decide +kernel
theorem d_Draws_add_12 : decode b_Draws_add 12 = .ok (.getfield 9, 3) := by decide +kernel
theorem d_Draws_add_15 : decode b_Draws_add 15 = .ok (.aload_n 0, 1) := by decide +kernel
theorem d_Draws_add_16 : decode b_Draws_add 16 = .ok (.getfield 30, 3) := by decide +kernel
theorem d_Draws_add_19 : decode b_Draws_add 19 = .ok (.iload_n 1, 1) := by decide +kernel
theorem d_Draws_add_20 : decode b_Draws_add 20 = .ok (.iastore, 1) := by decide +kernel
theorem d_Draws_add_21 : decode b_Draws_add 21 = .ok (.aload_n 0, 1) := by decide +kernel
theorem d_Draws_add_22 : decode b_Draws_add 22 = .ok (.getfield 15, 3) := by decide +kernel
theorem d_Draws_add_25 : decode b_Draws_add 25 = .ok (.aload_n 0, 1) := by decide +kernel
theorem d_Draws_add_26 : decode b_Draws_add 26 = .ok (.getfield 30, 3) := by decide +kernel
theorem d_Draws_add_29 : decode b_Draws_add 29 = .ok (.iload_n 2, 1) := by decide +kernel
theorem d_Draws_add_30 : decode b_Draws_add 30 = .ok (.iastore, 1) := by decide +kernel
theorem d_Draws_add_31 : decode b_Draws_add 31 = .ok (.aload_n 0, 1) := by decide +kernel
theorem d_Draws_add_32 : decode b_Draws_add 32 = .ok (.getfield 18, 3) := by decide +kernel
theorem d_Draws_add_35 : decode b_Draws_add 35 = .ok (.aload_n 0, 1) := by decide +kernel
theorem d_Draws_add_36 : decode b_Draws_add 36 = .ok (.getfield 30, 3) := by decide +kernel
theorem d_Draws_add_39 : decode b_Draws_add 39 = .ok (.iload_n 3, 1) := by decide +kernel
theorem d_Draws_add_40 : decode b_Draws_add 40 = .ok (.iastore, 1) := by decide +kernel
theorem d_Draws_add_41 : decode b_Draws_add 41 = .ok (.aload_n 0, 1) := by decide +kernel
theorem d_Draws_add_42 : decode b_Draws_add 42 = .ok (.dup, 1) := by decide +kernel
theorem d_Draws_add_43 : decode b_Draws_add 43 = .ok (.getfield 30, 3) := by decide +kernel
theorem d_Draws_add_46 : decode b_Draws_add 46 = .ok (.iconst 1, 1) := by decide +kernel
theorem d_Draws_add_47 : decode b_Draws_add 47 = .ok (.iadd, 1) := by decide +kernel
theorem d_Draws_add_48 : decode b_Draws_add 48 = .ok (.putfield 30, 3) := by decide +kernel
theorem d_Draws_add_51 : decode b_Draws_add 51 = .ok (.aload_n 0, 1) := by decide +kernel
theorem d_Draws_add_52 : decode b_Draws_add 52 = .ok (.getfield 30, 3) := by decide +kernel
theorem d_Draws_add_55 : decode b_Draws_add 55 = .ok (.iconst 1, 1) := by decide +kernel
theorem d_Draws_add_56 : decode b_Draws_add 56 = .ok (.isub, 1) := by decide +kernel
theorem d_Draws_add_57 : decode b_Draws_add 57 = .ok (.ireturn, 1) := by decide +kernel
theorem d_Draws_keepAnswer_0 : decode b_Draws_keepAnswer 0 = .ok (.iload_n 1, 1) := by decide +kernel
theorem d_Draws_keepAnswer_1 : decode b_Draws_keepAnswer 1 = .ok (.ifCond .lt 11, 3) := by decide +kernel
theorem d_Draws_keepAnswer_4 : decode b_Draws_keepAnswer 4 = .ok (.iload_n 1, 1) := by decide +kernel
theorem d_Draws_keepAnswer_5 : decode b_Draws_keepAnswer 5 = .ok (.aload_n 0, 1) := by decide +kernel
theorem d_Draws_keepAnswer_6 : decode b_Draws_keepAnswer 6 = .ok (.getfield 30, 3) := by decide +kernel
theorem d_Draws_keepAnswer_9 : decode b_Draws_keepAnswer 9 = .ok (.if_icmp .lt 4, 3) := by decide +kernel
theorem d_Draws_keepAnswer_12 : decode b_Draws_keepAnswer 12 = .ok (.return_, 1) := by decide +kernel
theorem d_Draws_keepAnswer_13 : decode b_Draws_keepAnswer 13 = .ok (.aload_n 0, 1) := by decide +kernel
theorem d_Draws_keepAnswer_14 : decode b_Draws_keepAnswer 14 = .ok (.getfield 21, 3) := by decide +kernel
theorem d_Draws_keepAnswer_17 : decode b_Draws_keepAnswer 17 = .ok (.iload_n 1, 1) := by decide +kernel
theorem d_Draws_keepAnswer_18 : decode b_Draws_keepAnswer 18 = .ok (.aload_n 2, 1) := by decide +kernel
theorem d_Draws_keepAnswer_19 : decode b_Draws_keepAnswer 19 = .ok (.invokevirtual 34, 3) := by decide +kernel
theorem d_Draws_keepAnswer_22 : decode b_Draws_keepAnswer 22 = .ok (.iconst 1, 1) := by decide +kernel
theorem d_Draws_keepAnswer_23 : decode b_Draws_keepAnswer 23 = .ok (.aload_n 0, 1) := by decide +kernel
theorem d_Draws_keepAnswer_24 : decode b_Draws_keepAnswer 24 = .ok (.getfield 18, 3) := by decide +kernel
theorem d_Draws_keepAnswer_27 : decode b_Draws_keepAnswer 27 = .ok (.iload_n 1, 1) := by decide +kernel
theorem d_Draws_keepAnswer_28 : decode b_Draws_keepAnswer 28 = .ok (.iaload, 1) := by decide +kernel
theorem d_Draws_keepAnswer_29 : decode b_Draws_keepAnswer 29 = .ok (.invokestatic 40, 3) := by decide +kernel
theorem d_Draws_keepAnswer_32 : decode b_Draws_keepAnswer 32 = .ok (.i2l, 1) := by decide +kernel
theorem d_Draws_keepAnswer_33 : decode b_Draws_keepAnswer 33 = .ok (.ldiv, 1) := by decide +kernel
theorem d_Draws_keepAnswer_34 : decode b_Draws_keepAnswer 34 = .ok (.l2i, 1) := by decide +kernel
theorem d_Draws_keepAnswer_35 : decode b_Draws_keepAnswer 35 = .ok (.iastore, 1) := by decide +kernel
theorem d_Draws_keepAnswer_36 : decode b_Draws_keepAnswer 36 = .ok (.aload_n 0, 1) := by decide +kernel
theorem d_Draws_keepAnswer_37 : decode b_Draws_keepAnswer 37 = .ok (.getfield 24, 3) := by decide +kernel
theorem d_Draws_keepAnswer_40 : decode b_Draws_keepAnswer 40 = .ok (.iload_n 1, 1) := by decide +kernel
theorem d_Draws_keepAnswer_41 : decode b_Draws_keepAnswer 41 = .ok (.aload_n 2, 1) := by decide +kernel
theorem d_Draws_keepAnswer_42 : decode b_Draws_keepAnswer 42 = .ok (.invokevirtual 46, 3) := by decide +kernel
theorem d_Draws_keepAnswer_45 : decode b_Draws_keepAnswer 45 = .ok (.iastore, 1) := by decide +kernel
theorem d_Draws_keepAnswer_46 : decode b_Draws_keepAnswer 46 = .ok (.aload_n 0, 1) := by decide +kernel
theorem d_Draws_keepAnswer_47 : decode b_Draws_keepAnswer 47 = .ok (.getfield 27, 3) := by decide +kernel
theorem d_Draws_keepAnswer_50 : decode b_Draws_keepAnswer 50 = .ok (.iload_n 1, 1) := by decide +kernel
theorem d_Draws_keepAnswer_51 : decode b_Draws_keepAnswer 51 = .ok (.aload_n 2, 1) := by decide +kernel
theorem d_Draws_keepAnswer_52 : decode b_Draws_keepAnswer 52 = .ok (.invokevirtual 50, 3) := by decide +kernel
theorem d_Draws_keepAnswer_55 : decode b_Draws_keepAnswer 55 = .ok (.iastore, 1) := by decide +kernel
theorem d_Draws_keepAnswer_56 : decode b_Draws_keepAnswer 56 = .ok (.return_, 1) := by decide +kernel
end
section
theorem d_Water_init_0 : decode b_Water_init 0 = .ok (.aload_n 0, 1) := by decide +kernel
theorem d_Water_init_1 : decode b_Water_init 1 = .ok (.invokespecial 3, 3) := by decide +kernel
theorem d_Water_init_4 : decode b_Water_init 4 = .ok (.aload_n 0, 1) := by decide +kernel
theorem d_Water_init_5 : decode b_Water_init 5 = .ok (.bipush 10, 2) := by decide +kernel
theorem d_Water_init_7 : decode b_Water_init 7 = .ok (.anewarray 9, 3) := by decide +kernel
theorem d_Water_init_10 : decode b_Water_init 10 = .ok (.putfield 11, 3) := by decide +kernel
theorem d_Water_init_13 : decode b_Water_init 13 = .ok (.aload_n 0, 1) := by decide +kernel
theorem d_Water_init_14 : decode b_Water_init 14 = .ok (.new 9, 3) := by decide +kernel
theorem d_Water_init_17 : decode b_Water_init 17 = .ok (.dup, 1) := by decide +kernel
theorem d_Water_init_18 : decode b_Water_init 18 = .ok (.bipush 121, 2) := by decide +kernel
theorem d_Water_init_20 : decode b_Water_init 20 = .ok (.invokespecial 17, 3) := by decide +kernel
theorem d_Water_init_23 : decode b_Water_init 23 = .ok (.putfield 20, 3) := by decide +kernel
theorem d_Water_init_26 : decode b_Water_init 26 = .ok (.aload_n 0, 1) := by decide +kernel
theorem d_Water_init_27 : decode b_Water_init 27 = .ok (.new 9, 3) := by decide +kernel
theorem d_Water_init_30 : decode b_Water_init 30 = .ok (.dup, 1) := by decide +kernel
theorem d_Water_init_31 : decode b_Water_init 31 = .ok (.bipush 121, 2) := by decide +kernel
theorem d_Water_init_33 : decode b_Water_init 33 = .ok (.invokespecial 17, 3) := by decide +kernel
theorem d_Water_init_36 : decode b_Water_init 36 = .ok (.putfield 24, 3) := by decide +kernel
theorem d_Water_init_39 : decode b_Water_init 39 = .ok (.aload_n 0, 1) := by decide +kernel
theorem d_Water_init_40 : decode b_Water_init 40 = .ok (.new 9, 3) := by decide +kernel
theorem d_Water_init_43 : decode b_Water_init 43 = .ok (.dup, 1) := by decide +kernel
theorem d_Water_init_44 : decode b_Water_init 44 = .ok (.bipush 121, 2) := by decide +kernel
theorem d_Water_init_46 : decode b_Water_init 46 = .ok (.invokespecial 17, 3) := by decide +kernel
theorem d_Water_init_49 : decode b_Water_init 49 = .ok (.putfield 27, 3) := by decide +kernel
theorem d_Water_init_52 : decode b_Water_init 52 = .ok (.aload_n 0, 1) := by decide +kernel
theorem d_Water_init_53 : decode b_Water_init 53 = .ok (.bipush 10, 2) := by decide +kernel
theorem d_Water_init_55 : decode b_Water_init 55 = .ok (.newarray .int, 2) := by decide +kernel
theorem d_Water_init_57 : decode b_Water_init 57 = .ok (.putfield 30, 3) := by decide +kernel
theorem d_Water_init_60 : decode b_Water_init 60 = .ok (.aload_n 0, 1) := by decide +kernel
theorem d_Water_init_61 : decode b_Water_init 61 = .ok (.bipush 10, 2) := by decide +kernel
theorem d_Water_init_63 : decode b_Water_init 63 = .ok (.newarray .int, 2) := by decide +kernel
theorem d_Water_init_65 : decode b_Water_init 65 = .ok (.putfield 34, 3) := by decide +kernel
theorem d_Water_init_68 : decode b_Water_init 68 = .ok (.aload_n 0, 1) := by decide +kernel
theorem d_Water_init_69 : decode b_Water_init 69 = .ok (.bipush 10, 2) := by decide +kernel
theorem d_Water_init_71 : decode b_Water_init 71 = .ok (.newarray .int, 2) := by decide +kernel
theorem d_Water_init_73 : decode b_Water_init 73 = .ok (.putfield 37, 3) := by decide +kernel
theorem d_Water_init_76 : decode b_Water_init 76 = .ok (.aload_n 0, 1) := by decide +kernel
theorem d_Water_init_77 : decode b_Water_init 77 = .ok (.sipush 6000, 3) := by decide +kernel
theorem d_Water_init_80 : decode b_Water_init 80 = .ok (.putfield 40, 3) := by decide +kernel
theorem d_Water_init_83 : decode b_Water_init 83 = .ok (.aload_n 0, 1) := by decide +kernel
theorem d_Water_init_84 : decode b_Water_init 84 = .ok (.sipush 2000, 3) := by decide +kernel
theorem d_Water_init_87 : decode b_Water_init 87 = .ok (.putfield 44, 3) := by decide +kernel
theorem d_Water_init_90 : decode b_Water_init 90 = .ok (.aload_n 0, 1) := by decide +kernel
theorem d_Water_init_91 : decode b_Water_init 91 = .ok (.aload_n 1, 1) := by decide +kernel
theorem d_Water_init_92 : decode b_Water_init 92 = .ok (.putfield 47, 3) := by decide +kernel
theorem d_Water_init_95 : decode b_Water_init 95 = .ok (.iconst 0, 1) := by decide +kernel
theorem d_Water_init_96 : decode b_Water_init 96 = .ok (.istore_n 2, 1) := by decide +kernel
theorem d_Water_init_97 : decode b_Water_init 97 = .ok (.iload_n 2, 1) := by decide +kernel
theorem d_Water_init_98 : decode b_Water_init 98 = .ok (.bipush 10, 2) := by decide +kernel
theorem d_Water_init_100 : decode b_Water_init 100 = .ok (.if_icmp .ge 31, 3) := by decide +kernel
theorem d_Water_init_103 : decode b_Water_init 103 = .ok (.aload_n 0, 1) := by decide +kernel
theorem d_Water_init_104 : decode b_Water_init 104 = .ok (.getfield 11, 3) := by decide +kernel
theorem d_Water_init_107 : decode b_Water_init 107 = .ok (.iload_n 2, 1) := by decide +kernel
theorem d_Water_init_108 : decode b_Water_init 108 = .ok (.new 9, 3) := by decide +kernel
theorem d_Water_init_111 : decode b_Water_init 111 = .ok (.dup, 1) := by decide +kernel
theorem d_Water_init_112 : decode b_Water_init 112 = .ok (.bipush 12, 2) := by decide +kernel
theorem d_Water_init_114 : decode b_Water_init 114 = .ok (.invokespecial 17, 3) := by decide +kernel
theorem d_Water_init_117 : decode b_Water_init 117 = .ok (.aastore, 1) := by decide +kernel
theorem d_Water_init_118 : decode b_Water_init 118 = .ok (.aload_n 0, 1) := by decide +kernel
theorem d_Water_init_119 : decode b_Water_init 119 = .ok (.getfield 34, 3) := by decide +kernel
theorem d_Water_init_122 : decode b_Water_init 122 = .ok (.iload_n 2, 1) := by decide +kernel
theorem d_Water_init_123 : decode b_Water_init 123 = .ok (.iconst (-1), 1) := by decide +kernel
theorem d_Water_init_124 : decode b_Water_init 124 = .ok (.iastore, 1) := by decide +kernel
theorem d_Water_init_125 : decode b_Water_init 125 = .ok (.iinc 2 1, 3) := by decide +kernel
theorem d_Water_init_128 : decode b_Water_init 128 = .ok (.goto (-31), 3) := by decide +kernel
theorem d_Water_init_131 : decode b_Water_init 131 = .ok (.return_, 1) := by decide +kernel
theorem d_Water_copyFrom_0 : decode b_Water_copyFrom 0 = .ok (.iconst 0, 1) := by decide +kernel
theorem d_Water_copyFrom_1 : decode b_Water_copyFrom 1 = .ok (.istore_n 2, 1) := by decide +kernel
theorem d_Water_copyFrom_2 : decode b_Water_copyFrom 2 = .ok (.iload_n 2, 1) := by decide +kernel
theorem d_Water_copyFrom_3 : decode b_Water_copyFrom 3 = .ok (.aload_n 0, 1) := by decide +kernel
theorem d_Water_copyFrom_4 : decode b_Water_copyFrom 4 = .ok (.getfield 47, 3) := by decide +kernel
theorem d_Water_copyFrom_7 : decode b_Water_copyFrom 7 = .ok (.getfield 51, 3) := by decide +kernel
theorem d_Water_copyFrom_10 : decode b_Water_copyFrom 10 = .ok (.if_icmp .ge 33, 3) := by decide +kernel
theorem d_Water_copyFrom_13 : decode b_Water_copyFrom 13 = .ok (.aload_n 0, 1) := by decide +kernel
theorem d_Water_copyFrom_14 : decode b_Water_copyFrom 14 = .ok (.getfield 11, 3) := by decide +kernel
theorem d_Water_copyFrom_17 : decode b_Water_copyFrom 17 = .ok (.iload_n 2, 1) := by decide +kernel
theorem d_Water_copyFrom_18 : decode b_Water_copyFrom 18 = .ok (.aaload, 1) := by decide +kernel
theorem d_Water_copyFrom_19 : decode b_Water_copyFrom 19 = .ok (.invokevirtual 56, 3) := by decide +kernel
theorem d_Water_copyFrom_22 : decode b_Water_copyFrom 22 = .ok (.aload_n 0, 1) := by decide +kernel
theorem d_Water_copyFrom_23 : decode b_Water_copyFrom 23 = .ok (.getfield 11, 3) := by decide +kernel
theorem d_Water_copyFrom_26 : decode b_Water_copyFrom 26 = .ok (.iload_n 2, 1) := by decide +kernel
theorem d_Water_copyFrom_27 : decode b_Water_copyFrom 27 = .ok (.aaload, 1) := by decide +kernel
theorem d_Water_copyFrom_28 : decode b_Water_copyFrom 28 = .ok (.aload_n 1, 1) := by decide +kernel
theorem d_Water_copyFrom_29 : decode b_Water_copyFrom 29 = .ok (.getfield 11, 3) := by decide +kernel
theorem d_Water_copyFrom_32 : decode b_Water_copyFrom 32 = .ok (.iload_n 2, 1) := by decide +kernel
theorem d_Water_copyFrom_33 : decode b_Water_copyFrom 33 = .ok (.aaload, 1) := by decide +kernel
theorem d_Water_copyFrom_34 : decode b_Water_copyFrom 34 = .ok (.invokevirtual 59, 3) := by decide +kernel
theorem d_Water_copyFrom_37 : decode b_Water_copyFrom 37 = .ok (.iinc 2 1, 3) := by decide +kernel
theorem d_Water_copyFrom_40 : decode b_Water_copyFrom 40 = .ok (.goto (-38), 3) := by decide +kernel
theorem d_Water_copyFrom_43 : decode b_Water_copyFrom 43 = .ok (.aload_n 0, 1) := by decide +kernel
theorem d_Water_copyFrom_44 : decode b_Water_copyFrom 44 = .ok (.aload_n 1, 1) := by decide +kernel
theorem d_Water_copyFrom_45 : decode b_Water_copyFrom 45 = .ok (.getfield 44, 3) := by decide +kernel
theorem d_Water_copyFrom_48 : decode b_Water_copyFrom 48 = .ok (.putfield 44, 3) := by decide +kernel
theorem d_Water_copyFrom_51 : decode b_Water_copyFrom 51 = .ok (.return_, 1) := by decide +kernel
theorem d_Water_changeHeat_0 : decode b_Water_changeHeat 0 = .ok (.aload_n 0, 1) := by decide +kernel
theorem d_Water_changeHeat_1 : decode b_Water_changeHeat 1 = .ok (.getfield 40, 3) := by decide +kernel
theorem d_Water_changeHeat_4 : decode b_Water_changeHeat 4 = .ok (.istore_n 2, 1) := by decide +kernel
theorem d_Water_changeHeat_5 : decode b_Water_changeHeat 5 = .ok (.aload_n 0, 1) := by decide +kernel
theorem d_Water_changeHeat_6 : decode b_Water_changeHeat 6 = .ok (.iload_n 1, 1) := by decide +kernel
theorem d_Water_changeHeat_7 : decode b_Water_changeHeat 7 = .ok (.putfield 40, 3) := by decide +kernel
theorem d_Water_changeHeat_10 : decode b_Water_changeHeat 10 = .ok (.iload_n 2, 1) := by decide +kernel
theorem d_Water_changeHeat_11 : decode b_Water_changeHeat 11 = .ok (.ireturn, 1) := by decide +kernel
theorem d_Water_changeAir_0 : decode b_Water_changeAir 0 = .ok (.aload_n 0, 1) := by decide +kernel
theorem d_Water_changeAir_1 : decode b_Water_changeAir 1 = .ok (.getfield 44, 3) := by decide +kernel
theorem d_Water_changeAir_4 : decode b_Water_changeAir 4 = .ok (.istore_n 2, 1) := by decide +kernel
theorem d_Water_changeAir_5 : decode b_Water_changeAir 5 = .ok (.aload_n 0, 1) := by decide +kernel
theorem d_Water_changeAir_6 : decode b_Water_changeAir 6 = .ok (.iload_n 1, 1) := by decide +kernel
theorem d_Water_changeAir_7 : decode b_Water_changeAir 7 = .ok (.putfield 44, 3) := by decide +kernel
theorem d_Water_changeAir_10 : decode b_Water_changeAir 10 = .ok (.aload_n 0, 1) := by decide +kernel
theorem d_Water_changeAir_11 : decode b_Water_changeAir 11 = .ok (.getfield 63, 3) := by decide +kernel
theorem d_Water_changeAir_14 : decode b_Water_changeAir 14 = .ok (.ifCond .ne 27, 3) := by decide +kernel
theorem d_Water_changeAir_17 : decode b_Water_changeAir 17 = .ok (.iconst 0, 1) := by decide +kernel
theorem d_Water_changeAir_18 : decode b_Water_changeAir 18 = .ok (.istore_n 3, 1) := by decide +kernel
theorem d_Water_changeAir_19 : decode b_Water_changeAir 19 = .ok (.iload_n 3, 1) := by decide +kernel
theorem d_Water_changeAir_20 : decode b_Water_changeAir 20 = .ok (.aload_n 0, 1) := by decide +kernel
theorem d_Water_changeAir_21 : decode b_Water_changeAir 21 = .ok (.getfield 47, 3) := by decide +kernel
theorem d_Water_changeAir_24 : decode b_Water_changeAir 24 = .ok (.getfield 51, 3) := by decide +kernel
theorem d_Water_changeAir_27 : decode b_Water_changeAir 27 = .ok (.if_icmp .ge 14, 3) := by decide +kernel
theorem d_Water_changeAir_30 : decode b_Water_changeAir 30 = .ok (.aload_n 0, 1) := by decide +kernel
theorem d_Water_changeAir_31 : decode b_Water_changeAir 31 = .ok (.iload_n 3, 1) := by decide +kernel
theorem d_Water_changeAir_32 : decode b_Water_changeAir 32 = .ok (.invokevirtual 66, 3) := by decide +kernel
theorem d_Water_changeAir_35 : decode b_Water_changeAir 35 = .ok (.iinc 3 1, 3) := by decide +kernel
theorem d_Water_changeAir_38 : decode b_Water_changeAir 38 = .ok (.goto (-19), 3) := by decide +kernel
theorem d_Water_changeAir_41 : decode b_Water_changeAir 41 = .ok (.iload_n 2, 1) := by decide +kernel
theorem d_Water_changeAir_42 : decode b_Water_changeAir 42 = .ok (.ireturn, 1) := by decide +kernel
theorem d_Water_fillWithAir_0 : decode b_Water_fillWithAir 0 = .ok (.iload_n 1, 1) := by decide +kernel
theorem d_Water_fillWithAir_1 : decode b_Water_fillWithAir 1 = .ok (.ifCond .lt 45, 3) := by decide +kernel
theorem d_Water_fillWithAir_4 : decode b_Water_fillWithAir 4 = .ok (.iload_n 1, 1) := by decide +kernel
theorem d_Water_fillWithAir_5 : decode b_Water_fillWithAir 5 = .ok (.aload_n 0, 1) := by decide +kernel
theorem d_Water_fillWithAir_6 : decode b_Water_fillWithAir 6 = .ok (.getfield 47, 3) := by decide +kernel
theorem d_Water_fillWithAir_9 : decode b_Water_fillWithAir 9 = .ok (.getfield 51, 3) := by decide +kernel
theorem d_Water_fillWithAir_12 : decode b_Water_fillWithAir 12 = .ok (.if_icmp .ge 34, 3) := by decide +kernel
theorem d_Water_fillWithAir_15 : decode b_Water_fillWithAir 15 = .ok (.aload_n 0, 1) := by decide +kernel
theorem d_Water_fillWithAir_16 : decode b_Water_fillWithAir 16 = .ok (.getfield 11, 3) := by decide +kernel
theorem d_Water_fillWithAir_19 : decode b_Water_fillWithAir 19 = .ok (.iload_n 1, 1) := by decide +kernel
theorem d_Water_fillWithAir_20 : decode b_Water_fillWithAir 20 = .ok (.aaload, 1) := by decide +kernel
theorem d_Water_fillWithAir_21 : decode b_Water_fillWithAir 21 = .ok (.invokevirtual 56, 3) := by decide +kernel
theorem d_Water_fillWithAir_24 : decode b_Water_fillWithAir 24 = .ok (.aload_n 0, 1) := by decide +kernel
theorem d_Water_fillWithAir_25 : decode b_Water_fillWithAir 25 = .ok (.getfield 11, 3) := by decide +kernel
theorem d_Water_fillWithAir_28 : decode b_Water_fillWithAir 28 = .ok (.iload_n 1, 1) := by decide +kernel
theorem d_Water_fillWithAir_29 : decode b_Water_fillWithAir 29 = .ok (.aaload, 1) := by decide +kernel
theorem d_Water_fillWithAir_30 : decode b_Water_fillWithAir 30 = .ok (.aload_n 0, 1) := by decide +kernel
theorem d_Water_fillWithAir_31 : decode b_Water_fillWithAir 31 = .ok (.getfield 47, 3) := by decide +kernel
theorem d_Water_fillWithAir_34 : decode b_Water_fillWithAir 34 = .ok (.getfield 69, 3) := by decide +kernel
theorem d_Water_fillWithAir_37 : decode b_Water_fillWithAir 37 = .ok (.iload_n 1, 1) := by decide +kernel
theorem d_Water_fillWithAir_38 : decode b_Water_fillWithAir 38 = .ok (.iaload, 1) := by decide +kernel
theorem d_Water_fillWithAir_39 : decode b_Water_fillWithAir 39 = .ok (.aload_n 0, 1) := by decide +kernel
theorem d_Water_fillWithAir_40 : decode b_Water_fillWithAir 40 = .ok (.getfield 44, 3) := by decide +kernel
theorem d_Water_fillWithAir_43 : decode b_Water_fillWithAir 43 = .ok (.invokevirtual 72, 3) := by decide +kernel
theorem d_Water_fillWithAir_46 : decode b_Water_fillWithAir 46 = .ok (.return_, 1) := by decide +kernel
theorem d_Water_takeOut_0 : decode b_Water_takeOut 0 = .ok (.aload_n 0, 1) := by decide +kernel
theorem d_Water_takeOut_1 : decode b_Water_takeOut 1 = .ok (.getfield 20, 3) := by decide +kernel
theorem d_Water_takeOut_4 : decode b_Water_takeOut 4 = .ok (.invokevirtual 56, 3) := by decide +kernel
theorem d_Water_takeOut_7 : decode b_Water_takeOut 7 = .ok (.aload_n 0, 1) := by decide +kernel
theorem d_Water_takeOut_8 : decode b_Water_takeOut 8 = .ok (.getfield 20, 3) := by decide +kernel
theorem d_Water_takeOut_11 : decode b_Water_takeOut 11 = .ok (.iload_n 2, 1) := by decide +kernel
theorem d_Water_takeOut_12 : decode b_Water_takeOut 12 = .ok (.aload_n 0, 1) := by decide +kernel
theorem d_Water_takeOut_13 : decode b_Water_takeOut 13 = .ok (.getfield 40, 3) := by decide +kernel
theorem d_Water_takeOut_16 : decode b_Water_takeOut 16 = .ok (.invokevirtual 72, 3) := by decide +kernel
theorem d_Water_takeOut_19 : decode b_Water_takeOut 19 = .ok (.aload_n 0, 1) := by decide +kernel
theorem d_Water_takeOut_20 : decode b_Water_takeOut 20 = .ok (.dup, 1) := by decide +kernel
theorem d_Water_takeOut_21 : decode b_Water_takeOut 21 = .ok (.getfield 76, 3) := by decide +kernel
theorem d_Water_takeOut_24 : decode b_Water_takeOut 24 = .ok (.aload_n 0, 1) := by decide +kernel
theorem d_Water_takeOut_25 : decode b_Water_takeOut 25 = .ok (.getfield 20, 3) := by decide +kernel
theorem d_Water_takeOut_28 : decode b_Water_takeOut 28 = .ok (.invokevirtual 80, 3) := by decide +kernel
theorem d_Water_takeOut_31 : decode b_Water_takeOut 31 = .ok (.ladd, 1) := by decide +kernel
theorem d_Water_takeOut_32 : decode b_Water_takeOut 32 = .ok (.putfield 76, 3) := by decide +kernel
theorem d_Water_takeOut_35 : decode b_Water_takeOut 35 = .ok (.aload_n 0, 1) := by decide +kernel
theorem d_Water_takeOut_36 : decode b_Water_takeOut 36 = .ok (.iload_n 1, 1) := by decide +kernel
theorem d_Water_takeOut_37 : decode b_Water_takeOut 37 = .ok (.invokevirtual 84, 3) := by decide +kernel
theorem d_Water_takeOut_40 : decode b_Water_takeOut 40 = .ok (.iconst 1, 1) := by decide +kernel
theorem d_Water_takeOut_41 : decode b_Water_takeOut 41 = .ok (.isub, 1) := by decide +kernel
theorem d_Water_takeOut_42 : decode b_Water_takeOut 42 = .ok (.istore_n 3, 1) := by decide +kernel
theorem d_Water_takeOut_43 : decode b_Water_takeOut 43 = .ok (.iload_n 3, 1) := by decide +kernel
theorem d_Water_takeOut_44 : decode b_Water_takeOut 44 = .ok (.ifCond .lt 19, 3) := by decide +kernel
theorem d_Water_takeOut_47 : decode b_Water_takeOut 47 = .ok (.aload_n 0, 1) := by decide +kernel
theorem d_Water_takeOut_48 : decode b_Water_takeOut 48 = .ok (.aload_n 0, 1) := by decide +kernel
theorem d_Water_takeOut_49 : decode b_Water_takeOut 49 = .ok (.getfield 30, 3) := by decide +kernel
theorem d_Water_takeOut_52 : decode b_Water_takeOut 52 = .ok (.iload_n 3, 1) := by decide +kernel
theorem d_Water_takeOut_53 : decode b_Water_takeOut 53 = .ok (.iaload, 1) := by decide +kernel
theorem d_Water_takeOut_54 : decode b_Water_takeOut 54 = .ok (.invokevirtual 88, 3) := by decide +kernel
theorem d_Water_takeOut_57 : decode b_Water_takeOut 57 = .ok (.iinc 3 (-1), 3) := by decide +kernel
theorem d_Water_takeOut_60 : decode b_Water_takeOut 60 = .ok (.goto (-17), 3) := by decide +kernel
theorem d_Water_takeOut_63 : decode b_Water_takeOut 63 = .ok (.aload_n 0, 1) := by decide +kernel
theorem d_Water_takeOut_64 : decode b_Water_takeOut 64 = .ok (.dup, 1) := by decide +kernel
theorem d_Water_takeOut_65 : decode b_Water_takeOut 65 = .ok (.getfield 91, 3) := by decide +kernel
theorem d_Water_takeOut_68 : decode b_Water_takeOut 68 = .ok (.aload_n 0, 1) := by decide +kernel
theorem d_Water_takeOut_69 : decode b_Water_takeOut 69 = .ok (.getfield 20, 3) := by decide +kernel
theorem d_Water_takeOut_72 : decode b_Water_takeOut 72 = .ok (.invokevirtual 80, 3) := by decide +kernel
theorem d_Water_takeOut_75 : decode b_Water_takeOut 75 = .ok (.ladd, 1) := by decide +kernel
theorem d_Water_takeOut_76 : decode b_Water_takeOut 76 = .ok (.putfield 91, 3) := by decide +kernel
theorem d_Water_takeOut_79 : decode b_Water_takeOut 79 = .ok (.return_, 1) := by decide +kernel
theorem d_Water_findWay_0 : decode b_Water_findWay 0 = .ok (.iconst 0, 1) := by decide +kernel
theorem d_Water_findWay_1 : decode b_Water_findWay 1 = .ok (.istore_n 2, 1) := by decide +kernel
theorem d_Water_findWay_2 : decode b_Water_findWay 2 = .ok (.iload_n 1, 1) := by decide +kernel
theorem d_Water_findWay_3 : decode b_Water_findWay 3 = .ok (.istore_n 3, 1) := by decide +kernel
theorem d_Water_findWay_4 : decode b_Water_findWay 4 = .ok (.iload_n 2, 1) := by decide +kernel
theorem d_Water_findWay_5 : decode b_Water_findWay 5 = .ok (.bipush 10, 2) := by decide +kernel
theorem d_Water_findWay_7 : decode b_Water_findWay 7 = .ok (.if_icmp .ge 41, 3) := by decide +kernel
theorem d_Water_findWay_10 : decode b_Water_findWay 10 = .ok (.iload_n 3, 1) := by decide +kernel
theorem d_Water_findWay_11 : decode b_Water_findWay 11 = .ok (.ifCond .lt 37, 3) := by decide +kernel
theorem d_Water_findWay_14 : decode b_Water_findWay 14 = .ok (.iload_n 3, 1) := by decide +kernel
theorem d_Water_findWay_15 : decode b_Water_findWay 15 = .ok (.aload_n 0, 1) := by decide +kernel
theorem d_Water_findWay_16 : decode b_Water_findWay 16 = .ok (.getfield 47, 3) := by decide +kernel
theorem d_Water_findWay_19 : decode b_Water_findWay 19 = .ok (.getfield 51, 3) := by decide +kernel
theorem d_Water_findWay_22 : decode b_Water_findWay 22 = .ok (.if_icmp .ge 26, 3) := by decide +kernel
theorem d_Water_findWay_25 : decode b_Water_findWay 25 = .ok (.aload_n 0, 1) := by decide +kernel
theorem d_Water_findWay_26 : decode b_Water_findWay 26 = .ok (.getfield 30, 3) := by decide +kernel
theorem d_Water_findWay_29 : decode b_Water_findWay 29 = .ok (.iload_n 2, 1) := by decide +kernel
theorem d_Water_findWay_30 : decode b_Water_findWay 30 = .ok (.iload_n 3, 1) := by decide +kernel
theorem d_Water_findWay_31 : decode b_Water_findWay 31 = .ok (.iastore, 1) := by decide +kernel
theorem d_Water_findWay_32 : decode b_Water_findWay 32 = .ok (.iinc 2 1, 3) := by decide +kernel
theorem d_Water_findWay_35 : decode b_Water_findWay 35 = .ok (.aload_n 0, 1) := by decide +kernel
theorem d_Water_findWay_36 : decode b_Water_findWay 36 = .ok (.getfield 47, 3) := by decide +kernel
theorem d_Water_findWay_39 : decode b_Water_findWay 39 = .ok (.getfield 94, 3) := by decide +kernel
theorem d_Water_findWay_42 : decode b_Water_findWay 42 = .ok (.iload_n 3, 1) := by decide +kernel
theorem d_Water_findWay_43 : decode b_Water_findWay 43 = .ok (.iaload, 1) := by decide +kernel
theorem d_Water_findWay_44 : decode b_Water_findWay 44 = .ok (.istore_n 3, 1) := by decide +kernel
theorem d_Water_findWay_45 : decode b_Water_findWay 45 = .ok (.goto (-41), 3) := by decide +kernel
theorem d_Water_findWay_48 : decode b_Water_findWay 48 = .ok (.iload_n 2, 1) := by decide +kernel
theorem d_Water_findWay_49 : decode b_Water_findWay 49 = .ok (.ireturn, 1) := by decide +kernel
theorem d_Water_pushThrough_0 : decode b_Water_pushThrough 0 = .ok (.aload_n 0, 1) := by decide +kernel
theorem d_Water_pushThrough_1 : decode b_Water_pushThrough 1 = .ok (.getfield 11, 3) := by decide +kernel
theorem d_Water_pushThrough_4 : decode b_Water_pushThrough 4 = .ok (.iload_n 1, 1) := by decide +kernel
theorem d_Water_pushThrough_5 : decode b_Water_pushThrough 5 = .ok (.aaload, 1) := by decide +kernel
theorem d_Water_pushThrough_6 : decode b_Water_pushThrough 6 = .ok (.astore_n 2, 1) := by decide +kernel
theorem d_Water_pushThrough_7 : decode b_Water_pushThrough 7 = .ok (.aload_n 0, 1) := by decide +kernel
theorem d_Water_pushThrough_8 : decode b_Water_pushThrough 8 = .ok (.getfield 24, 3) := by decide +kernel
theorem d_Water_pushThrough_11 : decode b_Water_pushThrough 11 = .ok (.invokevirtual 56, 3) := by decide +kernel
theorem d_Water_pushThrough_14 : decode b_Water_pushThrough 14 = .ok (.aload_n 0, 1) := by decide +kernel
theorem d_Water_pushThrough_15 : decode b_Water_pushThrough 15 = .ok (.getfield 24, 3) := by decide +kernel
theorem d_Water_pushThrough_18 : decode b_Water_pushThrough 18 = .ok (.aload_n 0, 1) := by decide +kernel
theorem d_Water_pushThrough_19 : decode b_Water_pushThrough 19 = .ok (.getfield 20, 3) := by decide +kernel
theorem d_Water_pushThrough_22 : decode b_Water_pushThrough 22 = .ok (.invokevirtual 59, 3) := by decide +kernel
theorem d_Water_pushThrough_25 : decode b_Water_pushThrough 25 = .ok (.aload_n 0, 1) := by decide +kernel
theorem d_Water_pushThrough_26 : decode b_Water_pushThrough 26 = .ok (.getfield 24, 3) := by decide +kernel
theorem d_Water_pushThrough_29 : decode b_Water_pushThrough 29 = .ok (.aload_n 2, 1) := by decide +kernel
theorem d_Water_pushThrough_30 : decode b_Water_pushThrough 30 = .ok (.invokevirtual 59, 3) := by decide +kernel
theorem d_Water_pushThrough_33 : decode b_Water_pushThrough 33 = .ok (.aload_n 0, 1) := by decide +kernel
theorem d_Water_pushThrough_34 : decode b_Water_pushThrough 34 = .ok (.getfield 24, 3) := by decide +kernel
theorem d_Water_pushThrough_37 : decode b_Water_pushThrough 37 = .ok (.aload_n 0, 1) := by decide +kernel
theorem d_Water_pushThrough_38 : decode b_Water_pushThrough 38 = .ok (.getfield 47, 3) := by decide +kernel
theorem d_Water_pushThrough_41 : decode b_Water_pushThrough 41 = .ok (.getfield 69, 3) := by decide +kernel
theorem d_Water_pushThrough_44 : decode b_Water_pushThrough 44 = .ok (.iload_n 1, 1) := by decide +kernel
theorem d_Water_pushThrough_45 : decode b_Water_pushThrough 45 = .ok (.iaload, 1) := by decide +kernel
theorem d_Water_pushThrough_46 : decode b_Water_pushThrough 46 = .ok (.aload_n 0, 1) := by decide +kernel
theorem d_Water_pushThrough_47 : decode b_Water_pushThrough 47 = .ok (.getfield 27, 3) := by decide +kernel
theorem d_Water_pushThrough_50 : decode b_Water_pushThrough 50 = .ok (.aload_n 0, 1) := by decide +kernel
theorem d_Water_pushThrough_51 : decode b_Water_pushThrough 51 = .ok (.getfield 20, 3) := by decide +kernel
theorem d_Water_pushThrough_54 : decode b_Water_pushThrough 54 = .ok (.invokevirtual 97, 3) := by decide +kernel
theorem d_Water_pushThrough_57 : decode b_Water_pushThrough 57 = .ok (.aload_n 0, 1) := by decide +kernel
theorem d_Water_pushThrough_58 : decode b_Water_pushThrough 58 = .ok (.dup, 1) := by decide +kernel
theorem d_Water_pushThrough_59 : decode b_Water_pushThrough 59 = .ok (.getfield 101, 3) := by decide +kernel
theorem d_Water_pushThrough_62 : decode b_Water_pushThrough 62 = .ok (.aload_n 0, 1) := by decide +kernel
theorem d_Water_pushThrough_63 : decode b_Water_pushThrough 63 = .ok (.getfield 27, 3) := by decide +kernel
theorem d_Water_pushThrough_66 : decode b_Water_pushThrough 66 = .ok (.invokevirtual 104, 3) := by decide +kernel
theorem d_Water_pushThrough_69 : decode b_Water_pushThrough 69 = .ok (.i2l, 1) := by decide +kernel
theorem d_Water_pushThrough_70 : decode b_Water_pushThrough 70 = .ok (.ladd, 1) := by decide +kernel
theorem d_Water_pushThrough_71 : decode b_Water_pushThrough 71 = .ok (.putfield 101, 3) := by decide +kernel
theorem d_Water_pushThrough_74 : decode b_Water_pushThrough 74 = .ok (.aload_n 2, 1) := by decide +kernel
theorem d_Water_pushThrough_75 : decode b_Water_pushThrough 75 = .ok (.invokevirtual 56, 3) := by decide +kernel
theorem d_Water_pushThrough_78 : decode b_Water_pushThrough 78 = .ok (.aload_n 2, 1) := by decide +kernel
theorem d_Water_pushThrough_79 : decode b_Water_pushThrough 79 = .ok (.aload_n 0, 1) := by decide +kernel
theorem d_Water_pushThrough_80 : decode b_Water_pushThrough 80 = .ok (.getfield 27, 3) := by decide +kernel
theorem d_Water_pushThrough_83 : decode b_Water_pushThrough 83 = .ok (.invokevirtual 59, 3) := by decide +kernel
theorem d_Water_pushThrough_86 : decode b_Water_pushThrough 86 = .ok (.aload_n 0, 1) := by decide +kernel
theorem d_Water_pushThrough_87 : decode b_Water_pushThrough 87 = .ok (.getfield 34, 3) := by decide +kernel
theorem d_Water_pushThrough_90 : decode b_Water_pushThrough 90 = .ok (.iload_n 1, 1) := by decide +kernel
theorem d_Water_pushThrough_91 : decode b_Water_pushThrough 91 = .ok (.aload_n 0, 1) := by decide +kernel
theorem d_Water_pushThrough_92 : decode b_Water_pushThrough 92 = .ok (.getfield 63, 3) := by decide +kernel
theorem d_Water_pushThrough_95 : decode b_Water_pushThrough 95 = .ok (.iastore, 1) := by decide +kernel
theorem d_Water_pushThrough_96 : decode b_Water_pushThrough 96 = .ok (.return_, 1) := by decide +kernel
theorem d_Water_endMinute_0 : decode b_Water_endMinute 0 = .ok (.iconst 0, 1) := by decide +kernel
theorem d_Water_endMinute_1 : decode b_Water_endMinute 1 = .ok (.istore_n 1, 1) := by decide +kernel
theorem d_Water_endMinute_2 : decode b_Water_endMinute 2 = .ok (.iload_n 1, 1) := by decide +kernel
theorem d_Water_endMinute_3 : decode b_Water_endMinute 3 = .ok (.aload_n 0, 1) := by decide +kernel
theorem d_Water_endMinute_4 : decode b_Water_endMinute 4 = .ok (.getfield 47, 3) := by decide +kernel
theorem d_Water_endMinute_7 : decode b_Water_endMinute 7 = .ok (.getfield 51, 3) := by decide +kernel
theorem d_Water_endMinute_10 : decode b_Water_endMinute 10 = .ok (.if_icmp .ge 35, 3) := by decide +kernel
theorem d_Water_endMinute_13 : decode b_Water_endMinute 13 = .ok (.aload_n 0, 1) := by decide +kernel
theorem d_Water_endMinute_14 : decode b_Water_endMinute 14 = .ok (.getfield 47, 3) := by decide +kernel
theorem d_Water_endMinute_17 : decode b_Water_endMinute 17 = .ok (.getfield 108, 3) := by decide +kernel
theorem d_Water_endMinute_20 : decode b_Water_endMinute 20 = .ok (.iload_n 1, 1) := by decide +kernel
theorem d_Water_endMinute_21 : decode b_Water_endMinute 21 = .ok (.iaload, 1) := by decide +kernel
theorem d_Water_endMinute_22 : decode b_Water_endMinute 22 = .ok (.ifCond .le 17, 3) := by decide +kernel
theorem d_Water_endMinute_25 : decode b_Water_endMinute 25 = .ok (.aload_n 0, 1) := by decide +kernel
theorem d_Water_endMinute_26 : decode b_Water_endMinute 26 = .ok (.iload_n 1, 1) := by decide +kernel
theorem d_Water_endMinute_27 : decode b_Water_endMinute 27 = .ok (.aload_n 0, 1) := by decide +kernel
theorem d_Water_endMinute_28 : decode b_Water_endMinute 28 = .ok (.getfield 47, 3) := by decide +kernel
theorem d_Water_endMinute_31 : decode b_Water_endMinute 31 = .ok (.getfield 108, 3) := by decide +kernel
theorem d_Water_endMinute_34 : decode b_Water_endMinute 34 = .ok (.iload_n 1, 1) := by decide +kernel
theorem d_Water_endMinute_35 : decode b_Water_endMinute 35 = .ok (.iaload, 1) := by decide +kernel
theorem d_Water_endMinute_36 : decode b_Water_endMinute 36 = .ok (.invokevirtual 111, 3) := by decide +kernel
theorem d_Water_endMinute_39 : decode b_Water_endMinute 39 = .ok (.iinc 1 1, 3) := by decide +kernel
theorem d_Water_endMinute_42 : decode b_Water_endMinute 42 = .ok (.goto (-40), 3) := by decide +kernel
theorem d_Water_endMinute_45 : decode b_Water_endMinute 45 = .ok (.iconst 0, 1) := by decide +kernel
theorem d_Water_endMinute_46 : decode b_Water_endMinute 46 = .ok (.istore_n 1, 1) := by decide +kernel
theorem d_Water_endMinute_47 : decode b_Water_endMinute 47 = .ok (.iload_n 1, 1) := by decide +kernel
theorem d_Water_endMinute_48 : decode b_Water_endMinute 48 = .ok (.aload_n 0, 1) := by decide +kernel
theorem d_Water_endMinute_49 : decode b_Water_endMinute 49 = .ok (.getfield 47, 3) := by decide +kernel
theorem d_Water_endMinute_52 : decode b_Water_endMinute 52 = .ok (.getfield 51, 3) := by decide +kernel
theorem d_Water_endMinute_55 : decode b_Water_endMinute 55 = .ok (.if_icmp .ge 74, 3) := by decide +kernel
theorem d_Water_endMinute_58 : decode b_Water_endMinute 58 = .ok (.aload_n 0, 1) := by decide +kernel
theorem d_Water_endMinute_59 : decode b_Water_endMinute 59 = .ok (.dup, 1) := by decide +kernel
theorem d_Water_endMinute_60 : decode b_Water_endMinute 60 = .ok (.getfield 101, 3) := by decide +kernel
theorem d_Water_endMinute_63 : decode b_Water_endMinute 63 = .ok (.aload_n 0, 1) := by decide +kernel
theorem d_Water_endMinute_64 : decode b_Water_endMinute 64 = .ok (.getfield 11, 3) := by decide +kernel
theorem d_Water_endMinute_67 : decode b_Water_endMinute 67 = .ok (.iload_n 1, 1) := by decide +kernel
theorem d_Water_endMinute_68 : decode b_Water_endMinute 68 = .ok (.aaload, 1) := by decide +kernel
theorem d_Water_endMinute_69 : decode b_Water_endMinute 69 = .ok (.aload_n 0, 1) := by decide +kernel
theorem d_Water_endMinute_70 : decode b_Water_endMinute 70 = .ok (.getfield 44, 3) := by decide +kernel
theorem d_Water_endMinute_73 : decode b_Water_endMinute 73 = .ok (.aload_n 0, 1) := by decide +kernel
theorem d_Water_endMinute_74 : decode b_Water_endMinute 74 = .ok (.getfield 47, 3) := by decide +kernel
theorem d_Water_endMinute_77 : decode b_Water_endMinute 77 = .ok (.getfield 114, 3) := by decide +kernel
theorem d_Water_endMinute_80 : decode b_Water_endMinute 80 = .ok (.iload_n 1, 1) := by decide +kernel
theorem d_Water_endMinute_81 : decode b_Water_endMinute 81 = .ok (.iaload, 1) := by decide +kernel
theorem d_Water_endMinute_82 : decode b_Water_endMinute 82 = .ok (.invokevirtual 117, 3) := by decide +kernel
theorem d_Water_endMinute_85 : decode b_Water_endMinute 85 = .ok (.ladd, 1) := by decide +kernel
theorem d_Water_endMinute_86 : decode b_Water_endMinute 86 = .ok (.putfield 101, 3) := by decide +kernel
theorem d_Water_endMinute_89 : decode b_Water_endMinute 89 = .ok (.aload_n 0, 1) := by decide +kernel
theorem d_Water_endMinute_90 : decode b_Water_endMinute 90 = .ok (.getfield 11, 3) := by decide +kernel
theorem d_Water_endMinute_93 : decode b_Water_endMinute 93 = .ok (.iload_n 1, 1) := by decide +kernel
theorem d_Water_endMinute_94 : decode b_Water_endMinute 94 = .ok (.aaload, 1) := by decide +kernel
theorem d_Water_endMinute_95 : decode b_Water_endMinute 95 = .ok (.invokevirtual 121, 3) := by decide +kernel
theorem d_Water_endMinute_98 : decode b_Water_endMinute 98 = .ok (.istore_n 2, 1) := by decide +kernel
theorem d_Water_endMinute_99 : decode b_Water_endMinute 99 = .ok (.iload_n 2, 1) := by decide +kernel
theorem d_Water_endMinute_100 : decode b_Water_endMinute 100 = .ok (.sipush 2500, 3) := by decide +kernel
theorem d_Water_endMinute_103 : decode b_Water_endMinute 103 = .ok (.if_icmp .lt 20, 3) := by decide +kernel
theorem d_Water_endMinute_106 : decode b_Water_endMinute 106 = .ok (.iload_n 2, 1) := by decide +kernel
theorem d_Water_endMinute_107 : decode b_Water_endMinute 107 = .ok (.sipush 4500, 3) := by decide +kernel
theorem d_Water_endMinute_110 : decode b_Water_endMinute 110 = .ok (.if_icmp .gt 13, 3) := by decide +kernel
theorem d_Water_endMinute_113 : decode b_Water_endMinute 113 = .ok (.aload_n 0, 1) := by decide +kernel
theorem d_Water_endMinute_114 : decode b_Water_endMinute 114 = .ok (.getfield 37, 3) := by decide +kernel
theorem d_Water_endMinute_117 : decode b_Water_endMinute 117 = .ok (.iload_n 1, 1) := by decide +kernel
theorem d_Water_endMinute_118 : decode b_Water_endMinute 118 = .ok (.dup2, 1) := by decide +kernel
theorem d_Water_endMinute_119 : decode b_Water_endMinute 119 = .ok (.iaload, 1) := by decide +kernel
theorem d_Water_endMinute_120 : decode b_Water_endMinute 120 = .ok (.iconst 1, 1) := by decide +kernel
theorem d_Water_endMinute_121 : decode b_Water_endMinute 121 = .ok (.iadd, 1) := by decide +kernel
theorem d_Water_endMinute_122 : decode b_Water_endMinute 122 = .ok (.iastore, 1) := by decide +kernel
theorem d_Water_endMinute_123 : decode b_Water_endMinute 123 = .ok (.iinc 1 1, 3) := by decide +kernel
theorem d_Water_endMinute_126 : decode b_Water_endMinute 126 = .ok (.goto (-79), 3) := by decide +kernel
theorem d_Water_endMinute_129 : decode b_Water_endMinute 129 = .ok (.aload_n 0, 1) := by decide +kernel
theorem d_Water_endMinute_130 : decode b_Water_endMinute 130 = .ok (.dup, 1) := by decide +kernel
theorem d_Water_endMinute_131 : decode b_Water_endMinute 131 = .ok (.getfield 63, 3) := by decide +kernel
theorem d_Water_endMinute_134 : decode b_Water_endMinute 134 = .ok (.iconst 1, 1) := by decide +kernel
theorem d_Water_endMinute_135 : decode b_Water_endMinute 135 = .ok (.iadd, 1) := by decide +kernel
theorem d_Water_endMinute_136 : decode b_Water_endMinute 136 = .ok (.putfield 63, 3) := by decide +kernel
theorem d_Water_endMinute_139 : decode b_Water_endMinute 139 = .ok (.return_, 1) := by decide +kernel
theorem d_Water_minutesSinceFlow_0 : decode b_Water_minutesSinceFlow 0 = .ok (.aload_n 0, 1) := by decide +kernel
theorem d_Water_minutesSinceFlow_1 : decode b_Water_minutesSinceFlow 1 = .ok (.getfield 63, 3) := by decide +kernel
theorem d_Water_minutesSinceFlow_4 : decode b_Water_minutesSinceFlow 4 = .ok (.iconst 1, 1) := by decide +kernel
theorem d_Water_minutesSinceFlow_5 : decode b_Water_minutesSinceFlow 5 = .ok (.isub, 1) := by decide +kernel
theorem d_Water_minutesSinceFlow_6 : decode b_Water_minutesSinceFlow 6 = .ok (.aload_n 0, 1) := by decide +kernel
theorem d_Water_minutesSinceFlow_7 : decode b_Water_minutesSinceFlow 7 = .ok (.getfield 34, 3) := by decide +kernel
theorem d_Water_minutesSinceFlow_10 : decode b_Water_minutesSinceFlow 10 = .ok (.iload_n 1, 1) := by decide +kernel
theorem d_Water_minutesSinceFlow_11 : decode b_Water_minutesSinceFlow 11 = .ok (.iaload, 1) := by decide +kernel
theorem d_Water_minutesSinceFlow_12 : decode b_Water_minutesSinceFlow 12 = .ok (.isub, 1) := by decide +kernel
theorem d_Water_minutesSinceFlow_13 : decode b_Water_minutesSinceFlow 13 = .ok (.ireturn, 1) := by decide +kernel
theorem d_Water_stoodStill_0 : decode b_Water_stoodStill 0 = .ok (.aload_n 0, 1) := by decide +kernel
theorem d_Water_stoodStill_1 : decode b_Water_stoodStill 1 = .ok (.getfield 34, 3) := by decide +kernel
theorem d_Water_stoodStill_4 : decode b_Water_stoodStill 4 = .ok (.iload_n 1, 1) := by decide +kernel
theorem d_Water_stoodStill_5 : decode b_Water_stoodStill 5 = .ok (.iaload, 1) := by decide +kernel
theorem d_Water_stoodStill_6 : decode b_Water_stoodStill 6 = .ok (.iconst (-1), 1) := by decide +kernel
theorem d_Water_stoodStill_7 : decode b_Water_stoodStill 7 = .ok (.if_icmp .eq 12, 3) := by decide +kernel
theorem d_Water_stoodStill_10 : decode b_Water_stoodStill 10 = .ok (.aload_n 0, 1) := by decide +kernel
theorem d_Water_stoodStill_11 : decode b_Water_stoodStill 11 = .ok (.iload_n 1, 1) := by decide +kernel
theorem d_Water_stoodStill_12 : decode b_Water_stoodStill 12 = .ok (.invokevirtual 124, 3) := by decide +kernel
theorem d_Water_stoodStill_15 : decode b_Water_stoodStill 15 = .ok (.iload_n 2, 1) := by decide +kernel
theorem d_Water_stoodStill_16 : decode b_Water_stoodStill 16 = .ok (.if_icmp .lt 7, 3) := by decide +kernel
theorem d_Water_stoodStill_19 : decode b_Water_stoodStill 19 = .ok (.iconst 1, 1) := by decide +kernel
theorem d_Water_stoodStill_20 : decode b_Water_stoodStill 20 = .ok (.goto 4, 3) := by decide +kernel
theorem d_Water_stoodStill_23 : decode b_Water_stoodStill 23 = .ok (.iconst 0, 1) := by decide +kernel
theorem d_Water_stoodStill_24 : decode b_Water_stoodStill 24 = .ok (.ireturn, 1) := by decide +kernel
theorem d_Water_volumeBefore_0 : decode b_Water_volumeBefore 0 = .ok (.iconst 0, 1) := by decide +kernel
theorem d_Water_volumeBefore_1 : decode b_Water_volumeBefore 1 = .ok (.istore_n 3, 1) := by decide +kernel
theorem d_Water_volumeBefore_2 : decode b_Water_volumeBefore 2 = .ok (.aload_n 0, 1) := by decide +kernel
theorem d_Water_volumeBefore_3 : decode b_Water_volumeBefore 3 = .ok (.iload_n 1, 1) := by decide +kernel
theorem d_Water_volumeBefore_4 : decode b_Water_volumeBefore 4 = .ok (.invokevirtual 84, 3) := by decide +kernel
theorem d_Water_volumeBefore_7 : decode b_Water_volumeBefore 7 = .ok (.istore 4, 2) := by decide +kernel
theorem d_Water_volumeBefore_9 : decode b_Water_volumeBefore 9 = .ok (.iconst 0, 1) := by decide +kernel
theorem d_Water_volumeBefore_10 : decode b_Water_volumeBefore 10 = .ok (.istore 5, 2) := by decide +kernel
theorem d_Water_volumeBefore_12 : decode b_Water_volumeBefore 12 = .ok (.iload 5, 2) := by decide +kernel
theorem d_Water_volumeBefore_14 : decode b_Water_volumeBefore 14 = .ok (.iload 4, 2) := by decide +kernel
theorem d_Water_volumeBefore_16 : decode b_Water_volumeBefore 16 = .ok (.if_icmp .ge 68, 3) := by decide +kernel
theorem d_Water_volumeBefore_19 : decode b_Water_volumeBefore 19 = .ok (.aload_n 0, 1) := by decide +kernel
theorem d_Water_volumeBefore_20 : decode b_Water_volumeBefore 20 = .ok (.getfield 11, 3) := by decide +kernel
theorem d_Water_volumeBefore_23 : decode b_Water_volumeBefore 23 = .ok (.aload_n 0, 1) := by decide +kernel
theorem d_Water_volumeBefore_24 : decode b_Water_volumeBefore 24 = .ok (.getfield 30, 3) := by decide +kernel
theorem d_Water_volumeBefore_27 : decode b_Water_volumeBefore 27 = .ok (.iload 5, 2) := by decide +kernel
theorem d_Water_volumeBefore_29 : decode b_Water_volumeBefore 29 = .ok (.iaload, 1) := by decide +kernel
theorem d_Water_volumeBefore_30 : decode b_Water_volumeBefore 30 = .ok (.aaload, 1) := by decide +kernel
theorem d_Water_volumeBefore_31 : decode b_Water_volumeBefore 31 = .ok (.astore 6, 2) := by decide +kernel
theorem d_Water_volumeBefore_33 : decode b_Water_volumeBefore 33 = .ok (.aload 6, 2) := by decide +kernel
theorem d_Water_volumeBefore_35 : decode b_Water_volumeBefore 35 = .ok (.getfield 127, 3) := by decide +kernel
theorem d_Water_volumeBefore_38 : decode b_Water_volumeBefore 38 = .ok (.iconst 1, 1) := by decide +kernel
theorem d_Water_volumeBefore_39 : decode b_Water_volumeBefore 39 = .ok (.isub, 1) := by decide +kernel
theorem d_Water_volumeBefore_40 : decode b_Water_volumeBefore 40 = .ok (.istore 7, 2) := by decide +kernel
theorem d_Water_volumeBefore_42 : decode b_Water_volumeBefore 42 = .ok (.iload 7, 2) := by decide +kernel
theorem d_Water_volumeBefore_44 : decode b_Water_volumeBefore 44 = .ok (.ifCond .lt 34, 3) := by decide +kernel
theorem d_Water_volumeBefore_47 : decode b_Water_volumeBefore 47 = .ok (.aload 6, 2) := by decide +kernel
theorem d_Water_volumeBefore_49 : decode b_Water_volumeBefore 49 = .ok (.getfield 128, 3) := by decide +kernel
theorem d_Water_volumeBefore_52 : decode b_Water_volumeBefore 52 = .ok (.iload 7, 2) := by decide +kernel
theorem d_Water_volumeBefore_54 : decode b_Water_volumeBefore 54 = .ok (.iaload, 1) := by decide +kernel
theorem d_Water_volumeBefore_55 : decode b_Water_volumeBefore 55 = .ok (.iload_n 2, 1) := by decide +kernel
theorem d_Water_volumeBefore_56 : decode b_Water_volumeBefore 56 = .ok (.if_icmp .lt 5, 3) := by decide +kernel
theorem d_Water_volumeBefore_59 : decode b_Water_volumeBefore 59 = .ok (.iload_n 3, 1) := by decide +kernel
theorem d_Water_volumeBefore_60 : decode b_Water_volumeBefore 60 = .ok (.ireturn, 1) := by decide +kernel
theorem d_Water_volumeBefore_61 : decode b_Water_volumeBefore 61 = .ok (.iload_n 3, 1) := by decide +kernel
theorem d_Water_volumeBefore_62 : decode b_Water_volumeBefore 62 = .ok (.aload 6, 2) := by decide +kernel
theorem d_Water_volumeBefore_64 : decode b_Water_volumeBefore 64 = .ok (.getfield 131, 3) := by decide +kernel
theorem d_Water_volumeBefore_67 : decode b_Water_volumeBefore 67 = .ok (.iload 7, 2) := by decide +kernel
theorem d_Water_volumeBefore_69 : decode b_Water_volumeBefore 69 = .ok (.iaload, 1) := by decide +kernel
theorem d_Water_volumeBefore_70 : decode b_Water_volumeBefore 70 = .ok (.iadd, 1) := by decide +kernel
theorem d_Water_volumeBefore_71 : decode b_Water_volumeBefore 71 = .ok (.istore_n 3, 1) := by decide +kernel
theorem d_Water_volumeBefore_72 : decode b_Water_volumeBefore 72 = .ok (.iinc 7 (-1), 3) := by decide +kernel
theorem d_Water_volumeBefore_75 : decode b_Water_volumeBefore 75 = .ok (.goto (-33), 3) := by decide +kernel
theorem d_Water_volumeBefore_78 : decode b_Water_volumeBefore 78 = .ok (.iinc 5 1, 3) := by decide +kernel
theorem d_Water_volumeBefore_81 : decode b_Water_volumeBefore 81 = .ok (.goto (-69), 3) := by decide +kernel
theorem d_Water_volumeBefore_84 : decode b_Water_volumeBefore 84 = .ok (.aload_n 0, 1) := by decide +kernel
theorem d_Water_volumeBefore_85 : decode b_Water_volumeBefore 85 = .ok (.getfield 40, 3) := by decide +kernel
theorem d_Water_volumeBefore_88 : decode b_Water_volumeBefore 88 = .ok (.iload_n 2, 1) := by decide +kernel
theorem d_Water_volumeBefore_89 : decode b_Water_volumeBefore 89 = .ok (.if_icmp .lt 7, 3) := by decide +kernel
theorem d_Water_volumeBefore_92 : decode b_Water_volumeBefore 92 = .ok (.iload_n 3, 1) := by decide +kernel
theorem d_Water_volumeBefore_93 : decode b_Water_volumeBefore 93 = .ok (.goto 4, 3) := by decide +kernel
theorem d_Water_volumeBefore_96 : decode b_Water_volumeBefore 96 = .ok (.iconst (-1), 1) := by decide +kernel
theorem d_Water_volumeBefore_97 : decode b_Water_volumeBefore 97 = .ok (.ireturn, 1) := by decide +kernel
theorem d_Water_held_0 : decode b_Water_held 0 = .ok (.lconst 0, 1) := by decide +kernel
theorem d_Water_held_1 : decode b_Water_held 1 = .ok (.lstore_n 1, 1) := by decide +kernel
theorem d_Water_held_2 : decode b_Water_held 2 = .ok (.iconst 0, 1) := by decide +kernel
theorem d_Water_held_3 : decode b_Water_held 3 = .ok (.istore_n 3, 1) := by decide +kernel
theorem d_Water_held_4 : decode b_Water_held 4 = .ok (.iload_n 3, 1) := by decide +kernel
theorem d_Water_held_5 : decode b_Water_held 5 = .ok (.aload_n 0, 1) := by decide +kernel
theorem d_Water_held_6 : decode b_Water_held 6 = .ok (.getfield 47, 3) := by decide +kernel
theorem d_Water_held_9 : decode b_Water_held 9 = .ok (.getfield 51, 3) := by decide +kernel
theorem d_Water_held_12 : decode b_Water_held 12 = .ok (.if_icmp .ge 21, 3) := by decide +kernel
theorem d_Water_held_15 : decode b_Water_held 15 = .ok (.lload_n 1, 1) := by decide +kernel
theorem d_Water_held_16 : decode b_Water_held 16 = .ok (.aload_n 0, 1) := by decide +kernel
theorem d_Water_held_17 : decode b_Water_held 17 = .ok (.getfield 11, 3) := by decide +kernel
theorem d_Water_held_20 : decode b_Water_held 20 = .ok (.iload_n 3, 1) := by decide +kernel
theorem d_Water_held_21 : decode b_Water_held 21 = .ok (.aaload, 1) := by decide +kernel
theorem d_Water_held_22 : decode b_Water_held 22 = .ok (.invokevirtual 80, 3) := by decide +kernel
theorem d_Water_held_25 : decode b_Water_held 25 = .ok (.ladd, 1) := by decide +kernel
theorem d_Water_held_26 : decode b_Water_held 26 = .ok (.lstore_n 1, 1) := by decide +kernel
theorem d_Water_held_27 : decode b_Water_held 27 = .ok (.iinc 3 1, 3) := by decide +kernel
theorem d_Water_held_30 : decode b_Water_held 30 = .ok (.goto (-26), 3) := by decide +kernel
theorem d_Water_held_33 : decode b_Water_held 33 = .ok (.lload_n 1, 1) := by decide +kernel
theorem d_Water_held_34 : decode b_Water_held 34 = .ok (.lreturn, 1) := by decide +kernel
end
section
theorem d_HL_init_0 : decode b_HL_init 0 = .ok (.aload_n 0, 1) := by decide +kernel
theorem d_HL_init_1 : decode b_HL_init 1 = .ok (.invokespecial 3, 3) := by decide +kernel
theorem d_HL_init_4 : decode b_HL_init 4 = .ok (.aload_n 0, 1) := by decide +kernel
theorem d_HL_init_5 : decode b_HL_init 5 = .ok (.new 9, 3) := by decide +kernel
theorem d_HL_init_8 : decode b_HL_init 8 = .ok (.dup, 1) := by decide +kernel
theorem d_HL_init_9 : decode b_HL_init 9 = .ok (.invokespecial 11, 3) := by decide +kernel
theorem d_HL_init_12 : decode b_HL_init 12 = .ok (.putfield 12, 3) := by decide +kernel
theorem d_HL_init_15 : decode b_HL_init 15 = .ok (.aload_n 0, 1) := by decide +kernel
theorem d_HL_init_16 : decode b_HL_init 16 = .ok (.new 16, 3) := by decide +kernel
theorem d_HL_init_19 : decode b_HL_init 19 = .ok (.dup, 1) := by decide +kernel
theorem d_HL_init_20 : decode b_HL_init 20 = .ok (.aload_n 0, 1) := by decide +kernel
theorem d_HL_init_21 : decode b_HL_init 21 = .ok (.getfield 12, 3) := by decide +kernel
theorem d_HL_init_24 : decode b_HL_init 24 = .ok (.invokespecial 18, 3) := by decide +kernel
theorem d_HL_init_27 : decode b_HL_init 27 = .ok (.putfield 21, 3) := by decide +kernel
theorem d_HL_init_30 : decode b_HL_init 30 = .ok (.aload_n 0, 1) := by decide +kernel
theorem d_HL_init_31 : decode b_HL_init 31 = .ok (.new 16, 3) := by decide +kernel
theorem d_HL_init_34 : decode b_HL_init 34 = .ok (.dup, 1) := by decide +kernel
theorem d_HL_init_35 : decode b_HL_init 35 = .ok (.aload_n 0, 1) := by decide +kernel
theorem d_HL_init_36 : decode b_HL_init 36 = .ok (.getfield 12, 3) := by decide +kernel
theorem d_HL_init_39 : decode b_HL_init 39 = .ok (.invokespecial 18, 3) := by decide +kernel
theorem d_HL_init_42 : decode b_HL_init 42 = .ok (.putfield 25, 3) := by decide +kernel
theorem d_HL_init_45 : decode b_HL_init 45 = .ok (.aload_n 0, 1) := by decide +kernel
theorem d_HL_init_46 : decode b_HL_init 46 = .ok (.new 28, 3) := by decide +kernel
theorem d_HL_init_49 : decode b_HL_init 49 = .ok (.dup, 1) := by decide +kernel
theorem d_HL_init_50 : decode b_HL_init 50 = .ok (.invokespecial 30, 3) := by decide +kernel
theorem d_HL_init_53 : decode b_HL_init 53 = .ok (.putfield 31, 3) := by decide +kernel
theorem d_HL_init_56 : decode b_HL_init 56 = .ok (.aload_n 0, 1) := by decide +kernel
theorem d_HL_init_57 : decode b_HL_init 57 = .ok (.bipush 10, 2) := by decide +kernel
theorem d_HL_init_59 : decode b_HL_init 59 = .ok (.newarray .boolean, 2) := by decide +kernel
theorem d_HL_init_61 : decode b_HL_init 61 = .ok (.putfield 35, 3) := by decide +kernel
theorem d_HL_init_64 : decode b_HL_init 64 = .ok (.return_, 1) := by decide +kernel
theorem d_HL_pipe_0 : decode b_HL_pipe 0 = .ok (.iload_n 1, 1) := by decide +kernel
theorem d_HL_pipe_1 : decode b_HL_pipe 1 = .ok (.iconst (-1), 1) := by decide +kernel
theorem d_HL_pipe_2 : decode b_HL_pipe 2 = .ok (.if_icmp .eq 8, 3) := by decide +kernel
theorem d_HL_pipe_5 : decode b_HL_pipe 5 = .ok (.aload_n 0, 1) := by decide +kernel
theorem d_HL_pipe_6 : decode b_HL_pipe 6 = .ok (.iload_n 1, 1) := by decide +kernel
theorem d_HL_pipe_7 : decode b_HL_pipe 7 = .ok (.invokevirtual 39, 3) := by decide +kernel
theorem d_HL_pipe_10 : decode b_HL_pipe 10 = .ok (.iload_n 2, 1) := by decide +kernel
theorem d_HL_pipe_11 : decode b_HL_pipe 11 = .ok (.iconst 1, 1) := by decide +kernel
theorem d_HL_pipe_12 : decode b_HL_pipe 12 = .ok (.sipush 1000, 3) := by decide +kernel
theorem d_HL_pipe_15 : decode b_HL_pipe 15 = .ok (.invokestatic 43, 3) := by decide +kernel
theorem d_HL_pipe_18 : decode b_HL_pipe 18 = .ok (.iload_n 3, 1) := by decide +kernel
theorem d_HL_pipe_19 : decode b_HL_pipe 19 = .ok (.iconst 1, 1) := by decide +kernel
theorem d_HL_pipe_20 : decode b_HL_pipe 20 = .ok (.sipush 1000, 3) := by decide +kernel
theorem d_HL_pipe_23 : decode b_HL_pipe 23 = .ok (.invokestatic 43, 3) := by decide +kernel
theorem d_HL_pipe_26 : decode b_HL_pipe 26 = .ok (.aload_n 0, 1) := by decide +kernel
theorem d_HL_pipe_27 : decode b_HL_pipe 27 = .ok (.getfield 12, 3) := by decide +kernel
theorem d_HL_pipe_30 : decode b_HL_pipe 30 = .ok (.getfield 47, 3) := by decide +kernel
theorem d_HL_pipe_33 : decode b_HL_pipe 33 = .ok (.bipush 10, 2) := by decide +kernel
theorem d_HL_pipe_35 : decode b_HL_pipe 35 = .ok (.if_icmp .lt 13, 3) := by decide +kernel
theorem d_HL_pipe_38 : decode b_HL_pipe 38 = .ok (.new 51, 3) := by decide +kernel
theorem d_HL_pipe_41 : decode b_HL_pipe 41 = .ok (.dup, 1) := by decide +kernel
theorem d_HL_pipe_42 : decode b_HL_pipe 42 = .ok (.ldc 53, 2) := by decide +kernel
theorem d_HL_pipe_44 : decode b_HL_pipe 44 = .ok (.invokespecial 55, 3) := by decide +kernel
theorem d_HL_pipe_47 : decode b_HL_pipe 47 = .ok (.athrow, 1) := by decide +kernel
theorem d_HL_pipe_48 : decode b_HL_pipe 48 = .ok (.aload_n 0, 1) := by decide +kernel
theorem d_HL_pipe_49 : decode b_HL_pipe 49 = .ok (.getfield 21, 3) := by decide +kernel
theorem d_HL_pipe_52 : decode b_HL_pipe 52 = .ok (.getfield 58, 3) := by decide +kernel
theorem d_HL_pipe_55 : decode b_HL_pipe 55 = .ok (.ifCond .le 13, 3) := by decide +kernel
theorem d_HL_pipe_58 : decode b_HL_pipe 58 = .ok (.new 51, 3) := by decide +kernel
theorem d_HL_pipe_61 : decode b_HL_pipe 61 = .ok (.dup, 1) := by decide +kernel
theorem d_HL_pipe_62 : decode b_HL_pipe 62 = .ok (.ldc 61, 2) := by decide +kernel
theorem d_HL_pipe_64 : decode b_HL_pipe 64 = .ok (.invokespecial 55, 3) := by decide +kernel
theorem d_HL_pipe_67 : decode b_HL_pipe 67 = .ok (.athrow, 1) := by decide +kernel
theorem d_HL_pipe_68 : decode b_HL_pipe 68 = .ok (.aload_n 0, 1) := by decide +kernel
theorem d_HL_pipe_69 : decode b_HL_pipe 69 = .ok (.getfield 12, 3) := by decide +kernel
theorem d_HL_pipe_72 : decode b_HL_pipe 72 = .ok (.iload_n 1, 1) := by decide +kernel
theorem d_HL_pipe_73 : decode b_HL_pipe 73 = .ok (.iload_n 2, 1) := by decide +kernel
theorem d_HL_pipe_74 : decode b_HL_pipe 74 = .ok (.iload_n 3, 1) := by decide +kernel
theorem d_HL_pipe_75 : decode b_HL_pipe 75 = .ok (.invokevirtual 63, 3) := by decide +kernel
theorem d_HL_pipe_78 : decode b_HL_pipe 78 = .ok (.istore 4, 2) := by decide +kernel
theorem d_HL_pipe_80 : decode b_HL_pipe 80 = .ok (.aload_n 0, 1) := by decide +kernel
theorem d_HL_pipe_81 : decode b_HL_pipe 81 = .ok (.getfield 21, 3) := by decide +kernel
theorem d_HL_pipe_84 : decode b_HL_pipe 84 = .ok (.iload 4, 2) := by decide +kernel
theorem d_HL_pipe_86 : decode b_HL_pipe 86 = .ok (.invokevirtual 67, 3) := by decide +kernel
theorem d_HL_pipe_89 : decode b_HL_pipe 89 = .ok (.iload 4, 2) := by decide +kernel
theorem d_HL_pipe_91 : decode b_HL_pipe 91 = .ok (.ireturn, 1) := by decide +kernel
theorem d_HL_tap_0 : decode b_HL_tap 0 = .ok (.aload_n 0, 1) := by decide +kernel
theorem d_HL_tap_1 : decode b_HL_tap 1 = .ok (.iload_n 1, 1) := by decide +kernel
theorem d_HL_tap_2 : decode b_HL_tap 2 = .ok (.invokevirtual 39, 3) := by decide +kernel
theorem d_HL_tap_5 : decode b_HL_tap 5 = .ok (.aload_n 0, 1) := by decide +kernel
theorem d_HL_tap_6 : decode b_HL_tap 6 = .ok (.getfield 12, 3) := by decide +kernel
theorem d_HL_tap_9 : decode b_HL_tap 9 = .ok (.getfield 70, 3) := by decide +kernel
theorem d_HL_tap_12 : decode b_HL_tap 12 = .ok (.iload_n 1, 1) := by decide +kernel
theorem d_HL_tap_13 : decode b_HL_tap 13 = .ok (.baload, 1) := by decide +kernel
theorem d_HL_tap_14 : decode b_HL_tap 14 = .ok (.ifCond .ne 7, 3) := by decide +kernel
theorem d_HL_tap_17 : decode b_HL_tap 17 = .ok (.iconst 1, 1) := by decide +kernel
theorem d_HL_tap_18 : decode b_HL_tap 18 = .ok (.goto 4, 3) := by decide +kernel
theorem d_HL_tap_21 : decode b_HL_tap 21 = .ok (.iconst 0, 1) := by decide +kernel
theorem d_HL_tap_22 : decode b_HL_tap 22 = .ok (.istore_n 2, 1) := by decide +kernel
theorem d_HL_tap_23 : decode b_HL_tap 23 = .ok (.aload_n 0, 1) := by decide +kernel
theorem d_HL_tap_24 : decode b_HL_tap 24 = .ok (.getfield 12, 3) := by decide +kernel
theorem d_HL_tap_27 : decode b_HL_tap 27 = .ok (.getfield 70, 3) := by decide +kernel
theorem d_HL_tap_30 : decode b_HL_tap 30 = .ok (.iload_n 1, 1) := by decide +kernel
theorem d_HL_tap_31 : decode b_HL_tap 31 = .ok (.iconst 1, 1) := by decide +kernel
theorem d_HL_tap_32 : decode b_HL_tap 32 = .ok (.bastore, 1) := by decide +kernel
theorem d_HL_tap_33 : decode b_HL_tap 33 = .ok (.iload_n 2, 1) := by decide +kernel
theorem d_HL_tap_34 : decode b_HL_tap 34 = .ok (.ireturn, 1) := by decide +kernel
theorem d_HL_set_0 : decode b_HL_set 0 = .ok (.iload_n 1, 1) := by decide +kernel
theorem d_HL_set_1 : decode b_HL_set 1 = .ok (.iconst 0, 1) := by decide +kernel
theorem d_HL_set_2 : decode b_HL_set 2 = .ok (.iconst 1, 1) := by decide +kernel
theorem d_HL_set_3 : decode b_HL_set 3 = .ok (.invokestatic 43, 3) := by decide +kernel
theorem d_HL_set_6 : decode b_HL_set 6 = .ok (.iload_n 2, 1) := by decide +kernel
theorem d_HL_set_7 : decode b_HL_set 7 = .ok (.iconst 0, 1) := by decide +kernel
theorem d_HL_set_8 : decode b_HL_set 8 = .ok (.sipush 10000, 3) := by decide +kernel
theorem d_HL_set_11 : decode b_HL_set 11 = .ok (.invokestatic 43, 3) := by decide +kernel
theorem d_HL_set_14 : decode b_HL_set 14 = .ok (.iload_n 1, 1) := by decide +kernel
theorem d_HL_set_15 : decode b_HL_set 15 = .ok (.ifCond .ne 14, 3) := by decide +kernel
theorem d_HL_set_18 : decode b_HL_set 18 = .ok (.aload_n 0, 1) := by decide +kernel
theorem d_HL_set_19 : decode b_HL_set 19 = .ok (.getfield 21, 3) := by decide +kernel
theorem d_HL_set_22 : decode b_HL_set 22 = .ok (.iload_n 2, 1) := by decide +kernel
theorem d_HL_set_23 : decode b_HL_set 23 = .ok (.invokevirtual 73, 3) := by decide +kernel
theorem d_HL_set_26 : decode b_HL_set 26 = .ok (.goto 11, 3) := by decide +kernel
theorem d_HL_set_29 : decode b_HL_set 29 = .ok (.aload_n 0, 1) := by decide +kernel
theorem d_HL_set_30 : decode b_HL_set 30 = .ok (.getfield 21, 3) := by decide +kernel
theorem d_HL_set_33 : decode b_HL_set 33 = .ok (.iload_n 2, 1) := by decide +kernel
theorem d_HL_set_34 : decode b_HL_set 34 = .ok (.invokevirtual 77, 3) := by decide +kernel
theorem d_HL_set_37 : decode b_HL_set 37 = .ok (.ireturn, 1) := by decide +kernel
theorem d_HL_loop_0 : decode b_HL_loop 0 = .ok (.aload_n 0, 1) := by decide +kernel
theorem d_HL_loop_1 : decode b_HL_loop 1 = .ok (.iload_n 1, 1) := by decide +kernel
theorem d_HL_loop_2 : decode b_HL_loop 2 = .ok (.invokevirtual 39, 3) := by decide +kernel
theorem d_HL_loop_5 : decode b_HL_loop 5 = .ok (.iload_n 2, 1) := by decide +kernel
theorem d_HL_loop_6 : decode b_HL_loop 6 = .ok (.iconst 0, 1) := by decide +kernel
theorem d_HL_loop_7 : decode b_HL_loop 7 = .ok (.sipush 500, 3) := by decide +kernel
theorem d_HL_loop_10 : decode b_HL_loop 10 = .ok (.invokestatic 43, 3) := by decide +kernel
theorem d_HL_loop_13 : decode b_HL_loop 13 = .ok (.aload_n 0, 1) := by decide +kernel
theorem d_HL_loop_14 : decode b_HL_loop 14 = .ok (.getfield 12, 3) := by decide +kernel
theorem d_HL_loop_17 : decode b_HL_loop 17 = .ok (.getfield 80, 3) := by decide +kernel
theorem d_HL_loop_20 : decode b_HL_loop 20 = .ok (.iload_n 1, 1) := by decide +kernel
theorem d_HL_loop_21 : decode b_HL_loop 21 = .ok (.iaload, 1) := by decide +kernel
theorem d_HL_loop_22 : decode b_HL_loop 22 = .ok (.istore_n 3, 1) := by decide +kernel
theorem d_HL_loop_23 : decode b_HL_loop 23 = .ok (.aload_n 0, 1) := by decide +kernel
theorem d_HL_loop_24 : decode b_HL_loop 24 = .ok (.getfield 12, 3) := by decide +kernel
theorem d_HL_loop_27 : decode b_HL_loop 27 = .ok (.getfield 80, 3) := by decide +kernel
theorem d_HL_loop_30 : decode b_HL_loop 30 = .ok (.iload_n 1, 1) := by decide +kernel
theorem d_HL_loop_31 : decode b_HL_loop 31 = .ok (.iload_n 2, 1) := by decide +kernel
theorem d_HL_loop_32 : decode b_HL_loop 32 = .ok (.iastore, 1) := by decide +kernel
theorem d_HL_loop_33 : decode b_HL_loop 33 = .ok (.iload_n 3, 1) := by decide +kernel
theorem d_HL_loop_34 : decode b_HL_loop 34 = .ok (.ireturn, 1) := by decide +kernel
theorem d_HL_draw_0 : decode b_HL_draw 0 = .ok (.aload_n 0, 1) := by decide +kernel
theorem d_HL_draw_1 : decode b_HL_draw 1 = .ok (.iload_n 1, 1) := by decide +kernel
theorem d_HL_draw_2 : decode b_HL_draw 2 = .ok (.invokevirtual 39, 3) := by decide +kernel
theorem d_HL_draw_5 : decode b_HL_draw 5 = .ok (.iload_n 2, 1) := by decide +kernel
theorem d_HL_draw_6 : decode b_HL_draw 6 = .ok (.iconst 0, 1) := by decide +kernel
theorem d_HL_draw_7 : decode b_HL_draw 7 = .ok (.sipush 2999, 3) := by decide +kernel
theorem d_HL_draw_10 : decode b_HL_draw 10 = .ok (.invokestatic 43, 3) := by decide +kernel
theorem d_HL_draw_13 : decode b_HL_draw 13 = .ok (.iload_n 3, 1) := by decide +kernel
theorem d_HL_draw_14 : decode b_HL_draw 14 = .ok (.iconst 1, 1) := by decide +kernel
theorem d_HL_draw_15 : decode b_HL_draw 15 = .ok (.sipush 1000, 3) := by decide +kernel
theorem d_HL_draw_18 : decode b_HL_draw 18 = .ok (.invokestatic 43, 3) := by decide +kernel
theorem d_HL_draw_21 : decode b_HL_draw 21 = .ok (.aload_n 0, 1) := by decide +kernel
theorem d_HL_draw_22 : decode b_HL_draw 22 = .ok (.getfield 12, 3) := by decide +kernel
theorem d_HL_draw_25 : decode b_HL_draw 25 = .ok (.getfield 70, 3) := by decide +kernel
theorem d_HL_draw_28 : decode b_HL_draw 28 = .ok (.iload_n 1, 1) := by decide +kernel
theorem d_HL_draw_29 : decode b_HL_draw 29 = .ok (.baload, 1) := by decide +kernel
theorem d_HL_draw_30 : decode b_HL_draw 30 = .ok (.ifCond .ne 13, 3) := by decide +kernel
theorem d_HL_draw_33 : decode b_HL_draw 33 = .ok (.new 51, 3) := by decide +kernel
theorem d_HL_draw_36 : decode b_HL_draw 36 = .ok (.dup, 1) := by decide +kernel
theorem d_HL_draw_37 : decode b_HL_draw 37 = .ok (.ldc 84, 2) := by decide +kernel
theorem d_HL_draw_39 : decode b_HL_draw 39 = .ok (.invokespecial 55, 3) := by decide +kernel
theorem d_HL_draw_42 : decode b_HL_draw 42 = .ok (.athrow, 1) := by decide +kernel
theorem d_HL_draw_43 : decode b_HL_draw 43 = .ok (.iload_n 2, 1) := by decide +kernel
theorem d_HL_draw_44 : decode b_HL_draw 44 = .ok (.aload_n 0, 1) := by decide +kernel
theorem d_HL_draw_45 : decode b_HL_draw 45 = .ok (.getfield 21, 3) := by decide +kernel
theorem d_HL_draw_48 : decode b_HL_draw 48 = .ok (.getfield 58, 3) := by decide +kernel
theorem d_HL_draw_51 : decode b_HL_draw 51 = .ok (.if_icmp .ge 13, 3) := by decide +kernel
theorem d_HL_draw_54 : decode b_HL_draw 54 = .ok (.new 51, 3) := by decide +kernel
theorem d_HL_draw_57 : decode b_HL_draw 57 = .ok (.dup, 1) := by decide +kernel
theorem d_HL_draw_58 : decode b_HL_draw 58 = .ok (.ldc 86, 2) := by decide +kernel
theorem d_HL_draw_60 : decode b_HL_draw 60 = .ok (.invokespecial 55, 3) := by decide +kernel
theorem d_HL_draw_63 : decode b_HL_draw 63 = .ok (.athrow, 1) := by decide +kernel
theorem d_HL_draw_64 : decode b_HL_draw 64 = .ok (.aload_n 0, 1) := by decide +kernel
theorem d_HL_draw_65 : decode b_HL_draw 65 = .ok (.getfield 31, 3) := by decide +kernel
theorem d_HL_draw_68 : decode b_HL_draw 68 = .ok (.getfield 88, 3) := by decide +kernel
theorem d_HL_draw_71 : decode b_HL_draw 71 = .ok (.bipush 60, 2) := by decide +kernel
theorem d_HL_draw_73 : decode b_HL_draw 73 = .ok (.if_icmp .lt 13, 3) := by decide +kernel
theorem d_HL_draw_76 : decode b_HL_draw 76 = .ok (.new 51, 3) := by decide +kernel
theorem d_HL_draw_79 : decode b_HL_draw 79 = .ok (.dup, 1) := by decide +kernel
theorem d_HL_draw_80 : decode b_HL_draw 80 = .ok (.ldc 89, 2) := by decide +kernel
theorem d_HL_draw_82 : decode b_HL_draw 82 = .ok (.invokespecial 55, 3) := by decide +kernel
theorem d_HL_draw_85 : decode b_HL_draw 85 = .ok (.athrow, 1) := by decide +kernel
theorem d_HL_draw_86 : decode b_HL_draw 86 = .ok (.aload_n 0, 1) := by decide +kernel
theorem d_HL_draw_87 : decode b_HL_draw 87 = .ok (.getfield 31, 3) := by decide +kernel
theorem d_HL_draw_90 : decode b_HL_draw 90 = .ok (.iload_n 1, 1) := by decide +kernel
theorem d_HL_draw_91 : decode b_HL_draw 91 = .ok (.iload_n 2, 1) := by decide +kernel
theorem d_HL_draw_92 : decode b_HL_draw 92 = .ok (.iload_n 3, 1) := by decide +kernel
theorem d_HL_draw_93 : decode b_HL_draw 93 = .ok (.invokevirtual 91, 3) := by decide +kernel
theorem d_HL_draw_96 : decode b_HL_draw 96 = .ok (.ireturn, 1) := by decide +kernel
theorem d_HL_run_0 : decode b_HL_run 0 = .ok (.iload_n 1, 1) := by decide +kernel
theorem d_HL_run_1 : decode b_HL_run 1 = .ok (.iconst 1, 1) := by decide +kernel
theorem d_HL_run_2 : decode b_HL_run 2 = .ok (.bipush 100, 2) := by decide +kernel
theorem d_HL_run_4 : decode b_HL_run 4 = .ok (.invokestatic 43, 3) := by decide +kernel
theorem d_HL_run_7 : decode b_HL_run 7 = .ok (.aload_n 0, 1) := by decide +kernel
theorem d_HL_run_8 : decode b_HL_run 8 = .ok (.getfield 21, 3) := by decide +kernel
theorem d_HL_run_11 : decode b_HL_run 11 = .ok (.getfield 58, 3) := by decide +kernel
theorem d_HL_run_14 : decode b_HL_run 14 = .ok (.iload_n 1, 1) := by decide +kernel
theorem d_HL_run_15 : decode b_HL_run 15 = .ok (.iadd, 1) := by decide +kernel
theorem d_HL_run_16 : decode b_HL_run 16 = .ok (.sipush 3000, 3) := by decide +kernel
theorem d_HL_run_19 : decode b_HL_run 19 = .ok (.if_icmp .le 13, 3) := by decide +kernel
theorem d_HL_run_22 : decode b_HL_run 22 = .ok (.new 51, 3) := by decide +kernel
theorem d_HL_run_25 : decode b_HL_run 25 = .ok (.dup, 1) := by decide +kernel
theorem d_HL_run_26 : decode b_HL_run 26 = .ok (.ldc 92, 2) := by decide +kernel
theorem d_HL_run_28 : decode b_HL_run 28 = .ok (.invokespecial 55, 3) := by decide +kernel
theorem d_HL_run_31 : decode b_HL_run 31 = .ok (.athrow, 1) := by decide +kernel
theorem d_HL_run_32 : decode b_HL_run 32 = .ok (.iconst 0, 1) := by decide +kernel
theorem d_HL_run_33 : decode b_HL_run 33 = .ok (.istore_n 2, 1) := by decide +kernel
theorem d_HL_run_34 : decode b_HL_run 34 = .ok (.iload_n 2, 1) := by decide +kernel
theorem d_HL_run_35 : decode b_HL_run 35 = .ok (.iload_n 1, 1) := by decide +kernel
theorem d_HL_run_36 : decode b_HL_run 36 = .ok (.if_icmp .ge 20, 3) := by decide +kernel
theorem d_HL_run_39 : decode b_HL_run 39 = .ok (.aload_n 0, 1) := by decide +kernel
theorem d_HL_run_40 : decode b_HL_run 40 = .ok (.invokevirtual 94, 3) := by decide +kernel
theorem d_HL_run_43 : decode b_HL_run 43 = .ok (.aload_n 0, 1) := by decide +kernel
theorem d_HL_run_44 : decode b_HL_run 44 = .ok (.getfield 21, 3) := by decide +kernel
theorem d_HL_run_47 : decode b_HL_run 47 = .ok (.invokevirtual 97, 3) := by decide +kernel
theorem d_HL_run_50 : decode b_HL_run 50 = .ok (.iinc 2 1, 3) := by decide +kernel
theorem d_HL_run_53 : decode b_HL_run 53 = .ok (.goto (-19), 3) := by decide +kernel
theorem d_HL_run_56 : decode b_HL_run 56 = .ok (.aload_n 0, 1) := by decide +kernel
theorem d_HL_run_57 : decode b_HL_run 57 = .ok (.getfield 21, 3) := by decide +kernel
theorem d_HL_run_60 : decode b_HL_run 60 = .ok (.getfield 58, 3) := by decide +kernel
theorem d_HL_run_63 : decode b_HL_run 63 = .ok (.ireturn, 1) := by decide +kernel
theorem d_HL_plug_0 : decode b_HL_plug 0 = .ok (.aload_n 0, 1) := by decide +kernel
theorem d_HL_plug_1 : decode b_HL_plug 1 = .ok (.iload_n 1, 1) := by decide +kernel
theorem d_HL_plug_2 : decode b_HL_plug 2 = .ok (.invokevirtual 39, 3) := by decide +kernel
theorem d_HL_plug_5 : decode b_HL_plug 5 = .ok (.iload_n 2, 1) := by decide +kernel
theorem d_HL_plug_6 : decode b_HL_plug 6 = .ok (.invokestatic 100, 3) := by decide +kernel
theorem d_HL_plug_9 : decode b_HL_plug 9 = .ok (.iload_n 3, 1) := by decide +kernel
theorem d_HL_plug_10 : decode b_HL_plug 10 = .ok (.iconst 0, 1) := by decide +kernel
theorem d_HL_plug_11 : decode b_HL_plug 11 = .ok (.iconst 1, 1) := by decide +kernel
theorem d_HL_plug_12 : decode b_HL_plug 12 = .ok (.invokestatic 43, 3) := by decide +kernel
theorem d_HL_plug_15 : decode b_HL_plug 15 = .ok (.aload_n 0, 1) := by decide +kernel
theorem d_HL_plug_16 : decode b_HL_plug 16 = .ok (.getfield 21, 3) := by decide +kernel
theorem d_HL_plug_19 : decode b_HL_plug 19 = .ok (.getfield 103, 3) := by decide +kernel
theorem d_HL_plug_22 : decode b_HL_plug 22 = .ok (.iload_n 1, 1) := by decide +kernel
theorem d_HL_plug_23 : decode b_HL_plug 23 = .ok (.aaload, 1) := by decide +kernel
theorem d_HL_plug_24 : decode b_HL_plug 24 = .ok (.astore 4, 2) := by decide +kernel
theorem d_HL_plug_26 : decode b_HL_plug 26 = .ok (.iload_n 2, 1) := by decide +kernel
theorem d_HL_plug_27 : decode b_HL_plug 27 = .ok (.aload 4, 2) := by decide +kernel
theorem d_HL_plug_29 : decode b_HL_plug 29 = .ok (.getfield 107, 3) := by decide +kernel
theorem d_HL_plug_32 : decode b_HL_plug 32 = .ok (.if_icmp .lt 5, 3) := by decide +kernel
theorem d_HL_plug_35 : decode b_HL_plug 35 = .ok (.iconst (-1), 1) := by decide +kernel
theorem d_HL_plug_36 : decode b_HL_plug 36 = .ok (.ireturn, 1) := by decide +kernel
theorem d_HL_plug_37 : decode b_HL_plug 37 = .ok (.iload_n 3, 1) := by decide +kernel
theorem d_HL_plug_38 : decode b_HL_plug 38 = .ok (.ifCond .ne 13, 3) := by decide +kernel
theorem d_HL_plug_41 : decode b_HL_plug 41 = .ok (.aload 4, 2) := by decide +kernel
theorem d_HL_plug_43 : decode b_HL_plug 43 = .ok (.getfield 110, 3) := by decide +kernel
theorem d_HL_plug_46 : decode b_HL_plug 46 = .ok (.iload_n 2, 1) := by decide +kernel
theorem d_HL_plug_47 : decode b_HL_plug 47 = .ok (.iaload, 1) := by decide +kernel
theorem d_HL_plug_48 : decode b_HL_plug 48 = .ok (.goto 10, 3) := by decide +kernel
theorem d_HL_plug_51 : decode b_HL_plug 51 = .ok (.aload 4, 2) := by decide +kernel
theorem d_HL_plug_53 : decode b_HL_plug 53 = .ok (.getfield 113, 3) := by decide +kernel
theorem d_HL_plug_56 : decode b_HL_plug 56 = .ok (.iload_n 2, 1) := by decide +kernel
theorem d_HL_plug_57 : decode b_HL_plug 57 = .ok (.iaload, 1) := by decide +kernel
theorem d_HL_plug_58 : decode b_HL_plug 58 = .ok (.ireturn, 1) := by decide +kernel
theorem d_HL_told_0 : decode b_HL_told 0 = .ok (.aload_n 0, 1) := by decide +kernel
theorem d_HL_told_1 : decode b_HL_told 1 = .ok (.iload_n 1, 1) := by decide +kernel
theorem d_HL_told_2 : decode b_HL_told 2 = .ok (.invokevirtual 39, 3) := by decide +kernel
theorem d_HL_told_5 : decode b_HL_told 5 = .ok (.iload_n 2, 1) := by decide +kernel
theorem d_HL_told_6 : decode b_HL_told 6 = .ok (.iconst 0, 1) := by decide +kernel
theorem d_HL_told_7 : decode b_HL_told 7 = .ok (.iconst 3, 1) := by decide +kernel
theorem d_HL_told_8 : decode b_HL_told 8 = .ok (.invokestatic 43, 3) := by decide +kernel
theorem d_HL_told_11 : decode b_HL_told 11 = .ok (.iload_n 2, 1) := by decide +kernel
theorem d_HL_told_12 : decode b_HL_told 12 = .ok (.tableswitch 63 0 2 #[28, 41, 54], 28) := by decide +kernel
theorem d_HL_told_40 : decode b_HL_told 40 = .ok (.aload_n 0, 1) := by decide +kernel
theorem d_HL_told_41 : decode b_HL_told 41 = .ok (.getfield 21, 3) := by decide +kernel
theorem d_HL_told_44 : decode b_HL_told 44 = .ok (.getfield 103, 3) := by decide +kernel
theorem d_HL_told_47 : decode b_HL_told 47 = .ok (.iload_n 1, 1) := by decide +kernel
theorem d_HL_told_48 : decode b_HL_told 48 = .ok (.aaload, 1) := by decide +kernel
theorem d_HL_told_49 : decode b_HL_told 49 = .ok (.invokevirtual 116, 3) := by decide +kernel
theorem d_HL_told_52 : decode b_HL_told 52 = .ok (.ireturn, 1) := by decide +kernel
theorem d_HL_told_53 : decode b_HL_told 53 = .ok (.aload_n 0, 1) := by decide +kernel
theorem d_HL_told_54 : decode b_HL_told 54 = .ok (.getfield 21, 3) := by decide +kernel
theorem d_HL_told_57 : decode b_HL_told 57 = .ok (.getfield 103, 3) := by decide +kernel
theorem d_HL_told_60 : decode b_HL_told 60 = .ok (.iload_n 1, 1) := by decide +kernel
theorem d_HL_told_61 : decode b_HL_told 61 = .ok (.aaload, 1) := by decide +kernel
theorem d_HL_told_62 : decode b_HL_told 62 = .ok (.invokevirtual 120, 3) := by decide +kernel
theorem d_HL_told_65 : decode b_HL_told 65 = .ok (.ireturn, 1) := by decide +kernel
theorem d_HL_told_66 : decode b_HL_told 66 = .ok (.aload_n 0, 1) := by decide +kernel
theorem d_HL_told_67 : decode b_HL_told 67 = .ok (.getfield 21, 3) := by decide +kernel
theorem d_HL_told_70 : decode b_HL_told 70 = .ok (.iload_n 1, 1) := by decide +kernel
theorem d_HL_told_71 : decode b_HL_told 71 = .ok (.invokevirtual 123, 3) := by decide +kernel
theorem d_HL_told_74 : decode b_HL_told 74 = .ok (.ireturn, 1) := by decide +kernel
theorem d_HL_told_75 : decode b_HL_told 75 = .ok (.aload_n 0, 1) := by decide +kernel
theorem d_HL_told_76 : decode b_HL_told 76 = .ok (.getfield 21, 3) := by decide +kernel
theorem d_HL_told_79 : decode b_HL_told 79 = .ok (.getfield 126, 3) := by decide +kernel
theorem d_HL_told_82 : decode b_HL_told 82 = .ok (.iload_n 1, 1) := by decide +kernel
theorem d_HL_told_83 : decode b_HL_told 83 = .ok (.iaload, 1) := by decide +kernel
theorem d_HL_told_84 : decode b_HL_told 84 = .ok (.ireturn, 1) := by decide +kernel
theorem d_HL_dead_0 : decode b_HL_dead 0 = .ok (.iload_n 1, 1) := by decide +kernel
theorem d_HL_dead_1 : decode b_HL_dead 1 = .ok (.invokestatic 100, 3) := by decide +kernel
theorem d_HL_dead_4 : decode b_HL_dead 4 = .ok (.iload_n 2, 1) := by decide +kernel
theorem d_HL_dead_5 : decode b_HL_dead 5 = .ok (.invokestatic 100, 3) := by decide +kernel
theorem d_HL_dead_8 : decode b_HL_dead 8 = .ok (.iconst 0, 1) := by decide +kernel
theorem d_HL_dead_9 : decode b_HL_dead 9 = .ok (.istore_n 3, 1) := by decide +kernel
theorem d_HL_dead_10 : decode b_HL_dead 10 = .ok (.iload_n 3, 1) := by decide +kernel
theorem d_HL_dead_11 : decode b_HL_dead 11 = .ok (.aload_n 0, 1) := by decide +kernel
theorem d_HL_dead_12 : decode b_HL_dead 12 = .ok (.getfield 12, 3) := by decide +kernel
theorem d_HL_dead_15 : decode b_HL_dead 15 = .ok (.getfield 47, 3) := by decide +kernel
theorem d_HL_dead_18 : decode b_HL_dead 18 = .ok (.if_icmp .ge 24, 3) := by decide +kernel
theorem d_HL_dead_21 : decode b_HL_dead 21 = .ok (.aload_n 0, 1) := by decide +kernel
theorem d_HL_dead_22 : decode b_HL_dead 22 = .ok (.getfield 35, 3) := by decide +kernel
theorem d_HL_dead_25 : decode b_HL_dead 25 = .ok (.iload_n 3, 1) := by decide +kernel
theorem d_HL_dead_26 : decode b_HL_dead 26 = .ok (.aload_n 0, 1) := by decide +kernel
theorem d_HL_dead_27 : decode b_HL_dead 27 = .ok (.getfield 21, 3) := by decide +kernel
theorem d_HL_dead_30 : decode b_HL_dead 30 = .ok (.iload_n 3, 1) := by decide +kernel
theorem d_HL_dead_31 : decode b_HL_dead 31 = .ok (.iload_n 1, 1) := by decide +kernel
theorem d_HL_dead_32 : decode b_HL_dead 32 = .ok (.invokevirtual 129, 3) := by decide +kernel
theorem d_HL_dead_35 : decode b_HL_dead 35 = .ok (.bastore, 1) := by decide +kernel
theorem d_HL_dead_36 : decode b_HL_dead 36 = .ok (.iinc 3 1, 3) := by decide +kernel
theorem d_HL_dead_39 : decode b_HL_dead 39 = .ok (.goto (-29), 3) := by decide +kernel
theorem d_HL_dead_42 : decode b_HL_dead 42 = .ok (.aload_n 0, 1) := by decide +kernel
theorem d_HL_dead_43 : decode b_HL_dead 43 = .ok (.iload_n 2, 1) := by decide +kernel
theorem d_HL_dead_44 : decode b_HL_dead 44 = .ok (.invokevirtual 133, 3) := by decide +kernel
theorem d_HL_dead_47 : decode b_HL_dead 47 = .ok (.ireturn, 1) := by decide +kernel
theorem d_HL_warm_0 : decode b_HL_warm 0 = .ok (.aload_n 0, 1) := by decide +kernel
theorem d_HL_warm_1 : decode b_HL_warm 1 = .ok (.iload_n 1, 1) := by decide +kernel
theorem d_HL_warm_2 : decode b_HL_warm 2 = .ok (.invokevirtual 39, 3) := by decide +kernel
theorem d_HL_warm_5 : decode b_HL_warm 5 = .ok (.iload_n 2, 1) := by decide +kernel
theorem d_HL_warm_6 : decode b_HL_warm 6 = .ok (.iconst 0, 1) := by decide +kernel
theorem d_HL_warm_7 : decode b_HL_warm 7 = .ok (.sipush 10000, 3) := by decide +kernel
theorem d_HL_warm_10 : decode b_HL_warm 10 = .ok (.invokestatic 43, 3) := by decide +kernel
theorem d_HL_warm_13 : decode b_HL_warm 13 = .ok (.aload_n 0, 1) := by decide +kernel
theorem d_HL_warm_14 : decode b_HL_warm 14 = .ok (.getfield 21, 3) := by decide +kernel
theorem d_HL_warm_17 : decode b_HL_warm 17 = .ok (.iload_n 1, 1) := by decide +kernel
theorem d_HL_warm_18 : decode b_HL_warm 18 = .ok (.iload_n 2, 1) := by decide +kernel
theorem d_HL_warm_19 : decode b_HL_warm 19 = .ok (.invokevirtual 136, 3) := by decide +kernel
theorem d_HL_warm_22 : decode b_HL_warm 22 = .ok (.ireturn, 1) := by decide +kernel
theorem d_HL_drawn_0 : decode b_HL_drawn 0 = .ok (.iload_n 1, 1) := by decide +kernel
theorem d_HL_drawn_1 : decode b_HL_drawn 1 = .ok (.iconst 0, 1) := by decide +kernel
theorem d_HL_drawn_2 : decode b_HL_drawn 2 = .ok (.aload_n 0, 1) := by decide +kernel
theorem d_HL_drawn_3 : decode b_HL_drawn 3 = .ok (.getfield 31, 3) := by decide +kernel
theorem d_HL_drawn_6 : decode b_HL_drawn 6 = .ok (.getfield 88, 3) := by decide +kernel
theorem d_HL_drawn_9 : decode b_HL_drawn 9 = .ok (.iconst 1, 1) := by decide +kernel
theorem d_HL_drawn_10 : decode b_HL_drawn 10 = .ok (.isub, 1) := by decide +kernel
theorem d_HL_drawn_11 : decode b_HL_drawn 11 = .ok (.invokestatic 43, 3) := by decide +kernel
theorem d_HL_drawn_14 : decode b_HL_drawn 14 = .ok (.iload_n 2, 1) := by decide +kernel
theorem d_HL_drawn_15 : decode b_HL_drawn 15 = .ok (.iconst 0, 1) := by decide +kernel
theorem d_HL_drawn_16 : decode b_HL_drawn 16 = .ok (.iconst 2, 1) := by decide +kernel
theorem d_HL_drawn_17 : decode b_HL_drawn 17 = .ok (.invokestatic 43, 3) := by decide +kernel
theorem d_HL_drawn_20 : decode b_HL_drawn 20 = .ok (.aload_n 0, 1) := by decide +kernel
theorem d_HL_drawn_21 : decode b_HL_drawn 21 = .ok (.getfield 31, 3) := by decide +kernel
theorem d_HL_drawn_24 : decode b_HL_drawn 24 = .ok (.getfield 140, 3) := by decide +kernel
theorem d_HL_drawn_27 : decode b_HL_drawn 27 = .ok (.iload_n 1, 1) := by decide +kernel
theorem d_HL_drawn_28 : decode b_HL_drawn 28 = .ok (.iaload, 1) := by decide +kernel
theorem d_HL_drawn_29 : decode b_HL_drawn 29 = .ok (.aload_n 0, 1) := by decide +kernel
theorem d_HL_drawn_30 : decode b_HL_drawn 30 = .ok (.getfield 21, 3) := by decide +kernel
theorem d_HL_drawn_33 : decode b_HL_drawn 33 = .ok (.getfield 58, 3) := by decide +kernel
theorem d_HL_drawn_36 : decode b_HL_drawn 36 = .ok (.if_icmp .lt 5, 3) := by decide +kernel
theorem d_HL_drawn_39 : decode b_HL_drawn 39 = .ok (.iconst (-1), 1) := by decide +kernel
theorem d_HL_drawn_40 : decode b_HL_drawn 40 = .ok (.ireturn, 1) := by decide +kernel
theorem d_HL_drawn_41 : decode b_HL_drawn 41 = .ok (.iload_n 2, 1) := by decide +kernel
theorem d_HL_drawn_42 : decode b_HL_drawn 42 = .ok (.lookupswitch 46 #[(0, 26), (1, 36)], 26) := by decide +kernel
theorem d_HL_drawn_68 : decode b_HL_drawn 68 = .ok (.aload_n 0, 1) := by decide +kernel
theorem d_HL_drawn_69 : decode b_HL_drawn 69 = .ok (.getfield 31, 3) := by decide +kernel
theorem d_HL_drawn_72 : decode b_HL_drawn 72 = .ok (.getfield 143, 3) := by decide +kernel
theorem d_HL_drawn_75 : decode b_HL_drawn 75 = .ok (.iload_n 1, 1) := by decide +kernel
theorem d_HL_drawn_76 : decode b_HL_drawn 76 = .ok (.iaload, 1) := by decide +kernel
theorem d_HL_drawn_77 : decode b_HL_drawn 77 = .ok (.ireturn, 1) := by decide +kernel
theorem d_HL_drawn_78 : decode b_HL_drawn 78 = .ok (.aload_n 0, 1) := by decide +kernel
theorem d_HL_drawn_79 : decode b_HL_drawn 79 = .ok (.getfield 31, 3) := by decide +kernel
theorem d_HL_drawn_82 : decode b_HL_drawn 82 = .ok (.getfield 146, 3) := by decide +kernel
theorem d_HL_drawn_85 : decode b_HL_drawn 85 = .ok (.iload_n 1, 1) := by decide +kernel
theorem d_HL_drawn_86 : decode b_HL_drawn 86 = .ok (.iaload, 1) := by decide +kernel
theorem d_HL_drawn_87 : decode b_HL_drawn 87 = .ok (.ireturn, 1) := by decide +kernel
theorem d_HL_drawn_88 : decode b_HL_drawn 88 = .ok (.aload_n 0, 1) := by decide +kernel
theorem d_HL_drawn_89 : decode b_HL_drawn 89 = .ok (.getfield 31, 3) := by decide +kernel
theorem d_HL_drawn_92 : decode b_HL_drawn 92 = .ok (.getfield 149, 3) := by decide +kernel
theorem d_HL_drawn_95 : decode b_HL_drawn 95 = .ok (.iload_n 1, 1) := by decide +kernel
theorem d_HL_drawn_96 : decode b_HL_drawn 96 = .ok (.iaload, 1) := by decide +kernel
theorem d_HL_drawn_97 : decode b_HL_drawn 97 = .ok (.ireturn, 1) := by decide +kernel
theorem d_HL_heat_0 : decode b_HL_heat 0 = .ok (.iload_n 1, 1) := by decide +kernel
theorem d_HL_heat_1 : decode b_HL_heat 1 = .ok (.iconst 0, 1) := by decide +kernel
theorem d_HL_heat_2 : decode b_HL_heat 2 = .ok (.iconst 3, 1) := by decide +kernel
theorem d_HL_heat_3 : decode b_HL_heat 3 = .ok (.invokestatic 43, 3) := by decide +kernel
theorem d_HL_heat_6 : decode b_HL_heat 6 = .ok (.iload_n 1, 1) := by decide +kernel
theorem d_HL_heat_7 : decode b_HL_heat 7 = .ok (.tableswitch 49 0 2 #[25, 33, 41], 25) := by decide +kernel
theorem d_HL_heat_32 : decode b_HL_heat 32 = .ok (.aload_n 0, 1) := by decide +kernel
theorem d_HL_heat_33 : decode b_HL_heat 33 = .ok (.getfield 21, 3) := by decide +kernel
theorem d_HL_heat_36 : decode b_HL_heat 36 = .ok (.invokevirtual 152, 3) := by decide +kernel
theorem d_HL_heat_39 : decode b_HL_heat 39 = .ok (.lreturn, 1) := by decide +kernel
theorem d_HL_heat_40 : decode b_HL_heat 40 = .ok (.aload_n 0, 1) := by decide +kernel
theorem d_HL_heat_41 : decode b_HL_heat 41 = .ok (.getfield 21, 3) := by decide +kernel
theorem d_HL_heat_44 : decode b_HL_heat 44 = .ok (.getfield 156, 3) := by decide +kernel
theorem d_HL_heat_47 : decode b_HL_heat 47 = .ok (.lreturn, 1) := by decide +kernel
theorem d_HL_heat_48 : decode b_HL_heat 48 = .ok (.aload_n 0, 1) := by decide +kernel
theorem d_HL_heat_49 : decode b_HL_heat 49 = .ok (.getfield 21, 3) := by decide +kernel
theorem d_HL_heat_52 : decode b_HL_heat 52 = .ok (.getfield 160, 3) := by decide +kernel
theorem d_HL_heat_55 : decode b_HL_heat 55 = .ok (.lreturn, 1) := by decide +kernel
theorem d_HL_heat_56 : decode b_HL_heat 56 = .ok (.aload_n 0, 1) := by decide +kernel
theorem d_HL_heat_57 : decode b_HL_heat 57 = .ok (.getfield 21, 3) := by decide +kernel
theorem d_HL_heat_60 : decode b_HL_heat 60 = .ok (.getfield 163, 3) := by decide +kernel
theorem d_HL_heat_63 : decode b_HL_heat 63 = .ok (.lreturn, 1) := by decide +kernel
theorem d_HL_shock_0 : decode b_HL_shock 0 = .ok (.iload_n 1, 1) := by decide +kernel
theorem d_HL_shock_1 : decode b_HL_shock 1 = .ok (.iconst 0, 1) := by decide +kernel
theorem d_HL_shock_2 : decode b_HL_shock 2 = .ok (.sipush 10000, 3) := by decide +kernel
theorem d_HL_shock_5 : decode b_HL_shock 5 = .ok (.invokestatic 43, 3) := by decide +kernel
theorem d_HL_shock_8 : decode b_HL_shock 8 = .ok (.iload_n 2, 1) := by decide +kernel
theorem d_HL_shock_9 : decode b_HL_shock 9 = .ok (.iconst 1, 1) := by decide +kernel
theorem d_HL_shock_10 : decode b_HL_shock 10 = .ok (.bipush 100, 2) := by decide +kernel
theorem d_HL_shock_12 : decode b_HL_shock 12 = .ok (.invokestatic 43, 3) := by decide +kernel
theorem d_HL_shock_15 : decode b_HL_shock 15 = .ok (.iload_n 3, 1) := by decide +kernel
theorem d_HL_shock_16 : decode b_HL_shock 16 = .ok (.iconst 1, 1) := by decide +kernel
theorem d_HL_shock_17 : decode b_HL_shock 17 = .ok (.bipush 30, 2) := by decide +kernel
theorem d_HL_shock_19 : decode b_HL_shock 19 = .ok (.invokestatic 43, 3) := by decide +kernel
theorem d_HL_shock_22 : decode b_HL_shock 22 = .ok (.iload 4, 2) := by decide +kernel
theorem d_HL_shock_24 : decode b_HL_shock 24 = .ok (.iconst 0, 1) := by decide +kernel
theorem d_HL_shock_25 : decode b_HL_shock 25 = .ok (.sipush 10000, 3) := by decide +kernel
theorem d_HL_shock_28 : decode b_HL_shock 28 = .ok (.invokestatic 43, 3) := by decide +kernel
theorem d_HL_shock_31 : decode b_HL_shock 31 = .ok (.iload 5, 2) := by decide +kernel
theorem d_HL_shock_33 : decode b_HL_shock 33 = .ok (.invokestatic 100, 3) := by decide +kernel
theorem d_HL_shock_36 : decode b_HL_shock 36 = .ok (.aload_n 0, 1) := by decide +kernel
theorem d_HL_shock_37 : decode b_HL_shock 37 = .ok (.iload_n 1, 1) := by decide +kernel
theorem d_HL_shock_38 : decode b_HL_shock 38 = .ok (.iload_n 2, 1) := by decide +kernel
theorem d_HL_shock_39 : decode b_HL_shock 39 = .ok (.iload_n 3, 1) := by decide +kernel
theorem d_HL_shock_40 : decode b_HL_shock 40 = .ok (.iload 4, 2) := by decide +kernel
theorem d_HL_shock_42 : decode b_HL_shock 42 = .ok (.invokevirtual 166, 3) := by decide +kernel
theorem d_HL_shock_45 : decode b_HL_shock 45 = .ok (.aload_n 0, 1) := by decide +kernel
theorem d_HL_shock_46 : decode b_HL_shock 46 = .ok (.iload 5, 2) := by decide +kernel
theorem d_HL_shock_48 : decode b_HL_shock 48 = .ok (.invokevirtual 133, 3) := by decide +kernel
theorem d_HL_shock_51 : decode b_HL_shock 51 = .ok (.ireturn, 1) := by decide +kernel
theorem d_HL_needPipe_0 : decode b_HL_needPipe 0 = .ok (.iload_n 1, 1) := by decide +kernel
theorem d_HL_needPipe_1 : decode b_HL_needPipe 1 = .ok (.ifCond .lt 14, 3) := by decide +kernel
theorem d_HL_needPipe_4 : decode b_HL_needPipe 4 = .ok (.iload_n 1, 1) := by decide +kernel
theorem d_HL_needPipe_5 : decode b_HL_needPipe 5 = .ok (.aload_n 0, 1) := by decide +kernel
theorem d_HL_needPipe_6 : decode b_HL_needPipe 6 = .ok (.getfield 12, 3) := by decide +kernel
theorem d_HL_needPipe_9 : decode b_HL_needPipe 9 = .ok (.getfield 47, 3) := by decide +kernel
theorem d_HL_needPipe_12 : decode b_HL_needPipe 12 = .ok (.if_icmp .lt 13, 3) := by decide +kernel
theorem d_HL_needPipe_15 : decode b_HL_needPipe 15 = .ok (.new 170, 3) := by decide +kernel
theorem d_HL_needPipe_18 : decode b_HL_needPipe 18 = .ok (.dup, 1) := by decide +kernel
theorem d_HL_needPipe_19 : decode b_HL_needPipe 19 = .ok (.ldc 172, 2) := by decide +kernel
theorem d_HL_needPipe_21 : decode b_HL_needPipe 21 = .ok (.invokespecial 174, 3) := by decide +kernel
theorem d_HL_needPipe_24 : decode b_HL_needPipe 24 = .ok (.athrow, 1) := by decide +kernel
theorem d_HL_needPipe_25 : decode b_HL_needPipe 25 = .ok (.return_, 1) := by decide +kernel
theorem d_HL_needWithin_0 : decode b_HL_needWithin 0 = .ok (.iload_n 0, 1) := by decide +kernel
theorem d_HL_needWithin_1 : decode b_HL_needWithin 1 = .ok (.iload_n 1, 1) := by decide +kernel
theorem d_HL_needWithin_2 : decode b_HL_needWithin 2 = .ok (.if_icmp .lt 8, 3) := by decide +kernel
theorem d_HL_needWithin_5 : decode b_HL_needWithin 5 = .ok (.iload_n 0, 1) := by decide +kernel
theorem d_HL_needWithin_6 : decode b_HL_needWithin 6 = .ok (.iload_n 2, 1) := by decide +kernel
theorem d_HL_needWithin_7 : decode b_HL_needWithin 7 = .ok (.if_icmp .le 13, 3) := by decide +kernel
theorem d_HL_needWithin_10 : decode b_HL_needWithin 10 = .ok (.new 170, 3) := by decide +kernel
theorem d_HL_needWithin_13 : decode b_HL_needWithin 13 = .ok (.dup, 1) := by decide +kernel
theorem d_HL_needWithin_14 : decode b_HL_needWithin 14 = .ok (.ldc 175, 2) := by decide +kernel
theorem d_HL_needWithin_16 : decode b_HL_needWithin 16 = .ok (.invokespecial 174, 3) := by decide +kernel
theorem d_HL_needWithin_19 : decode b_HL_needWithin 19 = .ok (.athrow, 1) := by decide +kernel
theorem d_HL_needWithin_20 : decode b_HL_needWithin 20 = .ok (.return_, 1) := by decide +kernel
theorem d_HL_needNotBelowZero_0 : decode b_HL_needNotBelowZero 0 = .ok (.iload_n 0, 1) := by decide +kernel
theorem d_HL_needNotBelowZero_1 : decode b_HL_needNotBelowZero 1 = .ok (.ifCond .ge 13, 3) := by decide +kernel
theorem d_HL_needNotBelowZero_4 : decode b_HL_needNotBelowZero 4 = .ok (.new 170, 3) := by decide +kernel
theorem d_HL_needNotBelowZero_7 : decode b_HL_needNotBelowZero 7 = .ok (.dup, 1) := by decide +kernel
theorem d_HL_needNotBelowZero_8 : decode b_HL_needNotBelowZero 8 = .ok (.ldc 177, 2) := by decide +kernel
theorem d_HL_needNotBelowZero_10 : decode b_HL_needNotBelowZero 10 = .ok (.invokespecial 174, 3) := by decide +kernel
theorem d_HL_needNotBelowZero_13 : decode b_HL_needNotBelowZero 13 = .ok (.athrow, 1) := by decide +kernel
theorem d_HL_needNotBelowZero_14 : decode b_HL_needNotBelowZero 14 = .ok (.return_, 1) := by decide +kernel
theorem d_HL_takeDraws_0 : decode b_HL_takeDraws 0 = .ok (.iconst 0, 1) := by decide +kernel
theorem d_HL_takeDraws_1 : decode b_HL_takeDraws 1 = .ok (.istore_n 1, 1) := by decide +kernel
theorem d_HL_takeDraws_2 : decode b_HL_takeDraws 2 = .ok (.iload_n 1, 1) := by decide +kernel
theorem d_HL_takeDraws_3 : decode b_HL_takeDraws 3 = .ok (.aload_n 0, 1) := by decide +kernel
theorem d_HL_takeDraws_4 : decode b_HL_takeDraws 4 = .ok (.getfield 31, 3) := by decide +kernel
theorem d_HL_takeDraws_7 : decode b_HL_takeDraws 7 = .ok (.getfield 88, 3) := by decide +kernel
theorem d_HL_takeDraws_10 : decode b_HL_takeDraws 10 = .ok (.if_icmp .ge 68, 3) := by decide +kernel
theorem d_HL_takeDraws_13 : decode b_HL_takeDraws 13 = .ok (.aload_n 0, 1) := by decide +kernel
theorem d_HL_takeDraws_14 : decode b_HL_takeDraws 14 = .ok (.getfield 31, 3) := by decide +kernel
theorem d_HL_takeDraws_17 : decode b_HL_takeDraws 17 = .ok (.getfield 140, 3) := by decide +kernel
theorem d_HL_takeDraws_20 : decode b_HL_takeDraws 20 = .ok (.iload_n 1, 1) := by decide +kernel
theorem d_HL_takeDraws_21 : decode b_HL_takeDraws 21 = .ok (.iaload, 1) := by decide +kernel
theorem d_HL_takeDraws_22 : decode b_HL_takeDraws 22 = .ok (.aload_n 0, 1) := by decide +kernel
theorem d_HL_takeDraws_23 : decode b_HL_takeDraws 23 = .ok (.getfield 21, 3) := by decide +kernel
theorem d_HL_takeDraws_26 : decode b_HL_takeDraws 26 = .ok (.getfield 58, 3) := by decide +kernel
theorem d_HL_takeDraws_29 : decode b_HL_takeDraws 29 = .ok (.if_icmp .ne 43, 3) := by decide +kernel
theorem d_HL_takeDraws_32 : decode b_HL_takeDraws 32 = .ok (.aload_n 0, 1) := by decide +kernel
theorem d_HL_takeDraws_33 : decode b_HL_takeDraws 33 = .ok (.getfield 21, 3) := by decide +kernel
theorem d_HL_takeDraws_36 : decode b_HL_takeDraws 36 = .ok (.aload_n 0, 1) := by decide +kernel
theorem d_HL_takeDraws_37 : decode b_HL_takeDraws 37 = .ok (.getfield 31, 3) := by decide +kernel
theorem d_HL_takeDraws_40 : decode b_HL_takeDraws 40 = .ok (.getfield 179, 3) := by decide +kernel
theorem d_HL_takeDraws_43 : decode b_HL_takeDraws 43 = .ok (.iload_n 1, 1) := by decide +kernel
theorem d_HL_takeDraws_44 : decode b_HL_takeDraws 44 = .ok (.iaload, 1) := by decide +kernel
theorem d_HL_takeDraws_45 : decode b_HL_takeDraws 45 = .ok (.aload_n 0, 1) := by decide +kernel
theorem d_HL_takeDraws_46 : decode b_HL_takeDraws 46 = .ok (.getfield 31, 3) := by decide +kernel
theorem d_HL_takeDraws_49 : decode b_HL_takeDraws 49 = .ok (.getfield 182, 3) := by decide +kernel
theorem d_HL_takeDraws_52 : decode b_HL_takeDraws 52 = .ok (.iload_n 1, 1) := by decide +kernel
theorem d_HL_takeDraws_53 : decode b_HL_takeDraws 53 = .ok (.iaload, 1) := by decide +kernel
theorem d_HL_takeDraws_54 : decode b_HL_takeDraws 54 = .ok (.invokevirtual 183, 3) := by decide +kernel
theorem d_HL_takeDraws_57 : decode b_HL_takeDraws 57 = .ok (.aload_n 0, 1) := by decide +kernel
theorem d_HL_takeDraws_58 : decode b_HL_takeDraws 58 = .ok (.getfield 31, 3) := by decide +kernel
theorem d_HL_takeDraws_61 : decode b_HL_takeDraws 61 = .ok (.iload_n 1, 1) := by decide +kernel
theorem d_HL_takeDraws_62 : decode b_HL_takeDraws 62 = .ok (.aload_n 0, 1) := by decide +kernel
theorem d_HL_takeDraws_63 : decode b_HL_takeDraws 63 = .ok (.getfield 21, 3) := by decide +kernel
theorem d_HL_takeDraws_66 : decode b_HL_takeDraws 66 = .ok (.getfield 187, 3) := by decide +kernel
theorem d_HL_takeDraws_69 : decode b_HL_takeDraws 69 = .ok (.invokevirtual 191, 3) := by decide +kernel
theorem d_HL_takeDraws_72 : decode b_HL_takeDraws 72 = .ok (.iinc 1 1, 3) := by decide +kernel
theorem d_HL_takeDraws_75 : decode b_HL_takeDraws 75 = .ok (.goto (-73), 3) := by decide +kernel
theorem d_HL_takeDraws_78 : decode b_HL_takeDraws 78 = .ok (.return_, 1) := by decide +kernel
theorem d_HL_markMissed_0 : decode b_HL_markMissed 0 = .ok (.aload_n 0, 1) := by decide +kernel
theorem d_HL_markMissed_1 : decode b_HL_markMissed 1 = .ok (.getfield 25, 3) := by decide +kernel
theorem d_HL_markMissed_4 : decode b_HL_markMissed 4 = .ok (.aload_n 0, 1) := by decide +kernel
theorem d_HL_markMissed_5 : decode b_HL_markMissed 5 = .ok (.getfield 21, 3) := by decide +kernel
theorem d_HL_markMissed_8 : decode b_HL_markMissed 8 = .ok (.invokevirtual 195, 3) := by decide +kernel
theorem d_HL_markMissed_11 : decode b_HL_markMissed 11 = .ok (.aload_n 0, 1) := by decide +kernel
theorem d_HL_markMissed_12 : decode b_HL_markMissed 12 = .ok (.getfield 25, 3) := by decide +kernel
theorem d_HL_markMissed_15 : decode b_HL_markMissed 15 = .ok (.iload_n 1, 1) := by decide +kernel
theorem d_HL_markMissed_16 : decode b_HL_markMissed 16 = .ok (.invokevirtual 73, 3) := by decide +kernel
theorem d_HL_markMissed_19 : decode b_HL_markMissed 19 = .ok (.pop, 1) := by decide +kernel
theorem d_HL_markMissed_20 : decode b_HL_markMissed 20 = .ok (.iconst 0, 1) := by decide +kernel
theorem d_HL_markMissed_21 : decode b_HL_markMissed 21 = .ok (.istore 5, 2) := by decide +kernel
theorem d_HL_markMissed_23 : decode b_HL_markMissed 23 = .ok (.iload 5, 2) := by decide +kernel
theorem d_HL_markMissed_25 : decode b_HL_markMissed 25 = .ok (.aload_n 0, 1) := by decide +kernel
theorem d_HL_markMissed_26 : decode b_HL_markMissed 26 = .ok (.getfield 12, 3) := by decide +kernel
theorem d_HL_markMissed_29 : decode b_HL_markMissed 29 = .ok (.getfield 47, 3) := by decide +kernel
theorem d_HL_markMissed_32 : decode b_HL_markMissed 32 = .ok (.if_icmp .ge 26, 3) := by decide +kernel
theorem d_HL_markMissed_35 : decode b_HL_markMissed 35 = .ok (.aload_n 0, 1) := by decide +kernel
theorem d_HL_markMissed_36 : decode b_HL_markMissed 36 = .ok (.getfield 35, 3) := by decide +kernel
theorem d_HL_markMissed_39 : decode b_HL_markMissed 39 = .ok (.iload 5, 2) := by decide +kernel
theorem d_HL_markMissed_41 : decode b_HL_markMissed 41 = .ok (.aload_n 0, 1) := by decide +kernel
theorem d_HL_markMissed_42 : decode b_HL_markMissed 42 = .ok (.getfield 12, 3) := by decide +kernel
theorem d_HL_markMissed_45 : decode b_HL_markMissed 45 = .ok (.getfield 70, 3) := by decide +kernel
theorem d_HL_markMissed_48 : decode b_HL_markMissed 48 = .ok (.iload 5, 2) := by decide +kernel
theorem d_HL_markMissed_50 : decode b_HL_markMissed 50 = .ok (.baload, 1) := by decide +kernel
theorem d_HL_markMissed_51 : decode b_HL_markMissed 51 = .ok (.bastore, 1) := by decide +kernel
theorem d_HL_markMissed_52 : decode b_HL_markMissed 52 = .ok (.iinc 5 1, 3) := by decide +kernel
theorem d_HL_markMissed_55 : decode b_HL_markMissed 55 = .ok (.goto (-32), 3) := by decide +kernel
theorem d_HL_markMissed_58 : decode b_HL_markMissed 58 = .ok (.iconst 0, 1) := by decide +kernel
theorem d_HL_markMissed_59 : decode b_HL_markMissed 59 = .ok (.istore 5, 2) := by decide +kernel
theorem d_HL_markMissed_61 : decode b_HL_markMissed 61 = .ok (.iload 5, 2) := by decide +kernel
theorem d_HL_markMissed_63 : decode b_HL_markMissed 63 = .ok (.iload_n 3, 1) := by decide +kernel
theorem d_HL_markMissed_64 : decode b_HL_markMissed 64 = .ok (.if_icmp .ge 23, 3) := by decide +kernel
theorem d_HL_markMissed_67 : decode b_HL_markMissed 67 = .ok (.aload_n 0, 1) := by decide +kernel
theorem d_HL_markMissed_68 : decode b_HL_markMissed 68 = .ok (.iload_n 2, 1) := by decide +kernel
theorem d_HL_markMissed_69 : decode b_HL_markMissed 69 = .ok (.iload 4, 2) := by decide +kernel
theorem d_HL_markMissed_71 : decode b_HL_markMissed 71 = .ok (.invokevirtual 199, 3) := by decide +kernel
theorem d_HL_markMissed_74 : decode b_HL_markMissed 74 = .ok (.aload_n 0, 1) := by decide +kernel
theorem d_HL_markMissed_75 : decode b_HL_markMissed 75 = .ok (.getfield 25, 3) := by decide +kernel
theorem d_HL_markMissed_78 : decode b_HL_markMissed 78 = .ok (.invokevirtual 97, 3) := by decide +kernel
theorem d_HL_markMissed_81 : decode b_HL_markMissed 81 = .ok (.iinc 5 1, 3) := by decide +kernel
theorem d_HL_markMissed_84 : decode b_HL_markMissed 84 = .ok (.goto (-23), 3) := by decide +kernel
theorem d_HL_markMissed_87 : decode b_HL_markMissed 87 = .ok (.return_, 1) := by decide +kernel
theorem d_HL_takeShock_0 : decode b_HL_takeShock 0 = .ok (.iconst 0, 1) := by decide +kernel
theorem d_HL_takeShock_1 : decode b_HL_takeShock 1 = .ok (.istore_n 3, 1) := by decide +kernel
theorem d_HL_takeShock_2 : decode b_HL_takeShock 2 = .ok (.iload_n 3, 1) := by decide +kernel
theorem d_HL_takeShock_3 : decode b_HL_takeShock 3 = .ok (.aload_n 0, 1) := by decide +kernel
theorem d_HL_takeShock_4 : decode b_HL_takeShock 4 = .ok (.getfield 12, 3) := by decide +kernel
theorem d_HL_takeShock_7 : decode b_HL_takeShock 7 = .ok (.getfield 47, 3) := by decide +kernel
theorem d_HL_takeShock_10 : decode b_HL_takeShock 10 = .ok (.if_icmp .ge 51, 3) := by decide +kernel
theorem d_HL_takeShock_13 : decode b_HL_takeShock 13 = .ok (.aload_n 0, 1) := by decide +kernel
theorem d_HL_takeShock_14 : decode b_HL_takeShock 14 = .ok (.getfield 12, 3) := by decide +kernel
theorem d_HL_takeShock_17 : decode b_HL_takeShock 17 = .ok (.getfield 70, 3) := by decide +kernel
theorem d_HL_takeShock_20 : decode b_HL_takeShock 20 = .ok (.iload_n 3, 1) := by decide +kernel
theorem d_HL_takeShock_21 : decode b_HL_takeShock 21 = .ok (.baload, 1) := by decide +kernel
theorem d_HL_takeShock_22 : decode b_HL_takeShock 22 = .ok (.ifCond .eq 33, 3) := by decide +kernel
theorem d_HL_takeShock_25 : decode b_HL_takeShock 25 = .ok (.aload_n 0, 1) := by decide +kernel
theorem d_HL_takeShock_26 : decode b_HL_takeShock 26 = .ok (.getfield 25, 3) := by decide +kernel
theorem d_HL_takeShock_29 : decode b_HL_takeShock 29 = .ok (.iload_n 3, 1) := by decide +kernel
theorem d_HL_takeShock_30 : decode b_HL_takeShock 30 = .ok (.iload_n 1, 1) := by decide +kernel
theorem d_HL_takeShock_31 : decode b_HL_takeShock 31 = .ok (.invokevirtual 183, 3) := by decide +kernel
theorem d_HL_takeShock_34 : decode b_HL_takeShock 34 = .ok (.aload_n 0, 1) := by decide +kernel
theorem d_HL_takeShock_35 : decode b_HL_takeShock 35 = .ok (.getfield 25, 3) := by decide +kernel
theorem d_HL_takeShock_38 : decode b_HL_takeShock 38 = .ok (.getfield 187, 3) := by decide +kernel
theorem d_HL_takeShock_41 : decode b_HL_takeShock 41 = .ok (.invokevirtual 116, 3) := by decide +kernel
theorem d_HL_takeShock_44 : decode b_HL_takeShock 44 = .ok (.iload_n 2, 1) := by decide +kernel
theorem d_HL_takeShock_45 : decode b_HL_takeShock 45 = .ok (.if_icmp .lt 10, 3) := by decide +kernel
theorem d_HL_takeShock_48 : decode b_HL_takeShock 48 = .ok (.aload_n 0, 1) := by decide +kernel
theorem d_HL_takeShock_49 : decode b_HL_takeShock 49 = .ok (.getfield 35, 3) := by decide +kernel
theorem d_HL_takeShock_52 : decode b_HL_takeShock 52 = .ok (.iload_n 3, 1) := by decide +kernel
theorem d_HL_takeShock_53 : decode b_HL_takeShock 53 = .ok (.iconst 0, 1) := by decide +kernel
theorem d_HL_takeShock_54 : decode b_HL_takeShock 54 = .ok (.bastore, 1) := by decide +kernel
theorem d_HL_takeShock_55 : decode b_HL_takeShock 55 = .ok (.iinc 3 1, 3) := by decide +kernel
theorem d_HL_takeShock_58 : decode b_HL_takeShock 58 = .ok (.goto (-56), 3) := by decide +kernel
theorem d_HL_takeShock_61 : decode b_HL_takeShock 61 = .ok (.return_, 1) := by decide +kernel
theorem d_HL_markedPipe_0 : decode b_HL_markedPipe 0 = .ok (.iconst 0, 1) := by decide +kernel
theorem d_HL_markedPipe_1 : decode b_HL_markedPipe 1 = .ok (.istore_n 2, 1) := by decide +kernel
theorem d_HL_markedPipe_2 : decode b_HL_markedPipe 2 = .ok (.iconst 0, 1) := by decide +kernel
theorem d_HL_markedPipe_3 : decode b_HL_markedPipe 3 = .ok (.istore_n 3, 1) := by decide +kernel
theorem d_HL_markedPipe_4 : decode b_HL_markedPipe 4 = .ok (.iload_n 3, 1) := by decide +kernel
theorem d_HL_markedPipe_5 : decode b_HL_markedPipe 5 = .ok (.aload_n 0, 1) := by decide +kernel
theorem d_HL_markedPipe_6 : decode b_HL_markedPipe 6 = .ok (.getfield 12, 3) := by decide +kernel
theorem d_HL_markedPipe_9 : decode b_HL_markedPipe 9 = .ok (.getfield 47, 3) := by decide +kernel
theorem d_HL_markedPipe_12 : decode b_HL_markedPipe 12 = .ok (.if_icmp .ge 28, 3) := by decide +kernel
theorem d_HL_markedPipe_15 : decode b_HL_markedPipe 15 = .ok (.aload_n 0, 1) := by decide +kernel
theorem d_HL_markedPipe_16 : decode b_HL_markedPipe 16 = .ok (.getfield 35, 3) := by decide +kernel
theorem d_HL_markedPipe_19 : decode b_HL_markedPipe 19 = .ok (.iload_n 3, 1) := by decide +kernel
theorem d_HL_markedPipe_20 : decode b_HL_markedPipe 20 = .ok (.baload, 1) := by decide +kernel
theorem d_HL_markedPipe_21 : decode b_HL_markedPipe 21 = .ok (.ifCond .eq 13, 3) := by decide +kernel
theorem d_HL_markedPipe_24 : decode b_HL_markedPipe 24 = .ok (.iload_n 2, 1) := by decide +kernel
theorem d_HL_markedPipe_25 : decode b_HL_markedPipe 25 = .ok (.iload_n 1, 1) := by decide +kernel
theorem d_HL_markedPipe_26 : decode b_HL_markedPipe 26 = .ok (.if_icmp .ne 5, 3) := by decide +kernel
theorem d_HL_markedPipe_29 : decode b_HL_markedPipe 29 = .ok (.iload_n 3, 1) := by decide +kernel
theorem d_HL_markedPipe_30 : decode b_HL_markedPipe 30 = .ok (.ireturn, 1) := by decide +kernel
theorem d_HL_markedPipe_31 : decode b_HL_markedPipe 31 = .ok (.iinc 2 1, 3) := by decide +kernel
theorem d_HL_markedPipe_34 : decode b_HL_markedPipe 34 = .ok (.iinc 3 1, 3) := by decide +kernel
theorem d_HL_markedPipe_37 : decode b_HL_markedPipe 37 = .ok (.goto (-33), 3) := by decide +kernel
theorem d_HL_markedPipe_40 : decode b_HL_markedPipe 40 = .ok (.iconst (-1), 1) := by decide +kernel
theorem d_HL_markedPipe_41 : decode b_HL_markedPipe 41 = .ok (.ireturn, 1) := by decide +kernel
end
section
theorem d_Mo_init_0 : decode b_Mo_init 0 = .ok (.aload_n 0, 1) := by decide +kernel
theorem d_Mo_init_1 : decode b_Mo_init 1 = .ok (.invokespecial 1, 3) := by decide +kernel
theorem d_Mo_init_4 : decode b_Mo_init 4 = .ok (.aload_n 0, 1) := by decide +kernel
theorem d_Mo_init_5 : decode b_Mo_init 5 = .ok (.bipush 10, 2) := by decide +kernel
theorem d_Mo_init_7 : decode b_Mo_init 7 = .ok (.newarray .int, 2) := by decide +kernel
theorem d_Mo_init_9 : decode b_Mo_init 9 = .ok (.putfield 7, 3) := by decide +kernel
theorem d_Mo_init_12 : decode b_Mo_init 12 = .ok (.aload_n 0, 1) := by decide +kernel
theorem d_Mo_init_13 : decode b_Mo_init 13 = .ok (.bipush 10, 2) := by decide +kernel
theorem d_Mo_init_15 : decode b_Mo_init 15 = .ok (.newarray .int, 2) := by decide +kernel
theorem d_Mo_init_17 : decode b_Mo_init 17 = .ok (.putfield 13, 3) := by decide +kernel
theorem d_Mo_init_20 : decode b_Mo_init 20 = .ok (.aload_n 0, 1) := by decide +kernel
theorem d_Mo_init_21 : decode b_Mo_init 21 = .ok (.bipush 10, 2) := by decide +kernel
theorem d_Mo_init_23 : decode b_Mo_init 23 = .ok (.newarray .int, 2) := by decide +kernel
theorem d_Mo_init_25 : decode b_Mo_init 25 = .ok (.putfield 16, 3) := by decide +kernel
theorem d_Mo_init_28 : decode b_Mo_init 28 = .ok (.aload_n 0, 1) := by decide +kernel
theorem d_Mo_init_29 : decode b_Mo_init 29 = .ok (.bipush 10, 2) := by decide +kernel
theorem d_Mo_init_31 : decode b_Mo_init 31 = .ok (.newarray .boolean, 2) := by decide +kernel
theorem d_Mo_init_33 : decode b_Mo_init 33 = .ok (.putfield 19, 3) := by decide +kernel
theorem d_Mo_init_36 : decode b_Mo_init 36 = .ok (.aload_n 0, 1) := by decide +kernel
theorem d_Mo_init_37 : decode b_Mo_init 37 = .ok (.bipush 10, 2) := by decide +kernel
theorem d_Mo_init_39 : decode b_Mo_init 39 = .ok (.newarray .int, 2) := by decide +kernel
theorem d_Mo_init_41 : decode b_Mo_init 41 = .ok (.putfield 23, 3) := by decide +kernel
theorem d_Mo_init_44 : decode b_Mo_init 44 = .ok (.aload_n 0, 1) := by decide +kernel
theorem d_Mo_init_45 : decode b_Mo_init 45 = .ok (.sipush 6000, 3) := by decide +kernel
theorem d_Mo_init_48 : decode b_Mo_init 48 = .ok (.putfield 26, 3) := by decide +kernel
theorem d_Mo_init_51 : decode b_Mo_init 51 = .ok (.aload_n 0, 1) := by decide +kernel
theorem d_Mo_init_52 : decode b_Mo_init 52 = .ok (.sipush 2000, 3) := by decide +kernel
theorem d_Mo_init_55 : decode b_Mo_init 55 = .ok (.putfield 30, 3) := by decide +kernel
theorem d_Mo_init_58 : decode b_Mo_init 58 = .ok (.aload_n 0, 1) := by decide +kernel
theorem d_Mo_init_59 : decode b_Mo_init 59 = .ok (.bipush 10, 2) := by decide +kernel
theorem d_Mo_init_61 : decode b_Mo_init 61 = .ok (.newarray .int, 2) := by decide +kernel
theorem d_Mo_init_63 : decode b_Mo_init 63 = .ok (.putfield 33, 3) := by decide +kernel
theorem d_Mo_init_66 : decode b_Mo_init 66 = .ok (.aload_n 0, 1) := by decide +kernel
theorem d_Mo_init_67 : decode b_Mo_init 67 = .ok (.bipush 120, 2) := by decide +kernel
theorem d_Mo_init_69 : decode b_Mo_init 69 = .ok (.newarray .int, 2) := by decide +kernel
theorem d_Mo_init_71 : decode b_Mo_init 71 = .ok (.putfield 36, 3) := by decide +kernel
theorem d_Mo_init_74 : decode b_Mo_init 74 = .ok (.aload_n 0, 1) := by decide +kernel
theorem d_Mo_init_75 : decode b_Mo_init 75 = .ok (.bipush 120, 2) := by decide +kernel
theorem d_Mo_init_77 : decode b_Mo_init 77 = .ok (.newarray .int, 2) := by decide +kernel
theorem d_Mo_init_79 : decode b_Mo_init 79 = .ok (.putfield 39, 3) := by decide +kernel
theorem d_Mo_init_82 : decode b_Mo_init 82 = .ok (.aload_n 0, 1) := by decide +kernel
theorem d_Mo_init_83 : decode b_Mo_init 83 = .ok (.bipush 10, 2) := by decide +kernel
theorem d_Mo_init_85 : decode b_Mo_init 85 = .ok (.newarray .int, 2) := by decide +kernel
theorem d_Mo_init_87 : decode b_Mo_init 87 = .ok (.putfield 42, 3) := by decide +kernel
theorem d_Mo_init_90 : decode b_Mo_init 90 = .ok (.aload_n 0, 1) := by decide +kernel
theorem d_Mo_init_91 : decode b_Mo_init 91 = .ok (.bipush 10, 2) := by decide +kernel
theorem d_Mo_init_93 : decode b_Mo_init 93 = .ok (.newarray .int, 2) := by decide +kernel
theorem d_Mo_init_95 : decode b_Mo_init 95 = .ok (.putfield 45, 3) := by decide +kernel
theorem d_Mo_init_98 : decode b_Mo_init 98 = .ok (.aload_n 0, 1) := by decide +kernel
theorem d_Mo_init_99 : decode b_Mo_init 99 = .ok (.bipush 60, 2) := by decide +kernel
theorem d_Mo_init_101 : decode b_Mo_init 101 = .ok (.newarray .int, 2) := by decide +kernel
theorem d_Mo_init_103 : decode b_Mo_init 103 = .ok (.putfield 48, 3) := by decide +kernel
theorem d_Mo_init_106 : decode b_Mo_init 106 = .ok (.aload_n 0, 1) := by decide +kernel
theorem d_Mo_init_107 : decode b_Mo_init 107 = .ok (.bipush 60, 2) := by decide +kernel
theorem d_Mo_init_109 : decode b_Mo_init 109 = .ok (.newarray .int, 2) := by decide +kernel
theorem d_Mo_init_111 : decode b_Mo_init 111 = .ok (.putfield 51, 3) := by decide +kernel
theorem d_Mo_init_114 : decode b_Mo_init 114 = .ok (.aload_n 0, 1) := by decide +kernel
theorem d_Mo_init_115 : decode b_Mo_init 115 = .ok (.bipush 60, 2) := by decide +kernel
theorem d_Mo_init_117 : decode b_Mo_init 117 = .ok (.newarray .int, 2) := by decide +kernel
theorem d_Mo_init_119 : decode b_Mo_init 119 = .ok (.putfield 54, 3) := by decide +kernel
theorem d_Mo_init_122 : decode b_Mo_init 122 = .ok (.aload_n 0, 1) := by decide +kernel
theorem d_Mo_init_123 : decode b_Mo_init 123 = .ok (.bipush 60, 2) := by decide +kernel
theorem d_Mo_init_125 : decode b_Mo_init 125 = .ok (.newarray .int, 2) := by decide +kernel
theorem d_Mo_init_127 : decode b_Mo_init 127 = .ok (.putfield 57, 3) := by decide +kernel
theorem d_Mo_init_130 : decode b_Mo_init 130 = .ok (.aload_n 0, 1) := by decide +kernel
theorem d_Mo_init_131 : decode b_Mo_init 131 = .ok (.bipush 60, 2) := by decide +kernel
theorem d_Mo_init_133 : decode b_Mo_init 133 = .ok (.newarray .int, 2) := by decide +kernel
theorem d_Mo_init_135 : decode b_Mo_init 135 = .ok (.putfield 60, 3) := by decide +kernel
theorem d_Mo_init_138 : decode b_Mo_init 138 = .ok (.aload_n 0, 1) := by decide +kernel
theorem d_Mo_init_139 : decode b_Mo_init 139 = .ok (.bipush 60, 2) := by decide +kernel
theorem d_Mo_init_141 : decode b_Mo_init 141 = .ok (.newarray .int, 2) := by decide +kernel
theorem d_Mo_init_143 : decode b_Mo_init 143 = .ok (.putfield 63, 3) := by decide +kernel
theorem d_Mo_init_146 : decode b_Mo_init 146 = .ok (.aload_n 0, 1) := by decide +kernel
theorem d_Mo_init_147 : decode b_Mo_init 147 = .ok (.sipush 160, 3) := by decide +kernel
theorem d_Mo_init_150 : decode b_Mo_init 150 = .ok (.newarray .int, 2) := by decide +kernel
theorem d_Mo_init_152 : decode b_Mo_init 152 = .ok (.putfield 66, 3) := by decide +kernel
theorem d_Mo_init_155 : decode b_Mo_init 155 = .ok (.aload_n 0, 1) := by decide +kernel
theorem d_Mo_init_156 : decode b_Mo_init 156 = .ok (.sipush 160, 3) := by decide +kernel
theorem d_Mo_init_159 : decode b_Mo_init 159 = .ok (.newarray .int, 2) := by decide +kernel
theorem d_Mo_init_161 : decode b_Mo_init 161 = .ok (.putfield 69, 3) := by decide +kernel
theorem d_Mo_init_164 : decode b_Mo_init 164 = .ok (.aload_n 0, 1) := by decide +kernel
theorem d_Mo_init_165 : decode b_Mo_init 165 = .ok (.sipush 160, 3) := by decide +kernel
theorem d_Mo_init_168 : decode b_Mo_init 168 = .ok (.newarray .int, 2) := by decide +kernel
theorem d_Mo_init_170 : decode b_Mo_init 170 = .ok (.putfield 72, 3) := by decide +kernel
theorem d_Mo_init_173 : decode b_Mo_init 173 = .ok (.aload_n 0, 1) := by decide +kernel
theorem d_Mo_init_174 : decode b_Mo_init 174 = .ok (.sipush 160, 3) := by decide +kernel
theorem d_Mo_init_177 : decode b_Mo_init 177 = .ok (.newarray .int, 2) := by decide +kernel
theorem d_Mo_init_179 : decode b_Mo_init 179 = .ok (.putfield 75, 3) := by decide +kernel
theorem d_Mo_init_182 : decode b_Mo_init 182 = .ok (.aload_n 0, 1) := by decide +kernel
theorem d_Mo_init_183 : decode b_Mo_init 183 = .ok (.bipush 10, 2) := by decide +kernel
theorem d_Mo_init_185 : decode b_Mo_init 185 = .ok (.newarray .int, 2) := by decide +kernel
theorem d_Mo_init_187 : decode b_Mo_init 187 = .ok (.putfield 78, 3) := by decide +kernel
theorem d_Mo_init_190 : decode b_Mo_init 190 = .ok (.aload_n 0, 1) := by decide +kernel
theorem d_Mo_init_191 : decode b_Mo_init 191 = .ok (.bipush 10, 2) := by decide +kernel
theorem d_Mo_init_193 : decode b_Mo_init 193 = .ok (.newarray .int, 2) := by decide +kernel
theorem d_Mo_init_195 : decode b_Mo_init 195 = .ok (.putfield 81, 3) := by decide +kernel
theorem d_Mo_init_198 : decode b_Mo_init 198 = .ok (.aload_n 0, 1) := by decide +kernel
theorem d_Mo_init_199 : decode b_Mo_init 199 = .ok (.bipush 120, 2) := by decide +kernel
theorem d_Mo_init_201 : decode b_Mo_init 201 = .ok (.newarray .int, 2) := by decide +kernel
theorem d_Mo_init_203 : decode b_Mo_init 203 = .ok (.putfield 84, 3) := by decide +kernel
theorem d_Mo_init_206 : decode b_Mo_init 206 = .ok (.aload_n 0, 1) := by decide +kernel
theorem d_Mo_init_207 : decode b_Mo_init 207 = .ok (.bipush 120, 2) := by decide +kernel
theorem d_Mo_init_209 : decode b_Mo_init 209 = .ok (.newarray .int, 2) := by decide +kernel
theorem d_Mo_init_211 : decode b_Mo_init 211 = .ok (.putfield 87, 3) := by decide +kernel
theorem d_Mo_init_214 : decode b_Mo_init 214 = .ok (.aload_n 0, 1) := by decide +kernel
theorem d_Mo_init_215 : decode b_Mo_init 215 = .ok (.bipush 10, 2) := by decide +kernel
theorem d_Mo_init_217 : decode b_Mo_init 217 = .ok (.newarray .int, 2) := by decide +kernel
theorem d_Mo_init_219 : decode b_Mo_init 219 = .ok (.putfield 90, 3) := by decide +kernel
theorem d_Mo_init_222 : decode b_Mo_init 222 = .ok (.aload_n 0, 1) := by decide +kernel
theorem d_Mo_init_223 : decode b_Mo_init 223 = .ok (.bipush 10, 2) := by decide +kernel
theorem d_Mo_init_225 : decode b_Mo_init 225 = .ok (.newarray .int, 2) := by decide +kernel
theorem d_Mo_init_227 : decode b_Mo_init 227 = .ok (.putfield 93, 3) := by decide +kernel
theorem d_Mo_init_230 : decode b_Mo_init 230 = .ok (.aload_n 0, 1) := by decide +kernel
theorem d_Mo_init_231 : decode b_Mo_init 231 = .ok (.bipush 10, 2) := by decide +kernel
theorem d_Mo_init_233 : decode b_Mo_init 233 = .ok (.newarray .boolean, 2) := by decide +kernel
theorem d_Mo_init_235 : decode b_Mo_init 235 = .ok (.putfield 96, 3) := by decide +kernel
theorem d_Mo_init_238 : decode b_Mo_init 238 = .ok (.return_, 1) := by decide +kernel
theorem d_Mo_thrown_0 : decode b_Mo_thrown 0 = .ok (.aload_n 0, 1) := by decide +kernel
theorem d_Mo_thrown_1 : decode b_Mo_thrown 1 = .ok (.getfield 99, 3) := by decide +kernel
theorem d_Mo_thrown_4 : decode b_Mo_thrown 4 = .ok (.ireturn, 1) := by decide +kernel
theorem d_Mo_in_0 : decode b_Mo_in 0 = .ok (.iload_n 0, 1) := by decide +kernel
theorem d_Mo_in_1 : decode b_Mo_in 1 = .ok (.iload_n 1, 1) := by decide +kernel
theorem d_Mo_in_2 : decode b_Mo_in 2 = .ok (.if_icmp .lt 12, 3) := by decide +kernel
theorem d_Mo_in_5 : decode b_Mo_in 5 = .ok (.iload_n 0, 1) := by decide +kernel
theorem d_Mo_in_6 : decode b_Mo_in 6 = .ok (.iload_n 2, 1) := by decide +kernel
theorem d_Mo_in_7 : decode b_Mo_in 7 = .ok (.if_icmp .gt 7, 3) := by decide +kernel
theorem d_Mo_in_10 : decode b_Mo_in 10 = .ok (.iconst 1, 1) := by decide +kernel
theorem d_Mo_in_11 : decode b_Mo_in 11 = .ok (.goto 4, 3) := by decide +kernel
theorem d_Mo_in_14 : decode b_Mo_in 14 = .ok (.iconst 0, 1) := by decide +kernel
theorem d_Mo_in_15 : decode b_Mo_in 15 = .ok (.ireturn, 1) := by decide +kernel
theorem d_Mo_isPipe_0 : decode b_Mo_isPipe 0 = .ok (.iload_n 1, 1) := by decide +kernel
theorem d_Mo_isPipe_1 : decode b_Mo_isPipe 1 = .ok (.iconst 0, 1) := by decide +kernel
theorem d_Mo_isPipe_2 : decode b_Mo_isPipe 2 = .ok (.aload_n 0, 1) := by decide +kernel
theorem d_Mo_isPipe_3 : decode b_Mo_isPipe 3 = .ok (.getfield 102, 3) := by decide +kernel
theorem d_Mo_isPipe_6 : decode b_Mo_isPipe 6 = .ok (.iconst 1, 1) := by decide +kernel
theorem d_Mo_isPipe_7 : decode b_Mo_isPipe 7 = .ok (.isub, 1) := by decide +kernel
theorem d_Mo_isPipe_8 : decode b_Mo_isPipe 8 = .ok (.invokestatic 105, 3) := by decide +kernel
theorem d_Mo_isPipe_11 : decode b_Mo_isPipe 11 = .ok (.ireturn, 1) := by decide +kernel
theorem d_Mo_lay_0 : decode b_Mo_lay 0 = .ok (.iload_n 1, 1) := by decide +kernel
theorem d_Mo_lay_1 : decode b_Mo_lay 1 = .ok (.ifCond .le 93, 3) := by decide +kernel
theorem d_Mo_lay_4 : decode b_Mo_lay 4 = .ok (.aload_n 0, 1) := by decide +kernel
theorem d_Mo_lay_5 : decode b_Mo_lay 5 = .ok (.getfield 109, 3) := by decide +kernel
theorem d_Mo_lay_8 : decode b_Mo_lay 8 = .ok (.ifCond .le 22, 3) := by decide +kernel
theorem d_Mo_lay_11 : decode b_Mo_lay 11 = .ok (.aload_n 0, 1) := by decide +kernel
theorem d_Mo_lay_12 : decode b_Mo_lay 12 = .ok (.getfield 75, 3) := by decide +kernel
theorem d_Mo_lay_15 : decode b_Mo_lay 15 = .ok (.aload_n 0, 1) := by decide +kernel
theorem d_Mo_lay_16 : decode b_Mo_lay 16 = .ok (.getfield 109, 3) := by decide +kernel
theorem d_Mo_lay_19 : decode b_Mo_lay 19 = .ok (.iconst 1, 1) := by decide +kernel
theorem d_Mo_lay_20 : decode b_Mo_lay 20 = .ok (.isub, 1) := by decide +kernel
theorem d_Mo_lay_21 : decode b_Mo_lay 21 = .ok (.iaload, 1) := by decide +kernel
theorem d_Mo_lay_22 : decode b_Mo_lay 22 = .ok (.iload_n 2, 1) := by decide +kernel
theorem d_Mo_lay_23 : decode b_Mo_lay 23 = .ok (.if_icmp .ne 7, 3) := by decide +kernel
theorem d_Mo_lay_26 : decode b_Mo_lay 26 = .ok (.iconst 1, 1) := by decide +kernel
theorem d_Mo_lay_27 : decode b_Mo_lay 27 = .ok (.goto 4, 3) := by decide +kernel
theorem d_Mo_lay_30 : decode b_Mo_lay 30 = .ok (.iconst 0, 1) := by decide +kernel
theorem d_Mo_lay_31 : decode b_Mo_lay 31 = .ok (.istore_n 3, 1) := by decide +kernel
theorem d_Mo_lay_32 : decode b_Mo_lay 32 = .ok (.aload_n 0, 1) := by decide +kernel
theorem d_Mo_lay_33 : decode b_Mo_lay 33 = .ok (.dup, 1) := by decide +kernel
theorem d_Mo_lay_34 : decode b_Mo_lay 34 = .ok (.getfield 109, 3) := by decide +kernel
theorem d_Mo_lay_37 : decode b_Mo_lay 37 = .ok (.iload_n 3, 1) := by decide +kernel
theorem d_Mo_lay_38 : decode b_Mo_lay 38 = .ok (.ifCond .eq 7, 3) := by decide +kernel
theorem d_Mo_lay_41 : decode b_Mo_lay 41 = .ok (.iconst 0, 1) := by decide +kernel
theorem d_Mo_lay_42 : decode b_Mo_lay 42 = .ok (.goto 4, 3) := by decide +kernel
theorem d_Mo_lay_45 : decode b_Mo_lay 45 = .ok (.iconst 1, 1) := by decide +kernel
theorem d_Mo_lay_46 : decode b_Mo_lay 46 = .ok (.iadd, 1) := by decide +kernel
theorem d_Mo_lay_47 : decode b_Mo_lay 47 = .ok (.putfield 109, 3) := by decide +kernel
theorem d_Mo_lay_50 : decode b_Mo_lay 50 = .ok (.aload_n 0, 1) := by decide +kernel
theorem d_Mo_lay_51 : decode b_Mo_lay 51 = .ok (.getfield 72, 3) := by decide +kernel
theorem d_Mo_lay_54 : decode b_Mo_lay 54 = .ok (.aload_n 0, 1) := by decide +kernel
theorem d_Mo_lay_55 : decode b_Mo_lay 55 = .ok (.getfield 109, 3) := by decide +kernel
theorem d_Mo_lay_58 : decode b_Mo_lay 58 = .ok (.iconst 1, 1) := by decide +kernel
theorem d_Mo_lay_59 : decode b_Mo_lay 59 = .ok (.isub, 1) := by decide +kernel
theorem d_Mo_lay_60 : decode b_Mo_lay 60 = .ok (.iload_n 3, 1) := by decide +kernel
theorem d_Mo_lay_61 : decode b_Mo_lay 61 = .ok (.ifCond .eq 19, 3) := by decide +kernel
theorem d_Mo_lay_64 : decode b_Mo_lay 64 = .ok (.aload_n 0, 1) := by decide +kernel
theorem d_Mo_lay_65 : decode b_Mo_lay 65 = .ok (.getfield 72, 3) := by decide +kernel
theorem d_Mo_lay_68 : decode b_Mo_lay 68 = .ok (.aload_n 0, 1) := by decide +kernel
theorem d_Mo_lay_69 : decode b_Mo_lay 69 = .ok (.getfield 109, 3) := by decide +kernel
theorem d_Mo_lay_72 : decode b_Mo_lay 72 = .ok (.iconst 1, 1) := by decide +kernel
theorem d_Mo_lay_73 : decode b_Mo_lay 73 = .ok (.isub, 1) := by decide +kernel
theorem d_Mo_lay_74 : decode b_Mo_lay 74 = .ok (.iaload, 1) := by decide +kernel
theorem d_Mo_lay_75 : decode b_Mo_lay 75 = .ok (.iload_n 1, 1) := by decide +kernel
theorem d_Mo_lay_76 : decode b_Mo_lay 76 = .ok (.iadd, 1) := by decide +kernel
theorem d_Mo_lay_77 : decode b_Mo_lay 77 = .ok (.goto 4, 3) := by decide +kernel
theorem d_Mo_lay_80 : decode b_Mo_lay 80 = .ok (.iload_n 1, 1) := by decide +kernel
theorem d_Mo_lay_81 : decode b_Mo_lay 81 = .ok (.iastore, 1) := by decide +kernel
theorem d_Mo_lay_82 : decode b_Mo_lay 82 = .ok (.aload_n 0, 1) := by decide +kernel
theorem d_Mo_lay_83 : decode b_Mo_lay 83 = .ok (.getfield 75, 3) := by decide +kernel
theorem d_Mo_lay_86 : decode b_Mo_lay 86 = .ok (.aload_n 0, 1) := by decide +kernel
theorem d_Mo_lay_87 : decode b_Mo_lay 87 = .ok (.getfield 109, 3) := by decide +kernel
theorem d_Mo_lay_90 : decode b_Mo_lay 90 = .ok (.iconst 1, 1) := by decide +kernel
theorem d_Mo_lay_91 : decode b_Mo_lay 91 = .ok (.isub, 1) := by decide +kernel
theorem d_Mo_lay_92 : decode b_Mo_lay 92 = .ok (.iload_n 2, 1) := by decide +kernel
theorem d_Mo_lay_93 : decode b_Mo_lay 93 = .ok (.iastore, 1) := by decide +kernel
theorem d_Mo_lay_94 : decode b_Mo_lay 94 = .ok (.return_, 1) := by decide +kernel
theorem d_Mo_join_0 : decode b_Mo_join 0 = .ok (.aload_n 0, 1) := by decide +kernel
theorem d_Mo_join_1 : decode b_Mo_join 1 = .ok (.getfield 72, 3) := by decide +kernel
theorem d_Mo_join_4 : decode b_Mo_join 4 = .ok (.iload_n 1, 1) := by decide +kernel
theorem d_Mo_join_5 : decode b_Mo_join 5 = .ok (.iaload, 1) := by decide +kernel
theorem d_Mo_join_6 : decode b_Mo_join 6 = .ok (.aload_n 0, 1) := by decide +kernel
theorem d_Mo_join_7 : decode b_Mo_join 7 = .ok (.getfield 72, 3) := by decide +kernel
theorem d_Mo_join_10 : decode b_Mo_join 10 = .ok (.iload_n 1, 1) := by decide +kernel
theorem d_Mo_join_11 : decode b_Mo_join 11 = .ok (.iconst 1, 1) := by decide +kernel
theorem d_Mo_join_12 : decode b_Mo_join 12 = .ok (.iadd, 1) := by decide +kernel
theorem d_Mo_join_13 : decode b_Mo_join 13 = .ok (.iaload, 1) := by decide +kernel
theorem d_Mo_join_14 : decode b_Mo_join 14 = .ok (.iadd, 1) := by decide +kernel
theorem d_Mo_join_15 : decode b_Mo_join 15 = .ok (.istore_n 2, 1) := by decide +kernel
theorem d_Mo_join_16 : decode b_Mo_join 16 = .ok (.aload_n 0, 1) := by decide +kernel
theorem d_Mo_join_17 : decode b_Mo_join 17 = .ok (.getfield 72, 3) := by decide +kernel
theorem d_Mo_join_20 : decode b_Mo_join 20 = .ok (.iload_n 1, 1) := by decide +kernel
theorem d_Mo_join_21 : decode b_Mo_join 21 = .ok (.iaload, 1) := by decide +kernel
theorem d_Mo_join_22 : decode b_Mo_join 22 = .ok (.i2l, 1) := by decide +kernel
theorem d_Mo_join_23 : decode b_Mo_join 23 = .ok (.aload_n 0, 1) := by decide +kernel
theorem d_Mo_join_24 : decode b_Mo_join 24 = .ok (.getfield 75, 3) := by decide +kernel
theorem d_Mo_join_27 : decode b_Mo_join 27 = .ok (.iload_n 1, 1) := by decide +kernel
theorem d_Mo_join_28 : decode b_Mo_join 28 = .ok (.iaload, 1) := by decide +kernel
theorem d_Mo_join_29 : decode b_Mo_join 29 = .ok (.i2l, 1) := by decide +kernel
theorem d_Mo_join_30 : decode b_Mo_join 30 = .ok (.lmul, 1) := by decide +kernel
theorem d_Mo_join_31 : decode b_Mo_join 31 = .ok (.aload_n 0, 1) := by decide +kernel
theorem d_Mo_join_32 : decode b_Mo_join 32 = .ok (.getfield 72, 3) := by decide +kernel
theorem d_Mo_join_35 : decode b_Mo_join 35 = .ok (.iload_n 1, 1) := by decide +kernel
theorem d_Mo_join_36 : decode b_Mo_join 36 = .ok (.iconst 1, 1) := by decide +kernel
theorem d_Mo_join_37 : decode b_Mo_join 37 = .ok (.iadd, 1) := by decide +kernel
theorem d_Mo_join_38 : decode b_Mo_join 38 = .ok (.iaload, 1) := by decide +kernel
theorem d_Mo_join_39 : decode b_Mo_join 39 = .ok (.i2l, 1) := by decide +kernel
theorem d_Mo_join_40 : decode b_Mo_join 40 = .ok (.aload_n 0, 1) := by decide +kernel
theorem d_Mo_join_41 : decode b_Mo_join 41 = .ok (.getfield 75, 3) := by decide +kernel
theorem d_Mo_join_44 : decode b_Mo_join 44 = .ok (.iload_n 1, 1) := by decide +kernel
theorem d_Mo_join_45 : decode b_Mo_join 45 = .ok (.iconst 1, 1) := by decide +kernel
theorem d_Mo_join_46 : decode b_Mo_join 46 = .ok (.iadd, 1) := by decide +kernel
theorem d_Mo_join_47 : decode b_Mo_join 47 = .ok (.iaload, 1) := by decide +kernel
theorem d_Mo_join_48 : decode b_Mo_join 48 = .ok (.i2l, 1) := by decide +kernel
theorem d_Mo_join_49 : decode b_Mo_join 49 = .ok (.lmul, 1) := by decide +kernel
theorem d_Mo_join_50 : decode b_Mo_join 50 = .ok (.ladd, 1) := by decide +kernel
theorem d_Mo_join_51 : decode b_Mo_join 51 = .ok (.lstore_n 3, 1) := by decide +kernel
theorem d_Mo_join_52 : decode b_Mo_join 52 = .ok (.lload_n 3, 1) := by decide +kernel
theorem d_Mo_join_53 : decode b_Mo_join 53 = .ok (.iload_n 2, 1) := by decide +kernel
theorem d_Mo_join_54 : decode b_Mo_join 54 = .ok (.i2l, 1) := by decide +kernel
theorem d_Mo_join_55 : decode b_Mo_join 55 = .ok (.ldiv, 1) := by decide +kernel
theorem d_Mo_join_56 : decode b_Mo_join 56 = .ok (.l2i, 1) := by decide +kernel
theorem d_Mo_join_57 : decode b_Mo_join 57 = .ok (.istore 5, 2) := by decide +kernel
theorem d_Mo_join_59 : decode b_Mo_join 59 = .ok (.aload_n 0, 1) := by decide +kernel
theorem d_Mo_join_60 : decode b_Mo_join 60 = .ok (.dup, 1) := by decide +kernel
theorem d_Mo_join_61 : decode b_Mo_join 61 = .ok (.getfield 112, 3) := by decide +kernel
theorem d_Mo_join_64 : decode b_Mo_join 64 = .ok (.lload_n 3, 1) := by decide +kernel
theorem d_Mo_join_65 : decode b_Mo_join 65 = .ok (.iload_n 2, 1) := by decide +kernel
theorem d_Mo_join_66 : decode b_Mo_join 66 = .ok (.i2l, 1) := by decide +kernel
theorem d_Mo_join_67 : decode b_Mo_join 67 = .ok (.iload 5, 2) := by decide +kernel
theorem d_Mo_join_69 : decode b_Mo_join 69 = .ok (.i2l, 1) := by decide +kernel
theorem d_Mo_join_70 : decode b_Mo_join 70 = .ok (.lmul, 1) := by decide +kernel
theorem d_Mo_join_71 : decode b_Mo_join 71 = .ok (.lsub, 1) := by decide +kernel
theorem d_Mo_join_72 : decode b_Mo_join 72 = .ok (.ladd, 1) := by decide +kernel
theorem d_Mo_join_73 : decode b_Mo_join 73 = .ok (.putfield 112, 3) := by decide +kernel
theorem d_Mo_join_76 : decode b_Mo_join 76 = .ok (.aload_n 0, 1) := by decide +kernel
theorem d_Mo_join_77 : decode b_Mo_join 77 = .ok (.getfield 72, 3) := by decide +kernel
theorem d_Mo_join_80 : decode b_Mo_join 80 = .ok (.iload_n 1, 1) := by decide +kernel
theorem d_Mo_join_81 : decode b_Mo_join 81 = .ok (.iload_n 2, 1) := by decide +kernel
theorem d_Mo_join_82 : decode b_Mo_join 82 = .ok (.iastore, 1) := by decide +kernel
theorem d_Mo_join_83 : decode b_Mo_join 83 = .ok (.aload_n 0, 1) := by decide +kernel
theorem d_Mo_join_84 : decode b_Mo_join 84 = .ok (.getfield 75, 3) := by decide +kernel
theorem d_Mo_join_87 : decode b_Mo_join 87 = .ok (.iload_n 1, 1) := by decide +kernel
theorem d_Mo_join_88 : decode b_Mo_join 88 = .ok (.iload 5, 2) := by decide +kernel
theorem d_Mo_join_90 : decode b_Mo_join 90 = .ok (.iastore, 1) := by decide +kernel
theorem d_Mo_join_91 : decode b_Mo_join 91 = .ok (.aload_n 0, 1) := by decide +kernel
theorem d_Mo_join_92 : decode b_Mo_join 92 = .ok (.getfield 109, 3) := by decide +kernel
theorem d_Mo_join_95 : decode b_Mo_join 95 = .ok (.istore 6, 2) := by decide +kernel
theorem d_Mo_join_97 : decode b_Mo_join 97 = .ok (.iload_n 1, 1) := by decide +kernel
theorem d_Mo_join_98 : decode b_Mo_join 98 = .ok (.iconst 2, 1) := by decide +kernel
theorem d_Mo_join_99 : decode b_Mo_join 99 = .ok (.iadd, 1) := by decide +kernel
theorem d_Mo_join_100 : decode b_Mo_join 100 = .ok (.istore 7, 2) := by decide +kernel
theorem d_Mo_join_102 : decode b_Mo_join 102 = .ok (.aload_n 0, 1) := by decide +kernel
theorem d_Mo_join_103 : decode b_Mo_join 103 = .ok (.getfield 72, 3) := by decide +kernel
theorem d_Mo_join_106 : decode b_Mo_join 106 = .ok (.iload_n 1, 1) := by decide +kernel
theorem d_Mo_join_107 : decode b_Mo_join 107 = .ok (.iaload, 1) := by decide +kernel
theorem d_Mo_join_108 : decode b_Mo_join 108 = .ok (.istore 8, 2) := by decide +kernel
theorem d_Mo_join_110 : decode b_Mo_join 110 = .ok (.aload_n 0, 1) := by decide +kernel
theorem d_Mo_join_111 : decode b_Mo_join 111 = .ok (.iload_n 1, 1) := by decide +kernel
theorem d_Mo_join_112 : decode b_Mo_join 112 = .ok (.putfield 109, 3) := by decide +kernel
theorem d_Mo_join_115 : decode b_Mo_join 115 = .ok (.aload_n 0, 1) := by decide +kernel
theorem d_Mo_join_116 : decode b_Mo_join 116 = .ok (.iload 8, 2) := by decide +kernel
theorem d_Mo_join_118 : decode b_Mo_join 118 = .ok (.iload 5, 2) := by decide +kernel
theorem d_Mo_join_120 : decode b_Mo_join 120 = .ok (.invokevirtual 116, 3) := by decide +kernel
theorem d_Mo_join_123 : decode b_Mo_join 123 = .ok (.iload 7, 2) := by decide +kernel
theorem d_Mo_join_125 : decode b_Mo_join 125 = .ok (.istore 9, 2) := by decide +kernel
theorem d_Mo_join_127 : decode b_Mo_join 127 = .ok (.iload 9, 2) := by decide +kernel
theorem d_Mo_join_129 : decode b_Mo_join 129 = .ok (.iload 6, 2) := by decide +kernel
theorem d_Mo_join_131 : decode b_Mo_join 131 = .ok (.if_icmp .ge 27, 3) := by decide +kernel
theorem d_Mo_join_134 : decode b_Mo_join 134 = .ok (.aload_n 0, 1) := by decide +kernel
theorem d_Mo_join_135 : decode b_Mo_join 135 = .ok (.aload_n 0, 1) := by decide +kernel
theorem d_Mo_join_136 : decode b_Mo_join 136 = .ok (.getfield 72, 3) := by decide +kernel
theorem d_Mo_join_139 : decode b_Mo_join 139 = .ok (.iload 9, 2) := by decide +kernel
theorem d_Mo_join_141 : decode b_Mo_join 141 = .ok (.iaload, 1) := by decide +kernel
theorem d_Mo_join_142 : decode b_Mo_join 142 = .ok (.aload_n 0, 1) := by decide +kernel
theorem d_Mo_join_143 : decode b_Mo_join 143 = .ok (.getfield 75, 3) := by decide +kernel
theorem d_Mo_join_146 : decode b_Mo_join 146 = .ok (.iload 9, 2) := by decide +kernel
theorem d_Mo_join_148 : decode b_Mo_join 148 = .ok (.iaload, 1) := by decide +kernel
theorem d_Mo_join_149 : decode b_Mo_join 149 = .ok (.invokevirtual 116, 3) := by decide +kernel
theorem d_Mo_join_152 : decode b_Mo_join 152 = .ok (.iinc 9 1, 3) := by decide +kernel
theorem d_Mo_join_155 : decode b_Mo_join 155 = .ok (.goto (-28), 3) := by decide +kernel
theorem d_Mo_join_158 : decode b_Mo_join 158 = .ok (.return_, 1) := by decide +kernel
theorem d_Mo_joinTillFew_0 : decode b_Mo_joinTillFew 0 = .ok (.aload_n 0, 1) := by decide +kernel
theorem d_Mo_joinTillFew_1 : decode b_Mo_joinTillFew 1 = .ok (.getfield 109, 3) := by decide +kernel
theorem d_Mo_joinTillFew_4 : decode b_Mo_joinTillFew 4 = .ok (.bipush 12, 2) := by decide +kernel
theorem d_Mo_joinTillFew_6 : decode b_Mo_joinTillFew 6 = .ok (.if_icmp .le 112, 3) := by decide +kernel
theorem d_Mo_joinTillFew_9 : decode b_Mo_joinTillFew 9 = .ok (.iconst 0, 1) := by decide +kernel
theorem d_Mo_joinTillFew_10 : decode b_Mo_joinTillFew 10 = .ok (.istore_n 1, 1) := by decide +kernel
theorem d_Mo_joinTillFew_11 : decode b_Mo_joinTillFew 11 = .ok (.sipush 20000, 3) := by decide +kernel
theorem d_Mo_joinTillFew_14 : decode b_Mo_joinTillFew 14 = .ok (.istore_n 2, 1) := by decide +kernel
theorem d_Mo_joinTillFew_15 : decode b_Mo_joinTillFew 15 = .ok (.iconst 0, 1) := by decide +kernel
theorem d_Mo_joinTillFew_16 : decode b_Mo_joinTillFew 16 = .ok (.istore_n 3, 1) := by decide +kernel
theorem d_Mo_joinTillFew_17 : decode b_Mo_joinTillFew 17 = .ok (.iload_n 3, 1) := by decide +kernel
theorem d_Mo_joinTillFew_18 : decode b_Mo_joinTillFew 18 = .ok (.iconst 1, 1) := by decide +kernel
theorem d_Mo_joinTillFew_19 : decode b_Mo_joinTillFew 19 = .ok (.iadd, 1) := by decide +kernel
theorem d_Mo_joinTillFew_20 : decode b_Mo_joinTillFew 20 = .ok (.aload_n 0, 1) := by decide +kernel
theorem d_Mo_joinTillFew_21 : decode b_Mo_joinTillFew 21 = .ok (.getfield 109, 3) := by decide +kernel
theorem d_Mo_joinTillFew_24 : decode b_Mo_joinTillFew 24 = .ok (.if_icmp .ge 86, 3) := by decide +kernel
theorem d_Mo_joinTillFew_27 : decode b_Mo_joinTillFew 27 = .ok (.aload_n 0, 1) := by decide +kernel
theorem d_Mo_joinTillFew_28 : decode b_Mo_joinTillFew 28 = .ok (.getfield 75, 3) := by decide +kernel
theorem d_Mo_joinTillFew_31 : decode b_Mo_joinTillFew 31 = .ok (.iload_n 3, 1) := by decide +kernel
theorem d_Mo_joinTillFew_32 : decode b_Mo_joinTillFew 32 = .ok (.iaload, 1) := by decide +kernel
theorem d_Mo_joinTillFew_33 : decode b_Mo_joinTillFew 33 = .ok (.aload_n 0, 1) := by decide +kernel
theorem d_Mo_joinTillFew_34 : decode b_Mo_joinTillFew 34 = .ok (.getfield 75, 3) := by decide +kernel
theorem d_Mo_joinTillFew_37 : decode b_Mo_joinTillFew 37 = .ok (.iload_n 3, 1) := by decide +kernel
theorem d_Mo_joinTillFew_38 : decode b_Mo_joinTillFew 38 = .ok (.iconst 1, 1) := by decide +kernel
theorem d_Mo_joinTillFew_39 : decode b_Mo_joinTillFew 39 = .ok (.iadd, 1) := by decide +kernel
theorem d_Mo_joinTillFew_40 : decode b_Mo_joinTillFew 40 = .ok (.iaload, 1) := by decide +kernel
theorem d_Mo_joinTillFew_41 : decode b_Mo_joinTillFew 41 = .ok (.if_icmp .le 21, 3) := by decide +kernel
theorem d_Mo_joinTillFew_44 : decode b_Mo_joinTillFew 44 = .ok (.aload_n 0, 1) := by decide +kernel
theorem d_Mo_joinTillFew_45 : decode b_Mo_joinTillFew 45 = .ok (.getfield 75, 3) := by decide +kernel
theorem d_Mo_joinTillFew_48 : decode b_Mo_joinTillFew 48 = .ok (.iload_n 3, 1) := by decide +kernel
theorem d_Mo_joinTillFew_49 : decode b_Mo_joinTillFew 49 = .ok (.iaload, 1) := by decide +kernel
theorem d_Mo_joinTillFew_50 : decode b_Mo_joinTillFew 50 = .ok (.aload_n 0, 1) := by decide +kernel
theorem d_Mo_joinTillFew_51 : decode b_Mo_joinTillFew 51 = .ok (.getfield 75, 3) := by decide +kernel
theorem d_Mo_joinTillFew_54 : decode b_Mo_joinTillFew 54 = .ok (.iload_n 3, 1) := by decide +kernel
theorem d_Mo_joinTillFew_55 : decode b_Mo_joinTillFew 55 = .ok (.iconst 1, 1) := by decide +kernel
theorem d_Mo_joinTillFew_56 : decode b_Mo_joinTillFew 56 = .ok (.iadd, 1) := by decide +kernel
theorem d_Mo_joinTillFew_57 : decode b_Mo_joinTillFew 57 = .ok (.iaload, 1) := by decide +kernel
theorem d_Mo_joinTillFew_58 : decode b_Mo_joinTillFew 58 = .ok (.isub, 1) := by decide +kernel
theorem d_Mo_joinTillFew_59 : decode b_Mo_joinTillFew 59 = .ok (.goto 18, 3) := by decide +kernel
theorem d_Mo_joinTillFew_62 : decode b_Mo_joinTillFew 62 = .ok (.aload_n 0, 1) := by decide +kernel
theorem d_Mo_joinTillFew_63 : decode b_Mo_joinTillFew 63 = .ok (.getfield 75, 3) := by decide +kernel
theorem d_Mo_joinTillFew_66 : decode b_Mo_joinTillFew 66 = .ok (.iload_n 3, 1) := by decide +kernel
theorem d_Mo_joinTillFew_67 : decode b_Mo_joinTillFew 67 = .ok (.iconst 1, 1) := by decide +kernel
theorem d_Mo_joinTillFew_68 : decode b_Mo_joinTillFew 68 = .ok (.iadd, 1) := by decide +kernel
theorem d_Mo_joinTillFew_69 : decode b_Mo_joinTillFew 69 = .ok (.iaload, 1) := by decide +kernel
theorem d_Mo_joinTillFew_70 : decode b_Mo_joinTillFew 70 = .ok (.aload_n 0, 1) := by decide +kernel
theorem d_Mo_joinTillFew_71 : decode b_Mo_joinTillFew 71 = .ok (.getfield 75, 3) := by decide +kernel
theorem d_Mo_joinTillFew_74 : decode b_Mo_joinTillFew 74 = .ok (.iload_n 3, 1) := by decide +kernel
theorem d_Mo_joinTillFew_75 : decode b_Mo_joinTillFew 75 = .ok (.iaload, 1) := by decide +kernel
theorem d_Mo_joinTillFew_76 : decode b_Mo_joinTillFew 76 = .ok (.isub, 1) := by decide +kernel
theorem d_Mo_joinTillFew_77 : decode b_Mo_joinTillFew 77 = .ok (.istore 4, 2) := by decide +kernel
theorem d_Mo_joinTillFew_79 : decode b_Mo_joinTillFew 79 = .ok (.iload 4, 2) := by decide +kernel
theorem d_Mo_joinTillFew_81 : decode b_Mo_joinTillFew 81 = .ok (.iload_n 2, 1) := by decide +kernel
theorem d_Mo_joinTillFew_82 : decode b_Mo_joinTillFew 82 = .ok (.if_icmp .ge 7, 3) := by decide +kernel
theorem d_Mo_joinTillFew_85 : decode b_Mo_joinTillFew 85 = .ok (.iload_n 3, 1) := by decide +kernel
theorem d_Mo_joinTillFew_86 : decode b_Mo_joinTillFew 86 = .ok (.goto 4, 3) := by decide +kernel
theorem d_Mo_joinTillFew_89 : decode b_Mo_joinTillFew 89 = .ok (.iload_n 1, 1) := by decide +kernel
theorem d_Mo_joinTillFew_90 : decode b_Mo_joinTillFew 90 = .ok (.istore_n 1, 1) := by decide +kernel
theorem d_Mo_joinTillFew_91 : decode b_Mo_joinTillFew 91 = .ok (.iload 4, 2) := by decide +kernel
theorem d_Mo_joinTillFew_93 : decode b_Mo_joinTillFew 93 = .ok (.iload_n 2, 1) := by decide +kernel
theorem d_Mo_joinTillFew_94 : decode b_Mo_joinTillFew 94 = .ok (.if_icmp .ge 8, 3) := by decide +kernel
theorem d_Mo_joinTillFew_97 : decode b_Mo_joinTillFew 97 = .ok (.iload 4, 2) := by decide +kernel
theorem d_Mo_joinTillFew_99 : decode b_Mo_joinTillFew 99 = .ok (.goto 4, 3) := by decide +kernel
theorem d_Mo_joinTillFew_102 : decode b_Mo_joinTillFew 102 = .ok (.iload_n 2, 1) := by decide +kernel
theorem d_Mo_joinTillFew_103 : decode b_Mo_joinTillFew 103 = .ok (.istore_n 2, 1) := by decide +kernel
theorem d_Mo_joinTillFew_104 : decode b_Mo_joinTillFew 104 = .ok (.iinc 3 1, 3) := by decide +kernel
theorem d_Mo_joinTillFew_107 : decode b_Mo_joinTillFew 107 = .ok (.goto (-90), 3) := by decide +kernel
theorem d_Mo_joinTillFew_110 : decode b_Mo_joinTillFew 110 = .ok (.aload_n 0, 1) := by decide +kernel
theorem d_Mo_joinTillFew_111 : decode b_Mo_joinTillFew 111 = .ok (.iload_n 1, 1) := by decide +kernel
theorem d_Mo_joinTillFew_112 : decode b_Mo_joinTillFew 112 = .ok (.invokevirtual 120, 3) := by decide +kernel
theorem d_Mo_joinTillFew_115 : decode b_Mo_joinTillFew 115 = .ok (.goto (-115), 3) := by decide +kernel
theorem d_Mo_joinTillFew_118 : decode b_Mo_joinTillFew 118 = .ok (.return_, 1) := by decide +kernel
theorem d_Mo_putBack_0 : decode b_Mo_putBack 0 = .ok (.aload_n 0, 1) := by decide +kernel
theorem d_Mo_putBack_1 : decode b_Mo_putBack 1 = .ok (.getfield 33, 3) := by decide +kernel
theorem d_Mo_putBack_4 : decode b_Mo_putBack 4 = .ok (.iload_n 1, 1) := by decide +kernel
theorem d_Mo_putBack_5 : decode b_Mo_putBack 5 = .ok (.aload_n 0, 1) := by decide +kernel
theorem d_Mo_putBack_6 : decode b_Mo_putBack 6 = .ok (.getfield 109, 3) := by decide +kernel
theorem d_Mo_putBack_9 : decode b_Mo_putBack 9 = .ok (.iastore, 1) := by decide +kernel
theorem d_Mo_putBack_10 : decode b_Mo_putBack 10 = .ok (.iconst 0, 1) := by decide +kernel
theorem d_Mo_putBack_11 : decode b_Mo_putBack 11 = .ok (.istore_n 2, 1) := by decide +kernel
theorem d_Mo_putBack_12 : decode b_Mo_putBack 12 = .ok (.iload_n 2, 1) := by decide +kernel
theorem d_Mo_putBack_13 : decode b_Mo_putBack 13 = .ok (.aload_n 0, 1) := by decide +kernel
theorem d_Mo_putBack_14 : decode b_Mo_putBack 14 = .ok (.getfield 109, 3) := by decide +kernel
theorem d_Mo_putBack_17 : decode b_Mo_putBack 17 = .ok (.if_icmp .ge 43, 3) := by decide +kernel
theorem d_Mo_putBack_20 : decode b_Mo_putBack 20 = .ok (.aload_n 0, 1) := by decide +kernel
theorem d_Mo_putBack_21 : decode b_Mo_putBack 21 = .ok (.getfield 36, 3) := by decide +kernel
theorem d_Mo_putBack_24 : decode b_Mo_putBack 24 = .ok (.bipush 12, 2) := by decide +kernel
theorem d_Mo_putBack_26 : decode b_Mo_putBack 26 = .ok (.iload_n 1, 1) := by decide +kernel
theorem d_Mo_putBack_27 : decode b_Mo_putBack 27 = .ok (.imul, 1) := by decide +kernel
theorem d_Mo_putBack_28 : decode b_Mo_putBack 28 = .ok (.iload_n 2, 1) := by decide +kernel
theorem d_Mo_putBack_29 : decode b_Mo_putBack 29 = .ok (.iadd, 1) := by decide +kernel
theorem d_Mo_putBack_30 : decode b_Mo_putBack 30 = .ok (.aload_n 0, 1) := by decide +kernel
theorem d_Mo_putBack_31 : decode b_Mo_putBack 31 = .ok (.getfield 72, 3) := by decide +kernel
theorem d_Mo_putBack_34 : decode b_Mo_putBack 34 = .ok (.iload_n 2, 1) := by decide +kernel
theorem d_Mo_putBack_35 : decode b_Mo_putBack 35 = .ok (.iaload, 1) := by decide +kernel
theorem d_Mo_putBack_36 : decode b_Mo_putBack 36 = .ok (.iastore, 1) := by decide +kernel
theorem d_Mo_putBack_37 : decode b_Mo_putBack 37 = .ok (.aload_n 0, 1) := by decide +kernel
theorem d_Mo_putBack_38 : decode b_Mo_putBack 38 = .ok (.getfield 39, 3) := by decide +kernel
theorem d_Mo_putBack_41 : decode b_Mo_putBack 41 = .ok (.bipush 12, 2) := by decide +kernel
theorem d_Mo_putBack_43 : decode b_Mo_putBack 43 = .ok (.iload_n 1, 1) := by decide +kernel
theorem d_Mo_putBack_44 : decode b_Mo_putBack 44 = .ok (.imul, 1) := by decide +kernel
theorem d_Mo_putBack_45 : decode b_Mo_putBack 45 = .ok (.iload_n 2, 1) := by decide +kernel
theorem d_Mo_putBack_46 : decode b_Mo_putBack 46 = .ok (.iadd, 1) := by decide +kernel
theorem d_Mo_putBack_47 : decode b_Mo_putBack 47 = .ok (.aload_n 0, 1) := by decide +kernel
theorem d_Mo_putBack_48 : decode b_Mo_putBack 48 = .ok (.getfield 75, 3) := by decide +kernel
theorem d_Mo_putBack_51 : decode b_Mo_putBack 51 = .ok (.iload_n 2, 1) := by decide +kernel
theorem d_Mo_putBack_52 : decode b_Mo_putBack 52 = .ok (.iaload, 1) := by decide +kernel
theorem d_Mo_putBack_53 : decode b_Mo_putBack 53 = .ok (.iastore, 1) := by decide +kernel
theorem d_Mo_putBack_54 : decode b_Mo_putBack 54 = .ok (.iinc 2 1, 3) := by decide +kernel
theorem d_Mo_putBack_57 : decode b_Mo_putBack 57 = .ok (.goto (-45), 3) := by decide +kernel
theorem d_Mo_putBack_60 : decode b_Mo_putBack 60 = .ok (.return_, 1) := by decide +kernel
theorem d_Mo_push_0 : decode b_Mo_push 0 = .ok (.iconst 0, 1) := by decide +kernel
theorem d_Mo_push_1 : decode b_Mo_push 1 = .ok (.istore_n 2, 1) := by decide +kernel
theorem d_Mo_push_2 : decode b_Mo_push 2 = .ok (.iload_n 2, 1) := by decide +kernel
theorem d_Mo_push_3 : decode b_Mo_push 3 = .ok (.aload_n 0, 1) := by decide +kernel
theorem d_Mo_push_4 : decode b_Mo_push 4 = .ok (.getfield 33, 3) := by decide +kernel
theorem d_Mo_push_7 : decode b_Mo_push 7 = .ok (.iload_n 1, 1) := by decide +kernel
theorem d_Mo_push_8 : decode b_Mo_push 8 = .ok (.iaload, 1) := by decide +kernel
theorem d_Mo_push_9 : decode b_Mo_push 9 = .ok (.if_icmp .ge 59, 3) := by decide +kernel
theorem d_Mo_push_12 : decode b_Mo_push 12 = .ok (.aload_n 0, 1) := by decide +kernel
theorem d_Mo_push_13 : decode b_Mo_push 13 = .ok (.getfield 66, 3) := by decide +kernel
theorem d_Mo_push_16 : decode b_Mo_push 16 = .ok (.aload_n 0, 1) := by decide +kernel
theorem d_Mo_push_17 : decode b_Mo_push 17 = .ok (.getfield 124, 3) := by decide +kernel
theorem d_Mo_push_20 : decode b_Mo_push 20 = .ok (.aload_n 0, 1) := by decide +kernel
theorem d_Mo_push_21 : decode b_Mo_push 21 = .ok (.getfield 36, 3) := by decide +kernel
theorem d_Mo_push_24 : decode b_Mo_push 24 = .ok (.bipush 12, 2) := by decide +kernel
theorem d_Mo_push_26 : decode b_Mo_push 26 = .ok (.iload_n 1, 1) := by decide +kernel
theorem d_Mo_push_27 : decode b_Mo_push 27 = .ok (.imul, 1) := by decide +kernel
theorem d_Mo_push_28 : decode b_Mo_push 28 = .ok (.iload_n 2, 1) := by decide +kernel
theorem d_Mo_push_29 : decode b_Mo_push 29 = .ok (.iadd, 1) := by decide +kernel
theorem d_Mo_push_30 : decode b_Mo_push 30 = .ok (.iaload, 1) := by decide +kernel
theorem d_Mo_push_31 : decode b_Mo_push 31 = .ok (.iastore, 1) := by decide +kernel
theorem d_Mo_push_32 : decode b_Mo_push 32 = .ok (.aload_n 0, 1) := by decide +kernel
theorem d_Mo_push_33 : decode b_Mo_push 33 = .ok (.getfield 69, 3) := by decide +kernel
theorem d_Mo_push_36 : decode b_Mo_push 36 = .ok (.aload_n 0, 1) := by decide +kernel
theorem d_Mo_push_37 : decode b_Mo_push 37 = .ok (.getfield 124, 3) := by decide +kernel
theorem d_Mo_push_40 : decode b_Mo_push 40 = .ok (.aload_n 0, 1) := by decide +kernel
theorem d_Mo_push_41 : decode b_Mo_push 41 = .ok (.getfield 39, 3) := by decide +kernel
theorem d_Mo_push_44 : decode b_Mo_push 44 = .ok (.bipush 12, 2) := by decide +kernel
theorem d_Mo_push_46 : decode b_Mo_push 46 = .ok (.iload_n 1, 1) := by decide +kernel
theorem d_Mo_push_47 : decode b_Mo_push 47 = .ok (.imul, 1) := by decide +kernel
theorem d_Mo_push_48 : decode b_Mo_push 48 = .ok (.iload_n 2, 1) := by decide +kernel
theorem d_Mo_push_49 : decode b_Mo_push 49 = .ok (.iadd, 1) := by decide +kernel
theorem d_Mo_push_50 : decode b_Mo_push 50 = .ok (.iaload, 1) := by decide +kernel
theorem d_Mo_push_51 : decode b_Mo_push 51 = .ok (.iastore, 1) := by decide +kernel
theorem d_Mo_push_52 : decode b_Mo_push 52 = .ok (.aload_n 0, 1) := by decide +kernel
theorem d_Mo_push_53 : decode b_Mo_push 53 = .ok (.dup, 1) := by decide +kernel
theorem d_Mo_push_54 : decode b_Mo_push 54 = .ok (.getfield 124, 3) := by decide +kernel
theorem d_Mo_push_57 : decode b_Mo_push 57 = .ok (.iconst 1, 1) := by decide +kernel
theorem d_Mo_push_58 : decode b_Mo_push 58 = .ok (.iadd, 1) := by decide +kernel
theorem d_Mo_push_59 : decode b_Mo_push 59 = .ok (.putfield 124, 3) := by decide +kernel
theorem d_Mo_push_62 : decode b_Mo_push 62 = .ok (.iinc 2 1, 3) := by decide +kernel
theorem d_Mo_push_65 : decode b_Mo_push 65 = .ok (.goto (-63), 3) := by decide +kernel
theorem d_Mo_push_68 : decode b_Mo_push 68 = .ok (.aload_n 0, 1) := by decide +kernel
theorem d_Mo_push_69 : decode b_Mo_push 69 = .ok (.getfield 13, 3) := by decide +kernel
theorem d_Mo_push_72 : decode b_Mo_push 72 = .ok (.iload_n 1, 1) := by decide +kernel
theorem d_Mo_push_73 : decode b_Mo_push 73 = .ok (.iaload, 1) := by decide +kernel
theorem d_Mo_push_74 : decode b_Mo_push 74 = .ok (.istore_n 2, 1) := by decide +kernel
theorem d_Mo_push_75 : decode b_Mo_push 75 = .ok (.iconst 0, 1) := by decide +kernel
theorem d_Mo_push_76 : decode b_Mo_push 76 = .ok (.istore_n 3, 1) := by decide +kernel
theorem d_Mo_push_77 : decode b_Mo_push 77 = .ok (.aload_n 0, 1) := by decide +kernel
theorem d_Mo_push_78 : decode b_Mo_push 78 = .ok (.iconst 0, 1) := by decide +kernel
theorem d_Mo_push_79 : decode b_Mo_push 79 = .ok (.putfield 109, 3) := by decide +kernel
theorem d_Mo_push_82 : decode b_Mo_push 82 = .ok (.iload_n 2, 1) := by decide +kernel
theorem d_Mo_push_83 : decode b_Mo_push 83 = .ok (.ifCond .le 73, 3) := by decide +kernel
theorem d_Mo_push_86 : decode b_Mo_push 86 = .ok (.aload_n 0, 1) := by decide +kernel
theorem d_Mo_push_87 : decode b_Mo_push 87 = .ok (.getfield 66, 3) := by decide +kernel
theorem d_Mo_push_90 : decode b_Mo_push 90 = .ok (.iload_n 3, 1) := by decide +kernel
theorem d_Mo_push_91 : decode b_Mo_push 91 = .ok (.iaload, 1) := by decide +kernel
theorem d_Mo_push_92 : decode b_Mo_push 92 = .ok (.iload_n 2, 1) := by decide +kernel
theorem d_Mo_push_93 : decode b_Mo_push 93 = .ok (.if_icmp .ge 12, 3) := by decide +kernel
theorem d_Mo_push_96 : decode b_Mo_push 96 = .ok (.aload_n 0, 1) := by decide +kernel
theorem d_Mo_push_97 : decode b_Mo_push 97 = .ok (.getfield 66, 3) := by decide +kernel
theorem d_Mo_push_100 : decode b_Mo_push 100 = .ok (.iload_n 3, 1) := by decide +kernel
theorem d_Mo_push_101 : decode b_Mo_push 101 = .ok (.iaload, 1) := by decide +kernel
theorem d_Mo_push_102 : decode b_Mo_push 102 = .ok (.goto 4, 3) := by decide +kernel
theorem d_Mo_push_105 : decode b_Mo_push 105 = .ok (.iload_n 2, 1) := by decide +kernel
theorem d_Mo_push_106 : decode b_Mo_push 106 = .ok (.istore 4, 2) := by decide +kernel
theorem d_Mo_push_108 : decode b_Mo_push 108 = .ok (.aload_n 0, 1) := by decide +kernel
theorem d_Mo_push_109 : decode b_Mo_push 109 = .ok (.iload 4, 2) := by decide +kernel
theorem d_Mo_push_111 : decode b_Mo_push 111 = .ok (.aload_n 0, 1) := by decide +kernel
theorem d_Mo_push_112 : decode b_Mo_push 112 = .ok (.getfield 69, 3) := by decide +kernel
theorem d_Mo_push_115 : decode b_Mo_push 115 = .ok (.iload_n 3, 1) := by decide +kernel
theorem d_Mo_push_116 : decode b_Mo_push 116 = .ok (.iaload, 1) := by decide +kernel
theorem d_Mo_push_117 : decode b_Mo_push 117 = .ok (.invokevirtual 116, 3) := by decide +kernel
theorem d_Mo_push_120 : decode b_Mo_push 120 = .ok (.aload_n 0, 1) := by decide +kernel
theorem d_Mo_push_121 : decode b_Mo_push 121 = .ok (.getfield 66, 3) := by decide +kernel
theorem d_Mo_push_124 : decode b_Mo_push 124 = .ok (.iload_n 3, 1) := by decide +kernel
theorem d_Mo_push_125 : decode b_Mo_push 125 = .ok (.dup2, 1) := by decide +kernel
theorem d_Mo_push_126 : decode b_Mo_push 126 = .ok (.iaload, 1) := by decide +kernel
theorem d_Mo_push_127 : decode b_Mo_push 127 = .ok (.iload 4, 2) := by decide +kernel
theorem d_Mo_push_129 : decode b_Mo_push 129 = .ok (.isub, 1) := by decide +kernel
theorem d_Mo_push_130 : decode b_Mo_push 130 = .ok (.iastore, 1) := by decide +kernel
theorem d_Mo_push_131 : decode b_Mo_push 131 = .ok (.iload_n 2, 1) := by decide +kernel
theorem d_Mo_push_132 : decode b_Mo_push 132 = .ok (.iload 4, 2) := by decide +kernel
theorem d_Mo_push_134 : decode b_Mo_push 134 = .ok (.isub, 1) := by decide +kernel
theorem d_Mo_push_135 : decode b_Mo_push 135 = .ok (.istore_n 2, 1) := by decide +kernel
theorem d_Mo_push_136 : decode b_Mo_push 136 = .ok (.iload_n 3, 1) := by decide +kernel
theorem d_Mo_push_137 : decode b_Mo_push 137 = .ok (.aload_n 0, 1) := by decide +kernel
theorem d_Mo_push_138 : decode b_Mo_push 138 = .ok (.getfield 66, 3) := by decide +kernel
theorem d_Mo_push_141 : decode b_Mo_push 141 = .ok (.iload_n 3, 1) := by decide +kernel
theorem d_Mo_push_142 : decode b_Mo_push 142 = .ok (.iaload, 1) := by decide +kernel
theorem d_Mo_push_143 : decode b_Mo_push 143 = .ok (.ifCond .ne 7, 3) := by decide +kernel
theorem d_Mo_push_146 : decode b_Mo_push 146 = .ok (.iconst 1, 1) := by decide +kernel
theorem d_Mo_push_147 : decode b_Mo_push 147 = .ok (.goto 4, 3) := by decide +kernel
theorem d_Mo_push_150 : decode b_Mo_push 150 = .ok (.iconst 0, 1) := by decide +kernel
theorem d_Mo_push_151 : decode b_Mo_push 151 = .ok (.iadd, 1) := by decide +kernel
theorem d_Mo_push_152 : decode b_Mo_push 152 = .ok (.istore_n 3, 1) := by decide +kernel
theorem d_Mo_push_153 : decode b_Mo_push 153 = .ok (.goto (-71), 3) := by decide +kernel
theorem d_Mo_push_156 : decode b_Mo_push 156 = .ok (.iconst 0, 1) := by decide +kernel
theorem d_Mo_push_157 : decode b_Mo_push 157 = .ok (.istore 4, 2) := by decide +kernel
theorem d_Mo_push_159 : decode b_Mo_push 159 = .ok (.iload_n 3, 1) := by decide +kernel
theorem d_Mo_push_160 : decode b_Mo_push 160 = .ok (.aload_n 0, 1) := by decide +kernel
theorem d_Mo_push_161 : decode b_Mo_push 161 = .ok (.getfield 124, 3) := by decide +kernel
theorem d_Mo_push_164 : decode b_Mo_push 164 = .ok (.if_icmp .ge 38, 3) := by decide +kernel
theorem d_Mo_push_167 : decode b_Mo_push 167 = .ok (.aload_n 0, 1) := by decide +kernel
theorem d_Mo_push_168 : decode b_Mo_push 168 = .ok (.getfield 66, 3) := by decide +kernel
theorem d_Mo_push_171 : decode b_Mo_push 171 = .ok (.iload 4, 2) := by decide +kernel
theorem d_Mo_push_173 : decode b_Mo_push 173 = .ok (.aload_n 0, 1) := by decide +kernel
theorem d_Mo_push_174 : decode b_Mo_push 174 = .ok (.getfield 66, 3) := by decide +kernel
theorem d_Mo_push_177 : decode b_Mo_push 177 = .ok (.iload_n 3, 1) := by decide +kernel
theorem d_Mo_push_178 : decode b_Mo_push 178 = .ok (.iaload, 1) := by decide +kernel
theorem d_Mo_push_179 : decode b_Mo_push 179 = .ok (.iastore, 1) := by decide +kernel
theorem d_Mo_push_180 : decode b_Mo_push 180 = .ok (.aload_n 0, 1) := by decide +kernel
theorem d_Mo_push_181 : decode b_Mo_push 181 = .ok (.getfield 69, 3) := by decide +kernel
theorem d_Mo_push_184 : decode b_Mo_push 184 = .ok (.iload 4, 2) := by decide +kernel
theorem d_Mo_push_186 : decode b_Mo_push 186 = .ok (.aload_n 0, 1) := by decide +kernel
theorem d_Mo_push_187 : decode b_Mo_push 187 = .ok (.getfield 69, 3) := by decide +kernel
theorem d_Mo_push_190 : decode b_Mo_push 190 = .ok (.iload_n 3, 1) := by decide +kernel
theorem d_Mo_push_191 : decode b_Mo_push 191 = .ok (.iaload, 1) := by decide +kernel
theorem d_Mo_push_192 : decode b_Mo_push 192 = .ok (.iastore, 1) := by decide +kernel
theorem d_Mo_push_193 : decode b_Mo_push 193 = .ok (.iinc 4 1, 3) := by decide +kernel
theorem d_Mo_push_196 : decode b_Mo_push 196 = .ok (.iinc 3 1, 3) := by decide +kernel
theorem d_Mo_push_199 : decode b_Mo_push 199 = .ok (.goto (-40), 3) := by decide +kernel
theorem d_Mo_push_202 : decode b_Mo_push 202 = .ok (.aload_n 0, 1) := by decide +kernel
theorem d_Mo_push_203 : decode b_Mo_push 203 = .ok (.iload 4, 2) := by decide +kernel
theorem d_Mo_push_205 : decode b_Mo_push 205 = .ok (.putfield 124, 3) := by decide +kernel
theorem d_Mo_push_208 : decode b_Mo_push 208 = .ok (.aload_n 0, 1) := by decide +kernel
theorem d_Mo_push_209 : decode b_Mo_push 209 = .ok (.invokevirtual 127, 3) := by decide +kernel
theorem d_Mo_push_212 : decode b_Mo_push 212 = .ok (.aload_n 0, 1) := by decide +kernel
theorem d_Mo_push_213 : decode b_Mo_push 213 = .ok (.iload_n 1, 1) := by decide +kernel
theorem d_Mo_push_214 : decode b_Mo_push 214 = .ok (.invokevirtual 130, 3) := by decide +kernel
theorem d_Mo_push_217 : decode b_Mo_push 217 = .ok (.aload_n 0, 1) := by decide +kernel
theorem d_Mo_push_218 : decode b_Mo_push 218 = .ok (.getfield 42, 3) := by decide +kernel
theorem d_Mo_push_221 : decode b_Mo_push 221 = .ok (.iload_n 1, 1) := by decide +kernel
theorem d_Mo_push_222 : decode b_Mo_push 222 = .ok (.aload_n 0, 1) := by decide +kernel
theorem d_Mo_push_223 : decode b_Mo_push 223 = .ok (.getfield 133, 3) := by decide +kernel
theorem d_Mo_push_226 : decode b_Mo_push 226 = .ok (.iastore, 1) := by decide +kernel
theorem d_Mo_push_227 : decode b_Mo_push 227 = .ok (.return_, 1) := by decide +kernel
theorem d_Mo_take_0 : decode b_Mo_take 0 = .ok (.iconst 0, 1) := by decide +kernel
theorem d_Mo_take_1 : decode b_Mo_take 1 = .ok (.istore_n 3, 1) := by decide +kernel
theorem d_Mo_take_2 : decode b_Mo_take 2 = .ok (.iload_n 1, 1) := by decide +kernel
theorem d_Mo_take_3 : decode b_Mo_take 3 = .ok (.istore 4, 2) := by decide +kernel
theorem d_Mo_take_5 : decode b_Mo_take 5 = .ok (.iload 4, 2) := by decide +kernel
theorem d_Mo_take_7 : decode b_Mo_take 7 = .ok (.iconst (-1), 1) := by decide +kernel
theorem d_Mo_take_8 : decode b_Mo_take 8 = .ok (.if_icmp .eq 26, 3) := by decide +kernel
theorem d_Mo_take_11 : decode b_Mo_take 11 = .ok (.aload_n 0, 1) := by decide +kernel
theorem d_Mo_take_12 : decode b_Mo_take 12 = .ok (.getfield 78, 3) := by decide +kernel
theorem d_Mo_take_15 : decode b_Mo_take 15 = .ok (.iload_n 3, 1) := by decide +kernel
theorem d_Mo_take_16 : decode b_Mo_take 16 = .ok (.iload 4, 2) := by decide +kernel
theorem d_Mo_take_18 : decode b_Mo_take 18 = .ok (.iastore, 1) := by decide +kernel
theorem d_Mo_take_19 : decode b_Mo_take 19 = .ok (.iinc 3 1, 3) := by decide +kernel
theorem d_Mo_take_22 : decode b_Mo_take 22 = .ok (.aload_n 0, 1) := by decide +kernel
theorem d_Mo_take_23 : decode b_Mo_take 23 = .ok (.getfield 7, 3) := by decide +kernel
theorem d_Mo_take_26 : decode b_Mo_take 26 = .ok (.iload 4, 2) := by decide +kernel
theorem d_Mo_take_28 : decode b_Mo_take 28 = .ok (.iaload, 1) := by decide +kernel
theorem d_Mo_take_29 : decode b_Mo_take 29 = .ok (.istore 4, 2) := by decide +kernel
theorem d_Mo_take_31 : decode b_Mo_take 31 = .ok (.goto (-26), 3) := by decide +kernel
theorem d_Mo_take_34 : decode b_Mo_take 34 = .ok (.aload_n 0, 1) := by decide +kernel
theorem d_Mo_take_35 : decode b_Mo_take 35 = .ok (.iconst 1, 1) := by decide +kernel
theorem d_Mo_take_36 : decode b_Mo_take 36 = .ok (.putfield 124, 3) := by decide +kernel
theorem d_Mo_take_39 : decode b_Mo_take 39 = .ok (.aload_n 0, 1) := by decide +kernel
theorem d_Mo_take_40 : decode b_Mo_take 40 = .ok (.getfield 66, 3) := by decide +kernel
theorem d_Mo_take_43 : decode b_Mo_take 43 = .ok (.iconst 0, 1) := by decide +kernel
theorem d_Mo_take_44 : decode b_Mo_take 44 = .ok (.iload_n 2, 1) := by decide +kernel
theorem d_Mo_take_45 : decode b_Mo_take 45 = .ok (.iastore, 1) := by decide +kernel
theorem d_Mo_take_46 : decode b_Mo_take 46 = .ok (.aload_n 0, 1) := by decide +kernel
theorem d_Mo_take_47 : decode b_Mo_take 47 = .ok (.getfield 69, 3) := by decide +kernel
theorem d_Mo_take_50 : decode b_Mo_take 50 = .ok (.iconst 0, 1) := by decide +kernel
theorem d_Mo_take_51 : decode b_Mo_take 51 = .ok (.aload_n 0, 1) := by decide +kernel
theorem d_Mo_take_52 : decode b_Mo_take 52 = .ok (.getfield 26, 3) := by decide +kernel
theorem d_Mo_take_55 : decode b_Mo_take 55 = .ok (.iastore, 1) := by decide +kernel
theorem d_Mo_take_56 : decode b_Mo_take 56 = .ok (.aload_n 0, 1) := by decide +kernel
theorem d_Mo_take_57 : decode b_Mo_take 57 = .ok (.dup, 1) := by decide +kernel
theorem d_Mo_take_58 : decode b_Mo_take 58 = .ok (.getfield 136, 3) := by decide +kernel
theorem d_Mo_take_61 : decode b_Mo_take 61 = .ok (.iload_n 2, 1) := by decide +kernel
theorem d_Mo_take_62 : decode b_Mo_take 62 = .ok (.i2l, 1) := by decide +kernel
theorem d_Mo_take_63 : decode b_Mo_take 63 = .ok (.aload_n 0, 1) := by decide +kernel
theorem d_Mo_take_64 : decode b_Mo_take 64 = .ok (.getfield 26, 3) := by decide +kernel
theorem d_Mo_take_67 : decode b_Mo_take 67 = .ok (.i2l, 1) := by decide +kernel
theorem d_Mo_take_68 : decode b_Mo_take 68 = .ok (.lmul, 1) := by decide +kernel
theorem d_Mo_take_69 : decode b_Mo_take 69 = .ok (.ladd, 1) := by decide +kernel
theorem d_Mo_take_70 : decode b_Mo_take 70 = .ok (.putfield 136, 3) := by decide +kernel
theorem d_Mo_take_73 : decode b_Mo_take 73 = .ok (.iload_n 3, 1) := by decide +kernel
theorem d_Mo_take_74 : decode b_Mo_take 74 = .ok (.iconst 1, 1) := by decide +kernel
theorem d_Mo_take_75 : decode b_Mo_take 75 = .ok (.isub, 1) := by decide +kernel
theorem d_Mo_take_76 : decode b_Mo_take 76 = .ok (.istore 4, 2) := by decide +kernel
theorem d_Mo_take_78 : decode b_Mo_take 78 = .ok (.iload 4, 2) := by decide +kernel
theorem d_Mo_take_80 : decode b_Mo_take 80 = .ok (.ifCond .lt 20, 3) := by decide +kernel
theorem d_Mo_take_83 : decode b_Mo_take 83 = .ok (.aload_n 0, 1) := by decide +kernel
theorem d_Mo_take_84 : decode b_Mo_take 84 = .ok (.aload_n 0, 1) := by decide +kernel
theorem d_Mo_take_85 : decode b_Mo_take 85 = .ok (.getfield 78, 3) := by decide +kernel
theorem d_Mo_take_88 : decode b_Mo_take 88 = .ok (.iload 4, 2) := by decide +kernel
theorem d_Mo_take_90 : decode b_Mo_take 90 = .ok (.iaload, 1) := by decide +kernel
theorem d_Mo_take_91 : decode b_Mo_take 91 = .ok (.invokevirtual 139, 3) := by decide +kernel
theorem d_Mo_take_94 : decode b_Mo_take 94 = .ok (.iinc 4 (-1), 3) := by decide +kernel
theorem d_Mo_take_97 : decode b_Mo_take 97 = .ok (.goto (-19), 3) := by decide +kernel
theorem d_Mo_take_100 : decode b_Mo_take 100 = .ok (.aload_n 0, 1) := by decide +kernel
theorem d_Mo_take_101 : decode b_Mo_take 101 = .ok (.lconst 0, 1) := by decide +kernel
theorem d_Mo_take_102 : decode b_Mo_take 102 = .ok (.putfield 142, 3) := by decide +kernel
theorem d_Mo_take_105 : decode b_Mo_take 105 = .ok (.aload_n 0, 1) := by decide +kernel
theorem d_Mo_take_106 : decode b_Mo_take 106 = .ok (.aload_n 0, 1) := by decide +kernel
theorem d_Mo_take_107 : decode b_Mo_take 107 = .ok (.getfield 69, 3) := by decide +kernel
theorem d_Mo_take_110 : decode b_Mo_take 110 = .ok (.iconst 0, 1) := by decide +kernel
theorem d_Mo_take_111 : decode b_Mo_take 111 = .ok (.iaload, 1) := by decide +kernel
theorem d_Mo_take_112 : decode b_Mo_take 112 = .ok (.putfield 145, 3) := by decide +kernel
theorem d_Mo_take_115 : decode b_Mo_take 115 = .ok (.aload_n 0, 1) := by decide +kernel
theorem d_Mo_take_116 : decode b_Mo_take 116 = .ok (.aload_n 0, 1) := by decide +kernel
theorem d_Mo_take_117 : decode b_Mo_take 117 = .ok (.getfield 69, 3) := by decide +kernel
theorem d_Mo_take_120 : decode b_Mo_take 120 = .ok (.iconst 0, 1) := by decide +kernel
theorem d_Mo_take_121 : decode b_Mo_take 121 = .ok (.iaload, 1) := by decide +kernel
theorem d_Mo_take_122 : decode b_Mo_take 122 = .ok (.putfield 148, 3) := by decide +kernel
theorem d_Mo_take_125 : decode b_Mo_take 125 = .ok (.iconst 0, 1) := by decide +kernel
theorem d_Mo_take_126 : decode b_Mo_take 126 = .ok (.istore 4, 2) := by decide +kernel
theorem d_Mo_take_128 : decode b_Mo_take 128 = .ok (.iload 4, 2) := by decide +kernel
theorem d_Mo_take_130 : decode b_Mo_take 130 = .ok (.aload_n 0, 1) := by decide +kernel
theorem d_Mo_take_131 : decode b_Mo_take 131 = .ok (.getfield 124, 3) := by decide +kernel
theorem d_Mo_take_134 : decode b_Mo_take 134 = .ok (.if_icmp .ge 99, 3) := by decide +kernel
theorem d_Mo_take_137 : decode b_Mo_take 137 = .ok (.aload_n 0, 1) := by decide +kernel
theorem d_Mo_take_138 : decode b_Mo_take 138 = .ok (.dup, 1) := by decide +kernel
theorem d_Mo_take_139 : decode b_Mo_take 139 = .ok (.getfield 142, 3) := by decide +kernel
theorem d_Mo_take_142 : decode b_Mo_take 142 = .ok (.aload_n 0, 1) := by decide +kernel
theorem d_Mo_take_143 : decode b_Mo_take 143 = .ok (.getfield 66, 3) := by decide +kernel
theorem d_Mo_take_146 : decode b_Mo_take 146 = .ok (.iload 4, 2) := by decide +kernel
theorem d_Mo_take_148 : decode b_Mo_take 148 = .ok (.iaload, 1) := by decide +kernel
theorem d_Mo_take_149 : decode b_Mo_take 149 = .ok (.i2l, 1) := by decide +kernel
theorem d_Mo_take_150 : decode b_Mo_take 150 = .ok (.aload_n 0, 1) := by decide +kernel
theorem d_Mo_take_151 : decode b_Mo_take 151 = .ok (.getfield 69, 3) := by decide +kernel
theorem d_Mo_take_154 : decode b_Mo_take 154 = .ok (.iload 4, 2) := by decide +kernel
theorem d_Mo_take_156 : decode b_Mo_take 156 = .ok (.iaload, 1) := by decide +kernel
theorem d_Mo_take_157 : decode b_Mo_take 157 = .ok (.i2l, 1) := by decide +kernel
theorem d_Mo_take_158 : decode b_Mo_take 158 = .ok (.lmul, 1) := by decide +kernel
theorem d_Mo_take_159 : decode b_Mo_take 159 = .ok (.ladd, 1) := by decide +kernel
theorem d_Mo_take_160 : decode b_Mo_take 160 = .ok (.putfield 142, 3) := by decide +kernel
theorem d_Mo_take_163 : decode b_Mo_take 163 = .ok (.aload_n 0, 1) := by decide +kernel
theorem d_Mo_take_164 : decode b_Mo_take 164 = .ok (.aload_n 0, 1) := by decide +kernel
theorem d_Mo_take_165 : decode b_Mo_take 165 = .ok (.getfield 69, 3) := by decide +kernel
theorem d_Mo_take_168 : decode b_Mo_take 168 = .ok (.iload 4, 2) := by decide +kernel
theorem d_Mo_take_170 : decode b_Mo_take 170 = .ok (.iaload, 1) := by decide +kernel
theorem d_Mo_take_171 : decode b_Mo_take 171 = .ok (.aload_n 0, 1) := by decide +kernel
theorem d_Mo_take_172 : decode b_Mo_take 172 = .ok (.getfield 145, 3) := by decide +kernel
theorem d_Mo_take_175 : decode b_Mo_take 175 = .ok (.if_icmp .ge 13, 3) := by decide +kernel
theorem d_Mo_take_178 : decode b_Mo_take 178 = .ok (.aload_n 0, 1) := by decide +kernel
theorem d_Mo_take_179 : decode b_Mo_take 179 = .ok (.getfield 69, 3) := by decide +kernel
theorem d_Mo_take_182 : decode b_Mo_take 182 = .ok (.iload 4, 2) := by decide +kernel
theorem d_Mo_take_184 : decode b_Mo_take 184 = .ok (.iaload, 1) := by decide +kernel
theorem d_Mo_take_185 : decode b_Mo_take 185 = .ok (.goto 7, 3) := by decide +kernel
theorem d_Mo_take_188 : decode b_Mo_take 188 = .ok (.aload_n 0, 1) := by decide +kernel
theorem d_Mo_take_189 : decode b_Mo_take 189 = .ok (.getfield 145, 3) := by decide +kernel
theorem d_Mo_take_192 : decode b_Mo_take 192 = .ok (.putfield 145, 3) := by decide +kernel
theorem d_Mo_take_195 : decode b_Mo_take 195 = .ok (.aload_n 0, 1) := by decide +kernel
theorem d_Mo_take_196 : decode b_Mo_take 196 = .ok (.aload_n 0, 1) := by decide +kernel
theorem d_Mo_take_197 : decode b_Mo_take 197 = .ok (.getfield 69, 3) := by decide +kernel
theorem d_Mo_take_200 : decode b_Mo_take 200 = .ok (.iload 4, 2) := by decide +kernel
theorem d_Mo_take_202 : decode b_Mo_take 202 = .ok (.iaload, 1) := by decide +kernel
theorem d_Mo_take_203 : decode b_Mo_take 203 = .ok (.aload_n 0, 1) := by decide +kernel
theorem d_Mo_take_204 : decode b_Mo_take 204 = .ok (.getfield 148, 3) := by decide +kernel
theorem d_Mo_take_207 : decode b_Mo_take 207 = .ok (.if_icmp .le 13, 3) := by decide +kernel
theorem d_Mo_take_210 : decode b_Mo_take 210 = .ok (.aload_n 0, 1) := by decide +kernel
theorem d_Mo_take_211 : decode b_Mo_take 211 = .ok (.getfield 69, 3) := by decide +kernel
theorem d_Mo_take_214 : decode b_Mo_take 214 = .ok (.iload 4, 2) := by decide +kernel
theorem d_Mo_take_216 : decode b_Mo_take 216 = .ok (.iaload, 1) := by decide +kernel
theorem d_Mo_take_217 : decode b_Mo_take 217 = .ok (.goto 7, 3) := by decide +kernel
theorem d_Mo_take_220 : decode b_Mo_take 220 = .ok (.aload_n 0, 1) := by decide +kernel
theorem d_Mo_take_221 : decode b_Mo_take 221 = .ok (.getfield 148, 3) := by decide +kernel
theorem d_Mo_take_224 : decode b_Mo_take 224 = .ok (.putfield 148, 3) := by decide +kernel
theorem d_Mo_take_227 : decode b_Mo_take 227 = .ok (.iinc 4 1, 3) := by decide +kernel
theorem d_Mo_take_230 : decode b_Mo_take 230 = .ok (.goto (-102), 3) := by decide +kernel
theorem d_Mo_take_233 : decode b_Mo_take 233 = .ok (.aload_n 0, 1) := by decide +kernel
theorem d_Mo_take_234 : decode b_Mo_take 234 = .ok (.dup, 1) := by decide +kernel
theorem d_Mo_take_235 : decode b_Mo_take 235 = .ok (.getfield 151, 3) := by decide +kernel
theorem d_Mo_take_238 : decode b_Mo_take 238 = .ok (.aload_n 0, 1) := by decide +kernel
theorem d_Mo_take_239 : decode b_Mo_take 239 = .ok (.getfield 142, 3) := by decide +kernel
theorem d_Mo_take_242 : decode b_Mo_take 242 = .ok (.ladd, 1) := by decide +kernel
theorem d_Mo_take_243 : decode b_Mo_take 243 = .ok (.putfield 151, 3) := by decide +kernel
theorem d_Mo_take_246 : decode b_Mo_take 246 = .ok (.return_, 1) := by decide +kernel
theorem d_Mo_leastOf_0 : decode b_Mo_leastOf 0 = .ok (.aload_n 0, 1) := by decide +kernel
theorem d_Mo_leastOf_1 : decode b_Mo_leastOf 1 = .ok (.getfield 39, 3) := by decide +kernel
theorem d_Mo_leastOf_4 : decode b_Mo_leastOf 4 = .ok (.bipush 12, 2) := by decide +kernel
theorem d_Mo_leastOf_6 : decode b_Mo_leastOf 6 = .ok (.iload_n 1, 1) := by decide +kernel
theorem d_Mo_leastOf_7 : decode b_Mo_leastOf 7 = .ok (.imul, 1) := by decide +kernel
theorem d_Mo_leastOf_8 : decode b_Mo_leastOf 8 = .ok (.iaload, 1) := by decide +kernel
theorem d_Mo_leastOf_9 : decode b_Mo_leastOf 9 = .ok (.istore_n 2, 1) := by decide +kernel
theorem d_Mo_leastOf_10 : decode b_Mo_leastOf 10 = .ok (.iconst 1, 1) := by decide +kernel
theorem d_Mo_leastOf_11 : decode b_Mo_leastOf 11 = .ok (.istore_n 3, 1) := by decide +kernel
theorem d_Mo_leastOf_12 : decode b_Mo_leastOf 12 = .ok (.iload_n 3, 1) := by decide +kernel
theorem d_Mo_leastOf_13 : decode b_Mo_leastOf 13 = .ok (.aload_n 0, 1) := by decide +kernel
theorem d_Mo_leastOf_14 : decode b_Mo_leastOf 14 = .ok (.getfield 33, 3) := by decide +kernel
theorem d_Mo_leastOf_17 : decode b_Mo_leastOf 17 = .ok (.iload_n 1, 1) := by decide +kernel
theorem d_Mo_leastOf_18 : decode b_Mo_leastOf 18 = .ok (.iaload, 1) := by decide +kernel
theorem d_Mo_leastOf_19 : decode b_Mo_leastOf 19 = .ok (.if_icmp .ge 40, 3) := by decide +kernel
theorem d_Mo_leastOf_22 : decode b_Mo_leastOf 22 = .ok (.aload_n 0, 1) := by decide +kernel
theorem d_Mo_leastOf_23 : decode b_Mo_leastOf 23 = .ok (.getfield 39, 3) := by decide +kernel
theorem d_Mo_leastOf_26 : decode b_Mo_leastOf 26 = .ok (.bipush 12, 2) := by decide +kernel
theorem d_Mo_leastOf_28 : decode b_Mo_leastOf 28 = .ok (.iload_n 1, 1) := by decide +kernel
theorem d_Mo_leastOf_29 : decode b_Mo_leastOf 29 = .ok (.imul, 1) := by decide +kernel
theorem d_Mo_leastOf_30 : decode b_Mo_leastOf 30 = .ok (.iload_n 3, 1) := by decide +kernel
theorem d_Mo_leastOf_31 : decode b_Mo_leastOf 31 = .ok (.iadd, 1) := by decide +kernel
theorem d_Mo_leastOf_32 : decode b_Mo_leastOf 32 = .ok (.iaload, 1) := by decide +kernel
theorem d_Mo_leastOf_33 : decode b_Mo_leastOf 33 = .ok (.iload_n 2, 1) := by decide +kernel
theorem d_Mo_leastOf_34 : decode b_Mo_leastOf 34 = .ok (.if_icmp .ge 17, 3) := by decide +kernel
theorem d_Mo_leastOf_37 : decode b_Mo_leastOf 37 = .ok (.aload_n 0, 1) := by decide +kernel
theorem d_Mo_leastOf_38 : decode b_Mo_leastOf 38 = .ok (.getfield 39, 3) := by decide +kernel
theorem d_Mo_leastOf_41 : decode b_Mo_leastOf 41 = .ok (.bipush 12, 2) := by decide +kernel
theorem d_Mo_leastOf_43 : decode b_Mo_leastOf 43 = .ok (.iload_n 1, 1) := by decide +kernel
theorem d_Mo_leastOf_44 : decode b_Mo_leastOf 44 = .ok (.imul, 1) := by decide +kernel
theorem d_Mo_leastOf_45 : decode b_Mo_leastOf 45 = .ok (.iload_n 3, 1) := by decide +kernel
theorem d_Mo_leastOf_46 : decode b_Mo_leastOf 46 = .ok (.iadd, 1) := by decide +kernel
theorem d_Mo_leastOf_47 : decode b_Mo_leastOf 47 = .ok (.iaload, 1) := by decide +kernel
theorem d_Mo_leastOf_48 : decode b_Mo_leastOf 48 = .ok (.goto 4, 3) := by decide +kernel
theorem d_Mo_leastOf_51 : decode b_Mo_leastOf 51 = .ok (.iload_n 2, 1) := by decide +kernel
theorem d_Mo_leastOf_52 : decode b_Mo_leastOf 52 = .ok (.istore_n 2, 1) := by decide +kernel
theorem d_Mo_leastOf_53 : decode b_Mo_leastOf 53 = .ok (.iinc 3 1, 3) := by decide +kernel
theorem d_Mo_leastOf_56 : decode b_Mo_leastOf 56 = .ok (.goto (-44), 3) := by decide +kernel
theorem d_Mo_leastOf_59 : decode b_Mo_leastOf 59 = .ok (.iload_n 2, 1) := by decide +kernel
theorem d_Mo_leastOf_60 : decode b_Mo_leastOf 60 = .ok (.ireturn, 1) := by decide +kernel
theorem d_Mo_mostOf_0 : decode b_Mo_mostOf 0 = .ok (.aload_n 0, 1) := by decide +kernel
theorem d_Mo_mostOf_1 : decode b_Mo_mostOf 1 = .ok (.getfield 39, 3) := by decide +kernel
theorem d_Mo_mostOf_4 : decode b_Mo_mostOf 4 = .ok (.bipush 12, 2) := by decide +kernel
theorem d_Mo_mostOf_6 : decode b_Mo_mostOf 6 = .ok (.iload_n 1, 1) := by decide +kernel
theorem d_Mo_mostOf_7 : decode b_Mo_mostOf 7 = .ok (.imul, 1) := by decide +kernel
theorem d_Mo_mostOf_8 : decode b_Mo_mostOf 8 = .ok (.iaload, 1) := by decide +kernel
theorem d_Mo_mostOf_9 : decode b_Mo_mostOf 9 = .ok (.istore_n 2, 1) := by decide +kernel
theorem d_Mo_mostOf_10 : decode b_Mo_mostOf 10 = .ok (.iconst 1, 1) := by decide +kernel
theorem d_Mo_mostOf_11 : decode b_Mo_mostOf 11 = .ok (.istore_n 3, 1) := by decide +kernel
theorem d_Mo_mostOf_12 : decode b_Mo_mostOf 12 = .ok (.iload_n 3, 1) := by decide +kernel
theorem d_Mo_mostOf_13 : decode b_Mo_mostOf 13 = .ok (.aload_n 0, 1) := by decide +kernel
theorem d_Mo_mostOf_14 : decode b_Mo_mostOf 14 = .ok (.getfield 33, 3) := by decide +kernel
theorem d_Mo_mostOf_17 : decode b_Mo_mostOf 17 = .ok (.iload_n 1, 1) := by decide +kernel
theorem d_Mo_mostOf_18 : decode b_Mo_mostOf 18 = .ok (.iaload, 1) := by decide +kernel
theorem d_Mo_mostOf_19 : decode b_Mo_mostOf 19 = .ok (.if_icmp .ge 40, 3) := by decide +kernel
theorem d_Mo_mostOf_22 : decode b_Mo_mostOf 22 = .ok (.aload_n 0, 1) := by decide +kernel
theorem d_Mo_mostOf_23 : decode b_Mo_mostOf 23 = .ok (.getfield 39, 3) := by decide +kernel
theorem d_Mo_mostOf_26 : decode b_Mo_mostOf 26 = .ok (.bipush 12, 2) := by decide +kernel
theorem d_Mo_mostOf_28 : decode b_Mo_mostOf 28 = .ok (.iload_n 1, 1) := by decide +kernel
theorem d_Mo_mostOf_29 : decode b_Mo_mostOf 29 = .ok (.imul, 1) := by decide +kernel
theorem d_Mo_mostOf_30 : decode b_Mo_mostOf 30 = .ok (.iload_n 3, 1) := by decide +kernel
theorem d_Mo_mostOf_31 : decode b_Mo_mostOf 31 = .ok (.iadd, 1) := by decide +kernel
theorem d_Mo_mostOf_32 : decode b_Mo_mostOf 32 = .ok (.iaload, 1) := by decide +kernel
theorem d_Mo_mostOf_33 : decode b_Mo_mostOf 33 = .ok (.iload_n 2, 1) := by decide +kernel
theorem d_Mo_mostOf_34 : decode b_Mo_mostOf 34 = .ok (.if_icmp .le 17, 3) := by decide +kernel
theorem d_Mo_mostOf_37 : decode b_Mo_mostOf 37 = .ok (.aload_n 0, 1) := by decide +kernel
theorem d_Mo_mostOf_38 : decode b_Mo_mostOf 38 = .ok (.getfield 39, 3) := by decide +kernel
theorem d_Mo_mostOf_41 : decode b_Mo_mostOf 41 = .ok (.bipush 12, 2) := by decide +kernel
theorem d_Mo_mostOf_43 : decode b_Mo_mostOf 43 = .ok (.iload_n 1, 1) := by decide +kernel
theorem d_Mo_mostOf_44 : decode b_Mo_mostOf 44 = .ok (.imul, 1) := by decide +kernel
theorem d_Mo_mostOf_45 : decode b_Mo_mostOf 45 = .ok (.iload_n 3, 1) := by decide +kernel
theorem d_Mo_mostOf_46 : decode b_Mo_mostOf 46 = .ok (.iadd, 1) := by decide +kernel
theorem d_Mo_mostOf_47 : decode b_Mo_mostOf 47 = .ok (.iaload, 1) := by decide +kernel
theorem d_Mo_mostOf_48 : decode b_Mo_mostOf 48 = .ok (.goto 4, 3) := by decide +kernel
theorem d_Mo_mostOf_51 : decode b_Mo_mostOf 51 = .ok (.iload_n 2, 1) := by decide +kernel
theorem d_Mo_mostOf_52 : decode b_Mo_mostOf 52 = .ok (.istore_n 2, 1) := by decide +kernel
theorem d_Mo_mostOf_53 : decode b_Mo_mostOf 53 = .ok (.iinc 3 1, 3) := by decide +kernel
theorem d_Mo_mostOf_56 : decode b_Mo_mostOf 56 = .ok (.goto (-44), 3) := by decide +kernel
theorem d_Mo_mostOf_59 : decode b_Mo_mostOf 59 = .ok (.iload_n 2, 1) := by decide +kernel
theorem d_Mo_mostOf_60 : decode b_Mo_mostOf 60 = .ok (.ireturn, 1) := by decide +kernel
theorem d_Mo_rest_0 : decode b_Mo_rest 0 = .ok (.iconst 0, 1) := by decide +kernel
theorem d_Mo_rest_1 : decode b_Mo_rest 1 = .ok (.istore_n 1, 1) := by decide +kernel
theorem d_Mo_rest_2 : decode b_Mo_rest 2 = .ok (.iload_n 1, 1) := by decide +kernel
theorem d_Mo_rest_3 : decode b_Mo_rest 3 = .ok (.aload_n 0, 1) := by decide +kernel
theorem d_Mo_rest_4 : decode b_Mo_rest 4 = .ok (.getfield 102, 3) := by decide +kernel
theorem d_Mo_rest_7 : decode b_Mo_rest 7 = .ok (.if_icmp .ge 29, 3) := by decide +kernel
theorem d_Mo_rest_10 : decode b_Mo_rest 10 = .ok (.aload_n 0, 1) := by decide +kernel
theorem d_Mo_rest_11 : decode b_Mo_rest 11 = .ok (.getfield 23, 3) := by decide +kernel
theorem d_Mo_rest_14 : decode b_Mo_rest 14 = .ok (.iload_n 1, 1) := by decide +kernel
theorem d_Mo_rest_15 : decode b_Mo_rest 15 = .ok (.iaload, 1) := by decide +kernel
theorem d_Mo_rest_16 : decode b_Mo_rest 16 = .ok (.ifCond .le 14, 3) := by decide +kernel
theorem d_Mo_rest_19 : decode b_Mo_rest 19 = .ok (.aload_n 0, 1) := by decide +kernel
theorem d_Mo_rest_20 : decode b_Mo_rest 20 = .ok (.iload_n 1, 1) := by decide +kernel
theorem d_Mo_rest_21 : decode b_Mo_rest 21 = .ok (.aload_n 0, 1) := by decide +kernel
theorem d_Mo_rest_22 : decode b_Mo_rest 22 = .ok (.getfield 23, 3) := by decide +kernel
theorem d_Mo_rest_25 : decode b_Mo_rest 25 = .ok (.iload_n 1, 1) := by decide +kernel
theorem d_Mo_rest_26 : decode b_Mo_rest 26 = .ok (.iaload, 1) := by decide +kernel
theorem d_Mo_rest_27 : decode b_Mo_rest 27 = .ok (.invokevirtual 154, 3) := by decide +kernel
theorem d_Mo_rest_30 : decode b_Mo_rest 30 = .ok (.iinc 1 1, 3) := by decide +kernel
theorem d_Mo_rest_33 : decode b_Mo_rest 33 = .ok (.goto (-31), 3) := by decide +kernel
theorem d_Mo_rest_36 : decode b_Mo_rest 36 = .ok (.iconst 0, 1) := by decide +kernel
theorem d_Mo_rest_37 : decode b_Mo_rest 37 = .ok (.istore_n 1, 1) := by decide +kernel
theorem d_Mo_rest_38 : decode b_Mo_rest 38 = .ok (.iload_n 1, 1) := by decide +kernel
theorem d_Mo_rest_39 : decode b_Mo_rest 39 = .ok (.aload_n 0, 1) := by decide +kernel
theorem d_Mo_rest_40 : decode b_Mo_rest 40 = .ok (.getfield 102, 3) := by decide +kernel
theorem d_Mo_rest_43 : decode b_Mo_rest 43 = .ok (.if_icmp .ge 139, 3) := by decide +kernel
theorem d_Mo_rest_46 : decode b_Mo_rest 46 = .ok (.aload_n 0, 1) := by decide +kernel
theorem d_Mo_rest_47 : decode b_Mo_rest 47 = .ok (.iconst 0, 1) := by decide +kernel
theorem d_Mo_rest_48 : decode b_Mo_rest 48 = .ok (.putfield 109, 3) := by decide +kernel
theorem d_Mo_rest_51 : decode b_Mo_rest 51 = .ok (.iconst 0, 1) := by decide +kernel
theorem d_Mo_rest_52 : decode b_Mo_rest 52 = .ok (.istore_n 2, 1) := by decide +kernel
theorem d_Mo_rest_53 : decode b_Mo_rest 53 = .ok (.iload_n 2, 1) := by decide +kernel
theorem d_Mo_rest_54 : decode b_Mo_rest 54 = .ok (.aload_n 0, 1) := by decide +kernel
theorem d_Mo_rest_55 : decode b_Mo_rest 55 = .ok (.getfield 33, 3) := by decide +kernel
theorem d_Mo_rest_58 : decode b_Mo_rest 58 = .ok (.iload_n 1, 1) := by decide +kernel
theorem d_Mo_rest_59 : decode b_Mo_rest 59 = .ok (.iaload, 1) := by decide +kernel
theorem d_Mo_rest_60 : decode b_Mo_rest 60 = .ok (.if_icmp .ge 80, 3) := by decide +kernel
theorem d_Mo_rest_63 : decode b_Mo_rest 63 = .ok (.aload_n 0, 1) := by decide +kernel
theorem d_Mo_rest_64 : decode b_Mo_rest 64 = .ok (.getfield 36, 3) := by decide +kernel
theorem d_Mo_rest_67 : decode b_Mo_rest 67 = .ok (.bipush 12, 2) := by decide +kernel
theorem d_Mo_rest_69 : decode b_Mo_rest 69 = .ok (.iload_n 1, 1) := by decide +kernel
theorem d_Mo_rest_70 : decode b_Mo_rest 70 = .ok (.imul, 1) := by decide +kernel
theorem d_Mo_rest_71 : decode b_Mo_rest 71 = .ok (.iload_n 2, 1) := by decide +kernel
theorem d_Mo_rest_72 : decode b_Mo_rest 72 = .ok (.iadd, 1) := by decide +kernel
theorem d_Mo_rest_73 : decode b_Mo_rest 73 = .ok (.iaload, 1) := by decide +kernel
theorem d_Mo_rest_74 : decode b_Mo_rest 74 = .ok (.istore_n 3, 1) := by decide +kernel
theorem d_Mo_rest_75 : decode b_Mo_rest 75 = .ok (.aload_n 0, 1) := by decide +kernel
theorem d_Mo_rest_76 : decode b_Mo_rest 76 = .ok (.getfield 39, 3) := by decide +kernel
theorem d_Mo_rest_79 : decode b_Mo_rest 79 = .ok (.bipush 12, 2) := by decide +kernel
theorem d_Mo_rest_81 : decode b_Mo_rest 81 = .ok (.iload_n 1, 1) := by decide +kernel
theorem d_Mo_rest_82 : decode b_Mo_rest 82 = .ok (.imul, 1) := by decide +kernel
theorem d_Mo_rest_83 : decode b_Mo_rest 83 = .ok (.iload_n 2, 1) := by decide +kernel
theorem d_Mo_rest_84 : decode b_Mo_rest 84 = .ok (.iadd, 1) := by decide +kernel
theorem d_Mo_rest_85 : decode b_Mo_rest 85 = .ok (.iaload, 1) := by decide +kernel
theorem d_Mo_rest_86 : decode b_Mo_rest 86 = .ok (.aload_n 0, 1) := by decide +kernel
theorem d_Mo_rest_87 : decode b_Mo_rest 87 = .ok (.getfield 30, 3) := by decide +kernel
theorem d_Mo_rest_90 : decode b_Mo_rest 90 = .ok (.isub, 1) := by decide +kernel
theorem d_Mo_rest_91 : decode b_Mo_rest 91 = .ok (.aload_n 0, 1) := by decide +kernel
theorem d_Mo_rest_92 : decode b_Mo_rest 92 = .ok (.getfield 16, 3) := by decide +kernel
theorem d_Mo_rest_95 : decode b_Mo_rest 95 = .ok (.iload_n 1, 1) := by decide +kernel
theorem d_Mo_rest_96 : decode b_Mo_rest 96 = .ok (.iaload, 1) := by decide +kernel
theorem d_Mo_rest_97 : decode b_Mo_rest 97 = .ok (.idiv, 1) := by decide +kernel
theorem d_Mo_rest_98 : decode b_Mo_rest 98 = .ok (.istore 4, 2) := by decide +kernel
theorem d_Mo_rest_100 : decode b_Mo_rest 100 = .ok (.aload_n 0, 1) := by decide +kernel
theorem d_Mo_rest_101 : decode b_Mo_rest 101 = .ok (.dup, 1) := by decide +kernel
theorem d_Mo_rest_102 : decode b_Mo_rest 102 = .ok (.getfield 112, 3) := by decide +kernel
theorem d_Mo_rest_105 : decode b_Mo_rest 105 = .ok (.iload_n 3, 1) := by decide +kernel
theorem d_Mo_rest_106 : decode b_Mo_rest 106 = .ok (.i2l, 1) := by decide +kernel
theorem d_Mo_rest_107 : decode b_Mo_rest 107 = .ok (.iload 4, 2) := by decide +kernel
theorem d_Mo_rest_109 : decode b_Mo_rest 109 = .ok (.i2l, 1) := by decide +kernel
theorem d_Mo_rest_110 : decode b_Mo_rest 110 = .ok (.lmul, 1) := by decide +kernel
theorem d_Mo_rest_111 : decode b_Mo_rest 111 = .ok (.ladd, 1) := by decide +kernel
theorem d_Mo_rest_112 : decode b_Mo_rest 112 = .ok (.putfield 112, 3) := by decide +kernel
theorem d_Mo_rest_115 : decode b_Mo_rest 115 = .ok (.aload_n 0, 1) := by decide +kernel
theorem d_Mo_rest_116 : decode b_Mo_rest 116 = .ok (.iload_n 3, 1) := by decide +kernel
theorem d_Mo_rest_117 : decode b_Mo_rest 117 = .ok (.aload_n 0, 1) := by decide +kernel
theorem d_Mo_rest_118 : decode b_Mo_rest 118 = .ok (.getfield 39, 3) := by decide +kernel
theorem d_Mo_rest_121 : decode b_Mo_rest 121 = .ok (.bipush 12, 2) := by decide +kernel
theorem d_Mo_rest_123 : decode b_Mo_rest 123 = .ok (.iload_n 1, 1) := by decide +kernel
theorem d_Mo_rest_124 : decode b_Mo_rest 124 = .ok (.imul, 1) := by decide +kernel
theorem d_Mo_rest_125 : decode b_Mo_rest 125 = .ok (.iload_n 2, 1) := by decide +kernel
theorem d_Mo_rest_126 : decode b_Mo_rest 126 = .ok (.iadd, 1) := by decide +kernel
theorem d_Mo_rest_127 : decode b_Mo_rest 127 = .ok (.iaload, 1) := by decide +kernel
theorem d_Mo_rest_128 : decode b_Mo_rest 128 = .ok (.iload 4, 2) := by decide +kernel
theorem d_Mo_rest_130 : decode b_Mo_rest 130 = .ok (.isub, 1) := by decide +kernel
theorem d_Mo_rest_131 : decode b_Mo_rest 131 = .ok (.invokevirtual 116, 3) := by decide +kernel
theorem d_Mo_rest_134 : decode b_Mo_rest 134 = .ok (.iinc 2 1, 3) := by decide +kernel
theorem d_Mo_rest_137 : decode b_Mo_rest 137 = .ok (.goto (-84), 3) := by decide +kernel
theorem d_Mo_rest_140 : decode b_Mo_rest 140 = .ok (.aload_n 0, 1) := by decide +kernel
theorem d_Mo_rest_141 : decode b_Mo_rest 141 = .ok (.iload_n 1, 1) := by decide +kernel
theorem d_Mo_rest_142 : decode b_Mo_rest 142 = .ok (.invokevirtual 130, 3) := by decide +kernel
theorem d_Mo_rest_145 : decode b_Mo_rest 145 = .ok (.aload_n 0, 1) := by decide +kernel
theorem d_Mo_rest_146 : decode b_Mo_rest 146 = .ok (.getfield 45, 3) := by decide +kernel
theorem d_Mo_rest_149 : decode b_Mo_rest 149 = .ok (.iload_n 1, 1) := by decide +kernel
theorem d_Mo_rest_150 : decode b_Mo_rest 150 = .ok (.dup2, 1) := by decide +kernel
theorem d_Mo_rest_151 : decode b_Mo_rest 151 = .ok (.iaload, 1) := by decide +kernel
theorem d_Mo_rest_152 : decode b_Mo_rest 152 = .ok (.aload_n 0, 1) := by decide +kernel
theorem d_Mo_rest_153 : decode b_Mo_rest 153 = .ok (.iload_n 1, 1) := by decide +kernel
theorem d_Mo_rest_154 : decode b_Mo_rest 154 = .ok (.invokevirtual 157, 3) := by decide +kernel
theorem d_Mo_rest_157 : decode b_Mo_rest 157 = .ok (.sipush 2500, 3) := by decide +kernel
theorem d_Mo_rest_160 : decode b_Mo_rest 160 = .ok (.sipush 4500, 3) := by decide +kernel
theorem d_Mo_rest_163 : decode b_Mo_rest 163 = .ok (.invokestatic 105, 3) := by decide +kernel
theorem d_Mo_rest_166 : decode b_Mo_rest 166 = .ok (.ifCond .eq 7, 3) := by decide +kernel
theorem d_Mo_rest_169 : decode b_Mo_rest 169 = .ok (.iconst 1, 1) := by decide +kernel
theorem d_Mo_rest_170 : decode b_Mo_rest 170 = .ok (.goto 4, 3) := by decide +kernel
theorem d_Mo_rest_173 : decode b_Mo_rest 173 = .ok (.iconst 0, 1) := by decide +kernel
theorem d_Mo_rest_174 : decode b_Mo_rest 174 = .ok (.iadd, 1) := by decide +kernel
theorem d_Mo_rest_175 : decode b_Mo_rest 175 = .ok (.iastore, 1) := by decide +kernel
theorem d_Mo_rest_176 : decode b_Mo_rest 176 = .ok (.iinc 1 1, 3) := by decide +kernel
theorem d_Mo_rest_179 : decode b_Mo_rest 179 = .ok (.goto (-141), 3) := by decide +kernel
theorem d_Mo_rest_182 : decode b_Mo_rest 182 = .ok (.return_, 1) := by decide +kernel
theorem d_Mo_fill_0 : decode b_Mo_fill 0 = .ok (.aload_n 0, 1) := by decide +kernel
theorem d_Mo_fill_1 : decode b_Mo_fill 1 = .ok (.getfield 33, 3) := by decide +kernel
theorem d_Mo_fill_4 : decode b_Mo_fill 4 = .ok (.iload_n 1, 1) := by decide +kernel
theorem d_Mo_fill_5 : decode b_Mo_fill 5 = .ok (.iconst 1, 1) := by decide +kernel
theorem d_Mo_fill_6 : decode b_Mo_fill 6 = .ok (.iastore, 1) := by decide +kernel
theorem d_Mo_fill_7 : decode b_Mo_fill 7 = .ok (.aload_n 0, 1) := by decide +kernel
theorem d_Mo_fill_8 : decode b_Mo_fill 8 = .ok (.getfield 36, 3) := by decide +kernel
theorem d_Mo_fill_11 : decode b_Mo_fill 11 = .ok (.bipush 12, 2) := by decide +kernel
theorem d_Mo_fill_13 : decode b_Mo_fill 13 = .ok (.iload_n 1, 1) := by decide +kernel
theorem d_Mo_fill_14 : decode b_Mo_fill 14 = .ok (.imul, 1) := by decide +kernel
theorem d_Mo_fill_15 : decode b_Mo_fill 15 = .ok (.aload_n 0, 1) := by decide +kernel
theorem d_Mo_fill_16 : decode b_Mo_fill 16 = .ok (.getfield 13, 3) := by decide +kernel
theorem d_Mo_fill_19 : decode b_Mo_fill 19 = .ok (.iload_n 1, 1) := by decide +kernel
theorem d_Mo_fill_20 : decode b_Mo_fill 20 = .ok (.iaload, 1) := by decide +kernel
theorem d_Mo_fill_21 : decode b_Mo_fill 21 = .ok (.iastore, 1) := by decide +kernel
theorem d_Mo_fill_22 : decode b_Mo_fill 22 = .ok (.aload_n 0, 1) := by decide +kernel
theorem d_Mo_fill_23 : decode b_Mo_fill 23 = .ok (.getfield 39, 3) := by decide +kernel
theorem d_Mo_fill_26 : decode b_Mo_fill 26 = .ok (.bipush 12, 2) := by decide +kernel
theorem d_Mo_fill_28 : decode b_Mo_fill 28 = .ok (.iload_n 1, 1) := by decide +kernel
theorem d_Mo_fill_29 : decode b_Mo_fill 29 = .ok (.imul, 1) := by decide +kernel
theorem d_Mo_fill_30 : decode b_Mo_fill 30 = .ok (.aload_n 0, 1) := by decide +kernel
theorem d_Mo_fill_31 : decode b_Mo_fill 31 = .ok (.getfield 30, 3) := by decide +kernel
theorem d_Mo_fill_34 : decode b_Mo_fill 34 = .ok (.iastore, 1) := by decide +kernel
theorem d_Mo_fill_35 : decode b_Mo_fill 35 = .ok (.return_, 1) := by decide +kernel
theorem d_Mo_pipe_0 : decode b_Mo_pipe 0 = .ok (.aload_n 0, 1) := by decide +kernel
theorem d_Mo_pipe_1 : decode b_Mo_pipe 1 = .ok (.iload_n 1, 1) := by decide +kernel
theorem d_Mo_pipe_2 : decode b_Mo_pipe 2 = .ok (.iconst (-1), 1) := by decide +kernel
theorem d_Mo_pipe_3 : decode b_Mo_pipe 3 = .ok (.aload_n 0, 1) := by decide +kernel
theorem d_Mo_pipe_4 : decode b_Mo_pipe 4 = .ok (.getfield 102, 3) := by decide +kernel
theorem d_Mo_pipe_7 : decode b_Mo_pipe 7 = .ok (.iconst 1, 1) := by decide +kernel
theorem d_Mo_pipe_8 : decode b_Mo_pipe 8 = .ok (.isub, 1) := by decide +kernel
theorem d_Mo_pipe_9 : decode b_Mo_pipe 9 = .ok (.invokestatic 105, 3) := by decide +kernel
theorem d_Mo_pipe_12 : decode b_Mo_pipe 12 = .ok (.ifCond .eq 25, 3) := by decide +kernel
theorem d_Mo_pipe_15 : decode b_Mo_pipe 15 = .ok (.iload_n 2, 1) := by decide +kernel
theorem d_Mo_pipe_16 : decode b_Mo_pipe 16 = .ok (.iconst 1, 1) := by decide +kernel
theorem d_Mo_pipe_17 : decode b_Mo_pipe 17 = .ok (.sipush 1000, 3) := by decide +kernel
theorem d_Mo_pipe_20 : decode b_Mo_pipe 20 = .ok (.invokestatic 105, 3) := by decide +kernel
theorem d_Mo_pipe_23 : decode b_Mo_pipe 23 = .ok (.ifCond .eq 14, 3) := by decide +kernel
theorem d_Mo_pipe_26 : decode b_Mo_pipe 26 = .ok (.iload_n 3, 1) := by decide +kernel
theorem d_Mo_pipe_27 : decode b_Mo_pipe 27 = .ok (.iconst 1, 1) := by decide +kernel
theorem d_Mo_pipe_28 : decode b_Mo_pipe 28 = .ok (.sipush 1000, 3) := by decide +kernel
theorem d_Mo_pipe_31 : decode b_Mo_pipe 31 = .ok (.invokestatic 105, 3) := by decide +kernel
theorem d_Mo_pipe_34 : decode b_Mo_pipe 34 = .ok (.ifCond .ne 7, 3) := by decide +kernel
theorem d_Mo_pipe_37 : decode b_Mo_pipe 37 = .ok (.iconst 1, 1) := by decide +kernel
theorem d_Mo_pipe_38 : decode b_Mo_pipe 38 = .ok (.goto 24, 3) := by decide +kernel
theorem d_Mo_pipe_41 : decode b_Mo_pipe 41 = .ok (.aload_n 0, 1) := by decide +kernel
theorem d_Mo_pipe_42 : decode b_Mo_pipe 42 = .ok (.getfield 102, 3) := by decide +kernel
theorem d_Mo_pipe_45 : decode b_Mo_pipe 45 = .ok (.bipush 10, 2) := by decide +kernel
theorem d_Mo_pipe_47 : decode b_Mo_pipe 47 = .ok (.if_icmp .eq 10, 3) := by decide +kernel
theorem d_Mo_pipe_50 : decode b_Mo_pipe 50 = .ok (.aload_n 0, 1) := by decide +kernel
theorem d_Mo_pipe_51 : decode b_Mo_pipe 51 = .ok (.getfield 133, 3) := by decide +kernel
theorem d_Mo_pipe_54 : decode b_Mo_pipe 54 = .ok (.ifCond .le 7, 3) := by decide +kernel
theorem d_Mo_pipe_57 : decode b_Mo_pipe 57 = .ok (.iconst 2, 1) := by decide +kernel
theorem d_Mo_pipe_58 : decode b_Mo_pipe 58 = .ok (.goto 4, 3) := by decide +kernel
theorem d_Mo_pipe_61 : decode b_Mo_pipe 61 = .ok (.iconst 0, 1) := by decide +kernel
theorem d_Mo_pipe_62 : decode b_Mo_pipe 62 = .ok (.putfield 99, 3) := by decide +kernel
theorem d_Mo_pipe_65 : decode b_Mo_pipe 65 = .ok (.aload_n 0, 1) := by decide +kernel
theorem d_Mo_pipe_66 : decode b_Mo_pipe 66 = .ok (.getfield 99, 3) := by decide +kernel
theorem d_Mo_pipe_69 : decode b_Mo_pipe 69 = .ok (.ifCond .le 5, 3) := by decide +kernel
theorem d_Mo_pipe_72 : decode b_Mo_pipe 72 = .ok (.iconst 0, 1) := by decide +kernel
theorem d_Mo_pipe_73 : decode b_Mo_pipe 73 = .ok (.ireturn, 1) := by decide +kernel
theorem d_Mo_pipe_74 : decode b_Mo_pipe 74 = .ok (.aload_n 0, 1) := by decide +kernel
theorem d_Mo_pipe_75 : decode b_Mo_pipe 75 = .ok (.getfield 7, 3) := by decide +kernel
theorem d_Mo_pipe_78 : decode b_Mo_pipe 78 = .ok (.aload_n 0, 1) := by decide +kernel
theorem d_Mo_pipe_79 : decode b_Mo_pipe 79 = .ok (.getfield 102, 3) := by decide +kernel
theorem d_Mo_pipe_82 : decode b_Mo_pipe 82 = .ok (.iload_n 1, 1) := by decide +kernel
theorem d_Mo_pipe_83 : decode b_Mo_pipe 83 = .ok (.iastore, 1) := by decide +kernel
theorem d_Mo_pipe_84 : decode b_Mo_pipe 84 = .ok (.aload_n 0, 1) := by decide +kernel
theorem d_Mo_pipe_85 : decode b_Mo_pipe 85 = .ok (.getfield 13, 3) := by decide +kernel
theorem d_Mo_pipe_88 : decode b_Mo_pipe 88 = .ok (.aload_n 0, 1) := by decide +kernel
theorem d_Mo_pipe_89 : decode b_Mo_pipe 89 = .ok (.getfield 102, 3) := by decide +kernel
theorem d_Mo_pipe_92 : decode b_Mo_pipe 92 = .ok (.iload_n 2, 1) := by decide +kernel
theorem d_Mo_pipe_93 : decode b_Mo_pipe 93 = .ok (.iastore, 1) := by decide +kernel
theorem d_Mo_pipe_94 : decode b_Mo_pipe 94 = .ok (.aload_n 0, 1) := by decide +kernel
theorem d_Mo_pipe_95 : decode b_Mo_pipe 95 = .ok (.getfield 16, 3) := by decide +kernel
theorem d_Mo_pipe_98 : decode b_Mo_pipe 98 = .ok (.aload_n 0, 1) := by decide +kernel
theorem d_Mo_pipe_99 : decode b_Mo_pipe 99 = .ok (.getfield 102, 3) := by decide +kernel
theorem d_Mo_pipe_102 : decode b_Mo_pipe 102 = .ok (.iload_n 3, 1) := by decide +kernel
theorem d_Mo_pipe_103 : decode b_Mo_pipe 103 = .ok (.iastore, 1) := by decide +kernel
theorem d_Mo_pipe_104 : decode b_Mo_pipe 104 = .ok (.aload_n 0, 1) := by decide +kernel
theorem d_Mo_pipe_105 : decode b_Mo_pipe 105 = .ok (.getfield 42, 3) := by decide +kernel
theorem d_Mo_pipe_108 : decode b_Mo_pipe 108 = .ok (.aload_n 0, 1) := by decide +kernel
theorem d_Mo_pipe_109 : decode b_Mo_pipe 109 = .ok (.getfield 102, 3) := by decide +kernel
theorem d_Mo_pipe_112 : decode b_Mo_pipe 112 = .ok (.iconst (-1), 1) := by decide +kernel
theorem d_Mo_pipe_113 : decode b_Mo_pipe 113 = .ok (.iastore, 1) := by decide +kernel
theorem d_Mo_pipe_114 : decode b_Mo_pipe 114 = .ok (.aload_n 0, 1) := by decide +kernel
theorem d_Mo_pipe_115 : decode b_Mo_pipe 115 = .ok (.aload_n 0, 1) := by decide +kernel
theorem d_Mo_pipe_116 : decode b_Mo_pipe 116 = .ok (.getfield 102, 3) := by decide +kernel
theorem d_Mo_pipe_119 : decode b_Mo_pipe 119 = .ok (.invokevirtual 161, 3) := by decide +kernel
theorem d_Mo_pipe_122 : decode b_Mo_pipe 122 = .ok (.aload_n 0, 1) := by decide +kernel
theorem d_Mo_pipe_123 : decode b_Mo_pipe 123 = .ok (.dup, 1) := by decide +kernel
theorem d_Mo_pipe_124 : decode b_Mo_pipe 124 = .ok (.getfield 102, 3) := by decide +kernel
theorem d_Mo_pipe_127 : decode b_Mo_pipe 127 = .ok (.iconst 1, 1) := by decide +kernel
theorem d_Mo_pipe_128 : decode b_Mo_pipe 128 = .ok (.iadd, 1) := by decide +kernel
theorem d_Mo_pipe_129 : decode b_Mo_pipe 129 = .ok (.putfield 102, 3) := by decide +kernel
theorem d_Mo_pipe_132 : decode b_Mo_pipe 132 = .ok (.aload_n 0, 1) := by decide +kernel
theorem d_Mo_pipe_133 : decode b_Mo_pipe 133 = .ok (.getfield 102, 3) := by decide +kernel
theorem d_Mo_pipe_136 : decode b_Mo_pipe 136 = .ok (.iconst 1, 1) := by decide +kernel
theorem d_Mo_pipe_137 : decode b_Mo_pipe 137 = .ok (.isub, 1) := by decide +kernel
theorem d_Mo_pipe_138 : decode b_Mo_pipe 138 = .ok (.ireturn, 1) := by decide +kernel
theorem d_Mo_tap_0 : decode b_Mo_tap 0 = .ok (.aload_n 0, 1) := by decide +kernel
theorem d_Mo_tap_1 : decode b_Mo_tap 1 = .ok (.aload_n 0, 1) := by decide +kernel
theorem d_Mo_tap_2 : decode b_Mo_tap 2 = .ok (.iload_n 1, 1) := by decide +kernel
theorem d_Mo_tap_3 : decode b_Mo_tap 3 = .ok (.invokevirtual 164, 3) := by decide +kernel
theorem d_Mo_tap_6 : decode b_Mo_tap 6 = .ok (.ifCond .eq 7, 3) := by decide +kernel
theorem d_Mo_tap_9 : decode b_Mo_tap 9 = .ok (.iconst 0, 1) := by decide +kernel
theorem d_Mo_tap_10 : decode b_Mo_tap 10 = .ok (.goto 4, 3) := by decide +kernel
theorem d_Mo_tap_13 : decode b_Mo_tap 13 = .ok (.iconst 1, 1) := by decide +kernel
theorem d_Mo_tap_14 : decode b_Mo_tap 14 = .ok (.putfield 99, 3) := by decide +kernel
theorem d_Mo_tap_17 : decode b_Mo_tap 17 = .ok (.aload_n 0, 1) := by decide +kernel
theorem d_Mo_tap_18 : decode b_Mo_tap 18 = .ok (.getfield 99, 3) := by decide +kernel
theorem d_Mo_tap_21 : decode b_Mo_tap 21 = .ok (.ifCond .le 5, 3) := by decide +kernel
theorem d_Mo_tap_24 : decode b_Mo_tap 24 = .ok (.iconst 0, 1) := by decide +kernel
theorem d_Mo_tap_25 : decode b_Mo_tap 25 = .ok (.ireturn, 1) := by decide +kernel
theorem d_Mo_tap_26 : decode b_Mo_tap 26 = .ok (.aload_n 0, 1) := by decide +kernel
theorem d_Mo_tap_27 : decode b_Mo_tap 27 = .ok (.getfield 19, 3) := by decide +kernel
theorem d_Mo_tap_30 : decode b_Mo_tap 30 = .ok (.iload_n 1, 1) := by decide +kernel
theorem d_Mo_tap_31 : decode b_Mo_tap 31 = .ok (.baload, 1) := by decide +kernel
theorem d_Mo_tap_32 : decode b_Mo_tap 32 = .ok (.ifCond .ne 7, 3) := by decide +kernel
theorem d_Mo_tap_35 : decode b_Mo_tap 35 = .ok (.iconst 1, 1) := by decide +kernel
theorem d_Mo_tap_36 : decode b_Mo_tap 36 = .ok (.goto 4, 3) := by decide +kernel
theorem d_Mo_tap_39 : decode b_Mo_tap 39 = .ok (.iconst 0, 1) := by decide +kernel
theorem d_Mo_tap_40 : decode b_Mo_tap 40 = .ok (.istore_n 2, 1) := by decide +kernel
theorem d_Mo_tap_41 : decode b_Mo_tap 41 = .ok (.aload_n 0, 1) := by decide +kernel
theorem d_Mo_tap_42 : decode b_Mo_tap 42 = .ok (.getfield 19, 3) := by decide +kernel
theorem d_Mo_tap_45 : decode b_Mo_tap 45 = .ok (.iload_n 1, 1) := by decide +kernel
theorem d_Mo_tap_46 : decode b_Mo_tap 46 = .ok (.iconst 1, 1) := by decide +kernel
theorem d_Mo_tap_47 : decode b_Mo_tap 47 = .ok (.bastore, 1) := by decide +kernel
theorem d_Mo_tap_48 : decode b_Mo_tap 48 = .ok (.iload_n 2, 1) := by decide +kernel
theorem d_Mo_tap_49 : decode b_Mo_tap 49 = .ok (.ireturn, 1) := by decide +kernel
theorem d_Mo_set_0 : decode b_Mo_set 0 = .ok (.aload_n 0, 1) := by decide +kernel
theorem d_Mo_set_1 : decode b_Mo_set 1 = .ok (.iload_n 1, 1) := by decide +kernel
theorem d_Mo_set_2 : decode b_Mo_set 2 = .ok (.iconst 0, 1) := by decide +kernel
theorem d_Mo_set_3 : decode b_Mo_set 3 = .ok (.iconst 1, 1) := by decide +kernel
theorem d_Mo_set_4 : decode b_Mo_set 4 = .ok (.invokestatic 105, 3) := by decide +kernel
theorem d_Mo_set_7 : decode b_Mo_set 7 = .ok (.ifCond .eq 18, 3) := by decide +kernel
theorem d_Mo_set_10 : decode b_Mo_set 10 = .ok (.iload_n 2, 1) := by decide +kernel
theorem d_Mo_set_11 : decode b_Mo_set 11 = .ok (.iconst 0, 1) := by decide +kernel
theorem d_Mo_set_12 : decode b_Mo_set 12 = .ok (.sipush 10000, 3) := by decide +kernel
theorem d_Mo_set_15 : decode b_Mo_set 15 = .ok (.invokestatic 105, 3) := by decide +kernel
theorem d_Mo_set_18 : decode b_Mo_set 18 = .ok (.ifCond .eq 7, 3) := by decide +kernel
theorem d_Mo_set_21 : decode b_Mo_set 21 = .ok (.iconst 0, 1) := by decide +kernel
theorem d_Mo_set_22 : decode b_Mo_set 22 = .ok (.goto 4, 3) := by decide +kernel
theorem d_Mo_set_25 : decode b_Mo_set 25 = .ok (.iconst 1, 1) := by decide +kernel
theorem d_Mo_set_26 : decode b_Mo_set 26 = .ok (.putfield 99, 3) := by decide +kernel
theorem d_Mo_set_29 : decode b_Mo_set 29 = .ok (.aload_n 0, 1) := by decide +kernel
theorem d_Mo_set_30 : decode b_Mo_set 30 = .ok (.getfield 99, 3) := by decide +kernel
theorem d_Mo_set_33 : decode b_Mo_set 33 = .ok (.ifCond .le 5, 3) := by decide +kernel
theorem d_Mo_set_36 : decode b_Mo_set 36 = .ok (.iconst 0, 1) := by decide +kernel
theorem d_Mo_set_37 : decode b_Mo_set 37 = .ok (.ireturn, 1) := by decide +kernel
theorem d_Mo_set_38 : decode b_Mo_set 38 = .ok (.iload_n 1, 1) := by decide +kernel
theorem d_Mo_set_39 : decode b_Mo_set 39 = .ok (.ifCond .ne 10, 3) := by decide +kernel
theorem d_Mo_set_42 : decode b_Mo_set 42 = .ok (.aload_n 0, 1) := by decide +kernel
theorem d_Mo_set_43 : decode b_Mo_set 43 = .ok (.getfield 26, 3) := by decide +kernel
theorem d_Mo_set_46 : decode b_Mo_set 46 = .ok (.goto 7, 3) := by decide +kernel
theorem d_Mo_set_49 : decode b_Mo_set 49 = .ok (.aload_n 0, 1) := by decide +kernel
theorem d_Mo_set_50 : decode b_Mo_set 50 = .ok (.getfield 30, 3) := by decide +kernel
theorem d_Mo_set_53 : decode b_Mo_set 53 = .ok (.istore_n 3, 1) := by decide +kernel
theorem d_Mo_set_54 : decode b_Mo_set 54 = .ok (.aload_n 0, 1) := by decide +kernel
theorem d_Mo_set_55 : decode b_Mo_set 55 = .ok (.iload_n 1, 1) := by decide +kernel
theorem d_Mo_set_56 : decode b_Mo_set 56 = .ok (.ifCond .ne 7, 3) := by decide +kernel
theorem d_Mo_set_59 : decode b_Mo_set 59 = .ok (.iload_n 2, 1) := by decide +kernel
theorem d_Mo_set_60 : decode b_Mo_set 60 = .ok (.goto 7, 3) := by decide +kernel
theorem d_Mo_set_63 : decode b_Mo_set 63 = .ok (.aload_n 0, 1) := by decide +kernel
theorem d_Mo_set_64 : decode b_Mo_set 64 = .ok (.getfield 26, 3) := by decide +kernel
theorem d_Mo_set_67 : decode b_Mo_set 67 = .ok (.putfield 26, 3) := by decide +kernel
theorem d_Mo_set_70 : decode b_Mo_set 70 = .ok (.aload_n 0, 1) := by decide +kernel
theorem d_Mo_set_71 : decode b_Mo_set 71 = .ok (.iload_n 1, 1) := by decide +kernel
theorem d_Mo_set_72 : decode b_Mo_set 72 = .ok (.iconst 1, 1) := by decide +kernel
theorem d_Mo_set_73 : decode b_Mo_set 73 = .ok (.if_icmp .ne 7, 3) := by decide +kernel
theorem d_Mo_set_76 : decode b_Mo_set 76 = .ok (.iload_n 2, 1) := by decide +kernel
theorem d_Mo_set_77 : decode b_Mo_set 77 = .ok (.goto 7, 3) := by decide +kernel
theorem d_Mo_set_80 : decode b_Mo_set 80 = .ok (.aload_n 0, 1) := by decide +kernel
theorem d_Mo_set_81 : decode b_Mo_set 81 = .ok (.getfield 30, 3) := by decide +kernel
theorem d_Mo_set_84 : decode b_Mo_set 84 = .ok (.putfield 30, 3) := by decide +kernel
theorem d_Mo_set_87 : decode b_Mo_set 87 = .ok (.iconst 0, 1) := by decide +kernel
theorem d_Mo_set_88 : decode b_Mo_set 88 = .ok (.istore 4, 2) := by decide +kernel
theorem d_Mo_set_90 : decode b_Mo_set 90 = .ok (.iload 4, 2) := by decide +kernel
theorem d_Mo_set_92 : decode b_Mo_set 92 = .ok (.aload_n 0, 1) := by decide +kernel
theorem d_Mo_set_93 : decode b_Mo_set 93 = .ok (.getfield 102, 3) := by decide +kernel
theorem d_Mo_set_96 : decode b_Mo_set 96 = .ok (.if_icmp .ge 27, 3) := by decide +kernel
theorem d_Mo_set_99 : decode b_Mo_set 99 = .ok (.iload_n 1, 1) := by decide +kernel
theorem d_Mo_set_100 : decode b_Mo_set 100 = .ok (.iconst 1, 1) := by decide +kernel
theorem d_Mo_set_101 : decode b_Mo_set 101 = .ok (.if_icmp .ne 22, 3) := by decide +kernel
theorem d_Mo_set_104 : decode b_Mo_set 104 = .ok (.aload_n 0, 1) := by decide +kernel
theorem d_Mo_set_105 : decode b_Mo_set 105 = .ok (.getfield 133, 3) := by decide +kernel
theorem d_Mo_set_108 : decode b_Mo_set 108 = .ok (.ifCond .ne 15, 3) := by decide +kernel
theorem d_Mo_set_111 : decode b_Mo_set 111 = .ok (.aload_n 0, 1) := by decide +kernel
theorem d_Mo_set_112 : decode b_Mo_set 112 = .ok (.iload 4, 2) := by decide +kernel
theorem d_Mo_set_114 : decode b_Mo_set 114 = .ok (.invokevirtual 161, 3) := by decide +kernel
theorem d_Mo_set_117 : decode b_Mo_set 117 = .ok (.iinc 4 1, 3) := by decide +kernel
theorem d_Mo_set_120 : decode b_Mo_set 120 = .ok (.goto (-30), 3) := by decide +kernel
theorem d_Mo_set_123 : decode b_Mo_set 123 = .ok (.iload_n 3, 1) := by decide +kernel
theorem d_Mo_set_124 : decode b_Mo_set 124 = .ok (.ireturn, 1) := by decide +kernel
theorem d_Mo_loop_0 : decode b_Mo_loop 0 = .ok (.aload_n 0, 1) := by decide +kernel
theorem d_Mo_loop_1 : decode b_Mo_loop 1 = .ok (.aload_n 0, 1) := by decide +kernel
theorem d_Mo_loop_2 : decode b_Mo_loop 2 = .ok (.iload_n 1, 1) := by decide +kernel
theorem d_Mo_loop_3 : decode b_Mo_loop 3 = .ok (.invokevirtual 164, 3) := by decide +kernel
theorem d_Mo_loop_6 : decode b_Mo_loop 6 = .ok (.ifCond .eq 18, 3) := by decide +kernel
theorem d_Mo_loop_9 : decode b_Mo_loop 9 = .ok (.iload_n 2, 1) := by decide +kernel
theorem d_Mo_loop_10 : decode b_Mo_loop 10 = .ok (.iconst 0, 1) := by decide +kernel
theorem d_Mo_loop_11 : decode b_Mo_loop 11 = .ok (.sipush 500, 3) := by decide +kernel
theorem d_Mo_loop_14 : decode b_Mo_loop 14 = .ok (.invokestatic 105, 3) := by decide +kernel
theorem d_Mo_loop_17 : decode b_Mo_loop 17 = .ok (.ifCond .eq 7, 3) := by decide +kernel
theorem d_Mo_loop_20 : decode b_Mo_loop 20 = .ok (.iconst 0, 1) := by decide +kernel
theorem d_Mo_loop_21 : decode b_Mo_loop 21 = .ok (.goto 4, 3) := by decide +kernel
theorem d_Mo_loop_24 : decode b_Mo_loop 24 = .ok (.iconst 1, 1) := by decide +kernel
theorem d_Mo_loop_25 : decode b_Mo_loop 25 = .ok (.putfield 99, 3) := by decide +kernel
theorem d_Mo_loop_28 : decode b_Mo_loop 28 = .ok (.aload_n 0, 1) := by decide +kernel
theorem d_Mo_loop_29 : decode b_Mo_loop 29 = .ok (.getfield 99, 3) := by decide +kernel
theorem d_Mo_loop_32 : decode b_Mo_loop 32 = .ok (.ifCond .le 5, 3) := by decide +kernel
theorem d_Mo_loop_35 : decode b_Mo_loop 35 = .ok (.iconst 0, 1) := by decide +kernel
theorem d_Mo_loop_36 : decode b_Mo_loop 36 = .ok (.ireturn, 1) := by decide +kernel
theorem d_Mo_loop_37 : decode b_Mo_loop 37 = .ok (.aload_n 0, 1) := by decide +kernel
theorem d_Mo_loop_38 : decode b_Mo_loop 38 = .ok (.getfield 23, 3) := by decide +kernel
theorem d_Mo_loop_41 : decode b_Mo_loop 41 = .ok (.iload_n 1, 1) := by decide +kernel
theorem d_Mo_loop_42 : decode b_Mo_loop 42 = .ok (.iaload, 1) := by decide +kernel
theorem d_Mo_loop_43 : decode b_Mo_loop 43 = .ok (.istore_n 3, 1) := by decide +kernel
theorem d_Mo_loop_44 : decode b_Mo_loop 44 = .ok (.aload_n 0, 1) := by decide +kernel
theorem d_Mo_loop_45 : decode b_Mo_loop 45 = .ok (.getfield 23, 3) := by decide +kernel
theorem d_Mo_loop_48 : decode b_Mo_loop 48 = .ok (.iload_n 1, 1) := by decide +kernel
theorem d_Mo_loop_49 : decode b_Mo_loop 49 = .ok (.iload_n 2, 1) := by decide +kernel
theorem d_Mo_loop_50 : decode b_Mo_loop 50 = .ok (.iastore, 1) := by decide +kernel
theorem d_Mo_loop_51 : decode b_Mo_loop 51 = .ok (.iload_n 3, 1) := by decide +kernel
theorem d_Mo_loop_52 : decode b_Mo_loop 52 = .ok (.ireturn, 1) := by decide +kernel
theorem d_Mo_draw_0 : decode b_Mo_draw 0 = .ok (.aload_n 0, 1) := by decide +kernel
theorem d_Mo_draw_1 : decode b_Mo_draw 1 = .ok (.aload_n 0, 1) := by decide +kernel
theorem d_Mo_draw_2 : decode b_Mo_draw 2 = .ok (.iload_n 1, 1) := by decide +kernel
theorem d_Mo_draw_3 : decode b_Mo_draw 3 = .ok (.invokevirtual 164, 3) := by decide +kernel
theorem d_Mo_draw_6 : decode b_Mo_draw 6 = .ok (.ifCond .eq 25, 3) := by decide +kernel
theorem d_Mo_draw_9 : decode b_Mo_draw 9 = .ok (.iload_n 2, 1) := by decide +kernel
theorem d_Mo_draw_10 : decode b_Mo_draw 10 = .ok (.iconst 0, 1) := by decide +kernel
theorem d_Mo_draw_11 : decode b_Mo_draw 11 = .ok (.sipush 2999, 3) := by decide +kernel
theorem d_Mo_draw_14 : decode b_Mo_draw 14 = .ok (.invokestatic 105, 3) := by decide +kernel
theorem d_Mo_draw_17 : decode b_Mo_draw 17 = .ok (.ifCond .eq 14, 3) := by decide +kernel
theorem d_Mo_draw_20 : decode b_Mo_draw 20 = .ok (.iload_n 3, 1) := by decide +kernel
theorem d_Mo_draw_21 : decode b_Mo_draw 21 = .ok (.iconst 1, 1) := by decide +kernel
theorem d_Mo_draw_22 : decode b_Mo_draw 22 = .ok (.sipush 1000, 3) := by decide +kernel
theorem d_Mo_draw_25 : decode b_Mo_draw 25 = .ok (.invokestatic 105, 3) := by decide +kernel
theorem d_Mo_draw_28 : decode b_Mo_draw 28 = .ok (.ifCond .ne 7, 3) := by decide +kernel
theorem d_Mo_draw_31 : decode b_Mo_draw 31 = .ok (.iconst 1, 1) := by decide +kernel
theorem d_Mo_draw_32 : decode b_Mo_draw 32 = .ok (.goto 34, 3) := by decide +kernel
theorem d_Mo_draw_35 : decode b_Mo_draw 35 = .ok (.aload_n 0, 1) := by decide +kernel
theorem d_Mo_draw_36 : decode b_Mo_draw 36 = .ok (.getfield 19, 3) := by decide +kernel
theorem d_Mo_draw_39 : decode b_Mo_draw 39 = .ok (.iload_n 1, 1) := by decide +kernel
theorem d_Mo_draw_40 : decode b_Mo_draw 40 = .ok (.baload, 1) := by decide +kernel
theorem d_Mo_draw_41 : decode b_Mo_draw 41 = .ok (.ifCond .eq 20, 3) := by decide +kernel
theorem d_Mo_draw_44 : decode b_Mo_draw 44 = .ok (.iload_n 2, 1) := by decide +kernel
theorem d_Mo_draw_45 : decode b_Mo_draw 45 = .ok (.aload_n 0, 1) := by decide +kernel
theorem d_Mo_draw_46 : decode b_Mo_draw 46 = .ok (.getfield 133, 3) := by decide +kernel
theorem d_Mo_draw_49 : decode b_Mo_draw 49 = .ok (.if_icmp .lt 12, 3) := by decide +kernel
theorem d_Mo_draw_52 : decode b_Mo_draw 52 = .ok (.aload_n 0, 1) := by decide +kernel
theorem d_Mo_draw_53 : decode b_Mo_draw 53 = .ok (.getfield 168, 3) := by decide +kernel
theorem d_Mo_draw_56 : decode b_Mo_draw 56 = .ok (.bipush 60, 2) := by decide +kernel
theorem d_Mo_draw_58 : decode b_Mo_draw 58 = .ok (.if_icmp .ne 7, 3) := by decide +kernel
theorem d_Mo_draw_61 : decode b_Mo_draw 61 = .ok (.iconst 2, 1) := by decide +kernel
theorem d_Mo_draw_62 : decode b_Mo_draw 62 = .ok (.goto 4, 3) := by decide +kernel
theorem d_Mo_draw_65 : decode b_Mo_draw 65 = .ok (.iconst 0, 1) := by decide +kernel
theorem d_Mo_draw_66 : decode b_Mo_draw 66 = .ok (.putfield 99, 3) := by decide +kernel
theorem d_Mo_draw_69 : decode b_Mo_draw 69 = .ok (.aload_n 0, 1) := by decide +kernel
theorem d_Mo_draw_70 : decode b_Mo_draw 70 = .ok (.getfield 99, 3) := by decide +kernel
theorem d_Mo_draw_73 : decode b_Mo_draw 73 = .ok (.ifCond .le 5, 3) := by decide +kernel
theorem d_Mo_draw_76 : decode b_Mo_draw 76 = .ok (.iconst 0, 1) := by decide +kernel
theorem d_Mo_draw_77 : decode b_Mo_draw 77 = .ok (.ireturn, 1) := by decide +kernel
theorem d_Mo_draw_78 : decode b_Mo_draw 78 = .ok (.aload_n 0, 1) := by decide +kernel
theorem d_Mo_draw_79 : decode b_Mo_draw 79 = .ok (.getfield 48, 3) := by decide +kernel
theorem d_Mo_draw_82 : decode b_Mo_draw 82 = .ok (.aload_n 0, 1) := by decide +kernel
theorem d_Mo_draw_83 : decode b_Mo_draw 83 = .ok (.getfield 168, 3) := by decide +kernel
theorem d_Mo_draw_86 : decode b_Mo_draw 86 = .ok (.iload_n 1, 1) := by decide +kernel
theorem d_Mo_draw_87 : decode b_Mo_draw 87 = .ok (.iastore, 1) := by decide +kernel
theorem d_Mo_draw_88 : decode b_Mo_draw 88 = .ok (.aload_n 0, 1) := by decide +kernel
theorem d_Mo_draw_89 : decode b_Mo_draw 89 = .ok (.getfield 51, 3) := by decide +kernel
theorem d_Mo_draw_92 : decode b_Mo_draw 92 = .ok (.aload_n 0, 1) := by decide +kernel
theorem d_Mo_draw_93 : decode b_Mo_draw 93 = .ok (.getfield 168, 3) := by decide +kernel
theorem d_Mo_draw_96 : decode b_Mo_draw 96 = .ok (.iload_n 2, 1) := by decide +kernel
theorem d_Mo_draw_97 : decode b_Mo_draw 97 = .ok (.iastore, 1) := by decide +kernel
theorem d_Mo_draw_98 : decode b_Mo_draw 98 = .ok (.aload_n 0, 1) := by decide +kernel
theorem d_Mo_draw_99 : decode b_Mo_draw 99 = .ok (.getfield 54, 3) := by decide +kernel
theorem d_Mo_draw_102 : decode b_Mo_draw 102 = .ok (.aload_n 0, 1) := by decide +kernel
theorem d_Mo_draw_103 : decode b_Mo_draw 103 = .ok (.getfield 168, 3) := by decide +kernel
theorem d_Mo_draw_106 : decode b_Mo_draw 106 = .ok (.iload_n 3, 1) := by decide +kernel
theorem d_Mo_draw_107 : decode b_Mo_draw 107 = .ok (.iastore, 1) := by decide +kernel
theorem d_Mo_draw_108 : decode b_Mo_draw 108 = .ok (.aload_n 0, 1) := by decide +kernel
theorem d_Mo_draw_109 : decode b_Mo_draw 109 = .ok (.dup, 1) := by decide +kernel
theorem d_Mo_draw_110 : decode b_Mo_draw 110 = .ok (.getfield 168, 3) := by decide +kernel
theorem d_Mo_draw_113 : decode b_Mo_draw 113 = .ok (.iconst 1, 1) := by decide +kernel
theorem d_Mo_draw_114 : decode b_Mo_draw 114 = .ok (.iadd, 1) := by decide +kernel
theorem d_Mo_draw_115 : decode b_Mo_draw 115 = .ok (.putfield 168, 3) := by decide +kernel
theorem d_Mo_draw_118 : decode b_Mo_draw 118 = .ok (.aload_n 0, 1) := by decide +kernel
theorem d_Mo_draw_119 : decode b_Mo_draw 119 = .ok (.getfield 168, 3) := by decide +kernel
theorem d_Mo_draw_122 : decode b_Mo_draw 122 = .ok (.iconst 1, 1) := by decide +kernel
theorem d_Mo_draw_123 : decode b_Mo_draw 123 = .ok (.isub, 1) := by decide +kernel
theorem d_Mo_draw_124 : decode b_Mo_draw 124 = .ok (.ireturn, 1) := by decide +kernel
theorem d_Mo_run_0 : decode b_Mo_run 0 = .ok (.aload_n 0, 1) := by decide +kernel
theorem d_Mo_run_1 : decode b_Mo_run 1 = .ok (.iload_n 1, 1) := by decide +kernel
theorem d_Mo_run_2 : decode b_Mo_run 2 = .ok (.iconst 1, 1) := by decide +kernel
theorem d_Mo_run_3 : decode b_Mo_run 3 = .ok (.bipush 100, 2) := by decide +kernel
theorem d_Mo_run_5 : decode b_Mo_run 5 = .ok (.invokestatic 105, 3) := by decide +kernel
theorem d_Mo_run_8 : decode b_Mo_run 8 = .ok (.ifCond .ne 7, 3) := by decide +kernel
theorem d_Mo_run_11 : decode b_Mo_run 11 = .ok (.iconst 1, 1) := by decide +kernel
theorem d_Mo_run_12 : decode b_Mo_run 12 = .ok (.goto 20, 3) := by decide +kernel
theorem d_Mo_run_15 : decode b_Mo_run 15 = .ok (.aload_n 0, 1) := by decide +kernel
theorem d_Mo_run_16 : decode b_Mo_run 16 = .ok (.getfield 133, 3) := by decide +kernel
theorem d_Mo_run_19 : decode b_Mo_run 19 = .ok (.iload_n 1, 1) := by decide +kernel
theorem d_Mo_run_20 : decode b_Mo_run 20 = .ok (.iadd, 1) := by decide +kernel
theorem d_Mo_run_21 : decode b_Mo_run 21 = .ok (.sipush 3000, 3) := by decide +kernel
theorem d_Mo_run_24 : decode b_Mo_run 24 = .ok (.if_icmp .le 7, 3) := by decide +kernel
theorem d_Mo_run_27 : decode b_Mo_run 27 = .ok (.iconst 2, 1) := by decide +kernel
theorem d_Mo_run_28 : decode b_Mo_run 28 = .ok (.goto 4, 3) := by decide +kernel
theorem d_Mo_run_31 : decode b_Mo_run 31 = .ok (.iconst 0, 1) := by decide +kernel
theorem d_Mo_run_32 : decode b_Mo_run 32 = .ok (.putfield 99, 3) := by decide +kernel
theorem d_Mo_run_35 : decode b_Mo_run 35 = .ok (.aload_n 0, 1) := by decide +kernel
theorem d_Mo_run_36 : decode b_Mo_run 36 = .ok (.getfield 99, 3) := by decide +kernel
theorem d_Mo_run_39 : decode b_Mo_run 39 = .ok (.ifCond .le 5, 3) := by decide +kernel
theorem d_Mo_run_42 : decode b_Mo_run 42 = .ok (.iconst 0, 1) := by decide +kernel
theorem d_Mo_run_43 : decode b_Mo_run 43 = .ok (.ireturn, 1) := by decide +kernel
theorem d_Mo_run_44 : decode b_Mo_run 44 = .ok (.iconst 0, 1) := by decide +kernel
theorem d_Mo_run_45 : decode b_Mo_run 45 = .ok (.istore_n 2, 1) := by decide +kernel
theorem d_Mo_run_46 : decode b_Mo_run 46 = .ok (.iload_n 2, 1) := by decide +kernel
theorem d_Mo_run_47 : decode b_Mo_run 47 = .ok (.iload_n 1, 1) := by decide +kernel
theorem d_Mo_run_48 : decode b_Mo_run 48 = .ok (.if_icmp .ge 107, 3) := by decide +kernel
theorem d_Mo_run_51 : decode b_Mo_run 51 = .ok (.iconst 0, 1) := by decide +kernel
theorem d_Mo_run_52 : decode b_Mo_run 52 = .ok (.istore_n 3, 1) := by decide +kernel
theorem d_Mo_run_53 : decode b_Mo_run 53 = .ok (.iload_n 3, 1) := by decide +kernel
theorem d_Mo_run_54 : decode b_Mo_run 54 = .ok (.aload_n 0, 1) := by decide +kernel
theorem d_Mo_run_55 : decode b_Mo_run 55 = .ok (.getfield 168, 3) := by decide +kernel
theorem d_Mo_run_58 : decode b_Mo_run 58 = .ok (.if_icmp .ge 77, 3) := by decide +kernel
theorem d_Mo_run_61 : decode b_Mo_run 61 = .ok (.aload_n 0, 1) := by decide +kernel
theorem d_Mo_run_62 : decode b_Mo_run 62 = .ok (.getfield 51, 3) := by decide +kernel
theorem d_Mo_run_65 : decode b_Mo_run 65 = .ok (.iload_n 3, 1) := by decide +kernel
theorem d_Mo_run_66 : decode b_Mo_run 66 = .ok (.iaload, 1) := by decide +kernel
theorem d_Mo_run_67 : decode b_Mo_run 67 = .ok (.aload_n 0, 1) := by decide +kernel
theorem d_Mo_run_68 : decode b_Mo_run 68 = .ok (.getfield 133, 3) := by decide +kernel
theorem d_Mo_run_71 : decode b_Mo_run 71 = .ok (.if_icmp .ne 58, 3) := by decide +kernel
theorem d_Mo_run_74 : decode b_Mo_run 74 = .ok (.aload_n 0, 1) := by decide +kernel
theorem d_Mo_run_75 : decode b_Mo_run 75 = .ok (.aload_n 0, 1) := by decide +kernel
theorem d_Mo_run_76 : decode b_Mo_run 76 = .ok (.getfield 48, 3) := by decide +kernel
theorem d_Mo_run_79 : decode b_Mo_run 79 = .ok (.iload_n 3, 1) := by decide +kernel
theorem d_Mo_run_80 : decode b_Mo_run 80 = .ok (.iaload, 1) := by decide +kernel
theorem d_Mo_run_81 : decode b_Mo_run 81 = .ok (.aload_n 0, 1) := by decide +kernel
theorem d_Mo_run_82 : decode b_Mo_run 82 = .ok (.getfield 54, 3) := by decide +kernel
theorem d_Mo_run_85 : decode b_Mo_run 85 = .ok (.iload_n 3, 1) := by decide +kernel
theorem d_Mo_run_86 : decode b_Mo_run 86 = .ok (.iaload, 1) := by decide +kernel
theorem d_Mo_run_87 : decode b_Mo_run 87 = .ok (.invokevirtual 154, 3) := by decide +kernel
theorem d_Mo_run_90 : decode b_Mo_run 90 = .ok (.aload_n 0, 1) := by decide +kernel
theorem d_Mo_run_91 : decode b_Mo_run 91 = .ok (.getfield 57, 3) := by decide +kernel
theorem d_Mo_run_94 : decode b_Mo_run 94 = .ok (.iload_n 3, 1) := by decide +kernel
theorem d_Mo_run_95 : decode b_Mo_run 95 = .ok (.aload_n 0, 1) := by decide +kernel
theorem d_Mo_run_96 : decode b_Mo_run 96 = .ok (.getfield 142, 3) := by decide +kernel
theorem d_Mo_run_99 : decode b_Mo_run 99 = .ok (.aload_n 0, 1) := by decide +kernel
theorem d_Mo_run_100 : decode b_Mo_run 100 = .ok (.getfield 54, 3) := by decide +kernel
theorem d_Mo_run_103 : decode b_Mo_run 103 = .ok (.iload_n 3, 1) := by decide +kernel
theorem d_Mo_run_104 : decode b_Mo_run 104 = .ok (.iaload, 1) := by decide +kernel
theorem d_Mo_run_105 : decode b_Mo_run 105 = .ok (.i2l, 1) := by decide +kernel
theorem d_Mo_run_106 : decode b_Mo_run 106 = .ok (.ldiv, 1) := by decide +kernel
theorem d_Mo_run_107 : decode b_Mo_run 107 = .ok (.l2i, 1) := by decide +kernel
theorem d_Mo_run_108 : decode b_Mo_run 108 = .ok (.iastore, 1) := by decide +kernel
theorem d_Mo_run_109 : decode b_Mo_run 109 = .ok (.aload_n 0, 1) := by decide +kernel
theorem d_Mo_run_110 : decode b_Mo_run 110 = .ok (.getfield 60, 3) := by decide +kernel
theorem d_Mo_run_113 : decode b_Mo_run 113 = .ok (.iload_n 3, 1) := by decide +kernel
theorem d_Mo_run_114 : decode b_Mo_run 114 = .ok (.aload_n 0, 1) := by decide +kernel
theorem d_Mo_run_115 : decode b_Mo_run 115 = .ok (.getfield 145, 3) := by decide +kernel
theorem d_Mo_run_118 : decode b_Mo_run 118 = .ok (.iastore, 1) := by decide +kernel
theorem d_Mo_run_119 : decode b_Mo_run 119 = .ok (.aload_n 0, 1) := by decide +kernel
theorem d_Mo_run_120 : decode b_Mo_run 120 = .ok (.getfield 63, 3) := by decide +kernel
theorem d_Mo_run_123 : decode b_Mo_run 123 = .ok (.iload_n 3, 1) := by decide +kernel
theorem d_Mo_run_124 : decode b_Mo_run 124 = .ok (.aload_n 0, 1) := by decide +kernel
theorem d_Mo_run_125 : decode b_Mo_run 125 = .ok (.getfield 148, 3) := by decide +kernel
theorem d_Mo_run_128 : decode b_Mo_run 128 = .ok (.iastore, 1) := by decide +kernel
theorem d_Mo_run_129 : decode b_Mo_run 129 = .ok (.iinc 3 1, 3) := by decide +kernel
theorem d_Mo_run_132 : decode b_Mo_run 132 = .ok (.goto (-79), 3) := by decide +kernel
theorem d_Mo_run_135 : decode b_Mo_run 135 = .ok (.aload_n 0, 1) := by decide +kernel
theorem d_Mo_run_136 : decode b_Mo_run 136 = .ok (.invokevirtual 171, 3) := by decide +kernel
theorem d_Mo_run_139 : decode b_Mo_run 139 = .ok (.aload_n 0, 1) := by decide +kernel
theorem d_Mo_run_140 : decode b_Mo_run 140 = .ok (.dup, 1) := by decide +kernel
theorem d_Mo_run_141 : decode b_Mo_run 141 = .ok (.getfield 133, 3) := by decide +kernel
theorem d_Mo_run_144 : decode b_Mo_run 144 = .ok (.iconst 1, 1) := by decide +kernel
theorem d_Mo_run_145 : decode b_Mo_run 145 = .ok (.iadd, 1) := by decide +kernel
theorem d_Mo_run_146 : decode b_Mo_run 146 = .ok (.putfield 133, 3) := by decide +kernel
theorem d_Mo_run_149 : decode b_Mo_run 149 = .ok (.iinc 2 1, 3) := by decide +kernel
theorem d_Mo_run_152 : decode b_Mo_run 152 = .ok (.goto (-106), 3) := by decide +kernel
theorem d_Mo_run_155 : decode b_Mo_run 155 = .ok (.aload_n 0, 1) := by decide +kernel
theorem d_Mo_run_156 : decode b_Mo_run 156 = .ok (.getfield 133, 3) := by decide +kernel
theorem d_Mo_run_159 : decode b_Mo_run 159 = .ok (.ireturn, 1) := by decide +kernel
theorem d_Mo_plug_0 : decode b_Mo_plug 0 = .ok (.aload_n 0, 1) := by decide +kernel
theorem d_Mo_plug_1 : decode b_Mo_plug 1 = .ok (.aload_n 0, 1) := by decide +kernel
theorem d_Mo_plug_2 : decode b_Mo_plug 2 = .ok (.iload_n 1, 1) := by decide +kernel
theorem d_Mo_plug_3 : decode b_Mo_plug 3 = .ok (.invokevirtual 164, 3) := by decide +kernel
theorem d_Mo_plug_6 : decode b_Mo_plug 6 = .ok (.ifCond .eq 20, 3) := by decide +kernel
theorem d_Mo_plug_9 : decode b_Mo_plug 9 = .ok (.iload_n 2, 1) := by decide +kernel
theorem d_Mo_plug_10 : decode b_Mo_plug 10 = .ok (.ifCond .lt 16, 3) := by decide +kernel
theorem d_Mo_plug_13 : decode b_Mo_plug 13 = .ok (.iload_n 3, 1) := by decide +kernel
theorem d_Mo_plug_14 : decode b_Mo_plug 14 = .ok (.iconst 0, 1) := by decide +kernel
theorem d_Mo_plug_15 : decode b_Mo_plug 15 = .ok (.iconst 1, 1) := by decide +kernel
theorem d_Mo_plug_16 : decode b_Mo_plug 16 = .ok (.invokestatic 105, 3) := by decide +kernel
theorem d_Mo_plug_19 : decode b_Mo_plug 19 = .ok (.ifCond .eq 7, 3) := by decide +kernel
theorem d_Mo_plug_22 : decode b_Mo_plug 22 = .ok (.iconst 0, 1) := by decide +kernel
theorem d_Mo_plug_23 : decode b_Mo_plug 23 = .ok (.goto 4, 3) := by decide +kernel
theorem d_Mo_plug_26 : decode b_Mo_plug 26 = .ok (.iconst 1, 1) := by decide +kernel
theorem d_Mo_plug_27 : decode b_Mo_plug 27 = .ok (.putfield 99, 3) := by decide +kernel
theorem d_Mo_plug_30 : decode b_Mo_plug 30 = .ok (.aload_n 0, 1) := by decide +kernel
theorem d_Mo_plug_31 : decode b_Mo_plug 31 = .ok (.getfield 99, 3) := by decide +kernel
theorem d_Mo_plug_34 : decode b_Mo_plug 34 = .ok (.ifCond .le 5, 3) := by decide +kernel
theorem d_Mo_plug_37 : decode b_Mo_plug 37 = .ok (.iconst 0, 1) := by decide +kernel
theorem d_Mo_plug_38 : decode b_Mo_plug 38 = .ok (.ireturn, 1) := by decide +kernel
theorem d_Mo_plug_39 : decode b_Mo_plug 39 = .ok (.iload_n 2, 1) := by decide +kernel
theorem d_Mo_plug_40 : decode b_Mo_plug 40 = .ok (.aload_n 0, 1) := by decide +kernel
theorem d_Mo_plug_41 : decode b_Mo_plug 41 = .ok (.getfield 33, 3) := by decide +kernel
theorem d_Mo_plug_44 : decode b_Mo_plug 44 = .ok (.iload_n 1, 1) := by decide +kernel
theorem d_Mo_plug_45 : decode b_Mo_plug 45 = .ok (.iaload, 1) := by decide +kernel
theorem d_Mo_plug_46 : decode b_Mo_plug 46 = .ok (.if_icmp .lt 7, 3) := by decide +kernel
theorem d_Mo_plug_49 : decode b_Mo_plug 49 = .ok (.iconst (-1), 1) := by decide +kernel
theorem d_Mo_plug_50 : decode b_Mo_plug 50 = .ok (.goto 32, 3) := by decide +kernel
theorem d_Mo_plug_53 : decode b_Mo_plug 53 = .ok (.iload_n 3, 1) := by decide +kernel
theorem d_Mo_plug_54 : decode b_Mo_plug 54 = .ok (.ifCond .ne 17, 3) := by decide +kernel
theorem d_Mo_plug_57 : decode b_Mo_plug 57 = .ok (.aload_n 0, 1) := by decide +kernel
theorem d_Mo_plug_58 : decode b_Mo_plug 58 = .ok (.getfield 36, 3) := by decide +kernel
theorem d_Mo_plug_61 : decode b_Mo_plug 61 = .ok (.bipush 12, 2) := by decide +kernel
theorem d_Mo_plug_63 : decode b_Mo_plug 63 = .ok (.iload_n 1, 1) := by decide +kernel
theorem d_Mo_plug_64 : decode b_Mo_plug 64 = .ok (.imul, 1) := by decide +kernel
theorem d_Mo_plug_65 : decode b_Mo_plug 65 = .ok (.iload_n 2, 1) := by decide +kernel
theorem d_Mo_plug_66 : decode b_Mo_plug 66 = .ok (.iadd, 1) := by decide +kernel
theorem d_Mo_plug_67 : decode b_Mo_plug 67 = .ok (.iaload, 1) := by decide +kernel
theorem d_Mo_plug_68 : decode b_Mo_plug 68 = .ok (.goto 14, 3) := by decide +kernel
theorem d_Mo_plug_71 : decode b_Mo_plug 71 = .ok (.aload_n 0, 1) := by decide +kernel
theorem d_Mo_plug_72 : decode b_Mo_plug 72 = .ok (.getfield 39, 3) := by decide +kernel
theorem d_Mo_plug_75 : decode b_Mo_plug 75 = .ok (.bipush 12, 2) := by decide +kernel
theorem d_Mo_plug_77 : decode b_Mo_plug 77 = .ok (.iload_n 1, 1) := by decide +kernel
theorem d_Mo_plug_78 : decode b_Mo_plug 78 = .ok (.imul, 1) := by decide +kernel
theorem d_Mo_plug_79 : decode b_Mo_plug 79 = .ok (.iload_n 2, 1) := by decide +kernel
theorem d_Mo_plug_80 : decode b_Mo_plug 80 = .ok (.iadd, 1) := by decide +kernel
theorem d_Mo_plug_81 : decode b_Mo_plug 81 = .ok (.iaload, 1) := by decide +kernel
theorem d_Mo_plug_82 : decode b_Mo_plug 82 = .ok (.ireturn, 1) := by decide +kernel
theorem d_Mo_told_0 : decode b_Mo_told 0 = .ok (.aload_n 0, 1) := by decide +kernel
theorem d_Mo_told_1 : decode b_Mo_told 1 = .ok (.aload_n 0, 1) := by decide +kernel
theorem d_Mo_told_2 : decode b_Mo_told 2 = .ok (.iload_n 1, 1) := by decide +kernel
theorem d_Mo_told_3 : decode b_Mo_told 3 = .ok (.invokevirtual 164, 3) := by decide +kernel
theorem d_Mo_told_6 : decode b_Mo_told 6 = .ok (.ifCond .eq 16, 3) := by decide +kernel
theorem d_Mo_told_9 : decode b_Mo_told 9 = .ok (.iload_n 2, 1) := by decide +kernel
theorem d_Mo_told_10 : decode b_Mo_told 10 = .ok (.iconst 0, 1) := by decide +kernel
theorem d_Mo_told_11 : decode b_Mo_told 11 = .ok (.iconst 3, 1) := by decide +kernel
theorem d_Mo_told_12 : decode b_Mo_told 12 = .ok (.invokestatic 105, 3) := by decide +kernel
theorem d_Mo_told_15 : decode b_Mo_told 15 = .ok (.ifCond .eq 7, 3) := by decide +kernel
theorem d_Mo_told_18 : decode b_Mo_told 18 = .ok (.iconst 0, 1) := by decide +kernel
theorem d_Mo_told_19 : decode b_Mo_told 19 = .ok (.goto 4, 3) := by decide +kernel
theorem d_Mo_told_22 : decode b_Mo_told 22 = .ok (.iconst 1, 1) := by decide +kernel
theorem d_Mo_told_23 : decode b_Mo_told 23 = .ok (.putfield 99, 3) := by decide +kernel
theorem d_Mo_told_26 : decode b_Mo_told 26 = .ok (.aload_n 0, 1) := by decide +kernel
theorem d_Mo_told_27 : decode b_Mo_told 27 = .ok (.getfield 99, 3) := by decide +kernel
theorem d_Mo_told_30 : decode b_Mo_told 30 = .ok (.ifCond .le 5, 3) := by decide +kernel
theorem d_Mo_told_33 : decode b_Mo_told 33 = .ok (.iconst 0, 1) := by decide +kernel
theorem d_Mo_told_34 : decode b_Mo_told 34 = .ok (.ireturn, 1) := by decide +kernel
theorem d_Mo_told_35 : decode b_Mo_told 35 = .ok (.iload_n 2, 1) := by decide +kernel
theorem d_Mo_told_36 : decode b_Mo_told 36 = .ok (.ifCond .ne 11, 3) := by decide +kernel
theorem d_Mo_told_39 : decode b_Mo_told 39 = .ok (.aload_n 0, 1) := by decide +kernel
theorem d_Mo_told_40 : decode b_Mo_told 40 = .ok (.iload_n 1, 1) := by decide +kernel
theorem d_Mo_told_41 : decode b_Mo_told 41 = .ok (.invokevirtual 157, 3) := by decide +kernel
theorem d_Mo_told_44 : decode b_Mo_told 44 = .ok (.goto 43, 3) := by decide +kernel
theorem d_Mo_told_47 : decode b_Mo_told 47 = .ok (.iload_n 2, 1) := by decide +kernel
theorem d_Mo_told_48 : decode b_Mo_told 48 = .ok (.iconst 1, 1) := by decide +kernel
theorem d_Mo_told_49 : decode b_Mo_told 49 = .ok (.if_icmp .ne 11, 3) := by decide +kernel
theorem d_Mo_told_52 : decode b_Mo_told 52 = .ok (.aload_n 0, 1) := by decide +kernel
theorem d_Mo_told_53 : decode b_Mo_told 53 = .ok (.iload_n 1, 1) := by decide +kernel
theorem d_Mo_told_54 : decode b_Mo_told 54 = .ok (.invokevirtual 174, 3) := by decide +kernel
theorem d_Mo_told_57 : decode b_Mo_told 57 = .ok (.goto 30, 3) := by decide +kernel
theorem d_Mo_told_60 : decode b_Mo_told 60 = .ok (.iload_n 2, 1) := by decide +kernel
theorem d_Mo_told_61 : decode b_Mo_told 61 = .ok (.iconst 2, 1) := by decide +kernel
theorem d_Mo_told_62 : decode b_Mo_told 62 = .ok (.if_icmp .ne 19, 3) := by decide +kernel
theorem d_Mo_told_65 : decode b_Mo_told 65 = .ok (.aload_n 0, 1) := by decide +kernel
theorem d_Mo_told_66 : decode b_Mo_told 66 = .ok (.getfield 133, 3) := by decide +kernel
theorem d_Mo_told_69 : decode b_Mo_told 69 = .ok (.iconst 1, 1) := by decide +kernel
theorem d_Mo_told_70 : decode b_Mo_told 70 = .ok (.isub, 1) := by decide +kernel
theorem d_Mo_told_71 : decode b_Mo_told 71 = .ok (.aload_n 0, 1) := by decide +kernel
theorem d_Mo_told_72 : decode b_Mo_told 72 = .ok (.getfield 42, 3) := by decide +kernel
theorem d_Mo_told_75 : decode b_Mo_told 75 = .ok (.iload_n 1, 1) := by decide +kernel
theorem d_Mo_told_76 : decode b_Mo_told 76 = .ok (.iaload, 1) := by decide +kernel
theorem d_Mo_told_77 : decode b_Mo_told 77 = .ok (.isub, 1) := by decide +kernel
theorem d_Mo_told_78 : decode b_Mo_told 78 = .ok (.goto 9, 3) := by decide +kernel
theorem d_Mo_told_81 : decode b_Mo_told 81 = .ok (.aload_n 0, 1) := by decide +kernel
theorem d_Mo_told_82 : decode b_Mo_told 82 = .ok (.getfield 45, 3) := by decide +kernel
theorem d_Mo_told_85 : decode b_Mo_told 85 = .ok (.iload_n 1, 1) := by decide +kernel
theorem d_Mo_told_86 : decode b_Mo_told 86 = .ok (.iaload, 1) := by decide +kernel
theorem d_Mo_told_87 : decode b_Mo_told 87 = .ok (.ireturn, 1) := by decide +kernel
theorem d_Mo_dead_0 : decode b_Mo_dead 0 = .ok (.aload_n 0, 1) := by decide +kernel
theorem d_Mo_dead_1 : decode b_Mo_dead 1 = .ok (.iload_n 1, 1) := by decide +kernel
theorem d_Mo_dead_2 : decode b_Mo_dead 2 = .ok (.ifCond .lt 11, 3) := by decide +kernel
theorem d_Mo_dead_5 : decode b_Mo_dead 5 = .ok (.iload_n 2, 1) := by decide +kernel
theorem d_Mo_dead_6 : decode b_Mo_dead 6 = .ok (.ifCond .lt 7, 3) := by decide +kernel
theorem d_Mo_dead_9 : decode b_Mo_dead 9 = .ok (.iconst 0, 1) := by decide +kernel
theorem d_Mo_dead_10 : decode b_Mo_dead 10 = .ok (.goto 4, 3) := by decide +kernel
theorem d_Mo_dead_13 : decode b_Mo_dead 13 = .ok (.iconst 1, 1) := by decide +kernel
theorem d_Mo_dead_14 : decode b_Mo_dead 14 = .ok (.putfield 99, 3) := by decide +kernel
theorem d_Mo_dead_17 : decode b_Mo_dead 17 = .ok (.aload_n 0, 1) := by decide +kernel
theorem d_Mo_dead_18 : decode b_Mo_dead 18 = .ok (.getfield 99, 3) := by decide +kernel
theorem d_Mo_dead_21 : decode b_Mo_dead 21 = .ok (.ifCond .le 5, 3) := by decide +kernel
theorem d_Mo_dead_24 : decode b_Mo_dead 24 = .ok (.iconst 0, 1) := by decide +kernel
theorem d_Mo_dead_25 : decode b_Mo_dead 25 = .ok (.ireturn, 1) := by decide +kernel
theorem d_Mo_dead_26 : decode b_Mo_dead 26 = .ok (.iconst 0, 1) := by decide +kernel
theorem d_Mo_dead_27 : decode b_Mo_dead 27 = .ok (.istore_n 3, 1) := by decide +kernel
theorem d_Mo_dead_28 : decode b_Mo_dead 28 = .ok (.iconst 0, 1) := by decide +kernel
theorem d_Mo_dead_29 : decode b_Mo_dead 29 = .ok (.istore 4, 2) := by decide +kernel
theorem d_Mo_dead_31 : decode b_Mo_dead 31 = .ok (.iload 4, 2) := by decide +kernel
theorem d_Mo_dead_33 : decode b_Mo_dead 33 = .ok (.aload_n 0, 1) := by decide +kernel
theorem d_Mo_dead_34 : decode b_Mo_dead 34 = .ok (.getfield 102, 3) := by decide +kernel
theorem d_Mo_dead_37 : decode b_Mo_dead 37 = .ok (.if_icmp .ge 71, 3) := by decide +kernel
theorem d_Mo_dead_40 : decode b_Mo_dead 40 = .ok (.aload_n 0, 1) := by decide +kernel
theorem d_Mo_dead_41 : decode b_Mo_dead 41 = .ok (.getfield 42, 3) := by decide +kernel
theorem d_Mo_dead_44 : decode b_Mo_dead 44 = .ok (.iload 4, 2) := by decide +kernel
theorem d_Mo_dead_46 : decode b_Mo_dead 46 = .ok (.iaload, 1) := by decide +kernel
theorem d_Mo_dead_47 : decode b_Mo_dead 47 = .ok (.iconst (-1), 1) := by decide +kernel
theorem d_Mo_dead_48 : decode b_Mo_dead 48 = .ok (.if_icmp .eq 21, 3) := by decide +kernel
theorem d_Mo_dead_51 : decode b_Mo_dead 51 = .ok (.aload_n 0, 1) := by decide +kernel
theorem d_Mo_dead_52 : decode b_Mo_dead 52 = .ok (.getfield 133, 3) := by decide +kernel
theorem d_Mo_dead_55 : decode b_Mo_dead 55 = .ok (.iconst 1, 1) := by decide +kernel
theorem d_Mo_dead_56 : decode b_Mo_dead 56 = .ok (.isub, 1) := by decide +kernel
theorem d_Mo_dead_57 : decode b_Mo_dead 57 = .ok (.aload_n 0, 1) := by decide +kernel
theorem d_Mo_dead_58 : decode b_Mo_dead 58 = .ok (.getfield 42, 3) := by decide +kernel
theorem d_Mo_dead_61 : decode b_Mo_dead 61 = .ok (.iload 4, 2) := by decide +kernel
theorem d_Mo_dead_63 : decode b_Mo_dead 63 = .ok (.iaload, 1) := by decide +kernel
theorem d_Mo_dead_64 : decode b_Mo_dead 64 = .ok (.isub, 1) := by decide +kernel
theorem d_Mo_dead_65 : decode b_Mo_dead 65 = .ok (.iload_n 1, 1) := by decide +kernel
theorem d_Mo_dead_66 : decode b_Mo_dead 66 = .ok (.if_icmp .lt 7, 3) := by decide +kernel
theorem d_Mo_dead_69 : decode b_Mo_dead 69 = .ok (.iconst 1, 1) := by decide +kernel
theorem d_Mo_dead_70 : decode b_Mo_dead 70 = .ok (.goto 4, 3) := by decide +kernel
theorem d_Mo_dead_73 : decode b_Mo_dead 73 = .ok (.iconst 0, 1) := by decide +kernel
theorem d_Mo_dead_74 : decode b_Mo_dead 74 = .ok (.istore 5, 2) := by decide +kernel
theorem d_Mo_dead_76 : decode b_Mo_dead 76 = .ok (.iload 5, 2) := by decide +kernel
theorem d_Mo_dead_78 : decode b_Mo_dead 78 = .ok (.ifCond .eq 11, 3) := by decide +kernel
theorem d_Mo_dead_81 : decode b_Mo_dead 81 = .ok (.iload_n 3, 1) := by decide +kernel
theorem d_Mo_dead_82 : decode b_Mo_dead 82 = .ok (.iload_n 2, 1) := by decide +kernel
theorem d_Mo_dead_83 : decode b_Mo_dead 83 = .ok (.if_icmp .ne 6, 3) := by decide +kernel
theorem d_Mo_dead_86 : decode b_Mo_dead 86 = .ok (.iload 4, 2) := by decide +kernel
theorem d_Mo_dead_88 : decode b_Mo_dead 88 = .ok (.ireturn, 1) := by decide +kernel
theorem d_Mo_dead_89 : decode b_Mo_dead 89 = .ok (.iload_n 3, 1) := by decide +kernel
theorem d_Mo_dead_90 : decode b_Mo_dead 90 = .ok (.iload 5, 2) := by decide +kernel
theorem d_Mo_dead_92 : decode b_Mo_dead 92 = .ok (.ifCond .eq 7, 3) := by decide +kernel
theorem d_Mo_dead_95 : decode b_Mo_dead 95 = .ok (.iconst 1, 1) := by decide +kernel
theorem d_Mo_dead_96 : decode b_Mo_dead 96 = .ok (.goto 4, 3) := by decide +kernel
theorem d_Mo_dead_99 : decode b_Mo_dead 99 = .ok (.iconst 0, 1) := by decide +kernel
theorem d_Mo_dead_100 : decode b_Mo_dead 100 = .ok (.iadd, 1) := by decide +kernel
theorem d_Mo_dead_101 : decode b_Mo_dead 101 = .ok (.istore_n 3, 1) := by decide +kernel
theorem d_Mo_dead_102 : decode b_Mo_dead 102 = .ok (.iinc 4 1, 3) := by decide +kernel
theorem d_Mo_dead_105 : decode b_Mo_dead 105 = .ok (.goto (-74), 3) := by decide +kernel
theorem d_Mo_dead_108 : decode b_Mo_dead 108 = .ok (.iconst (-1), 1) := by decide +kernel
theorem d_Mo_dead_109 : decode b_Mo_dead 109 = .ok (.ireturn, 1) := by decide +kernel
theorem d_Mo_warm_0 : decode b_Mo_warm 0 = .ok (.aload_n 0, 1) := by decide +kernel
theorem d_Mo_warm_1 : decode b_Mo_warm 1 = .ok (.aload_n 0, 1) := by decide +kernel
theorem d_Mo_warm_2 : decode b_Mo_warm 2 = .ok (.iload_n 1, 1) := by decide +kernel
theorem d_Mo_warm_3 : decode b_Mo_warm 3 = .ok (.invokevirtual 164, 3) := by decide +kernel
theorem d_Mo_warm_6 : decode b_Mo_warm 6 = .ok (.ifCond .eq 18, 3) := by decide +kernel
theorem d_Mo_warm_9 : decode b_Mo_warm 9 = .ok (.iload_n 2, 1) := by decide +kernel
theorem d_Mo_warm_10 : decode b_Mo_warm 10 = .ok (.iconst 0, 1) := by decide +kernel
theorem d_Mo_warm_11 : decode b_Mo_warm 11 = .ok (.sipush 10000, 3) := by decide +kernel
theorem d_Mo_warm_14 : decode b_Mo_warm 14 = .ok (.invokestatic 105, 3) := by decide +kernel
theorem d_Mo_warm_17 : decode b_Mo_warm 17 = .ok (.ifCond .eq 7, 3) := by decide +kernel
theorem d_Mo_warm_20 : decode b_Mo_warm 20 = .ok (.iconst 0, 1) := by decide +kernel
theorem d_Mo_warm_21 : decode b_Mo_warm 21 = .ok (.goto 4, 3) := by decide +kernel
theorem d_Mo_warm_24 : decode b_Mo_warm 24 = .ok (.iconst 1, 1) := by decide +kernel
theorem d_Mo_warm_25 : decode b_Mo_warm 25 = .ok (.putfield 99, 3) := by decide +kernel
theorem d_Mo_warm_28 : decode b_Mo_warm 28 = .ok (.aload_n 0, 1) := by decide +kernel
theorem d_Mo_warm_29 : decode b_Mo_warm 29 = .ok (.getfield 99, 3) := by decide +kernel
theorem d_Mo_warm_32 : decode b_Mo_warm 32 = .ok (.ifCond .le 5, 3) := by decide +kernel
theorem d_Mo_warm_35 : decode b_Mo_warm 35 = .ok (.iconst 0, 1) := by decide +kernel
theorem d_Mo_warm_36 : decode b_Mo_warm 36 = .ok (.ireturn, 1) := by decide +kernel
theorem d_Mo_warm_37 : decode b_Mo_warm 37 = .ok (.iconst 0, 1) := by decide +kernel
theorem d_Mo_warm_38 : decode b_Mo_warm 38 = .ok (.istore_n 3, 1) := by decide +kernel
theorem d_Mo_warm_39 : decode b_Mo_warm 39 = .ok (.iload_n 1, 1) := by decide +kernel
theorem d_Mo_warm_40 : decode b_Mo_warm 40 = .ok (.istore 4, 2) := by decide +kernel
theorem d_Mo_warm_42 : decode b_Mo_warm 42 = .ok (.iload 4, 2) := by decide +kernel
theorem d_Mo_warm_44 : decode b_Mo_warm 44 = .ok (.iconst (-1), 1) := by decide +kernel
theorem d_Mo_warm_45 : decode b_Mo_warm 45 = .ok (.if_icmp .eq 72, 3) := by decide +kernel
theorem d_Mo_warm_48 : decode b_Mo_warm 48 = .ok (.aload_n 0, 1) := by decide +kernel
theorem d_Mo_warm_49 : decode b_Mo_warm 49 = .ok (.getfield 33, 3) := by decide +kernel
theorem d_Mo_warm_52 : decode b_Mo_warm 52 = .ok (.iload 4, 2) := by decide +kernel
theorem d_Mo_warm_54 : decode b_Mo_warm 54 = .ok (.iaload, 1) := by decide +kernel
theorem d_Mo_warm_55 : decode b_Mo_warm 55 = .ok (.iconst 1, 1) := by decide +kernel
theorem d_Mo_warm_56 : decode b_Mo_warm 56 = .ok (.isub, 1) := by decide +kernel
theorem d_Mo_warm_57 : decode b_Mo_warm 57 = .ok (.istore 5, 2) := by decide +kernel
theorem d_Mo_warm_59 : decode b_Mo_warm 59 = .ok (.iload 5, 2) := by decide +kernel
theorem d_Mo_warm_61 : decode b_Mo_warm 61 = .ok (.ifCond .lt 44, 3) := by decide +kernel
theorem d_Mo_warm_64 : decode b_Mo_warm 64 = .ok (.aload_n 0, 1) := by decide +kernel
theorem d_Mo_warm_65 : decode b_Mo_warm 65 = .ok (.getfield 39, 3) := by decide +kernel
theorem d_Mo_warm_68 : decode b_Mo_warm 68 = .ok (.bipush 12, 2) := by decide +kernel
theorem d_Mo_warm_70 : decode b_Mo_warm 70 = .ok (.iload 4, 2) := by decide +kernel
theorem d_Mo_warm_72 : decode b_Mo_warm 72 = .ok (.imul, 1) := by decide +kernel
theorem d_Mo_warm_73 : decode b_Mo_warm 73 = .ok (.iload 5, 2) := by decide +kernel
theorem d_Mo_warm_75 : decode b_Mo_warm 75 = .ok (.iadd, 1) := by decide +kernel
theorem d_Mo_warm_76 : decode b_Mo_warm 76 = .ok (.iaload, 1) := by decide +kernel
theorem d_Mo_warm_77 : decode b_Mo_warm 77 = .ok (.iload_n 2, 1) := by decide +kernel
theorem d_Mo_warm_78 : decode b_Mo_warm 78 = .ok (.if_icmp .lt 5, 3) := by decide +kernel
theorem d_Mo_warm_81 : decode b_Mo_warm 81 = .ok (.iload_n 3, 1) := by decide +kernel
theorem d_Mo_warm_82 : decode b_Mo_warm 82 = .ok (.ireturn, 1) := by decide +kernel
theorem d_Mo_warm_83 : decode b_Mo_warm 83 = .ok (.iload_n 3, 1) := by decide +kernel
theorem d_Mo_warm_84 : decode b_Mo_warm 84 = .ok (.aload_n 0, 1) := by decide +kernel
theorem d_Mo_warm_85 : decode b_Mo_warm 85 = .ok (.getfield 36, 3) := by decide +kernel
theorem d_Mo_warm_88 : decode b_Mo_warm 88 = .ok (.bipush 12, 2) := by decide +kernel
theorem d_Mo_warm_90 : decode b_Mo_warm 90 = .ok (.iload 4, 2) := by decide +kernel
theorem d_Mo_warm_92 : decode b_Mo_warm 92 = .ok (.imul, 1) := by decide +kernel
theorem d_Mo_warm_93 : decode b_Mo_warm 93 = .ok (.iload 5, 2) := by decide +kernel
theorem d_Mo_warm_95 : decode b_Mo_warm 95 = .ok (.iadd, 1) := by decide +kernel
theorem d_Mo_warm_96 : decode b_Mo_warm 96 = .ok (.iaload, 1) := by decide +kernel
theorem d_Mo_warm_97 : decode b_Mo_warm 97 = .ok (.iadd, 1) := by decide +kernel
theorem d_Mo_warm_98 : decode b_Mo_warm 98 = .ok (.istore_n 3, 1) := by decide +kernel
theorem d_Mo_warm_99 : decode b_Mo_warm 99 = .ok (.iinc 5 (-1), 3) := by decide +kernel
theorem d_Mo_warm_102 : decode b_Mo_warm 102 = .ok (.goto (-43), 3) := by decide +kernel
theorem d_Mo_warm_105 : decode b_Mo_warm 105 = .ok (.aload_n 0, 1) := by decide +kernel
theorem d_Mo_warm_106 : decode b_Mo_warm 106 = .ok (.getfield 7, 3) := by decide +kernel
theorem d_Mo_warm_109 : decode b_Mo_warm 109 = .ok (.iload 4, 2) := by decide +kernel
theorem d_Mo_warm_111 : decode b_Mo_warm 111 = .ok (.iaload, 1) := by decide +kernel
theorem d_Mo_warm_112 : decode b_Mo_warm 112 = .ok (.istore 4, 2) := by decide +kernel
theorem d_Mo_warm_114 : decode b_Mo_warm 114 = .ok (.goto (-72), 3) := by decide +kernel
theorem d_Mo_warm_117 : decode b_Mo_warm 117 = .ok (.aload_n 0, 1) := by decide +kernel
theorem d_Mo_warm_118 : decode b_Mo_warm 118 = .ok (.getfield 26, 3) := by decide +kernel
theorem d_Mo_warm_121 : decode b_Mo_warm 121 = .ok (.iload_n 2, 1) := by decide +kernel
theorem d_Mo_warm_122 : decode b_Mo_warm 122 = .ok (.if_icmp .lt 7, 3) := by decide +kernel
theorem d_Mo_warm_125 : decode b_Mo_warm 125 = .ok (.iload_n 3, 1) := by decide +kernel
theorem d_Mo_warm_126 : decode b_Mo_warm 126 = .ok (.goto 4, 3) := by decide +kernel
theorem d_Mo_warm_129 : decode b_Mo_warm 129 = .ok (.iconst (-1), 1) := by decide +kernel
theorem d_Mo_warm_130 : decode b_Mo_warm 130 = .ok (.ireturn, 1) := by decide +kernel
theorem d_Mo_drawn_0 : decode b_Mo_drawn 0 = .ok (.aload_n 0, 1) := by decide +kernel
theorem d_Mo_drawn_1 : decode b_Mo_drawn 1 = .ok (.iload_n 1, 1) := by decide +kernel
theorem d_Mo_drawn_2 : decode b_Mo_drawn 2 = .ok (.iconst 0, 1) := by decide +kernel
theorem d_Mo_drawn_3 : decode b_Mo_drawn 3 = .ok (.aload_n 0, 1) := by decide +kernel
theorem d_Mo_drawn_4 : decode b_Mo_drawn 4 = .ok (.getfield 168, 3) := by decide +kernel
theorem d_Mo_drawn_7 : decode b_Mo_drawn 7 = .ok (.iconst 1, 1) := by decide +kernel
theorem d_Mo_drawn_8 : decode b_Mo_drawn 8 = .ok (.isub, 1) := by decide +kernel
theorem d_Mo_drawn_9 : decode b_Mo_drawn 9 = .ok (.invokestatic 105, 3) := by decide +kernel
theorem d_Mo_drawn_12 : decode b_Mo_drawn 12 = .ok (.ifCond .eq 16, 3) := by decide +kernel
theorem d_Mo_drawn_15 : decode b_Mo_drawn 15 = .ok (.iload_n 2, 1) := by decide +kernel
theorem d_Mo_drawn_16 : decode b_Mo_drawn 16 = .ok (.iconst 0, 1) := by decide +kernel
theorem d_Mo_drawn_17 : decode b_Mo_drawn 17 = .ok (.iconst 2, 1) := by decide +kernel
theorem d_Mo_drawn_18 : decode b_Mo_drawn 18 = .ok (.invokestatic 105, 3) := by decide +kernel
theorem d_Mo_drawn_21 : decode b_Mo_drawn 21 = .ok (.ifCond .eq 7, 3) := by decide +kernel
theorem d_Mo_drawn_24 : decode b_Mo_drawn 24 = .ok (.iconst 0, 1) := by decide +kernel
theorem d_Mo_drawn_25 : decode b_Mo_drawn 25 = .ok (.goto 4, 3) := by decide +kernel
theorem d_Mo_drawn_28 : decode b_Mo_drawn 28 = .ok (.iconst 1, 1) := by decide +kernel
theorem d_Mo_drawn_29 : decode b_Mo_drawn 29 = .ok (.putfield 99, 3) := by decide +kernel
theorem d_Mo_drawn_32 : decode b_Mo_drawn 32 = .ok (.aload_n 0, 1) := by decide +kernel
theorem d_Mo_drawn_33 : decode b_Mo_drawn 33 = .ok (.getfield 99, 3) := by decide +kernel
theorem d_Mo_drawn_36 : decode b_Mo_drawn 36 = .ok (.ifCond .le 5, 3) := by decide +kernel
theorem d_Mo_drawn_39 : decode b_Mo_drawn 39 = .ok (.iconst 0, 1) := by decide +kernel
theorem d_Mo_drawn_40 : decode b_Mo_drawn 40 = .ok (.ireturn, 1) := by decide +kernel
theorem d_Mo_drawn_41 : decode b_Mo_drawn 41 = .ok (.aload_n 0, 1) := by decide +kernel
theorem d_Mo_drawn_42 : decode b_Mo_drawn 42 = .ok (.getfield 51, 3) := by decide +kernel
theorem d_Mo_drawn_45 : decode b_Mo_drawn 45 = .ok (.iload_n 1, 1) := by decide +kernel
theorem d_Mo_drawn_46 : decode b_Mo_drawn 46 = .ok (.iaload, 1) := by decide +kernel
theorem d_Mo_drawn_47 : decode b_Mo_drawn 47 = .ok (.aload_n 0, 1) := by decide +kernel
theorem d_Mo_drawn_48 : decode b_Mo_drawn 48 = .ok (.getfield 133, 3) := by decide +kernel
theorem d_Mo_drawn_51 : decode b_Mo_drawn 51 = .ok (.if_icmp .lt 7, 3) := by decide +kernel
theorem d_Mo_drawn_54 : decode b_Mo_drawn 54 = .ok (.iconst (-1), 1) := by decide +kernel
theorem d_Mo_drawn_55 : decode b_Mo_drawn 55 = .ok (.goto 36, 3) := by decide +kernel
theorem d_Mo_drawn_58 : decode b_Mo_drawn 58 = .ok (.iload_n 2, 1) := by decide +kernel
theorem d_Mo_drawn_59 : decode b_Mo_drawn 59 = .ok (.ifCond .ne 12, 3) := by decide +kernel
theorem d_Mo_drawn_62 : decode b_Mo_drawn 62 = .ok (.aload_n 0, 1) := by decide +kernel
theorem d_Mo_drawn_63 : decode b_Mo_drawn 63 = .ok (.getfield 57, 3) := by decide +kernel
theorem d_Mo_drawn_66 : decode b_Mo_drawn 66 = .ok (.iload_n 1, 1) := by decide +kernel
theorem d_Mo_drawn_67 : decode b_Mo_drawn 67 = .ok (.iaload, 1) := by decide +kernel
theorem d_Mo_drawn_68 : decode b_Mo_drawn 68 = .ok (.goto 23, 3) := by decide +kernel
theorem d_Mo_drawn_71 : decode b_Mo_drawn 71 = .ok (.iload_n 2, 1) := by decide +kernel
theorem d_Mo_drawn_72 : decode b_Mo_drawn 72 = .ok (.iconst 1, 1) := by decide +kernel
theorem d_Mo_drawn_73 : decode b_Mo_drawn 73 = .ok (.if_icmp .ne 12, 3) := by decide +kernel
theorem d_Mo_drawn_76 : decode b_Mo_drawn 76 = .ok (.aload_n 0, 1) := by decide +kernel
theorem d_Mo_drawn_77 : decode b_Mo_drawn 77 = .ok (.getfield 60, 3) := by decide +kernel
theorem d_Mo_drawn_80 : decode b_Mo_drawn 80 = .ok (.iload_n 1, 1) := by decide +kernel
theorem d_Mo_drawn_81 : decode b_Mo_drawn 81 = .ok (.iaload, 1) := by decide +kernel
theorem d_Mo_drawn_82 : decode b_Mo_drawn 82 = .ok (.goto 9, 3) := by decide +kernel
theorem d_Mo_drawn_85 : decode b_Mo_drawn 85 = .ok (.aload_n 0, 1) := by decide +kernel
theorem d_Mo_drawn_86 : decode b_Mo_drawn 86 = .ok (.getfield 63, 3) := by decide +kernel
theorem d_Mo_drawn_89 : decode b_Mo_drawn 89 = .ok (.iload_n 1, 1) := by decide +kernel
theorem d_Mo_drawn_90 : decode b_Mo_drawn 90 = .ok (.iaload, 1) := by decide +kernel
theorem d_Mo_drawn_91 : decode b_Mo_drawn 91 = .ok (.ireturn, 1) := by decide +kernel
theorem d_Mo_heat_0 : decode b_Mo_heat 0 = .ok (.aload_n 0, 1) := by decide +kernel
theorem d_Mo_heat_1 : decode b_Mo_heat 1 = .ok (.iload_n 1, 1) := by decide +kernel
theorem d_Mo_heat_2 : decode b_Mo_heat 2 = .ok (.iconst 0, 1) := by decide +kernel
theorem d_Mo_heat_3 : decode b_Mo_heat 3 = .ok (.iconst 3, 1) := by decide +kernel
theorem d_Mo_heat_4 : decode b_Mo_heat 4 = .ok (.invokestatic 105, 3) := by decide +kernel
theorem d_Mo_heat_7 : decode b_Mo_heat 7 = .ok (.ifCond .eq 7, 3) := by decide +kernel
theorem d_Mo_heat_10 : decode b_Mo_heat 10 = .ok (.iconst 0, 1) := by decide +kernel
theorem d_Mo_heat_11 : decode b_Mo_heat 11 = .ok (.goto 4, 3) := by decide +kernel
theorem d_Mo_heat_14 : decode b_Mo_heat 14 = .ok (.iconst 1, 1) := by decide +kernel
theorem d_Mo_heat_15 : decode b_Mo_heat 15 = .ok (.putfield 99, 3) := by decide +kernel
theorem d_Mo_heat_18 : decode b_Mo_heat 18 = .ok (.aload_n 0, 1) := by decide +kernel
theorem d_Mo_heat_19 : decode b_Mo_heat 19 = .ok (.getfield 99, 3) := by decide +kernel
theorem d_Mo_heat_22 : decode b_Mo_heat 22 = .ok (.ifCond .le 5, 3) := by decide +kernel
theorem d_Mo_heat_25 : decode b_Mo_heat 25 = .ok (.lconst 0, 1) := by decide +kernel
theorem d_Mo_heat_26 : decode b_Mo_heat 26 = .ok (.lreturn, 1) := by decide +kernel
theorem d_Mo_heat_27 : decode b_Mo_heat 27 = .ok (.lconst 0, 1) := by decide +kernel
theorem d_Mo_heat_28 : decode b_Mo_heat 28 = .ok (.lstore_n 2, 1) := by decide +kernel
theorem d_Mo_heat_29 : decode b_Mo_heat 29 = .ok (.iconst 0, 1) := by decide +kernel
theorem d_Mo_heat_30 : decode b_Mo_heat 30 = .ok (.istore 4, 2) := by decide +kernel
theorem d_Mo_heat_32 : decode b_Mo_heat 32 = .ok (.iload 4, 2) := by decide +kernel
theorem d_Mo_heat_34 : decode b_Mo_heat 34 = .ok (.aload_n 0, 1) := by decide +kernel
theorem d_Mo_heat_35 : decode b_Mo_heat 35 = .ok (.getfield 102, 3) := by decide +kernel
theorem d_Mo_heat_38 : decode b_Mo_heat 38 = .ok (.if_icmp .ge 62, 3) := by decide +kernel
theorem d_Mo_heat_41 : decode b_Mo_heat 41 = .ok (.iconst 0, 1) := by decide +kernel
theorem d_Mo_heat_42 : decode b_Mo_heat 42 = .ok (.istore 5, 2) := by decide +kernel
theorem d_Mo_heat_44 : decode b_Mo_heat 44 = .ok (.iload 5, 2) := by decide +kernel
theorem d_Mo_heat_46 : decode b_Mo_heat 46 = .ok (.aload_n 0, 1) := by decide +kernel
theorem d_Mo_heat_47 : decode b_Mo_heat 47 = .ok (.getfield 33, 3) := by decide +kernel
theorem d_Mo_heat_50 : decode b_Mo_heat 50 = .ok (.iload 4, 2) := by decide +kernel
theorem d_Mo_heat_52 : decode b_Mo_heat 52 = .ok (.iaload, 1) := by decide +kernel
theorem d_Mo_heat_53 : decode b_Mo_heat 53 = .ok (.if_icmp .ge 41, 3) := by decide +kernel
theorem d_Mo_heat_56 : decode b_Mo_heat 56 = .ok (.lload_n 2, 1) := by decide +kernel
theorem d_Mo_heat_57 : decode b_Mo_heat 57 = .ok (.aload_n 0, 1) := by decide +kernel
theorem d_Mo_heat_58 : decode b_Mo_heat 58 = .ok (.getfield 36, 3) := by decide +kernel
theorem d_Mo_heat_61 : decode b_Mo_heat 61 = .ok (.bipush 12, 2) := by decide +kernel
theorem d_Mo_heat_63 : decode b_Mo_heat 63 = .ok (.iload 4, 2) := by decide +kernel
theorem d_Mo_heat_65 : decode b_Mo_heat 65 = .ok (.imul, 1) := by decide +kernel
theorem d_Mo_heat_66 : decode b_Mo_heat 66 = .ok (.iload 5, 2) := by decide +kernel
theorem d_Mo_heat_68 : decode b_Mo_heat 68 = .ok (.iadd, 1) := by decide +kernel
theorem d_Mo_heat_69 : decode b_Mo_heat 69 = .ok (.iaload, 1) := by decide +kernel
theorem d_Mo_heat_70 : decode b_Mo_heat 70 = .ok (.i2l, 1) := by decide +kernel
theorem d_Mo_heat_71 : decode b_Mo_heat 71 = .ok (.aload_n 0, 1) := by decide +kernel
theorem d_Mo_heat_72 : decode b_Mo_heat 72 = .ok (.getfield 39, 3) := by decide +kernel
theorem d_Mo_heat_75 : decode b_Mo_heat 75 = .ok (.bipush 12, 2) := by decide +kernel
theorem d_Mo_heat_77 : decode b_Mo_heat 77 = .ok (.iload 4, 2) := by decide +kernel
theorem d_Mo_heat_79 : decode b_Mo_heat 79 = .ok (.imul, 1) := by decide +kernel
theorem d_Mo_heat_80 : decode b_Mo_heat 80 = .ok (.iload 5, 2) := by decide +kernel
theorem d_Mo_heat_82 : decode b_Mo_heat 82 = .ok (.iadd, 1) := by decide +kernel
theorem d_Mo_heat_83 : decode b_Mo_heat 83 = .ok (.iaload, 1) := by decide +kernel
theorem d_Mo_heat_84 : decode b_Mo_heat 84 = .ok (.i2l, 1) := by decide +kernel
theorem d_Mo_heat_85 : decode b_Mo_heat 85 = .ok (.lmul, 1) := by decide +kernel
theorem d_Mo_heat_86 : decode b_Mo_heat 86 = .ok (.ladd, 1) := by decide +kernel
theorem d_Mo_heat_87 : decode b_Mo_heat 87 = .ok (.lstore_n 2, 1) := by decide +kernel
theorem d_Mo_heat_88 : decode b_Mo_heat 88 = .ok (.iinc 5 1, 3) := by decide +kernel
theorem d_Mo_heat_91 : decode b_Mo_heat 91 = .ok (.goto (-47), 3) := by decide +kernel
theorem d_Mo_heat_94 : decode b_Mo_heat 94 = .ok (.iinc 4 1, 3) := by decide +kernel
theorem d_Mo_heat_97 : decode b_Mo_heat 97 = .ok (.goto (-65), 3) := by decide +kernel
theorem d_Mo_heat_100 : decode b_Mo_heat 100 = .ok (.iload_n 1, 1) := by decide +kernel
theorem d_Mo_heat_101 : decode b_Mo_heat 101 = .ok (.ifCond .ne 7, 3) := by decide +kernel
theorem d_Mo_heat_104 : decode b_Mo_heat 104 = .ok (.lload_n 2, 1) := by decide +kernel
theorem d_Mo_heat_105 : decode b_Mo_heat 105 = .ok (.goto 31, 3) := by decide +kernel
theorem d_Mo_heat_108 : decode b_Mo_heat 108 = .ok (.iload_n 1, 1) := by decide +kernel
theorem d_Mo_heat_109 : decode b_Mo_heat 109 = .ok (.iconst 1, 1) := by decide +kernel
theorem d_Mo_heat_110 : decode b_Mo_heat 110 = .ok (.if_icmp .ne 10, 3) := by decide +kernel
theorem d_Mo_heat_113 : decode b_Mo_heat 113 = .ok (.aload_n 0, 1) := by decide +kernel
theorem d_Mo_heat_114 : decode b_Mo_heat 114 = .ok (.getfield 136, 3) := by decide +kernel
theorem d_Mo_heat_117 : decode b_Mo_heat 117 = .ok (.goto 19, 3) := by decide +kernel
theorem d_Mo_heat_120 : decode b_Mo_heat 120 = .ok (.iload_n 1, 1) := by decide +kernel
theorem d_Mo_heat_121 : decode b_Mo_heat 121 = .ok (.iconst 2, 1) := by decide +kernel
theorem d_Mo_heat_122 : decode b_Mo_heat 122 = .ok (.if_icmp .ne 10, 3) := by decide +kernel
theorem d_Mo_heat_125 : decode b_Mo_heat 125 = .ok (.aload_n 0, 1) := by decide +kernel
theorem d_Mo_heat_126 : decode b_Mo_heat 126 = .ok (.getfield 151, 3) := by decide +kernel
theorem d_Mo_heat_129 : decode b_Mo_heat 129 = .ok (.goto 7, 3) := by decide +kernel
theorem d_Mo_heat_132 : decode b_Mo_heat 132 = .ok (.aload_n 0, 1) := by decide +kernel
theorem d_Mo_heat_133 : decode b_Mo_heat 133 = .ok (.getfield 112, 3) := by decide +kernel
theorem d_Mo_heat_136 : decode b_Mo_heat 136 = .ok (.lreturn, 1) := by decide +kernel
theorem d_Mo_copy_0 : decode b_Mo_copy 0 = .ok (.iconst 0, 1) := by decide +kernel
theorem d_Mo_copy_1 : decode b_Mo_copy 1 = .ok (.istore_n 3, 1) := by decide +kernel
theorem d_Mo_copy_2 : decode b_Mo_copy 2 = .ok (.iload_n 3, 1) := by decide +kernel
theorem d_Mo_copy_3 : decode b_Mo_copy 3 = .ok (.aload_n 1, 1) := by decide +kernel
theorem d_Mo_copy_4 : decode b_Mo_copy 4 = .ok (.arraylength, 1) := by decide +kernel
theorem d_Mo_copy_5 : decode b_Mo_copy 5 = .ok (.if_icmp .ge 15, 3) := by decide +kernel
theorem d_Mo_copy_8 : decode b_Mo_copy 8 = .ok (.aload_n 2, 1) := by decide +kernel
theorem d_Mo_copy_9 : decode b_Mo_copy 9 = .ok (.iload_n 3, 1) := by decide +kernel
theorem d_Mo_copy_10 : decode b_Mo_copy 10 = .ok (.aload_n 1, 1) := by decide +kernel
theorem d_Mo_copy_11 : decode b_Mo_copy 11 = .ok (.iload_n 3, 1) := by decide +kernel
theorem d_Mo_copy_12 : decode b_Mo_copy 12 = .ok (.iaload, 1) := by decide +kernel
theorem d_Mo_copy_13 : decode b_Mo_copy 13 = .ok (.iastore, 1) := by decide +kernel
theorem d_Mo_copy_14 : decode b_Mo_copy 14 = .ok (.iinc 3 1, 3) := by decide +kernel
theorem d_Mo_copy_17 : decode b_Mo_copy 17 = .ok (.goto (-15), 3) := by decide +kernel
theorem d_Mo_copy_20 : decode b_Mo_copy 20 = .ok (.return_, 1) := by decide +kernel
theorem d_Mo_shock_0 : decode b_Mo_shock 0 = .ok (.aload_n 0, 1) := by decide +kernel
theorem d_Mo_shock_1 : decode b_Mo_shock 1 = .ok (.iload_n 1, 1) := by decide +kernel
theorem d_Mo_shock_2 : decode b_Mo_shock 2 = .ok (.iconst 0, 1) := by decide +kernel
theorem d_Mo_shock_3 : decode b_Mo_shock 3 = .ok (.sipush 10000, 3) := by decide +kernel
theorem d_Mo_shock_6 : decode b_Mo_shock 6 = .ok (.invokestatic 105, 3) := by decide +kernel
theorem d_Mo_shock_9 : decode b_Mo_shock 9 = .ok (.ifCond .eq 44, 3) := by decide +kernel
theorem d_Mo_shock_12 : decode b_Mo_shock 12 = .ok (.iload_n 2, 1) := by decide +kernel
theorem d_Mo_shock_13 : decode b_Mo_shock 13 = .ok (.iconst 1, 1) := by decide +kernel
theorem d_Mo_shock_14 : decode b_Mo_shock 14 = .ok (.bipush 100, 2) := by decide +kernel
theorem d_Mo_shock_16 : decode b_Mo_shock 16 = .ok (.invokestatic 105, 3) := by decide +kernel
theorem d_Mo_shock_19 : decode b_Mo_shock 19 = .ok (.ifCond .eq 34, 3) := by decide +kernel
theorem d_Mo_shock_22 : decode b_Mo_shock 22 = .ok (.iload_n 3, 1) := by decide +kernel
theorem d_Mo_shock_23 : decode b_Mo_shock 23 = .ok (.iconst 1, 1) := by decide +kernel
theorem d_Mo_shock_24 : decode b_Mo_shock 24 = .ok (.bipush 30, 2) := by decide +kernel
theorem d_Mo_shock_26 : decode b_Mo_shock 26 = .ok (.invokestatic 105, 3) := by decide +kernel
theorem d_Mo_shock_29 : decode b_Mo_shock 29 = .ok (.ifCond .eq 24, 3) := by decide +kernel
theorem d_Mo_shock_32 : decode b_Mo_shock 32 = .ok (.iload 4, 2) := by decide +kernel
theorem d_Mo_shock_34 : decode b_Mo_shock 34 = .ok (.iconst 0, 1) := by decide +kernel
theorem d_Mo_shock_35 : decode b_Mo_shock 35 = .ok (.sipush 10000, 3) := by decide +kernel
theorem d_Mo_shock_38 : decode b_Mo_shock 38 = .ok (.invokestatic 105, 3) := by decide +kernel
theorem d_Mo_shock_41 : decode b_Mo_shock 41 = .ok (.ifCond .eq 12, 3) := by decide +kernel
theorem d_Mo_shock_44 : decode b_Mo_shock 44 = .ok (.iload 5, 2) := by decide +kernel
theorem d_Mo_shock_46 : decode b_Mo_shock 46 = .ok (.ifCond .lt 7, 3) := by decide +kernel
theorem d_Mo_shock_49 : decode b_Mo_shock 49 = .ok (.iconst 0, 1) := by decide +kernel
theorem d_Mo_shock_50 : decode b_Mo_shock 50 = .ok (.goto 4, 3) := by decide +kernel
theorem d_Mo_shock_53 : decode b_Mo_shock 53 = .ok (.iconst 1, 1) := by decide +kernel
theorem d_Mo_shock_54 : decode b_Mo_shock 54 = .ok (.putfield 99, 3) := by decide +kernel
theorem d_Mo_shock_57 : decode b_Mo_shock 57 = .ok (.aload_n 0, 1) := by decide +kernel
theorem d_Mo_shock_58 : decode b_Mo_shock 58 = .ok (.getfield 99, 3) := by decide +kernel
theorem d_Mo_shock_61 : decode b_Mo_shock 61 = .ok (.ifCond .le 5, 3) := by decide +kernel
theorem d_Mo_shock_64 : decode b_Mo_shock 64 = .ok (.iconst 0, 1) := by decide +kernel
theorem d_Mo_shock_65 : decode b_Mo_shock 65 = .ok (.ireturn, 1) := by decide +kernel
theorem d_Mo_shock_66 : decode b_Mo_shock 66 = .ok (.aload_n 0, 1) := by decide +kernel
theorem d_Mo_shock_67 : decode b_Mo_shock 67 = .ok (.aload_n 0, 1) := by decide +kernel
theorem d_Mo_shock_68 : decode b_Mo_shock 68 = .ok (.getfield 33, 3) := by decide +kernel
theorem d_Mo_shock_71 : decode b_Mo_shock 71 = .ok (.aload_n 0, 1) := by decide +kernel
theorem d_Mo_shock_72 : decode b_Mo_shock 72 = .ok (.getfield 81, 3) := by decide +kernel
theorem d_Mo_shock_75 : decode b_Mo_shock 75 = .ok (.invokevirtual 177, 3) := by decide +kernel
theorem d_Mo_shock_78 : decode b_Mo_shock 78 = .ok (.aload_n 0, 1) := by decide +kernel
theorem d_Mo_shock_79 : decode b_Mo_shock 79 = .ok (.aload_n 0, 1) := by decide +kernel
theorem d_Mo_shock_80 : decode b_Mo_shock 80 = .ok (.getfield 36, 3) := by decide +kernel
theorem d_Mo_shock_83 : decode b_Mo_shock 83 = .ok (.aload_n 0, 1) := by decide +kernel
theorem d_Mo_shock_84 : decode b_Mo_shock 84 = .ok (.getfield 84, 3) := by decide +kernel
theorem d_Mo_shock_87 : decode b_Mo_shock 87 = .ok (.invokevirtual 177, 3) := by decide +kernel
theorem d_Mo_shock_90 : decode b_Mo_shock 90 = .ok (.aload_n 0, 1) := by decide +kernel
theorem d_Mo_shock_91 : decode b_Mo_shock 91 = .ok (.aload_n 0, 1) := by decide +kernel
theorem d_Mo_shock_92 : decode b_Mo_shock 92 = .ok (.getfield 39, 3) := by decide +kernel
theorem d_Mo_shock_95 : decode b_Mo_shock 95 = .ok (.aload_n 0, 1) := by decide +kernel
theorem d_Mo_shock_96 : decode b_Mo_shock 96 = .ok (.getfield 87, 3) := by decide +kernel
theorem d_Mo_shock_99 : decode b_Mo_shock 99 = .ok (.invokevirtual 177, 3) := by decide +kernel
theorem d_Mo_shock_102 : decode b_Mo_shock 102 = .ok (.aload_n 0, 1) := by decide +kernel
theorem d_Mo_shock_103 : decode b_Mo_shock 103 = .ok (.aload_n 0, 1) := by decide +kernel
theorem d_Mo_shock_104 : decode b_Mo_shock 104 = .ok (.getfield 42, 3) := by decide +kernel
theorem d_Mo_shock_107 : decode b_Mo_shock 107 = .ok (.aload_n 0, 1) := by decide +kernel
theorem d_Mo_shock_108 : decode b_Mo_shock 108 = .ok (.getfield 90, 3) := by decide +kernel
theorem d_Mo_shock_111 : decode b_Mo_shock 111 = .ok (.invokevirtual 177, 3) := by decide +kernel
theorem d_Mo_shock_114 : decode b_Mo_shock 114 = .ok (.aload_n 0, 1) := by decide +kernel
theorem d_Mo_shock_115 : decode b_Mo_shock 115 = .ok (.aload_n 0, 1) := by decide +kernel
theorem d_Mo_shock_116 : decode b_Mo_shock 116 = .ok (.getfield 45, 3) := by decide +kernel
theorem d_Mo_shock_119 : decode b_Mo_shock 119 = .ok (.aload_n 0, 1) := by decide +kernel
theorem d_Mo_shock_120 : decode b_Mo_shock 120 = .ok (.getfield 93, 3) := by decide +kernel
theorem d_Mo_shock_123 : decode b_Mo_shock 123 = .ok (.invokevirtual 177, 3) := by decide +kernel
theorem d_Mo_shock_126 : decode b_Mo_shock 126 = .ok (.aload_n 0, 1) := by decide +kernel
theorem d_Mo_shock_127 : decode b_Mo_shock 127 = .ok (.getfield 136, 3) := by decide +kernel
theorem d_Mo_shock_130 : decode b_Mo_shock 130 = .ok (.lstore 6, 2) := by decide +kernel
theorem d_Mo_shock_132 : decode b_Mo_shock 132 = .ok (.aload_n 0, 1) := by decide +kernel
theorem d_Mo_shock_133 : decode b_Mo_shock 133 = .ok (.getfield 151, 3) := by decide +kernel
theorem d_Mo_shock_136 : decode b_Mo_shock 136 = .ok (.lstore 8, 2) := by decide +kernel
theorem d_Mo_shock_138 : decode b_Mo_shock 138 = .ok (.aload_n 0, 1) := by decide +kernel
theorem d_Mo_shock_139 : decode b_Mo_shock 139 = .ok (.getfield 112, 3) := by decide +kernel
theorem d_Mo_shock_142 : decode b_Mo_shock 142 = .ok (.lstore 10, 2) := by decide +kernel
theorem d_Mo_shock_144 : decode b_Mo_shock 144 = .ok (.aload_n 0, 1) := by decide +kernel
theorem d_Mo_shock_145 : decode b_Mo_shock 145 = .ok (.getfield 26, 3) := by decide +kernel
theorem d_Mo_shock_148 : decode b_Mo_shock 148 = .ok (.istore 12, 2) := by decide +kernel
theorem d_Mo_shock_150 : decode b_Mo_shock 150 = .ok (.aload_n 0, 1) := by decide +kernel
theorem d_Mo_shock_151 : decode b_Mo_shock 151 = .ok (.iload_n 1, 1) := by decide +kernel
theorem d_Mo_shock_152 : decode b_Mo_shock 152 = .ok (.putfield 26, 3) := by decide +kernel
theorem d_Mo_shock_155 : decode b_Mo_shock 155 = .ok (.iconst 0, 1) := by decide +kernel
theorem d_Mo_shock_156 : decode b_Mo_shock 156 = .ok (.istore 13, 2) := by decide +kernel
theorem d_Mo_shock_158 : decode b_Mo_shock 158 = .ok (.iload 13, 2) := by decide +kernel
theorem d_Mo_shock_160 : decode b_Mo_shock 160 = .ok (.bipush 10, 2) := by decide +kernel
theorem d_Mo_shock_162 : decode b_Mo_shock 162 = .ok (.if_icmp .ge 17, 3) := by decide +kernel
theorem d_Mo_shock_165 : decode b_Mo_shock 165 = .ok (.aload_n 0, 1) := by decide +kernel
theorem d_Mo_shock_166 : decode b_Mo_shock 166 = .ok (.getfield 96, 3) := by decide +kernel
theorem d_Mo_shock_169 : decode b_Mo_shock 169 = .ok (.iload 13, 2) := by decide +kernel
theorem d_Mo_shock_171 : decode b_Mo_shock 171 = .ok (.iconst 0, 1) := by decide +kernel
theorem d_Mo_shock_172 : decode b_Mo_shock 172 = .ok (.bastore, 1) := by decide +kernel
theorem d_Mo_shock_173 : decode b_Mo_shock 173 = .ok (.iinc 13 1, 3) := by decide +kernel
theorem d_Mo_shock_176 : decode b_Mo_shock 176 = .ok (.goto (-18), 3) := by decide +kernel
theorem d_Mo_shock_179 : decode b_Mo_shock 179 = .ok (.iconst 0, 1) := by decide +kernel
theorem d_Mo_shock_180 : decode b_Mo_shock 180 = .ok (.istore 13, 2) := by decide +kernel
theorem d_Mo_shock_182 : decode b_Mo_shock 182 = .ok (.iload 13, 2) := by decide +kernel
theorem d_Mo_shock_184 : decode b_Mo_shock 184 = .ok (.iload_n 3, 1) := by decide +kernel
theorem d_Mo_shock_185 : decode b_Mo_shock 185 = .ok (.if_icmp .ge 79, 3) := by decide +kernel
theorem d_Mo_shock_188 : decode b_Mo_shock 188 = .ok (.iconst 0, 1) := by decide +kernel
theorem d_Mo_shock_189 : decode b_Mo_shock 189 = .ok (.istore 14, 2) := by decide +kernel
theorem d_Mo_shock_191 : decode b_Mo_shock 191 = .ok (.iload 14, 2) := by decide +kernel
theorem d_Mo_shock_193 : decode b_Mo_shock 193 = .ok (.aload_n 0, 1) := by decide +kernel
theorem d_Mo_shock_194 : decode b_Mo_shock 194 = .ok (.getfield 102, 3) := by decide +kernel
theorem d_Mo_shock_197 : decode b_Mo_shock 197 = .ok (.if_icmp .ge 57, 3) := by decide +kernel
theorem d_Mo_shock_200 : decode b_Mo_shock 200 = .ok (.aload_n 0, 1) := by decide +kernel
theorem d_Mo_shock_201 : decode b_Mo_shock 201 = .ok (.getfield 19, 3) := by decide +kernel
theorem d_Mo_shock_204 : decode b_Mo_shock 204 = .ok (.iload 14, 2) := by decide +kernel
theorem d_Mo_shock_206 : decode b_Mo_shock 206 = .ok (.baload, 1) := by decide +kernel
theorem d_Mo_shock_207 : decode b_Mo_shock 207 = .ok (.ifCond .eq 41, 3) := by decide +kernel
theorem d_Mo_shock_210 : decode b_Mo_shock 210 = .ok (.aload_n 0, 1) := by decide +kernel
theorem d_Mo_shock_211 : decode b_Mo_shock 211 = .ok (.iload 14, 2) := by decide +kernel
theorem d_Mo_shock_213 : decode b_Mo_shock 213 = .ok (.iload_n 2, 1) := by decide +kernel
theorem d_Mo_shock_214 : decode b_Mo_shock 214 = .ok (.invokevirtual 154, 3) := by decide +kernel
theorem d_Mo_shock_217 : decode b_Mo_shock 217 = .ok (.aload_n 0, 1) := by decide +kernel
theorem d_Mo_shock_218 : decode b_Mo_shock 218 = .ok (.getfield 96, 3) := by decide +kernel
theorem d_Mo_shock_221 : decode b_Mo_shock 221 = .ok (.iload 14, 2) := by decide +kernel
theorem d_Mo_shock_223 : decode b_Mo_shock 223 = .ok (.aload_n 0, 1) := by decide +kernel
theorem d_Mo_shock_224 : decode b_Mo_shock 224 = .ok (.getfield 96, 3) := by decide +kernel
theorem d_Mo_shock_227 : decode b_Mo_shock 227 = .ok (.iload 14, 2) := by decide +kernel
theorem d_Mo_shock_229 : decode b_Mo_shock 229 = .ok (.baload, 1) := by decide +kernel
theorem d_Mo_shock_230 : decode b_Mo_shock 230 = .ok (.ifCond .ne 12, 3) := by decide +kernel
theorem d_Mo_shock_233 : decode b_Mo_shock 233 = .ok (.aload_n 0, 1) := by decide +kernel
theorem d_Mo_shock_234 : decode b_Mo_shock 234 = .ok (.getfield 145, 3) := by decide +kernel
theorem d_Mo_shock_237 : decode b_Mo_shock 237 = .ok (.iload 4, 2) := by decide +kernel
theorem d_Mo_shock_239 : decode b_Mo_shock 239 = .ok (.if_icmp .lt 7, 3) := by decide +kernel
theorem d_Mo_shock_242 : decode b_Mo_shock 242 = .ok (.iconst 1, 1) := by decide +kernel
theorem d_Mo_shock_243 : decode b_Mo_shock 243 = .ok (.goto 4, 3) := by decide +kernel
theorem d_Mo_shock_246 : decode b_Mo_shock 246 = .ok (.iconst 0, 1) := by decide +kernel
theorem d_Mo_shock_247 : decode b_Mo_shock 247 = .ok (.bastore, 1) := by decide +kernel
theorem d_Mo_shock_248 : decode b_Mo_shock 248 = .ok (.iinc 14 1, 3) := by decide +kernel
theorem d_Mo_shock_251 : decode b_Mo_shock 251 = .ok (.goto (-60), 3) := by decide +kernel
theorem d_Mo_shock_254 : decode b_Mo_shock 254 = .ok (.aload_n 0, 1) := by decide +kernel
theorem d_Mo_shock_255 : decode b_Mo_shock 255 = .ok (.invokevirtual 171, 3) := by decide +kernel
theorem d_Mo_shock_258 : decode b_Mo_shock 258 = .ok (.iinc 13 1, 3) := by decide +kernel
theorem d_Mo_shock_261 : decode b_Mo_shock 261 = .ok (.goto (-79), 3) := by decide +kernel
theorem d_Mo_shock_264 : decode b_Mo_shock 264 = .ok (.aload_n 0, 1) := by decide +kernel
theorem d_Mo_shock_265 : decode b_Mo_shock 265 = .ok (.iload 12, 2) := by decide +kernel
theorem d_Mo_shock_267 : decode b_Mo_shock 267 = .ok (.putfield 26, 3) := by decide +kernel
theorem d_Mo_shock_270 : decode b_Mo_shock 270 = .ok (.aload_n 0, 1) := by decide +kernel
theorem d_Mo_shock_271 : decode b_Mo_shock 271 = .ok (.lload 6, 2) := by decide +kernel
theorem d_Mo_shock_273 : decode b_Mo_shock 273 = .ok (.putfield 136, 3) := by decide +kernel
theorem d_Mo_shock_276 : decode b_Mo_shock 276 = .ok (.aload_n 0, 1) := by decide +kernel
theorem d_Mo_shock_277 : decode b_Mo_shock 277 = .ok (.lload 8, 2) := by decide +kernel
theorem d_Mo_shock_279 : decode b_Mo_shock 279 = .ok (.putfield 151, 3) := by decide +kernel
theorem d_Mo_shock_282 : decode b_Mo_shock 282 = .ok (.aload_n 0, 1) := by decide +kernel
theorem d_Mo_shock_283 : decode b_Mo_shock 283 = .ok (.lload 10, 2) := by decide +kernel
theorem d_Mo_shock_285 : decode b_Mo_shock 285 = .ok (.putfield 112, 3) := by decide +kernel
theorem d_Mo_shock_288 : decode b_Mo_shock 288 = .ok (.aload_n 0, 1) := by decide +kernel
theorem d_Mo_shock_289 : decode b_Mo_shock 289 = .ok (.aload_n 0, 1) := by decide +kernel
theorem d_Mo_shock_290 : decode b_Mo_shock 290 = .ok (.getfield 81, 3) := by decide +kernel
theorem d_Mo_shock_293 : decode b_Mo_shock 293 = .ok (.aload_n 0, 1) := by decide +kernel
theorem d_Mo_shock_294 : decode b_Mo_shock 294 = .ok (.getfield 33, 3) := by decide +kernel
theorem d_Mo_shock_297 : decode b_Mo_shock 297 = .ok (.invokevirtual 177, 3) := by decide +kernel
theorem d_Mo_shock_300 : decode b_Mo_shock 300 = .ok (.aload_n 0, 1) := by decide +kernel
theorem d_Mo_shock_301 : decode b_Mo_shock 301 = .ok (.aload_n 0, 1) := by decide +kernel
theorem d_Mo_shock_302 : decode b_Mo_shock 302 = .ok (.getfield 84, 3) := by decide +kernel
theorem d_Mo_shock_305 : decode b_Mo_shock 305 = .ok (.aload_n 0, 1) := by decide +kernel
theorem d_Mo_shock_306 : decode b_Mo_shock 306 = .ok (.getfield 36, 3) := by decide +kernel
theorem d_Mo_shock_309 : decode b_Mo_shock 309 = .ok (.invokevirtual 177, 3) := by decide +kernel
theorem d_Mo_shock_312 : decode b_Mo_shock 312 = .ok (.aload_n 0, 1) := by decide +kernel
theorem d_Mo_shock_313 : decode b_Mo_shock 313 = .ok (.aload_n 0, 1) := by decide +kernel
theorem d_Mo_shock_314 : decode b_Mo_shock 314 = .ok (.getfield 87, 3) := by decide +kernel
theorem d_Mo_shock_317 : decode b_Mo_shock 317 = .ok (.aload_n 0, 1) := by decide +kernel
theorem d_Mo_shock_318 : decode b_Mo_shock 318 = .ok (.getfield 39, 3) := by decide +kernel
theorem d_Mo_shock_321 : decode b_Mo_shock 321 = .ok (.invokevirtual 177, 3) := by decide +kernel
theorem d_Mo_shock_324 : decode b_Mo_shock 324 = .ok (.aload_n 0, 1) := by decide +kernel
theorem d_Mo_shock_325 : decode b_Mo_shock 325 = .ok (.aload_n 0, 1) := by decide +kernel
theorem d_Mo_shock_326 : decode b_Mo_shock 326 = .ok (.getfield 90, 3) := by decide +kernel
theorem d_Mo_shock_329 : decode b_Mo_shock 329 = .ok (.aload_n 0, 1) := by decide +kernel
theorem d_Mo_shock_330 : decode b_Mo_shock 330 = .ok (.getfield 42, 3) := by decide +kernel
theorem d_Mo_shock_333 : decode b_Mo_shock 333 = .ok (.invokevirtual 177, 3) := by decide +kernel
theorem d_Mo_shock_336 : decode b_Mo_shock 336 = .ok (.aload_n 0, 1) := by decide +kernel
theorem d_Mo_shock_337 : decode b_Mo_shock 337 = .ok (.aload_n 0, 1) := by decide +kernel
theorem d_Mo_shock_338 : decode b_Mo_shock 338 = .ok (.getfield 93, 3) := by decide +kernel
theorem d_Mo_shock_341 : decode b_Mo_shock 341 = .ok (.aload_n 0, 1) := by decide +kernel
theorem d_Mo_shock_342 : decode b_Mo_shock 342 = .ok (.getfield 45, 3) := by decide +kernel
theorem d_Mo_shock_345 : decode b_Mo_shock 345 = .ok (.invokevirtual 177, 3) := by decide +kernel
theorem d_Mo_shock_348 : decode b_Mo_shock 348 = .ok (.iconst 0, 1) := by decide +kernel
theorem d_Mo_shock_349 : decode b_Mo_shock 349 = .ok (.istore 13, 2) := by decide +kernel
theorem d_Mo_shock_351 : decode b_Mo_shock 351 = .ok (.iconst 0, 1) := by decide +kernel
theorem d_Mo_shock_352 : decode b_Mo_shock 352 = .ok (.istore 14, 2) := by decide +kernel
theorem d_Mo_shock_354 : decode b_Mo_shock 354 = .ok (.iload 14, 2) := by decide +kernel
theorem d_Mo_shock_356 : decode b_Mo_shock 356 = .ok (.aload_n 0, 1) := by decide +kernel
theorem d_Mo_shock_357 : decode b_Mo_shock 357 = .ok (.getfield 102, 3) := by decide +kernel
theorem d_Mo_shock_360 : decode b_Mo_shock 360 = .ok (.if_icmp .ge 66, 3) := by decide +kernel
theorem d_Mo_shock_363 : decode b_Mo_shock 363 = .ok (.aload_n 0, 1) := by decide +kernel
theorem d_Mo_shock_364 : decode b_Mo_shock 364 = .ok (.getfield 19, 3) := by decide +kernel
theorem d_Mo_shock_367 : decode b_Mo_shock 367 = .ok (.iload 14, 2) := by decide +kernel
theorem d_Mo_shock_369 : decode b_Mo_shock 369 = .ok (.baload, 1) := by decide +kernel
theorem d_Mo_shock_370 : decode b_Mo_shock 370 = .ok (.ifCond .eq 17, 3) := by decide +kernel
theorem d_Mo_shock_373 : decode b_Mo_shock 373 = .ok (.aload_n 0, 1) := by decide +kernel
theorem d_Mo_shock_374 : decode b_Mo_shock 374 = .ok (.getfield 96, 3) := by decide +kernel
theorem d_Mo_shock_377 : decode b_Mo_shock 377 = .ok (.iload 14, 2) := by decide +kernel
theorem d_Mo_shock_379 : decode b_Mo_shock 379 = .ok (.baload, 1) := by decide +kernel
theorem d_Mo_shock_380 : decode b_Mo_shock 380 = .ok (.ifCond .ne 7, 3) := by decide +kernel
theorem d_Mo_shock_383 : decode b_Mo_shock 383 = .ok (.iconst 1, 1) := by decide +kernel
theorem d_Mo_shock_384 : decode b_Mo_shock 384 = .ok (.goto 4, 3) := by decide +kernel
theorem d_Mo_shock_387 : decode b_Mo_shock 387 = .ok (.iconst 0, 1) := by decide +kernel
theorem d_Mo_shock_388 : decode b_Mo_shock 388 = .ok (.istore 15, 2) := by decide +kernel
theorem d_Mo_shock_390 : decode b_Mo_shock 390 = .ok (.iload 15, 2) := by decide +kernel
theorem d_Mo_shock_392 : decode b_Mo_shock 392 = .ok (.ifCond .eq 13, 3) := by decide +kernel
theorem d_Mo_shock_395 : decode b_Mo_shock 395 = .ok (.iload 13, 2) := by decide +kernel
theorem d_Mo_shock_397 : decode b_Mo_shock 397 = .ok (.iload 5, 2) := by decide +kernel
theorem d_Mo_shock_399 : decode b_Mo_shock 399 = .ok (.if_icmp .ne 6, 3) := by decide +kernel
theorem d_Mo_shock_402 : decode b_Mo_shock 402 = .ok (.iload 14, 2) := by decide +kernel
theorem d_Mo_shock_404 : decode b_Mo_shock 404 = .ok (.ireturn, 1) := by decide +kernel
theorem d_Mo_shock_405 : decode b_Mo_shock 405 = .ok (.iload 13, 2) := by decide +kernel
theorem d_Mo_shock_407 : decode b_Mo_shock 407 = .ok (.iload 15, 2) := by decide +kernel
theorem d_Mo_shock_409 : decode b_Mo_shock 409 = .ok (.ifCond .eq 7, 3) := by decide +kernel
theorem d_Mo_shock_412 : decode b_Mo_shock 412 = .ok (.iconst 1, 1) := by decide +kernel
theorem d_Mo_shock_413 : decode b_Mo_shock 413 = .ok (.goto 4, 3) := by decide +kernel
theorem d_Mo_shock_416 : decode b_Mo_shock 416 = .ok (.iconst 0, 1) := by decide +kernel
theorem d_Mo_shock_417 : decode b_Mo_shock 417 = .ok (.iadd, 1) := by decide +kernel
theorem d_Mo_shock_418 : decode b_Mo_shock 418 = .ok (.istore 13, 2) := by decide +kernel
theorem d_Mo_shock_420 : decode b_Mo_shock 420 = .ok (.iinc 14 1, 3) := by decide +kernel
theorem d_Mo_shock_423 : decode b_Mo_shock 423 = .ok (.goto (-69), 3) := by decide +kernel
theorem d_Mo_shock_426 : decode b_Mo_shock 426 = .ok (.iconst (-1), 1) := by decide +kernel
theorem d_Mo_shock_427 : decode b_Mo_shock 427 = .ok (.ireturn, 1) := by decide +kernel
end
section
/-! ===== the shapes of the landed class's cells ===== -/
def isP (S : nH) (o cap : Nat) : Prop := S[o]? = some (4, ci_Plugs, [(3, 1), (3, 2), (0, 0)]) ∧ S[o + 1]? = some (0, cap, []) ∧ S[o + 2]? = some (0, cap, []) ∧ cap < 2147483648
def isN (S : nH) (n : Nat) : Prop := S[n]? = some (4, ci_Net, [(3, 1), (3, 2), (3, 3), (3, 4), (3, 5), (0, 0)]) ∧ S[n + 1]? = some (0, 10, []) ∧ S[n + 2]? = some (0, 10, []) ∧ S[n + 3]? = some (0, 10, []) ∧ S[n + 4]? = some (0, 10, []) ∧ S[n + 5]? = some (1, 10, [])
def isD (S : nH) (d : Nat) : Prop := S[d]? = some (4, ci_Draws, [(3, 1), (3, 2), (3, 3), (3, 4), (3, 5), (3, 6), (0, 0)]) ∧ S[d + 1]? = some (0, 60, []) ∧ S[d + 2]? = some (0, 60, []) ∧ S[d + 3]? = some (0, 60, []) ∧ S[d + 4]? = some (0, 60, []) ∧ S[d + 5]? = some (0, 60, []) ∧ S[d + 6]? = some (0, 60, [])
def isW (S : nH) (w nn : Nat) : Prop := S[w]? = some (4, ci_Water, [(2, nn), (3, 1), (3, 2), (3, 5), (3, 8), (3, 11), (3, 12), (3, 13), (0, 0), (0, 0), (0, 0), (1, 0), (1, 0), (1, 0)]) ∧ isN S nn ∧ S[w + 1]? = some (3, 10, [(13, 3), (10, 0)]) ∧ isP S (w + 2) 121 ∧ isP S (w + 5) 121 ∧ isP S (w + 8) 121 ∧ S[w + 11]? = some (0, 10, []) ∧ S[w + 12]? = some (0, 10, []) ∧ S[w + 13]? = some (0, 10, []) ∧ ∀ i, i < 10 → isP S (w + 1 + 13 + 3 * i) 12
theorem isW_net {S : nH} {w nn : Nat} (h : isW S w nn) : isN S nn := h.2.1
theorem isW_rows {S : nH} {w nn : Nat} (h : isW S w nn) : S[w + 1]? = some (3, 10, [(13, 3), (10, 0)]) := h.2.2.1
theorem isW_taken {S : nH} {w nn : Nat} (h : isW S w nn) : isP S (w + 2) 121 := h.2.2.2.1
theorem isW_pushed {S : nH} {w nn : Nat} (h : isW S w nn) : isP S (w + 5) 121 := h.2.2.2.2.1
theorem isW_rest {S : nH} {w nn : Nat} (h : isW S w nn) : isP S (w + 8) 121 := h.2.2.2.2.2.1
theorem isW_way {S : nH} {w nn : Nat} (h : isW S w nn) : S[w + 11]? = some (0, 10, []) := h.2.2.2.2.2.2.1
theorem isW_flow {S : nH} {w nn : Nat} (h : isW S w nn) : S[w + 12]? = some (0, 10, []) := h.2.2.2.2.2.2.2.1
theorem isW_tepid {S : nH} {w nn : Nat} (h : isW S w nn) : S[w + 13]? = some (0, 10, []) := h.2.2.2.2.2.2.2.2.1
theorem isW_row {S : nH} {w nn i : Nat} (h : isW S w nn) (hi : i < 10) : isP S (w + 1 + 13 + 3 * i) 12 := h.2.2.2.2.2.2.2.2.2 i hi
def isH (S : nH) (h : Nat) : Prop := S[h]? = some (4, ci_HL, [(3, 1), (3, 7), (3, 51), (3, 95), (3, 102)]) ∧ isN S (h + 1) ∧ isW S (h + 7) (h + 1) ∧ isW S (h + 51) (h + 1) ∧ isD S (h + 95) ∧ S[h + 102]? = some (1, 10, [])
theorem isH_net {S : nH} {h : Nat} (q : isH S h) : isN S (h + 1) := q.2.1
theorem isH_water {S : nH} {h : Nat} (q : isH S h) : isW S (h + 7) (h + 1) := q.2.2.1
theorem isH_trial {S : nH} {h : Nat} (q : isH S h) : isW S (h + 51) (h + 1) := q.2.2.2.1
theorem isH_draws {S : nH} {h : Nat} (q : isH S h) : isD S (h + 95) := q.2.2.2.2.1
theorem isH_marked {S : nH} {h : Nat} (q : isH S h) : S[h + 102]? = some (1, 10, []) := q.2.2.2.2.2
end
section
def m_Plugs_add (o0 cap0 : Nat) (x1 : Int) (x2 : Int) (N : nS) : Option (Int × nS) :=
  if 1 ≤ x1 then
  if rg (N o0 2) then
  if (N o0 2) ≤ 0 then
  if ((cap0 : Nat) : Int) ≤ (N o0 2) then
  some (0, N)
  else
  if 0 ≤ (N o0 2) ∧ (N o0 2) < ((cap0 : Nat) : Int) then
  nlt (up2 N (o0 + 1) (N o0 2).toNat x1) (fun N6 =>
  if 0 ≤ (N6 o0 2) ∧ (N6 o0 2) < ((cap0 : Nat) : Int) then
  nlt (up2 N6 (o0 + 2) (N6 o0 2).toNat x2) (fun N9 =>
  nlt (up2 N9 o0 2 ((N9 o0 2) + 1)) (fun N11 =>
  some (0, N11)))
  else none)
  else none
  else
  if 0 ≤ ((N o0 2) - 1) ∧ ((N o0 2) - 1) < ((cap0 : Nat) : Int) then
  if rg (N (o0 + 2) ((N o0 2) - 1).toNat) then
  if (N (o0 + 2) ((N o0 2) - 1).toNat) = x2 then
  nlt (up2 N (o0 + 1) ((N o0 2) - 1).toNat ((N (o0 + 1) ((N o0 2) - 1).toNat) + x1)) (fun N25 =>
  some (0, N25))
  else
  if ((cap0 : Nat) : Int) ≤ (N o0 2) then
  some (0, N)
  else
  if 0 ≤ (N o0 2) ∧ (N o0 2) < ((cap0 : Nat) : Int) then
  nlt (up2 N (o0 + 1) (N o0 2).toNat x1) (fun N18 =>
  if 0 ≤ (N18 o0 2) ∧ (N18 o0 2) < ((cap0 : Nat) : Int) then
  nlt (up2 N18 (o0 + 2) (N18 o0 2).toNat x2) (fun N21 =>
  nlt (up2 N21 o0 2 ((N21 o0 2) + 1)) (fun N23 =>
  some (0, N23)))
  else none)
  else none
  else none
  else none
  else none
  else
  some (0, N)
set_option maxRecDepth 20000 in
theorem k_0 : Cond.fieldLink R_Plugs 24 (T_Plugs 2).1 (T_Plugs 2).2.1 (T_Plugs 2).2.2.1 ∈ TT := tt_i 100 (by decide +kernel) (by decide +kernel)
set_option maxRecDepth 20000 in
theorem k_1 : Cond.fieldLink R_Plugs 15 (T_Plugs 0).1 (T_Plugs 0).2.1 (T_Plugs 0).2.2.1 ∈ TT := tt_i 94 (by decide +kernel) (by decide +kernel)
set_option maxRecDepth 20000 in
theorem k_2 : Cond.fieldLink R_Plugs 21 (T_Plugs 1).1 (T_Plugs 1).2.1 (T_Plugs 1).2.2.1 ∈ TT := tt_i 97 (by decide +kernel) (by decide +kernel)
abbrev rm_Plugs_add : Room := { frames := 0, cells := 0, slots := 0, locals := 0 }
set_option maxRecDepth 100000 in
set_option maxHeartbeats 4000000 in
theorem c_Plugs_add (l : Launch) {D : va_G} {ct : Nat → ClassId} {A : Nat → Prop} {ad : Nat → Nat} {S : nH} (hD : nD ad A S.length) (o0 cap0 : Nat) (hp0 : isP S o0 cap0) (x1 : Int) (hx1 : rg x1) (x2 : Int) (hx2 : rg x2) (N : nS) (r : Int) (No : nS) (hm : m_Plugs_add o0 cap0 x1 x2 N = some (r, No)) : nM l y_Plugs_add (Cond.code y_Plugs_add b_Plugs_add 3 none :: TT) rm_Plugs_add D vwCl ct A ad S N [.ref (ad o0), .int (iI x1), .int (iI x2)] (nQv D vwCl ct A ad S No) := by
  refine nM_of (cc := b_Plugs_add) (maxL := 3) (ret := none) (by decide) rfl (Nat.le_of_ble_eq_true rfl) hD ?_
  intro p e s m below meth c hC hr hlk
  refine nv_lv (lv' := [(0, .ref (ad o0)), (1, .int (iI x1)), (2, .int (iI x2))]) rfl ?_
  rw [m_Plugs_add] at hm
  refine nv_iload_n hC d_Plugs_add_0 rfl 1 rfl ?_
  refine nv_iconst hC d_Plugs_add_1 ?_
  refine nv_icmp_ge hC hx1 ⟨by decide, by decide⟩ d_Plugs_add_2 (tgt := 6) (by decide) (fun c1 => ?_) (fun c1 => ?_)
  · have hm := if_t c1 hm
    refine nv_aload_n hC d_Plugs_add_6 rfl 0 rfl ?_
    refine nv_getI hC (j := 2) hp0.1 rfl in_Plugs (by decide) k_0 rfl d_Plugs_add_7 ?_
    obtain ⟨hr2, hm⟩ := ck_s hm
    refine nv_if_le hC hr2 d_Plugs_add_10 (tgt := 46) (by decide) (fun c3 => ?_) (fun c3 => ?_)
    · have hm := if_t c3 hm
      refine nv_aload_n hC d_Plugs_add_46 rfl 0 rfl ?_
      refine nv_getI hC (j := 2) hp0.1 rfl in_Plugs (by decide) k_0 rfl d_Plugs_add_47 ?_
      refine nv_aload_n hC d_Plugs_add_50 rfl 0 rfl ?_
      refine nv_getR hC (j := 0) hp0.1 rfl in_Plugs (by decide) k_1 rfl d_Plugs_add_51 ?_
      refine nv_alen0 hC hp0.2.1 d_Plugs_add_54 ?_
      refine nv_icmp_ge hC hr2 (rg_n hp0.2.2.2) d_Plugs_add_55 (tgt := 88) (by decide) (fun c4 => ?_) (fun c4 => ?_)
      · have hm := if_t c4 hm
        obtain ⟨rfl, rfl⟩ := ret_s hm
        exact nv_vret hC hr hlk d_Plugs_add_88
      · have hm := if_f c4 hm
        refine nv_aload_n hC d_Plugs_add_58 rfl 0 rfl ?_
        refine nv_getR hC (j := 0) hp0.1 rfl in_Plugs (by decide) k_1 rfl d_Plugs_add_59 ?_
        refine nv_aload_n hC d_Plugs_add_62 rfl 0 rfl ?_
        refine nv_getI hC (j := 2) hp0.1 rfl in_Plugs (by decide) k_0 rfl d_Plugs_add_63 ?_
        refine nv_iload_n hC d_Plugs_add_66 rfl 1 rfl ?_
        obtain ⟨hc5, hm⟩ := ck_s hm
        obtain ⟨N6, e7, hm⟩ := nlt_s hm
        refine nv_iast hC hp0.2.1 hp0.2.2.2 hc5 e7 d_Plugs_add_67 ?_
        refine nv_aload_n hC d_Plugs_add_68 rfl 0 rfl ?_
        refine nv_getR hC (j := 1) hp0.1 rfl in_Plugs (by decide) k_2 rfl d_Plugs_add_69 ?_
        refine nv_aload_n hC d_Plugs_add_72 rfl 0 rfl ?_
        refine nv_getI hC (j := 2) hp0.1 rfl in_Plugs (by decide) k_0 rfl d_Plugs_add_73 ?_
        refine nv_iload_n hC d_Plugs_add_76 rfl 2 rfl ?_
        obtain ⟨hc8, hm⟩ := ck_s hm
        obtain ⟨N9, e10, hm⟩ := nlt_s hm
        refine nv_iast hC hp0.2.2.1 hp0.2.2.2 hc8 e10 d_Plugs_add_77 ?_
        refine nv_aload_n hC d_Plugs_add_78 rfl 0 rfl ?_
        refine nv_dup hC d_Plugs_add_79 rfl ?_
        refine nv_getI hC (j := 2) hp0.1 rfl in_Plugs (by decide) k_0 rfl d_Plugs_add_80 ?_
        refine nv_iconst hC d_Plugs_add_83 ?_
        refine nv_iadd hC d_Plugs_add_84 ?_
        obtain ⟨N11, e12, hm⟩ := nlt_s hm
        refine nv_putI hC (j := 2) hp0.1 rfl in_Plugs (by decide) ty_Plugs tyok_Plugs nm_Plugs k_0 rfl rfl (by decide +kernel) e12 d_Plugs_add_85 ?_
        obtain ⟨rfl, rfl⟩ := ret_s hm
        exact nv_vret hC hr hlk d_Plugs_add_88
    · have hm := if_f c3 hm
      refine nv_aload_n hC d_Plugs_add_13 rfl 0 rfl ?_
      refine nv_getR hC (j := 1) hp0.1 rfl in_Plugs (by decide) k_2 rfl d_Plugs_add_14 ?_
      refine nv_aload_n hC d_Plugs_add_17 rfl 0 rfl ?_
      refine nv_getI hC (j := 2) hp0.1 rfl in_Plugs (by decide) k_0 rfl d_Plugs_add_18 ?_
      refine nv_iconst hC d_Plugs_add_21 ?_
      refine nv_isub hC d_Plugs_add_22 ?_
      obtain ⟨hc13, hm⟩ := ck_s hm
      refine nv_iald hC hp0.2.2.1 hp0.2.2.2 hc13 d_Plugs_add_23 ?_
      refine nv_iload_n hC d_Plugs_add_24 rfl 2 rfl ?_
      obtain ⟨hr14, hm⟩ := ck_s hm
      refine nv_icmp_ne hC hr14 hx2 d_Plugs_add_25 (tgt := 46) (by decide) (fun c15 => ?_) (fun c15 => ?_)
      · have hm := if_f c15 hm
        refine nv_aload_n hC d_Plugs_add_46 rfl 0 rfl ?_
        refine nv_getI hC (j := 2) hp0.1 rfl in_Plugs (by decide) k_0 rfl d_Plugs_add_47 ?_
        refine nv_aload_n hC d_Plugs_add_50 rfl 0 rfl ?_
        refine nv_getR hC (j := 0) hp0.1 rfl in_Plugs (by decide) k_1 rfl d_Plugs_add_51 ?_
        refine nv_alen0 hC hp0.2.1 d_Plugs_add_54 ?_
        refine nv_icmp_ge hC hr2 (rg_n hp0.2.2.2) d_Plugs_add_55 (tgt := 88) (by decide) (fun c16 => ?_) (fun c16 => ?_)
        · have hm := if_t c16 hm
          obtain ⟨rfl, rfl⟩ := ret_s hm
          exact nv_vret hC hr hlk d_Plugs_add_88
        · have hm := if_f c16 hm
          refine nv_aload_n hC d_Plugs_add_58 rfl 0 rfl ?_
          refine nv_getR hC (j := 0) hp0.1 rfl in_Plugs (by decide) k_1 rfl d_Plugs_add_59 ?_
          refine nv_aload_n hC d_Plugs_add_62 rfl 0 rfl ?_
          refine nv_getI hC (j := 2) hp0.1 rfl in_Plugs (by decide) k_0 rfl d_Plugs_add_63 ?_
          refine nv_iload_n hC d_Plugs_add_66 rfl 1 rfl ?_
          obtain ⟨hc17, hm⟩ := ck_s hm
          obtain ⟨N18, e19, hm⟩ := nlt_s hm
          refine nv_iast hC hp0.2.1 hp0.2.2.2 hc17 e19 d_Plugs_add_67 ?_
          refine nv_aload_n hC d_Plugs_add_68 rfl 0 rfl ?_
          refine nv_getR hC (j := 1) hp0.1 rfl in_Plugs (by decide) k_2 rfl d_Plugs_add_69 ?_
          refine nv_aload_n hC d_Plugs_add_72 rfl 0 rfl ?_
          refine nv_getI hC (j := 2) hp0.1 rfl in_Plugs (by decide) k_0 rfl d_Plugs_add_73 ?_
          refine nv_iload_n hC d_Plugs_add_76 rfl 2 rfl ?_
          obtain ⟨hc20, hm⟩ := ck_s hm
          obtain ⟨N21, e22, hm⟩ := nlt_s hm
          refine nv_iast hC hp0.2.2.1 hp0.2.2.2 hc20 e22 d_Plugs_add_77 ?_
          refine nv_aload_n hC d_Plugs_add_78 rfl 0 rfl ?_
          refine nv_dup hC d_Plugs_add_79 rfl ?_
          refine nv_getI hC (j := 2) hp0.1 rfl in_Plugs (by decide) k_0 rfl d_Plugs_add_80 ?_
          refine nv_iconst hC d_Plugs_add_83 ?_
          refine nv_iadd hC d_Plugs_add_84 ?_
          obtain ⟨N23, e24, hm⟩ := nlt_s hm
          refine nv_putI hC (j := 2) hp0.1 rfl in_Plugs (by decide) ty_Plugs tyok_Plugs nm_Plugs k_0 rfl rfl (by decide +kernel) e24 d_Plugs_add_85 ?_
          obtain ⟨rfl, rfl⟩ := ret_s hm
          exact nv_vret hC hr hlk d_Plugs_add_88
      · have hm := if_t c15 hm
        refine nv_aload_n hC d_Plugs_add_28 rfl 0 rfl ?_
        refine nv_getR hC (j := 0) hp0.1 rfl in_Plugs (by decide) k_1 rfl d_Plugs_add_29 ?_
        refine nv_aload_n hC d_Plugs_add_32 rfl 0 rfl ?_
        refine nv_getI hC (j := 2) hp0.1 rfl in_Plugs (by decide) k_0 rfl d_Plugs_add_33 ?_
        refine nv_iconst hC d_Plugs_add_36 ?_
        refine nv_isub hC d_Plugs_add_37 ?_
        refine nv_dup2_11 hC d_Plugs_add_38 rfl rfl ?_
        refine nv_iald hC hp0.2.1 hp0.2.2.2 hc13 d_Plugs_add_39 ?_
        refine nv_iload_n hC d_Plugs_add_40 rfl 1 rfl ?_
        refine nv_iadd hC d_Plugs_add_41 ?_
        obtain ⟨N25, e26, hm⟩ := nlt_s hm
        refine nv_iast hC hp0.2.1 hp0.2.2.2 hc13 e26 d_Plugs_add_42 ?_
        refine nv_goto hC d_Plugs_add_43 (tgt := 88) (by decide) ?_
        obtain ⟨rfl, rfl⟩ := ret_s hm
        exact nv_vret hC hr hlk d_Plugs_add_88
  · have hm := if_f c1 hm
    obtain ⟨rfl, rfl⟩ := ret_s hm
    exact nv_vret hC hr hlk d_Plugs_add_5
def m_Plugs_addAll_2 (o0 cap0 : Nat) (o1 cap1 : Nat) : Nat → Int → nS → Option ((Int) × nS)
  | 0, _, _ => none
  | f + 1, x2, N =>
    if rg (N o1 2) then
    if (N o1 2) ≤ x2 then
    some (x2, N)
    else
    if 0 ≤ x2 ∧ x2 < ((cap1 : Nat) : Int) then
    if rg (N (o1 + 1) x2.toNat) then
    if rg (N (o1 + 2) x2.toNat) then
    nbd (m_Plugs_add o0 cap0 (N (o1 + 1) x2.toNat) (N (o1 + 2) x2.toNat) N) (fun r6 N7 =>
    if rg (x2 + 1) then
    m_Plugs_addAll_2 o0 cap0 o1 cap1 f (x2 + 1) N7
    else none)
    else none
    else none
    else none
    else none
def m_Plugs_addAll (o0 cap0 : Nat) (o1 cap1 : Nat) (N : nS) : Option (Int × nS) :=
  nbd (m_Plugs_addAll_2 o0 cap0 o1 cap1 FU 0 N) (fun q10 N11 =>
  some (0, N11))
set_option maxRecDepth 20000 in
theorem k_3 : Cond.methodLink R_Plugs 28 y_Plugs_add ∈ TT := tt_i 404 (by decide +kernel) (by decide +kernel)
set_option maxRecDepth 20000 in
theorem k_4 : Cond.code y_Plugs_add b_Plugs_add 3 none ∈ TT := tt_i 327 (by decide +kernel) (by decide +kernel)
set_option maxRecDepth 20000 in
theorem k_5 : Cond.instanceMethod y_Plugs_add ∈ TT := tt_i 325 (by decide +kernel) (by decide +kernel)
set_option maxRecDepth 20000 in
theorem k_6 : Cond.selects R_Plugs y_Plugs_add y_Plugs_add ∈ TT := tt_i 326 (by decide +kernel) (by decide +kernel)
set_option maxRecDepth 20000 in
theorem k_7 : Cond.initialized R_Plugs ∈ TT := tt_i 26 (by decide +kernel) (by decide +kernel)
abbrev rm_Plugs_addAll : Room := { frames := 1, cells := 0, slots := 0, locals := 22 }
set_option maxRecDepth 100000 in
set_option maxHeartbeats 4000000 in
theorem w_Plugs_addAll_2 {p : Program} {l : Launch} {e : Env} {s : State} {m : MethodId} {args : Array Value} {below : List Frame} {meth : Method} {c : Code} {Q : State → Prop} {D : va_G} {ct : Nat → ClassId} {A : Nat → Prop} {ad : Nat → Nat} {S : nH} (hC : nC p s m args c D vwCl ct A ad S 3 b_Plugs_addAll R_Plugs TT) (o0 cap0 : Nat) (hp0 : isP S o0 cap0) (o1 cap1 : Nat) (hp1 : isP S o1 cap1) : ∀ (f : Nat) (x2 : Int) (N : nS) (q : Int) (No : nS), m_Plugs_addAll_2 o0 cap0 o1 cap1 f x2 N = some (q, No) → rg x2 → nV p l e rm_Plugs_addAll s m args below meth c 0 0 Q D vwCl ct A ad S 3 No 32 [(0, .ref (ad o0)), (1, .ref (ad o1)), (2, .int (iI q))] [] → nV p l e rm_Plugs_addAll s m args below meth c 0 0 Q D vwCl ct A ad S 3 N 2 [(0, .ref (ad o0)), (1, .ref (ad o1)), (2, .int (iI x2))] [] := by
  intro f
  induction f with
  | zero =>
    intro x2 N q No hm
    rw [m_Plugs_addAll_2] at hm
    cases hm
  | succ f ih =>
    intro x2 N q No hm hx2 kx
    rw [m_Plugs_addAll_2] at hm
    refine nv_iload_n hC d_Plugs_addAll_2 rfl 2 rfl ?_
    refine nv_aload_n hC d_Plugs_addAll_3 rfl 1 rfl ?_
    refine nv_getI hC (j := 2) hp1.1 rfl in_Plugs (by decide) k_0 rfl d_Plugs_addAll_4 ?_
    obtain ⟨hr1, hm⟩ := ck_s hm
    refine nv_icmp_ge hC hx2 hr1 d_Plugs_addAll_7 (tgt := 32) (by decide) (fun c2 => ?_) (fun c2 => ?_)
    · have hm := if_t c2 hm
      obtain ⟨rfl, rfl⟩ := ret_s hm
      refine nv_sub (lv' := [(0, .ref (ad o0)), (1, .ref (ad o1)), (2, .int (iI x2))]) [0, 1, 2] rfl ?_
      exact kx
    · have hm := if_f c2 hm
      refine nv_aload_n hC d_Plugs_addAll_10 rfl 0 rfl ?_
      refine nv_aload_n hC d_Plugs_addAll_11 rfl 1 rfl ?_
      refine nv_getR hC (j := 0) hp1.1 rfl in_Plugs (by decide) k_1 rfl d_Plugs_addAll_12 ?_
      refine nv_iload_n hC d_Plugs_addAll_15 rfl 2 rfl ?_
      obtain ⟨hc3, hm⟩ := ck_s hm
      refine nv_iald hC hp1.2.1 hp1.2.2.2 hc3 d_Plugs_addAll_16 ?_
      refine nv_aload_n hC d_Plugs_addAll_17 rfl 1 rfl ?_
      refine nv_getR hC (j := 1) hp1.1 rfl in_Plugs (by decide) k_2 rfl d_Plugs_addAll_18 ?_
      refine nv_iload_n hC d_Plugs_addAll_21 rfl 2 rfl ?_
      refine nv_iald hC hp1.2.2.1 hp1.2.2.2 hc3 d_Plugs_addAll_22 ?_
      obtain ⟨hr4, hm⟩ := ck_s hm
      obtain ⟨hr5, hm⟩ := ck_s hm
      obtain ⟨r6, N7, hq8, hm⟩ := nbd_s hm
      refine nv_callv (N' := N7) (nr_V hC (As := [.int (iI (N (o1 + 1) x2.toNat)), .int (iI (N (o1 + 2) x2.toNat))]) (st := []) hp0.1 rfl (c_Plugs_add l hC.2.2.1 o0 cap0 hp0 (N (o1 + 1) x2.toNat) hr4 (N (o1 + 2) x2.toNat) hr5 N r6 N7 hq8) (cwV 2 hC.1.2.2.2.2 (tt_V k_3 k_5 k_6 k_7 k_4) rfl rfl rfl (by decide +kernel) ⟨Nat.le_of_ble_eq_true rfl, Nat.le_of_ble_eq_true rfl⟩) rfl rfl (Nat.le_of_ble_eq_true rfl) ⟨Nat.zero_le _, Nat.zero_le _⟩ d_Plugs_addAll_23) ?_
      refine nv_iinc (lv' := [(2, .int (iI (x2 + 1))), (0, .ref (ad o0)), (1, .ref (ad o1))]) hC d_Plugs_addAll_26 2 rfl (by decide) rfl ?_
      refine nv_goto hC d_Plugs_addAll_29 (tgt := 2) (by decide) ?_
      obtain ⟨hr9, hm⟩ := ck_s hm
      refine nv_sub (lv' := [(0, .ref (ad o0)), (1, .ref (ad o1)), (2, .int (iI (x2 + 1)))]) [1, 2, 0] rfl ?_
      exact ih (x2 + 1) N7 q No hm hr9 kx
set_option maxRecDepth 100000 in
set_option maxHeartbeats 4000000 in
theorem c_Plugs_addAll (l : Launch) {D : va_G} {ct : Nat → ClassId} {A : Nat → Prop} {ad : Nat → Nat} {S : nH} (hD : nD ad A S.length) (o0 cap0 : Nat) (hp0 : isP S o0 cap0) (o1 cap1 : Nat) (hp1 : isP S o1 cap1) (N : nS) (r : Int) (No : nS) (hm : m_Plugs_addAll o0 cap0 o1 cap1 N = some (r, No)) : nM l y_Plugs_addAll (Cond.code y_Plugs_addAll b_Plugs_addAll 3 none :: TT) rm_Plugs_addAll D vwCl ct A ad S N [.ref (ad o0), .ref (ad o1)] (nQv D vwCl ct A ad S No) := by
  refine nM_of (cc := b_Plugs_addAll) (maxL := 3) (ret := none) (by decide) rfl (Nat.le_of_ble_eq_true rfl) hD ?_
  intro p e s m below meth c hC hr hlk
  refine nv_lv (lv' := [(0, .ref (ad o0)), (1, .ref (ad o1))]) rfl ?_
  rw [m_Plugs_addAll] at hm
  refine nv_iconst hC d_Plugs_addAll_0 ?_
  refine nv_istore_n (lv' := [(2, .int (iI 0)), (0, .ref (ad o0)), (1, .ref (ad o1))]) hC d_Plugs_addAll_1 rfl (by decide) rfl ?_
  obtain ⟨q10, N11, hq12, hm⟩ := nbd_s hm
  refine nv_sub (lv' := [(0, .ref (ad o0)), (1, .ref (ad o1)), (2, .int (iI 0))]) [1, 2, 0] rfl ?_
  refine w_Plugs_addAll_2 hC o0 cap0 hp0 o1 cap1 hp1 FU 0 N q10 N11 hq12 ⟨by decide, by decide⟩ ?_
  obtain ⟨rfl, rfl⟩ := ret_s hm
  exact nv_vret hC hr hlk d_Plugs_addAll_32
def m_Plugs_clear (o0 cap0 : Nat) (N : nS) : Option (Int × nS) :=
  nlt (up2 N o0 2 0) (fun N1 =>
  some (0, N1))
abbrev rm_Plugs_clear : Room := { frames := 0, cells := 0, slots := 0, locals := 0 }
set_option maxRecDepth 100000 in
set_option maxHeartbeats 4000000 in
theorem c_Plugs_clear (l : Launch) {D : va_G} {ct : Nat → ClassId} {A : Nat → Prop} {ad : Nat → Nat} {S : nH} (hD : nD ad A S.length) (o0 cap0 : Nat) (hp0 : isP S o0 cap0) (N : nS) (r : Int) (No : nS) (hm : m_Plugs_clear o0 cap0 N = some (r, No)) : nM l y_Plugs_clear (Cond.code y_Plugs_clear b_Plugs_clear 1 none :: TT) rm_Plugs_clear D vwCl ct A ad S N [.ref (ad o0)] (nQv D vwCl ct A ad S No) := by
  refine nM_of (cc := b_Plugs_clear) (maxL := 1) (ret := none) (by decide) rfl (Nat.le_of_ble_eq_true rfl) hD ?_
  intro p e s m below meth c hC hr hlk
  refine nv_lv (lv' := [(0, .ref (ad o0))]) rfl ?_
  rw [m_Plugs_clear] at hm
  refine nv_aload_n hC d_Plugs_clear_0 rfl 0 rfl ?_
  refine nv_iconst hC d_Plugs_clear_1 ?_
  obtain ⟨N1, e2, hm⟩ := nlt_s hm
  refine nv_putI hC (j := 2) hp0.1 rfl in_Plugs (by decide) ty_Plugs tyok_Plugs nm_Plugs k_0 rfl rfl (by decide +kernel) e2 d_Plugs_clear_2 ?_
  obtain ⟨rfl, rfl⟩ := ret_s hm
  exact nv_vret hC hr hlk d_Plugs_clear_5
def m_Plugs_split_14 (o0 cap0 : Nat) (x1 : Int) (o2 cap2 : Nat) (o3 cap3 : Nat) : Nat → Int → Int → nS → Option ((Int × Int) × nS)
  | 0, _, _, _ => none
  | f + 1, x4, x5, N =>
    if rg (N o0 2) then
    if (N o0 2) ≤ x5 then
    some ((x4, x5), N)
    else
    if 0 ≤ x5 ∧ x5 < ((cap0 : Nat) : Int) then
    if rg (N (o0 + 1) x5.toNat) then
    if rg (N (o0 + 2) x5.toNat) then
    nbd (m_Plugs_add o2 cap2 (if (N (o0 + 1) x5.toNat) < x4 then (N (o0 + 1) x5.toNat) else x4) (N (o0 + 2) x5.toNat) N) (fun r12 N13 =>
    if rg ((N13 (o0 + 1) x5.toNat) - (if (N (o0 + 1) x5.toNat) < x4 then (N (o0 + 1) x5.toNat) else x4)) then
    if rg (N13 (o0 + 2) x5.toNat) then
    nbd (m_Plugs_add o3 cap3 ((N13 (o0 + 1) x5.toNat) - (if (N (o0 + 1) x5.toNat) < x4 then (N (o0 + 1) x5.toNat) else x4)) (N13 (o0 + 2) x5.toNat) N13) (fun r17 N18 =>
    if rg (x4 - (if (N (o0 + 1) x5.toNat) < x4 then (N (o0 + 1) x5.toNat) else x4)) then
    if rg (x5 + 1) then
    m_Plugs_split_14 o0 cap0 x1 o2 cap2 o3 cap3 f (x4 - (if (N (o0 + 1) x5.toNat) < x4 then (N (o0 + 1) x5.toNat) else x4)) (x5 + 1) N18
    else none
    else none)
    else none
    else none)
    else none
    else none
    else none
    else none
def m_Plugs_split (o0 cap0 : Nat) (x1 : Int) (o2 cap2 : Nat) (o3 cap3 : Nat) (N : nS) : Option (Int × nS) :=
  nbd (m_Plugs_clear o2 cap2 N) (fun r1 N2 =>
  nbd (m_Plugs_clear o3 cap3 N2) (fun r4 N5 =>
  nbd (m_Plugs_split_14 o0 cap0 x1 o2 cap2 o3 cap3 FU x1 0 N5) (fun q22 N23 =>
  some (0, N23))))
set_option maxRecDepth 20000 in
theorem k_8 : Cond.methodLink R_Plugs 32 y_Plugs_clear ∈ TT := tt_i 409 (by decide +kernel) (by decide +kernel)
set_option maxRecDepth 20000 in
theorem k_9 : Cond.code y_Plugs_clear b_Plugs_clear 1 none ∈ TT := tt_i 323 (by decide +kernel) (by decide +kernel)
set_option maxRecDepth 20000 in
theorem k_10 : Cond.instanceMethod y_Plugs_clear ∈ TT := tt_i 321 (by decide +kernel) (by decide +kernel)
set_option maxRecDepth 20000 in
theorem k_11 : Cond.selects R_Plugs y_Plugs_clear y_Plugs_clear ∈ TT := tt_i 322 (by decide +kernel) (by decide +kernel)
set_option maxRecDepth 20000 in
theorem k_12 : Cond.methodLink R_Plugs 35 Lib.Math.min.name ∈ TT := tt_i 410 (by decide +kernel) (by decide +kernel)
set_option maxRecDepth 20000 in
theorem k_13 : Cond.static Lib.Math.min.name ∈ TT := tt_i 411 (by decide +kernel) (by decide +kernel)
set_option maxRecDepth 20000 in
theorem k_14 : Cond.initialized "java/lang/Math" ∈ TT := tt_i 27 (by decide +kernel) (by decide +kernel)
set_option maxRecDepth 20000 in
theorem k_15 : Cond.code Lib.Math.min.name Lib.Math.min.code 2 (some .int) ∈ TT := tt_i 412 (by decide +kernel) (by decide +kernel)
abbrev rm_Plugs_split : Room := { frames := 1, cells := 0, slots := 0, locals := 24 }
set_option maxRecDepth 100000 in
set_option maxHeartbeats 4000000 in
theorem w_Plugs_split_14 {p : Program} {l : Launch} {e : Env} {s : State} {m : MethodId} {args : Array Value} {below : List Frame} {meth : Method} {c : Code} {Q : State → Prop} {D : va_G} {ct : Nat → ClassId} {A : Nat → Prop} {ad : Nat → Nat} {S : nH} (hC : nC p s m args c D vwCl ct A ad S 7 b_Plugs_split R_Plugs TT) (o0 cap0 : Nat) (hp0 : isP S o0 cap0) (x1 : Int) (hx1 : rg x1) (o2 cap2 : Nat) (hp2 : isP S o2 cap2) (o3 cap3 : Nat) (hp3 : isP S o3 cap3) : ∀ (f : Nat) (x4 x5 : Int) (N : nS) (q : Int × Int) (No : nS), m_Plugs_split_14 o0 cap0 x1 o2 cap2 o3 cap3 f x4 x5 N = some (q, No) → rg x4 → rg x5 → nV p l e rm_Plugs_split s m args below meth c 0 0 Q D vwCl ct A ad S 7 No 84 [(0, .ref (ad o0)), (1, .int (iI x1)), (2, .ref (ad o2)), (3, .ref (ad o3)), (4, .int (iI q.1)), (5, .int (iI q.2))] [] → nV p l e rm_Plugs_split s m args below meth c 0 0 Q D vwCl ct A ad S 7 N 14 [(0, .ref (ad o0)), (1, .int (iI x1)), (2, .ref (ad o2)), (3, .ref (ad o3)), (4, .int (iI x4)), (5, .int (iI x5))] [] := by
  intro f
  induction f with
  | zero =>
    intro x4 x5 N q No hm
    rw [m_Plugs_split_14] at hm
    cases hm
  | succ f ih =>
    intro x4 x5 N q No hm hx4 hx5 kx
    rw [m_Plugs_split_14] at hm
    refine nv_iload hC d_Plugs_split_14 5 rfl ?_
    refine nv_aload_n hC d_Plugs_split_16 rfl 0 rfl ?_
    refine nv_getI hC (j := 2) hp0.1 rfl in_Plugs (by decide) k_0 rfl d_Plugs_split_17 ?_
    obtain ⟨hr7, hm⟩ := ck_s hm
    refine nv_icmp_ge hC hx5 hr7 d_Plugs_split_20 (tgt := 84) (by decide) (fun c8 => ?_) (fun c8 => ?_)
    · have hm := if_t c8 hm
      obtain ⟨rfl, rfl⟩ := ret_s hm
      refine nv_sub (lv' := [(0, .ref (ad o0)), (1, .int (iI x1)), (2, .ref (ad o2)), (3, .ref (ad o3)), (4, .int (iI x4)), (5, .int (iI x5))]) [0, 1, 2, 3, 4, 5] rfl ?_
      exact kx
    · have hm := if_f c8 hm
      refine nv_iload hC d_Plugs_split_23 4 rfl ?_
      refine nv_aload_n hC d_Plugs_split_25 rfl 0 rfl ?_
      refine nv_getR hC (j := 0) hp0.1 rfl in_Plugs (by decide) k_1 rfl d_Plugs_split_26 ?_
      refine nv_iload hC d_Plugs_split_29 5 rfl ?_
      obtain ⟨hc9, hm⟩ := ck_s hm
      refine nv_iald hC hp0.2.1 hp0.2.2.2 hc9 d_Plugs_split_31 ?_
      obtain ⟨hr10, hm⟩ := ck_s hm
      refine nv_mmin hC k_12 k_13 k_14 k_15 (Nat.le_of_ble_eq_true rfl) (Nat.le_of_ble_eq_true rfl) (Nat.zero_le _) (Nat.zero_le _) hx4 hr10 d_Plugs_split_32 ?_
      refine nv_istore (lv' := [(6, .int (iI (if (N (o0 + 1) x5.toNat) < x4 then (N (o0 + 1) x5.toNat) else x4))), (0, .ref (ad o0)), (1, .int (iI x1)), (2, .ref (ad o2)), (3, .ref (ad o3)), (4, .int (iI x4)), (5, .int (iI x5))]) hC d_Plugs_split_35 (by decide) rfl ?_
      refine nv_aload_n hC d_Plugs_split_37 rfl 3 rfl ?_
      refine nv_iload hC d_Plugs_split_38 0 rfl ?_
      refine nv_aload_n hC d_Plugs_split_40 rfl 1 rfl ?_
      refine nv_getR hC (j := 1) hp0.1 rfl in_Plugs (by decide) k_2 rfl d_Plugs_split_41 ?_
      refine nv_iload hC d_Plugs_split_44 6 rfl ?_
      refine nv_iald hC hp0.2.2.1 hp0.2.2.2 hc9 d_Plugs_split_46 ?_
      obtain ⟨hr11, hm⟩ := ck_s hm
      obtain ⟨r12, N13, hq14, hm⟩ := nbd_s hm
      refine nv_callv (N' := N13) (nr_V hC (As := [.int (iI (if (N (o0 + 1) x5.toNat) < x4 then (N (o0 + 1) x5.toNat) else x4)), .int (iI (N (o0 + 2) x5.toNat))]) (st := []) hp2.1 rfl (c_Plugs_add l hC.2.2.1 o2 cap2 hp2 (if (N (o0 + 1) x5.toNat) < x4 then (N (o0 + 1) x5.toNat) else x4) (rg_min hx4 hr10) (N (o0 + 2) x5.toNat) hr11 N r12 N13 hq14) (cwV 2 hC.1.2.2.2.2 (tt_V k_3 k_5 k_6 k_7 k_4) rfl rfl rfl (by decide +kernel) ⟨Nat.le_of_ble_eq_true rfl, Nat.le_of_ble_eq_true rfl⟩) rfl rfl (Nat.le_of_ble_eq_true rfl) ⟨Nat.zero_le _, Nat.zero_le _⟩ d_Plugs_split_47) ?_
      refine nv_aload_n hC d_Plugs_split_50 rfl 4 rfl ?_
      refine nv_aload_n hC d_Plugs_split_51 rfl 1 rfl ?_
      refine nv_getR hC (j := 0) hp0.1 rfl in_Plugs (by decide) k_1 rfl d_Plugs_split_52 ?_
      refine nv_iload hC d_Plugs_split_55 6 rfl ?_
      refine nv_iald hC hp0.2.1 hp0.2.2.2 hc9 d_Plugs_split_57 ?_
      refine nv_iload hC d_Plugs_split_58 0 rfl ?_
      refine nv_isub hC d_Plugs_split_60 ?_
      refine nv_aload_n hC d_Plugs_split_61 rfl 1 rfl ?_
      refine nv_getR hC (j := 1) hp0.1 rfl in_Plugs (by decide) k_2 rfl d_Plugs_split_62 ?_
      refine nv_iload hC d_Plugs_split_65 6 rfl ?_
      refine nv_iald hC hp0.2.2.1 hp0.2.2.2 hc9 d_Plugs_split_67 ?_
      obtain ⟨hr15, hm⟩ := ck_s hm
      obtain ⟨hr16, hm⟩ := ck_s hm
      obtain ⟨r17, N18, hq19, hm⟩ := nbd_s hm
      refine nv_callv (N' := N18) (nr_V hC (As := [.int (iI ((N13 (o0 + 1) x5.toNat) - (if (N (o0 + 1) x5.toNat) < x4 then (N (o0 + 1) x5.toNat) else x4))), .int (iI (N13 (o0 + 2) x5.toNat))]) (st := []) hp3.1 rfl (c_Plugs_add l hC.2.2.1 o3 cap3 hp3 ((N13 (o0 + 1) x5.toNat) - (if (N (o0 + 1) x5.toNat) < x4 then (N (o0 + 1) x5.toNat) else x4)) hr15 (N13 (o0 + 2) x5.toNat) hr16 N13 r17 N18 hq19) (cwV 2 hC.1.2.2.2.2 (tt_V k_3 k_5 k_6 k_7 k_4) rfl rfl rfl (by decide +kernel) ⟨Nat.le_of_ble_eq_true rfl, Nat.le_of_ble_eq_true rfl⟩) rfl rfl (Nat.le_of_ble_eq_true rfl) ⟨Nat.zero_le _, Nat.zero_le _⟩ d_Plugs_split_68) ?_
      refine nv_iload hC d_Plugs_split_71 5 rfl ?_
      refine nv_iload hC d_Plugs_split_73 0 rfl ?_
      refine nv_isub hC d_Plugs_split_75 ?_
      refine nv_istore (lv' := [(4, .int (iI (x4 - (if (N (o0 + 1) x5.toNat) < x4 then (N (o0 + 1) x5.toNat) else x4)))), (6, .int (iI (if (N (o0 + 1) x5.toNat) < x4 then (N (o0 + 1) x5.toNat) else x4))), (0, .ref (ad o0)), (1, .int (iI x1)), (2, .ref (ad o2)), (3, .ref (ad o3)), (5, .int (iI x5))]) hC d_Plugs_split_76 (by decide) rfl ?_
      refine nv_iinc (lv' := [(5, .int (iI (x5 + 1))), (4, .int (iI (x4 - (if (N (o0 + 1) x5.toNat) < x4 then (N (o0 + 1) x5.toNat) else x4)))), (6, .int (iI (if (N (o0 + 1) x5.toNat) < x4 then (N (o0 + 1) x5.toNat) else x4))), (0, .ref (ad o0)), (1, .int (iI x1)), (2, .ref (ad o2)), (3, .ref (ad o3))]) hC d_Plugs_split_78 6 rfl (by decide) rfl ?_
      refine nv_goto hC d_Plugs_split_81 (tgt := 14) (by decide) ?_
      obtain ⟨hr20, hm⟩ := ck_s hm
      obtain ⟨hr21, hm⟩ := ck_s hm
      refine nv_sub (lv' := [(0, .ref (ad o0)), (1, .int (iI x1)), (2, .ref (ad o2)), (3, .ref (ad o3)), (4, .int (iI (x4 - (if (N (o0 + 1) x5.toNat) < x4 then (N (o0 + 1) x5.toNat) else x4)))), (5, .int (iI (x5 + 1)))]) [3, 4, 5, 6, 1, 0] rfl ?_
      exact ih (x4 - (if (N (o0 + 1) x5.toNat) < x4 then (N (o0 + 1) x5.toNat) else x4)) (x5 + 1) N18 q No hm hr20 hr21 kx
set_option maxRecDepth 100000 in
set_option maxHeartbeats 4000000 in
theorem c_Plugs_split (l : Launch) {D : va_G} {ct : Nat → ClassId} {A : Nat → Prop} {ad : Nat → Nat} {S : nH} (hD : nD ad A S.length) (o0 cap0 : Nat) (hp0 : isP S o0 cap0) (x1 : Int) (hx1 : rg x1) (o2 cap2 : Nat) (hp2 : isP S o2 cap2) (o3 cap3 : Nat) (hp3 : isP S o3 cap3) (N : nS) (r : Int) (No : nS) (hm : m_Plugs_split o0 cap0 x1 o2 cap2 o3 cap3 N = some (r, No)) : nM l y_Plugs_split (Cond.code y_Plugs_split b_Plugs_split 7 none :: TT) rm_Plugs_split D vwCl ct A ad S N [.ref (ad o0), .int (iI x1), .ref (ad o2), .ref (ad o3)] (nQv D vwCl ct A ad S No) := by
  refine nM_of (cc := b_Plugs_split) (maxL := 7) (ret := none) (by decide) rfl (Nat.le_of_ble_eq_true rfl) hD ?_
  intro p e s m below meth c hC hr hlk
  refine nv_lv (lv' := [(0, .ref (ad o0)), (1, .int (iI x1)), (2, .ref (ad o2)), (3, .ref (ad o3))]) rfl ?_
  rw [m_Plugs_split] at hm
  refine nv_aload_n hC d_Plugs_split_0 rfl 2 rfl ?_
  obtain ⟨r1, N2, hq3, hm⟩ := nbd_s hm
  refine nv_callv (N' := N2) (nr_V hC (As := []) (st := []) hp2.1 rfl (c_Plugs_clear l hC.2.2.1 o2 cap2 hp2 N r1 N2 hq3) (cwV 0 hC.1.2.2.2.2 (tt_V k_8 k_10 k_11 k_7 k_9) rfl rfl rfl (by decide +kernel) ⟨Nat.le_of_ble_eq_true rfl, Nat.le_of_ble_eq_true rfl⟩) rfl rfl (Nat.le_of_ble_eq_true rfl) ⟨Nat.zero_le _, Nat.zero_le _⟩ d_Plugs_split_1) ?_
  refine nv_aload_n hC d_Plugs_split_4 rfl 3 rfl ?_
  obtain ⟨r4, N5, hq6, hm⟩ := nbd_s hm
  refine nv_callv (N' := N5) (nr_V hC (As := []) (st := []) hp3.1 rfl (c_Plugs_clear l hC.2.2.1 o3 cap3 hp3 N2 r4 N5 hq6) (cwV 0 hC.1.2.2.2.2 (tt_V k_8 k_10 k_11 k_7 k_9) rfl rfl rfl (by decide +kernel) ⟨Nat.le_of_ble_eq_true rfl, Nat.le_of_ble_eq_true rfl⟩) rfl rfl (Nat.le_of_ble_eq_true rfl) ⟨Nat.zero_le _, Nat.zero_le _⟩ d_Plugs_split_5) ?_
  refine nv_iload_n hC d_Plugs_split_8 rfl 1 rfl ?_
  refine nv_istore (lv' := [(4, .int (iI x1)), (0, .ref (ad o0)), (1, .int (iI x1)), (2, .ref (ad o2)), (3, .ref (ad o3))]) hC d_Plugs_split_9 (by decide) rfl ?_
  refine nv_iconst hC d_Plugs_split_11 ?_
  refine nv_istore (lv' := [(5, .int (iI 0)), (4, .int (iI x1)), (0, .ref (ad o0)), (1, .int (iI x1)), (2, .ref (ad o2)), (3, .ref (ad o3))]) hC d_Plugs_split_12 (by decide) rfl ?_
  obtain ⟨q22, N23, hq24, hm⟩ := nbd_s hm
  refine nv_sub (lv' := [(0, .ref (ad o0)), (1, .int (iI x1)), (2, .ref (ad o2)), (3, .ref (ad o3)), (4, .int (iI x1)), (5, .int (iI 0))]) [2, 3, 4, 5, 1, 0] rfl ?_
  refine w_Plugs_split_14 hC o0 cap0 hp0 x1 hx1 o2 cap2 hp2 o3 cap3 hp3 FU x1 0 N5 q22 N23 hq24 hx1 ⟨by decide, by decide⟩ ?_
  obtain ⟨rfl, rfl⟩ := ret_s hm
  exact nv_vret hC hr hlk d_Plugs_split_84
def m_Plugs_likest_8 (o0 cap0 : Nat) : Nat → Int → Int → Int → nS → Option ((Int × Int × Int) × nS)
  | 0, _, _, _, _ => none
  | f + 1, x1, x2, x3, N =>
    if rg (x3 + 1) then
    if rg (N o0 2) then
    if (N o0 2) ≤ (x3 + 1) then
    some ((x1, x2, x3), N)
    else
    if 0 ≤ x3 ∧ x3 < ((cap0 : Nat) : Int) then
    if 0 ≤ (x3 + 1) ∧ (x3 + 1) < ((cap0 : Nat) : Int) then
    if rg ((N (o0 + 2) x3.toNat) - (N (o0 + 2) (x3 + 1).toNat)) then
    if rg (if 0 ≤ ((N (o0 + 2) x3.toNat) - (N (o0 + 2) (x3 + 1).toNat)) then ((N (o0 + 2) x3.toNat) - (N (o0 + 2) (x3 + 1).toNat)) else 0 - ((N (o0 + 2) x3.toNat) - (N (o0 + 2) (x3 + 1).toNat))) then
    if x2 ≤ (if 0 ≤ ((N (o0 + 2) x3.toNat) - (N (o0 + 2) (x3 + 1).toNat)) then ((N (o0 + 2) x3.toNat) - (N (o0 + 2) (x3 + 1).toNat)) else 0 - ((N (o0 + 2) x3.toNat) - (N (o0 + 2) (x3 + 1).toNat))) then
    m_Plugs_likest_8 o0 cap0 f x1 x2 (x3 + 1) N
    else
    m_Plugs_likest_8 o0 cap0 f x3 (if 0 ≤ ((N (o0 + 2) x3.toNat) - (N (o0 + 2) (x3 + 1).toNat)) then ((N (o0 + 2) x3.toNat) - (N (o0 + 2) (x3 + 1).toNat)) else 0 - ((N (o0 + 2) x3.toNat) - (N (o0 + 2) (x3 + 1).toNat))) (x3 + 1) N
    else none
    else none
    else none
    else none
    else none
    else none
def m_Plugs_likest (o0 cap0 : Nat) (N : nS) : Option (Int × nS) :=
  nbd (m_Plugs_likest_8 o0 cap0 FU 0 10001 0 N) (fun q9 N10 =>
  some (q9.1, N10))
set_option maxRecDepth 20000 in
theorem k_16 : Cond.methodLink R_Plugs 46 Lib.Math.abs.name ∈ TT := tt_i 421 (by decide +kernel) (by decide +kernel)
set_option maxRecDepth 20000 in
theorem k_17 : Cond.static Lib.Math.abs.name ∈ TT := tt_i 422 (by decide +kernel) (by decide +kernel)
set_option maxRecDepth 20000 in
theorem k_18 : Cond.code Lib.Math.abs.name Lib.Math.abs.code 1 (some .int) ∈ TT := tt_i 423 (by decide +kernel) (by decide +kernel)
abbrev rm_Plugs_likest : Room := { frames := 1, cells := 0, slots := 0, locals := 24 }
set_option maxRecDepth 100000 in
set_option maxHeartbeats 4000000 in
theorem w_Plugs_likest_8 {p : Program} {l : Launch} {e : Env} {s : State} {m : MethodId} {args : Array Value} {below : List Frame} {meth : Method} {c : Code} {Q : State → Prop} {D : va_G} {ct : Nat → ClassId} {A : Nat → Prop} {ad : Nat → Nat} {S : nH} (hC : nC p s m args c D vwCl ct A ad S 5 b_Plugs_likest R_Plugs TT) (o0 cap0 : Nat) (hp0 : isP S o0 cap0) : ∀ (f : Nat) (x1 x2 x3 : Int) (N : nS) (q : Int × Int × Int) (No : nS), m_Plugs_likest_8 o0 cap0 f x1 x2 x3 N = some (q, No) → rg x1 → rg x2 → rg x3 → nV p l e rm_Plugs_likest s m args below meth c 0 0 Q D vwCl ct A ad S 5 No 55 [(0, .ref (ad o0)), (1, .int (iI q.1)), (2, .int (iI q.2.1)), (3, .int (iI q.2.2))] [] → nV p l e rm_Plugs_likest s m args below meth c 0 0 Q D vwCl ct A ad S 5 N 8 [(0, .ref (ad o0)), (1, .int (iI x1)), (2, .int (iI x2)), (3, .int (iI x3))] [] := by
  intro f
  induction f with
  | zero =>
    intro x1 x2 x3 N q No hm
    rw [m_Plugs_likest_8] at hm
    cases hm
  | succ f ih =>
    intro x1 x2 x3 N q No hm hx1 hx2 hx3 kx
    rw [m_Plugs_likest_8] at hm
    refine nv_iload_n hC d_Plugs_likest_8 rfl 3 rfl ?_
    refine nv_iconst hC d_Plugs_likest_9 ?_
    refine nv_iadd hC d_Plugs_likest_10 ?_
    refine nv_aload_n hC d_Plugs_likest_11 rfl 0 rfl ?_
    refine nv_getI hC (j := 2) hp0.1 rfl in_Plugs (by decide) k_0 rfl d_Plugs_likest_12 ?_
    obtain ⟨hr1, hm⟩ := ck_s hm
    obtain ⟨hr2, hm⟩ := ck_s hm
    refine nv_icmp_ge hC hr1 hr2 d_Plugs_likest_15 (tgt := 55) (by decide) (fun c3 => ?_) (fun c3 => ?_)
    · have hm := if_t c3 hm
      obtain ⟨rfl, rfl⟩ := ret_s hm
      refine nv_sub (lv' := [(0, .ref (ad o0)), (1, .int (iI x1)), (2, .int (iI x2)), (3, .int (iI x3))]) [0, 1, 2, 3] rfl ?_
      exact kx
    · have hm := if_f c3 hm
      refine nv_aload_n hC d_Plugs_likest_18 rfl 0 rfl ?_
      refine nv_getR hC (j := 1) hp0.1 rfl in_Plugs (by decide) k_2 rfl d_Plugs_likest_19 ?_
      refine nv_iload_n hC d_Plugs_likest_22 rfl 3 rfl ?_
      obtain ⟨hc4, hm⟩ := ck_s hm
      refine nv_iald hC hp0.2.2.1 hp0.2.2.2 hc4 d_Plugs_likest_23 ?_
      refine nv_aload_n hC d_Plugs_likest_24 rfl 0 rfl ?_
      refine nv_getR hC (j := 1) hp0.1 rfl in_Plugs (by decide) k_2 rfl d_Plugs_likest_25 ?_
      refine nv_iload_n hC d_Plugs_likest_28 rfl 3 rfl ?_
      refine nv_iconst hC d_Plugs_likest_29 ?_
      refine nv_iadd hC d_Plugs_likest_30 ?_
      obtain ⟨hc5, hm⟩ := ck_s hm
      refine nv_iald hC hp0.2.2.1 hp0.2.2.2 hc5 d_Plugs_likest_31 ?_
      refine nv_isub hC d_Plugs_likest_32 ?_
      obtain ⟨hr6, hm⟩ := ck_s hm
      refine nv_mabs hC k_16 k_17 k_14 k_18 (Nat.le_of_ble_eq_true rfl) (Nat.le_of_ble_eq_true rfl) (Nat.zero_le _) (Nat.zero_le _) hr6 d_Plugs_likest_33 ?_
      refine nv_istore (lv' := [(4, .int (iI (if 0 ≤ ((N (o0 + 2) x3.toNat) - (N (o0 + 2) (x3 + 1).toNat)) then ((N (o0 + 2) x3.toNat) - (N (o0 + 2) (x3 + 1).toNat)) else 0 - ((N (o0 + 2) x3.toNat) - (N (o0 + 2) (x3 + 1).toNat))))), (0, .ref (ad o0)), (1, .int (iI x1)), (2, .int (iI x2)), (3, .int (iI x3))]) hC d_Plugs_likest_36 (by decide) rfl ?_
      refine nv_iload hC d_Plugs_likest_38 0 rfl ?_
      refine nv_iload_n hC d_Plugs_likest_40 rfl 3 rfl ?_
      obtain ⟨hr7, hm⟩ := ck_s hm
      refine nv_icmp_ge hC hr7 hx2 d_Plugs_likest_41 (tgt := 49) (by decide) (fun c8 => ?_) (fun c8 => ?_)
      · have hm := if_t c8 hm
        refine nv_iinc (lv' := [(3, .int (iI (x3 + 1))), (4, .int (iI (if 0 ≤ ((N (o0 + 2) x3.toNat) - (N (o0 + 2) (x3 + 1).toNat)) then ((N (o0 + 2) x3.toNat) - (N (o0 + 2) (x3 + 1).toNat)) else 0 - ((N (o0 + 2) x3.toNat) - (N (o0 + 2) (x3 + 1).toNat))))), (0, .ref (ad o0)), (1, .int (iI x1)), (2, .int (iI x2))]) hC d_Plugs_likest_49 4 rfl (by decide) rfl ?_
        refine nv_goto hC d_Plugs_likest_52 (tgt := 8) (by decide) ?_
        refine nv_sub (lv' := [(0, .ref (ad o0)), (1, .int (iI x1)), (2, .int (iI x2)), (3, .int (iI (x3 + 1)))]) [2, 3, 4, 0] rfl ?_
        exact ih x1 x2 (x3 + 1) N q No hm hx1 hx2 hr1 kx
      · have hm := if_f c8 hm
        refine nv_iload_n hC d_Plugs_likest_44 rfl 4 rfl ?_
        refine nv_istore_n (lv' := [(1, .int (iI x3)), (4, .int (iI (if 0 ≤ ((N (o0 + 2) x3.toNat) - (N (o0 + 2) (x3 + 1).toNat)) then ((N (o0 + 2) x3.toNat) - (N (o0 + 2) (x3 + 1).toNat)) else 0 - ((N (o0 + 2) x3.toNat) - (N (o0 + 2) (x3 + 1).toNat))))), (0, .ref (ad o0)), (2, .int (iI x2)), (3, .int (iI x3))]) hC d_Plugs_likest_45 rfl (by decide) rfl ?_
        refine nv_iload hC d_Plugs_likest_46 1 rfl ?_
        refine nv_istore_n (lv' := [(2, .int (iI (if 0 ≤ ((N (o0 + 2) x3.toNat) - (N (o0 + 2) (x3 + 1).toNat)) then ((N (o0 + 2) x3.toNat) - (N (o0 + 2) (x3 + 1).toNat)) else 0 - ((N (o0 + 2) x3.toNat) - (N (o0 + 2) (x3 + 1).toNat))))), (1, .int (iI x3)), (4, .int (iI (if 0 ≤ ((N (o0 + 2) x3.toNat) - (N (o0 + 2) (x3 + 1).toNat)) then ((N (o0 + 2) x3.toNat) - (N (o0 + 2) (x3 + 1).toNat)) else 0 - ((N (o0 + 2) x3.toNat) - (N (o0 + 2) (x3 + 1).toNat))))), (0, .ref (ad o0)), (3, .int (iI x3))]) hC d_Plugs_likest_48 rfl (by decide) rfl ?_
        refine nv_iinc (lv' := [(3, .int (iI (x3 + 1))), (2, .int (iI (if 0 ≤ ((N (o0 + 2) x3.toNat) - (N (o0 + 2) (x3 + 1).toNat)) then ((N (o0 + 2) x3.toNat) - (N (o0 + 2) (x3 + 1).toNat)) else 0 - ((N (o0 + 2) x3.toNat) - (N (o0 + 2) (x3 + 1).toNat))))), (1, .int (iI x3)), (4, .int (iI (if 0 ≤ ((N (o0 + 2) x3.toNat) - (N (o0 + 2) (x3 + 1).toNat)) then ((N (o0 + 2) x3.toNat) - (N (o0 + 2) (x3 + 1).toNat)) else 0 - ((N (o0 + 2) x3.toNat) - (N (o0 + 2) (x3 + 1).toNat))))), (0, .ref (ad o0))]) hC d_Plugs_likest_49 4 rfl (by decide) rfl ?_
        refine nv_goto hC d_Plugs_likest_52 (tgt := 8) (by decide) ?_
        refine nv_sub (lv' := [(0, .ref (ad o0)), (1, .int (iI x3)), (2, .int (iI (if 0 ≤ ((N (o0 + 2) x3.toNat) - (N (o0 + 2) (x3 + 1).toNat)) then ((N (o0 + 2) x3.toNat) - (N (o0 + 2) (x3 + 1).toNat)) else 0 - ((N (o0 + 2) x3.toNat) - (N (o0 + 2) (x3 + 1).toNat))))), (3, .int (iI (x3 + 1)))]) [4, 2, 1, 0] rfl ?_
        exact ih x3 (if 0 ≤ ((N (o0 + 2) x3.toNat) - (N (o0 + 2) (x3 + 1).toNat)) then ((N (o0 + 2) x3.toNat) - (N (o0 + 2) (x3 + 1).toNat)) else 0 - ((N (o0 + 2) x3.toNat) - (N (o0 + 2) (x3 + 1).toNat))) (x3 + 1) N q No hm hx3 hr7 hr1 kx
set_option maxRecDepth 100000 in
set_option maxHeartbeats 4000000 in
theorem c_Plugs_likest (l : Launch) {D : va_G} {ct : Nat → ClassId} {A : Nat → Prop} {ad : Nat → Nat} {S : nH} (hD : nD ad A S.length) (o0 cap0 : Nat) (hp0 : isP S o0 cap0) (N : nS) (r : Int) (No : nS) (hm : m_Plugs_likest o0 cap0 N = some (r, No)) : nM l y_Plugs_likest (Cond.code y_Plugs_likest b_Plugs_likest 5 (some .int) :: TT) rm_Plugs_likest D vwCl ct A ad S N [.ref (ad o0)] (nQi D vwCl ct A ad S r No) := by
  refine nM_of (cc := b_Plugs_likest) (maxL := 5) (ret := (some .int)) (by decide) rfl (Nat.le_of_ble_eq_true rfl) hD ?_
  intro p e s m below meth c hC hr hlk
  refine nv_lv (lv' := [(0, .ref (ad o0))]) rfl ?_
  rw [m_Plugs_likest] at hm
  refine nv_iconst hC d_Plugs_likest_0 ?_
  refine nv_istore_n (lv' := [(1, .int (iI 0)), (0, .ref (ad o0))]) hC d_Plugs_likest_1 rfl (by decide) rfl ?_
  refine nv_sipush hC (z := 10001) d_Plugs_likest_2 rfl ?_
  refine nv_istore_n (lv' := [(2, .int (iI 10001)), (1, .int (iI 0)), (0, .ref (ad o0))]) hC d_Plugs_likest_5 rfl (by decide) rfl ?_
  refine nv_iconst hC d_Plugs_likest_6 ?_
  refine nv_istore_n (lv' := [(3, .int (iI 0)), (2, .int (iI 10001)), (1, .int (iI 0)), (0, .ref (ad o0))]) hC d_Plugs_likest_7 rfl (by decide) rfl ?_
  obtain ⟨q9, N10, hq11, hm⟩ := nbd_s hm
  refine nv_sub (lv' := [(0, .ref (ad o0)), (1, .int (iI 0)), (2, .int (iI 10001)), (3, .int (iI 0))]) [3, 2, 1, 0] rfl ?_
  refine w_Plugs_likest_8 hC o0 cap0 hp0 FU 0 10001 0 N q9 N10 hq11 ⟨by decide, by decide⟩ ⟨by decide, by decide⟩ ⟨by decide, by decide⟩ ?_
  refine nv_iload_n hC d_Plugs_likest_55 rfl 1 rfl ?_
  obtain ⟨rfl, rfl⟩ := ret_s hm
  exact nv_iret hC hr hlk d_Plugs_likest_56
def m_Plugs_joinBehind_92 (o0 cap0 : Nat) (x1 : Int) (x2 : Int) (x3 : Int) : Nat → Int → nS → Option ((Int) × nS)
  | 0, _, _ => none
  | f + 1, x4, N =>
    if rg (x4 + 1) then
    if rg (N o0 2) then
    if (N o0 2) ≤ (x4 + 1) then
    some (x4, N)
    else
    if 0 ≤ (x4 + 1) ∧ (x4 + 1) < ((cap0 : Nat) : Int) then
    if 0 ≤ x4 ∧ x4 < ((cap0 : Nat) : Int) then
    nlt (up2 N (o0 + 1) x4.toNat (N (o0 + 1) (x4 + 1).toNat)) (fun N20 =>
    nlt (up2 N20 (o0 + 2) x4.toNat (N20 (o0 + 2) (x4 + 1).toNat)) (fun N22 =>
    m_Plugs_joinBehind_92 o0 cap0 x1 x2 x3 f (x4 + 1) N22))
    else none
    else none
    else none
    else none
def m_Plugs_joinBehind (o0 cap0 : Nat) (x1 : Int) (N : nS) : Option (Int × nS) :=
  if x1 < 0 then
  some (0, N)
  else
  if rg (x1 + 1) then
  if rg (N o0 2) then
  if (x1 + 1) < (N o0 2) then
  if 0 ≤ x1 ∧ x1 < ((cap0 : Nat) : Int) then
  if 0 ≤ (x1 + 1) ∧ (x1 + 1) < ((cap0 : Nat) : Int) then
  if rg ((N (o0 + 1) x1.toNat) + (N (o0 + 1) (x1 + 1).toNat)) then
  if 1 ≤ ((N (o0 + 1) x1.toNat) + (N (o0 + 1) (x1 + 1).toNat)) then
  nlt (up2 N (o0 + 1) x1.toNat ((N (o0 + 1) x1.toNat) + (N (o0 + 1) (x1 + 1).toNat))) (fun N9 =>
  if rg (((N (o0 + 1) x1.toNat) * (N (o0 + 2) x1.toNat)) + ((N (o0 + 1) (x1 + 1).toNat) * (N (o0 + 2) (x1 + 1).toNat))) then
  if ¬ ((N (o0 + 1) x1.toNat) + (N (o0 + 1) (x1 + 1).toNat)) = 0 then
  nlt (up2 N9 (o0 + 2) x1.toNat (Int.tdiv (((N (o0 + 1) x1.toNat) * (N (o0 + 2) x1.toNat)) + ((N (o0 + 1) (x1 + 1).toNat) * (N (o0 + 2) (x1 + 1).toNat))) ((N (o0 + 1) x1.toNat) + (N (o0 + 1) (x1 + 1).toNat)))) (fun N13 =>
  nbd (m_Plugs_joinBehind_92 o0 cap0 x1 ((N (o0 + 1) x1.toNat) + (N (o0 + 1) (x1 + 1).toNat)) (((N (o0 + 1) x1.toNat) * (N (o0 + 2) x1.toNat)) + ((N (o0 + 1) (x1 + 1).toNat) * (N (o0 + 2) (x1 + 1).toNat))) FU (x1 + 1) N13) (fun q24 N25 =>
  nlt (up2 N25 o0 2 ((N25 o0 2) - 1)) (fun N27 =>
  some (((((N (o0 + 1) x1.toNat) * (N (o0 + 2) x1.toNat)) + ((N (o0 + 1) (x1 + 1).toNat) * (N (o0 + 2) (x1 + 1).toNat))) - (Int.tdiv (((N (o0 + 1) x1.toNat) * (N (o0 + 2) x1.toNat)) + ((N (o0 + 1) (x1 + 1).toNat) * (N (o0 + 2) (x1 + 1).toNat))) ((N (o0 + 1) x1.toNat) + (N (o0 + 1) (x1 + 1).toNat))) * ((N (o0 + 1) x1.toNat) + (N (o0 + 1) (x1 + 1).toNat))), N27))))
  else none
  else none)
  else
  some (0, N)
  else none
  else none
  else none
  else
  some (0, N)
  else none
  else none
abbrev rm_Plugs_joinBehind : Room := { frames := 0, cells := 0, slots := 0, locals := 0 }
set_option maxRecDepth 100000 in
set_option maxHeartbeats 4000000 in
theorem w_Plugs_joinBehind_92 {p : Program} {l : Launch} {e : Env} {s : State} {m : MethodId} {args : Array Value} {below : List Frame} {meth : Method} {c : Code} {Q : State → Prop} {D : va_G} {ct : Nat → ClassId} {A : Nat → Prop} {ad : Nat → Nat} {S : nH} (hC : nC p s m args c D vwCl ct A ad S 5 b_Plugs_joinBehind R_Plugs TT) (o0 cap0 : Nat) (hp0 : isP S o0 cap0) (x1 : Int) (hx1 : rg x1) (x2 : Int) (hx2 : rg x2) (x3 : Int) (hx3 : rg x3) : ∀ (f : Nat) (x4 : Int) (N : nS) (q : Int) (No : nS), m_Plugs_joinBehind_92 o0 cap0 x1 x2 x3 f x4 N = some (q, No) → rg x4 → nV p l e rm_Plugs_joinBehind s m args below meth c 0 0 Q D vwCl ct A ad S 5 No 141 [(0, .ref (ad o0)), (1, .int (iI x1)), (2, .int (iI x2)), (3, .int (iI x3)), (4, .int (iI q))] [] → nV p l e rm_Plugs_joinBehind s m args below meth c 0 0 Q D vwCl ct A ad S 5 N 92 [(0, .ref (ad o0)), (1, .int (iI x1)), (2, .int (iI x2)), (3, .int (iI x3)), (4, .int (iI x4))] [] := by
  intro f
  induction f with
  | zero =>
    intro x4 N q No hm
    rw [m_Plugs_joinBehind_92] at hm
    cases hm
  | succ f ih =>
    intro x4 N q No hm hx4 kx
    rw [m_Plugs_joinBehind_92] at hm
    refine nv_iload hC d_Plugs_joinBehind_92 4 rfl ?_
    refine nv_iconst hC d_Plugs_joinBehind_94 ?_
    refine nv_iadd hC d_Plugs_joinBehind_95 ?_
    refine nv_aload_n hC d_Plugs_joinBehind_96 rfl 0 rfl ?_
    refine nv_getI hC (j := 2) hp0.1 rfl in_Plugs (by decide) k_0 rfl d_Plugs_joinBehind_97 ?_
    obtain ⟨hr15, hm⟩ := ck_s hm
    obtain ⟨hr16, hm⟩ := ck_s hm
    refine nv_icmp_ge hC hr15 hr16 d_Plugs_joinBehind_100 (tgt := 141) (by decide) (fun c17 => ?_) (fun c17 => ?_)
    · have hm := if_t c17 hm
      obtain ⟨rfl, rfl⟩ := ret_s hm
      refine nv_sub (lv' := [(0, .ref (ad o0)), (1, .int (iI x1)), (2, .int (iI x2)), (3, .int (iI x3)), (4, .int (iI x4))]) [0, 1, 2, 3, 4] rfl ?_
      exact kx
    · have hm := if_f c17 hm
      refine nv_aload_n hC d_Plugs_joinBehind_103 rfl 0 rfl ?_
      refine nv_getR hC (j := 0) hp0.1 rfl in_Plugs (by decide) k_1 rfl d_Plugs_joinBehind_104 ?_
      refine nv_iload hC d_Plugs_joinBehind_107 4 rfl ?_
      refine nv_aload_n hC d_Plugs_joinBehind_109 rfl 0 rfl ?_
      refine nv_getR hC (j := 0) hp0.1 rfl in_Plugs (by decide) k_1 rfl d_Plugs_joinBehind_110 ?_
      refine nv_iload hC d_Plugs_joinBehind_113 4 rfl ?_
      refine nv_iconst hC d_Plugs_joinBehind_115 ?_
      refine nv_iadd hC d_Plugs_joinBehind_116 ?_
      obtain ⟨hc18, hm⟩ := ck_s hm
      refine nv_iald hC hp0.2.1 hp0.2.2.2 hc18 d_Plugs_joinBehind_117 ?_
      obtain ⟨hc19, hm⟩ := ck_s hm
      obtain ⟨N20, e21, hm⟩ := nlt_s hm
      refine nv_iast hC hp0.2.1 hp0.2.2.2 hc19 e21 d_Plugs_joinBehind_118 ?_
      refine nv_aload_n hC d_Plugs_joinBehind_119 rfl 0 rfl ?_
      refine nv_getR hC (j := 1) hp0.1 rfl in_Plugs (by decide) k_2 rfl d_Plugs_joinBehind_120 ?_
      refine nv_iload hC d_Plugs_joinBehind_123 4 rfl ?_
      refine nv_aload_n hC d_Plugs_joinBehind_125 rfl 0 rfl ?_
      refine nv_getR hC (j := 1) hp0.1 rfl in_Plugs (by decide) k_2 rfl d_Plugs_joinBehind_126 ?_
      refine nv_iload hC d_Plugs_joinBehind_129 4 rfl ?_
      refine nv_iconst hC d_Plugs_joinBehind_131 ?_
      refine nv_iadd hC d_Plugs_joinBehind_132 ?_
      refine nv_iald hC hp0.2.2.1 hp0.2.2.2 hc18 d_Plugs_joinBehind_133 ?_
      obtain ⟨N22, e23, hm⟩ := nlt_s hm
      refine nv_iast hC hp0.2.2.1 hp0.2.2.2 hc19 e23 d_Plugs_joinBehind_134 ?_
      refine nv_iinc (lv' := [(4, .int (iI (x4 + 1))), (0, .ref (ad o0)), (1, .int (iI x1)), (2, .int (iI x2)), (3, .int (iI x3))]) hC d_Plugs_joinBehind_135 4 rfl (by decide) rfl ?_
      refine nv_goto hC d_Plugs_joinBehind_138 (tgt := 92) (by decide) ?_
      refine nv_sub (lv' := [(0, .ref (ad o0)), (1, .int (iI x1)), (2, .int (iI x2)), (3, .int (iI x3)), (4, .int (iI (x4 + 1)))]) [1, 2, 3, 4, 0] rfl ?_
      exact ih (x4 + 1) N22 q No hm hr15 kx
set_option maxRecDepth 100000 in
set_option maxHeartbeats 4000000 in
theorem c_Plugs_joinBehind (l : Launch) {D : va_G} {ct : Nat → ClassId} {A : Nat → Prop} {ad : Nat → Nat} {S : nH} (hD : nD ad A S.length) (o0 cap0 : Nat) (hp0 : isP S o0 cap0) (x1 : Int) (hx1 : rg x1) (N : nS) (r : Int) (No : nS) (hm : m_Plugs_joinBehind o0 cap0 x1 N = some (r, No)) : nM l y_Plugs_joinBehind (Cond.code y_Plugs_joinBehind b_Plugs_joinBehind 5 (some .int) :: TT) rm_Plugs_joinBehind D vwCl ct A ad S N [.ref (ad o0), .int (iI x1)] (nQi D vwCl ct A ad S r No) := by
  refine nM_of (cc := b_Plugs_joinBehind) (maxL := 5) (ret := (some .int)) (by decide) rfl (Nat.le_of_ble_eq_true rfl) hD ?_
  intro p e s m below meth c hC hr hlk
  refine nv_lv (lv' := [(0, .ref (ad o0)), (1, .int (iI x1))]) rfl ?_
  rw [m_Plugs_joinBehind] at hm
  refine nv_iload_n hC d_Plugs_joinBehind_0 rfl 1 rfl ?_
  refine nv_if_lt hC hx1 d_Plugs_joinBehind_1 (tgt := 14) (by decide) (fun c1 => ?_) (fun c1 => ?_)
  · have hm := if_t c1 hm
    refine nv_iconst hC d_Plugs_joinBehind_14 ?_
    obtain ⟨rfl, rfl⟩ := ret_s hm
    exact nv_iret hC hr hlk d_Plugs_joinBehind_15
  · have hm := if_f c1 hm
    refine nv_iload_n hC d_Plugs_joinBehind_4 rfl 1 rfl ?_
    refine nv_iconst hC d_Plugs_joinBehind_5 ?_
    refine nv_iadd hC d_Plugs_joinBehind_6 ?_
    refine nv_aload_n hC d_Plugs_joinBehind_7 rfl 0 rfl ?_
    refine nv_getI hC (j := 2) hp0.1 rfl in_Plugs (by decide) k_0 rfl d_Plugs_joinBehind_8 ?_
    obtain ⟨hr2, hm⟩ := ck_s hm
    obtain ⟨hr3, hm⟩ := ck_s hm
    refine nv_icmp_lt hC hr2 hr3 d_Plugs_joinBehind_11 (tgt := 16) (by decide) (fun c4 => ?_) (fun c4 => ?_)
    · have hm := if_t c4 hm
      refine nv_aload_n hC d_Plugs_joinBehind_16 rfl 0 rfl ?_
      refine nv_getR hC (j := 0) hp0.1 rfl in_Plugs (by decide) k_1 rfl d_Plugs_joinBehind_17 ?_
      refine nv_iload_n hC d_Plugs_joinBehind_20 rfl 1 rfl ?_
      obtain ⟨hc5, hm⟩ := ck_s hm
      refine nv_iald hC hp0.2.1 hp0.2.2.2 hc5 d_Plugs_joinBehind_21 ?_
      refine nv_aload_n hC d_Plugs_joinBehind_22 rfl 0 rfl ?_
      refine nv_getR hC (j := 0) hp0.1 rfl in_Plugs (by decide) k_1 rfl d_Plugs_joinBehind_23 ?_
      refine nv_iload_n hC d_Plugs_joinBehind_26 rfl 1 rfl ?_
      refine nv_iconst hC d_Plugs_joinBehind_27 ?_
      refine nv_iadd hC d_Plugs_joinBehind_28 ?_
      obtain ⟨hc6, hm⟩ := ck_s hm
      refine nv_iald hC hp0.2.1 hp0.2.2.2 hc6 d_Plugs_joinBehind_29 ?_
      refine nv_iadd hC d_Plugs_joinBehind_30 ?_
      refine nv_istore_n (lv' := [(2, .int (iI ((N (o0 + 1) x1.toNat) + (N (o0 + 1) (x1 + 1).toNat)))), (0, .ref (ad o0)), (1, .int (iI x1))]) hC d_Plugs_joinBehind_31 rfl (by decide) rfl ?_
      refine nv_iload_n hC d_Plugs_joinBehind_32 rfl 0 rfl ?_
      refine nv_iconst hC d_Plugs_joinBehind_33 ?_
      obtain ⟨hr7, hm⟩ := ck_s hm
      refine nv_icmp_ge hC hr7 ⟨by decide, by decide⟩ d_Plugs_joinBehind_34 (tgt := 39) (by decide) (fun c8 => ?_) (fun c8 => ?_)
      · have hm := if_t c8 hm
        refine nv_aload_n hC d_Plugs_joinBehind_39 rfl 1 rfl ?_
        refine nv_getR hC (j := 0) hp0.1 rfl in_Plugs (by decide) k_1 rfl d_Plugs_joinBehind_40 ?_
        refine nv_iload_n hC d_Plugs_joinBehind_43 rfl 2 rfl ?_
        refine nv_iald hC hp0.2.1 hp0.2.2.2 hc5 d_Plugs_joinBehind_44 ?_
        refine nv_aload_n hC d_Plugs_joinBehind_45 rfl 1 rfl ?_
        refine nv_getR hC (j := 1) hp0.1 rfl in_Plugs (by decide) k_2 rfl d_Plugs_joinBehind_46 ?_
        refine nv_iload_n hC d_Plugs_joinBehind_49 rfl 2 rfl ?_
        refine nv_iald hC hp0.2.2.1 hp0.2.2.2 hc5 d_Plugs_joinBehind_50 ?_
        refine nv_imul hC d_Plugs_joinBehind_51 ?_
        refine nv_aload_n hC d_Plugs_joinBehind_52 rfl 1 rfl ?_
        refine nv_getR hC (j := 0) hp0.1 rfl in_Plugs (by decide) k_1 rfl d_Plugs_joinBehind_53 ?_
        refine nv_iload_n hC d_Plugs_joinBehind_56 rfl 2 rfl ?_
        refine nv_iconst hC d_Plugs_joinBehind_57 ?_
        refine nv_iadd hC d_Plugs_joinBehind_58 ?_
        refine nv_iald hC hp0.2.1 hp0.2.2.2 hc6 d_Plugs_joinBehind_59 ?_
        refine nv_aload_n hC d_Plugs_joinBehind_60 rfl 1 rfl ?_
        refine nv_getR hC (j := 1) hp0.1 rfl in_Plugs (by decide) k_2 rfl d_Plugs_joinBehind_61 ?_
        refine nv_iload_n hC d_Plugs_joinBehind_64 rfl 2 rfl ?_
        refine nv_iconst hC d_Plugs_joinBehind_65 ?_
        refine nv_iadd hC d_Plugs_joinBehind_66 ?_
        refine nv_iald hC hp0.2.2.1 hp0.2.2.2 hc6 d_Plugs_joinBehind_67 ?_
        refine nv_imul hC d_Plugs_joinBehind_68 ?_
        refine nv_iadd hC d_Plugs_joinBehind_69 ?_
        refine nv_istore_n (lv' := [(3, .int (iI (((N (o0 + 1) x1.toNat) * (N (o0 + 2) x1.toNat)) + ((N (o0 + 1) (x1 + 1).toNat) * (N (o0 + 2) (x1 + 1).toNat))))), (2, .int (iI ((N (o0 + 1) x1.toNat) + (N (o0 + 1) (x1 + 1).toNat)))), (0, .ref (ad o0)), (1, .int (iI x1))]) hC d_Plugs_joinBehind_70 rfl (by decide) rfl ?_
        refine nv_aload_n hC d_Plugs_joinBehind_71 rfl 2 rfl ?_
        refine nv_getR hC (j := 0) hp0.1 rfl in_Plugs (by decide) k_1 rfl d_Plugs_joinBehind_72 ?_
        refine nv_iload_n hC d_Plugs_joinBehind_75 rfl 3 rfl ?_
        refine nv_iload_n hC d_Plugs_joinBehind_76 rfl 1 rfl ?_
        obtain ⟨N9, e10, hm⟩ := nlt_s hm
        refine nv_iast hC hp0.2.1 hp0.2.2.2 hc5 e10 d_Plugs_joinBehind_77 ?_
        refine nv_aload_n hC d_Plugs_joinBehind_78 rfl 2 rfl ?_
        refine nv_getR hC (j := 1) hp0.1 rfl in_Plugs (by decide) k_2 rfl d_Plugs_joinBehind_79 ?_
        refine nv_iload_n hC d_Plugs_joinBehind_82 rfl 3 rfl ?_
        refine nv_iload_n hC d_Plugs_joinBehind_83 rfl 0 rfl ?_
        refine nv_iload_n hC d_Plugs_joinBehind_84 rfl 1 rfl ?_
        obtain ⟨hr11, hm⟩ := ck_s hm
        obtain ⟨hc12, hm⟩ := ck_s hm
        refine nv_idiv hC d_Plugs_joinBehind_85 hr11 hr7 hc12 ?_
        obtain ⟨N13, e14, hm⟩ := nlt_s hm
        refine nv_iast hC hp0.2.2.1 hp0.2.2.2 hc5 e14 d_Plugs_joinBehind_86 ?_
        refine nv_iload_n hC d_Plugs_joinBehind_87 rfl 3 rfl ?_
        refine nv_iconst hC d_Plugs_joinBehind_88 ?_
        refine nv_iadd hC d_Plugs_joinBehind_89 ?_
        refine nv_istore (lv' := [(4, .int (iI (x1 + 1))), (3, .int (iI (((N (o0 + 1) x1.toNat) * (N (o0 + 2) x1.toNat)) + ((N (o0 + 1) (x1 + 1).toNat) * (N (o0 + 2) (x1 + 1).toNat))))), (2, .int (iI ((N (o0 + 1) x1.toNat) + (N (o0 + 1) (x1 + 1).toNat)))), (0, .ref (ad o0)), (1, .int (iI x1))]) hC d_Plugs_joinBehind_90 (by decide) rfl ?_
        obtain ⟨q24, N25, hq26, hm⟩ := nbd_s hm
        refine nv_sub (lv' := [(0, .ref (ad o0)), (1, .int (iI x1)), (2, .int (iI ((N (o0 + 1) x1.toNat) + (N (o0 + 1) (x1 + 1).toNat)))), (3, .int (iI (((N (o0 + 1) x1.toNat) * (N (o0 + 2) x1.toNat)) + ((N (o0 + 1) (x1 + 1).toNat) * (N (o0 + 2) (x1 + 1).toNat))))), (4, .int (iI (x1 + 1)))]) [3, 4, 2, 1, 0] rfl ?_
        refine w_Plugs_joinBehind_92 hC o0 cap0 hp0 x1 hx1 ((N (o0 + 1) x1.toNat) + (N (o0 + 1) (x1 + 1).toNat)) hr7 (((N (o0 + 1) x1.toNat) * (N (o0 + 2) x1.toNat)) + ((N (o0 + 1) (x1 + 1).toNat) * (N (o0 + 2) (x1 + 1).toNat))) hr11 FU (x1 + 1) N13 q24 N25 hq26 hr2 ?_
        refine nv_aload_n hC d_Plugs_joinBehind_141 rfl 0 rfl ?_
        refine nv_dup hC d_Plugs_joinBehind_142 rfl ?_
        refine nv_getI hC (j := 2) hp0.1 rfl in_Plugs (by decide) k_0 rfl d_Plugs_joinBehind_143 ?_
        refine nv_iconst hC d_Plugs_joinBehind_146 ?_
        refine nv_isub hC d_Plugs_joinBehind_147 ?_
        obtain ⟨N27, e28, hm⟩ := nlt_s hm
        refine nv_putI hC (j := 2) hp0.1 rfl in_Plugs (by decide) ty_Plugs tyok_Plugs nm_Plugs k_0 rfl rfl (by decide +kernel) e28 d_Plugs_joinBehind_148 ?_
        refine nv_iload_n hC d_Plugs_joinBehind_151 rfl 3 rfl ?_
        refine nv_iload_n hC d_Plugs_joinBehind_152 rfl 2 rfl ?_
        refine nv_irem hC d_Plugs_joinBehind_153 hr11 hr7 hc12 ?_
        obtain ⟨rfl, rfl⟩ := ret_s hm
        exact nv_iret hC hr hlk d_Plugs_joinBehind_154
      · have hm := if_f c8 hm
        refine nv_iconst hC d_Plugs_joinBehind_37 ?_
        obtain ⟨rfl, rfl⟩ := ret_s hm
        exact nv_iret hC hr hlk d_Plugs_joinBehind_38
    · have hm := if_f c4 hm
      refine nv_iconst hC d_Plugs_joinBehind_14 ?_
      obtain ⟨rfl, rfl⟩ := ret_s hm
      exact nv_iret hC hr hlk d_Plugs_joinBehind_15
def m_Plugs_thin_10 (o0 cap0 : Nat) : Nat → Int → Int → nS → Option ((Int × Int) × nS)
  | 0, _, _, _ => none
  | f + 1, x1, x2, N =>
    if x2 ≤ 0 then
    some ((x1, x2), N)
    else
    nbd (m_Plugs_likest o0 cap0 N) (fun r2 N3 =>
    if rg r2 then
    nbd (m_Plugs_joinBehind o0 cap0 r2 N3) (fun r6 N7 =>
    if rg (x1 + r6) then
    if rg (x2 + (-1)) then
    m_Plugs_thin_10 o0 cap0 f (x1 + r6) (x2 + (-1)) N7
    else none
    else none)
    else none)
def m_Plugs_thin (o0 cap0 : Nat) (N : nS) : Option (Int × nS) :=
  if rg ((N o0 2) - 12) then
  nbd (m_Plugs_thin_10 o0 cap0 FU 0 ((N o0 2) - 12) N) (fun q12 N13 =>
  some (q12.1, N13))
  else none
set_option maxRecDepth 20000 in
theorem k_19 : Cond.methodLink R_Plugs 38 y_Plugs_likest ∈ TT := tt_i 417 (by decide +kernel) (by decide +kernel)
set_option maxRecDepth 20000 in
theorem k_20 : Cond.code y_Plugs_likest b_Plugs_likest 5 (some .int) ∈ TT := tt_i 420 (by decide +kernel) (by decide +kernel)
set_option maxRecDepth 20000 in
theorem k_21 : Cond.instanceMethod y_Plugs_likest ∈ TT := tt_i 419 (by decide +kernel) (by decide +kernel)
set_option maxRecDepth 20000 in
theorem k_22 : Cond.selects R_Plugs y_Plugs_likest y_Plugs_likest ∈ TT := tt_i 5 (by decide +kernel) (by decide +kernel)
set_option maxRecDepth 20000 in
theorem k_23 : Cond.methodLink R_Plugs 42 y_Plugs_joinBehind ∈ TT := tt_i 424 (by decide +kernel) (by decide +kernel)
set_option maxRecDepth 20000 in
theorem k_24 : Cond.code y_Plugs_joinBehind b_Plugs_joinBehind 5 (some .int) ∈ TT := tt_i 427 (by decide +kernel) (by decide +kernel)
set_option maxRecDepth 20000 in
theorem k_25 : Cond.instanceMethod y_Plugs_joinBehind ∈ TT := tt_i 426 (by decide +kernel) (by decide +kernel)
set_option maxRecDepth 20000 in
theorem k_26 : Cond.selects R_Plugs y_Plugs_joinBehind y_Plugs_joinBehind ∈ TT := tt_i 6 (by decide +kernel) (by decide +kernel)
abbrev rm_Plugs_thin : Room := { frames := 2, cells := 0, slots := 0, locals := 48 }
set_option maxRecDepth 100000 in
set_option maxHeartbeats 4000000 in
theorem w_Plugs_thin_10 {p : Program} {l : Launch} {e : Env} {s : State} {m : MethodId} {args : Array Value} {below : List Frame} {meth : Method} {c : Code} {Q : State → Prop} {D : va_G} {ct : Nat → ClassId} {A : Nat → Prop} {ad : Nat → Nat} {S : nH} (hC : nC p s m args c D vwCl ct A ad S 3 b_Plugs_thin R_Plugs TT) (o0 cap0 : Nat) (hp0 : isP S o0 cap0) : ∀ (f : Nat) (x1 x2 : Int) (N : nS) (q : Int × Int) (No : nS), m_Plugs_thin_10 o0 cap0 f x1 x2 N = some (q, No) → rg x1 → rg x2 → nV p l e rm_Plugs_thin s m args below meth c 0 0 Q D vwCl ct A ad S 3 No 31 [(0, .ref (ad o0)), (1, .int (iI q.1)), (2, .int (iI q.2))] [] → nV p l e rm_Plugs_thin s m args below meth c 0 0 Q D vwCl ct A ad S 3 N 10 [(0, .ref (ad o0)), (1, .int (iI x1)), (2, .int (iI x2))] [] := by
  intro f
  induction f with
  | zero =>
    intro x1 x2 N q No hm
    rw [m_Plugs_thin_10] at hm
    cases hm
  | succ f ih =>
    intro x1 x2 N q No hm hx1 hx2 kx
    rw [m_Plugs_thin_10] at hm
    refine nv_iload_n hC d_Plugs_thin_10 rfl 2 rfl ?_
    refine nv_if_le hC hx2 d_Plugs_thin_11 (tgt := 31) (by decide) (fun c1 => ?_) (fun c1 => ?_)
    · have hm := if_t c1 hm
      obtain ⟨rfl, rfl⟩ := ret_s hm
      refine nv_sub (lv' := [(0, .ref (ad o0)), (1, .int (iI x1)), (2, .int (iI x2))]) [0, 1, 2] rfl ?_
      exact kx
    · have hm := if_f c1 hm
      refine nv_iload_n hC d_Plugs_thin_14 rfl 1 rfl ?_
      refine nv_aload_n hC d_Plugs_thin_15 rfl 0 rfl ?_
      refine nv_aload_n hC d_Plugs_thin_16 rfl 0 rfl ?_
      obtain ⟨r2, N3, hq4, hm⟩ := nbd_s hm
      refine nv_calli (x := r2) (N' := N3) (nr_V hC (As := []) (st := [.ref (ad o0), .int (iI x1)]) hp0.1 rfl (c_Plugs_likest l hC.2.2.1 o0 cap0 hp0 N r2 N3 hq4) (cwV 0 hC.1.2.2.2.2 (tt_V k_19 k_21 k_22 k_7 k_20) rfl rfl rfl (by decide +kernel) ⟨Nat.le_of_ble_eq_true rfl, Nat.le_of_ble_eq_true rfl⟩) rfl rfl (Nat.le_of_ble_eq_true rfl) ⟨Nat.zero_le _, Nat.zero_le _⟩ d_Plugs_thin_17) ?_
      obtain ⟨hr5, hm⟩ := ck_s hm
      obtain ⟨r6, N7, hq8, hm⟩ := nbd_s hm
      refine nv_calli (x := r6) (N' := N7) (nr_V hC (As := [.int (iI r2)]) (st := [.int (iI x1)]) hp0.1 rfl (c_Plugs_joinBehind l hC.2.2.1 o0 cap0 hp0 r2 hr5 N3 r6 N7 hq8) (cwV 1 hC.1.2.2.2.2 (tt_V k_23 k_25 k_26 k_7 k_24) rfl rfl rfl (by decide +kernel) ⟨Nat.le_of_ble_eq_true rfl, Nat.le_of_ble_eq_true rfl⟩) rfl rfl (Nat.le_of_ble_eq_true rfl) ⟨Nat.zero_le _, Nat.zero_le _⟩ d_Plugs_thin_20) ?_
      refine nv_iadd hC d_Plugs_thin_23 ?_
      refine nv_istore_n (lv' := [(1, .int (iI (x1 + r6))), (0, .ref (ad o0)), (2, .int (iI x2))]) hC d_Plugs_thin_24 rfl (by decide) rfl ?_
      refine nv_iinc (lv' := [(2, .int (iI (x2 + (-1)))), (1, .int (iI (x1 + r6))), (0, .ref (ad o0))]) hC d_Plugs_thin_25 2 rfl (by decide) rfl ?_
      refine nv_goto hC d_Plugs_thin_28 (tgt := 10) (by decide) ?_
      obtain ⟨hr9, hm⟩ := ck_s hm
      obtain ⟨hr10, hm⟩ := ck_s hm
      refine nv_sub (lv' := [(0, .ref (ad o0)), (1, .int (iI (x1 + r6))), (2, .int (iI (x2 + (-1))))]) [2, 1, 0] rfl ?_
      exact ih (x1 + r6) (x2 + (-1)) N7 q No hm hr9 hr10 kx
set_option maxRecDepth 100000 in
set_option maxHeartbeats 4000000 in
theorem c_Plugs_thin (l : Launch) {D : va_G} {ct : Nat → ClassId} {A : Nat → Prop} {ad : Nat → Nat} {S : nH} (hD : nD ad A S.length) (o0 cap0 : Nat) (hp0 : isP S o0 cap0) (N : nS) (r : Int) (No : nS) (hm : m_Plugs_thin o0 cap0 N = some (r, No)) : nM l y_Plugs_thin (Cond.code y_Plugs_thin b_Plugs_thin 3 (some .int) :: TT) rm_Plugs_thin D vwCl ct A ad S N [.ref (ad o0)] (nQi D vwCl ct A ad S r No) := by
  refine nM_of (cc := b_Plugs_thin) (maxL := 3) (ret := (some .int)) (by decide) rfl (Nat.le_of_ble_eq_true rfl) hD ?_
  intro p e s m below meth c hC hr hlk
  refine nv_lv (lv' := [(0, .ref (ad o0))]) rfl ?_
  rw [m_Plugs_thin] at hm
  refine nv_iconst hC d_Plugs_thin_0 ?_
  refine nv_istore_n (lv' := [(1, .int (iI 0)), (0, .ref (ad o0))]) hC d_Plugs_thin_1 rfl (by decide) rfl ?_
  refine nv_aload_n hC d_Plugs_thin_2 rfl 1 rfl ?_
  refine nv_getI hC (j := 2) hp0.1 rfl in_Plugs (by decide) k_0 rfl d_Plugs_thin_3 ?_
  refine nv_bipush hC (z := 12) d_Plugs_thin_6 rfl ?_
  refine nv_isub hC d_Plugs_thin_8 ?_
  refine nv_istore_n (lv' := [(2, .int (iI ((N o0 2) - 12))), (1, .int (iI 0)), (0, .ref (ad o0))]) hC d_Plugs_thin_9 rfl (by decide) rfl ?_
  obtain ⟨hr11, hm⟩ := ck_s hm
  obtain ⟨q12, N13, hq14, hm⟩ := nbd_s hm
  refine nv_sub (lv' := [(0, .ref (ad o0)), (1, .int (iI 0)), (2, .int (iI ((N o0 2) - 12)))]) [2, 1, 0] rfl ?_
  refine w_Plugs_thin_10 hC o0 cap0 hp0 FU 0 ((N o0 2) - 12) N q12 N13 hq14 ⟨by decide, by decide⟩ hr11 ?_
  refine nv_iload_n hC d_Plugs_thin_31 rfl 1 rfl ?_
  obtain ⟨rfl, rfl⟩ := ret_s hm
  exact nv_iret hC hr hlk d_Plugs_thin_32
def m_Plugs_cool_22 (o0 cap0 : Nat) (x1 : Int) (x2 : Int) (x3 : Int) (x6 : Int) : Nat → Int → Int → nS → Option ((Int × Int) × nS)
  | 0, _, _, _ => none
  | f + 1, x4, x7, N =>
    if x6 ≤ x7 then
    some ((x4, x7), N)
    else
    if 0 ≤ x7 ∧ x7 < ((cap0 : Nat) : Int) then
    if rg ((N (o0 + 2) x7.toNat) - x1) then
    if ¬ x3 = 0 then
    if rg (N (o0 + 1) x7.toNat) then
    if rg (Int.tdiv ((N (o0 + 2) x7.toNat) - x1) x3) then
    if rg ((N (o0 + 2) x7.toNat) - (Int.tdiv ((N (o0 + 2) x7.toNat) - x1) x3)) then
    nbd (m_Plugs_add o0 cap0 (N (o0 + 1) x7.toNat) ((N (o0 + 2) x7.toNat) - (Int.tdiv ((N (o0 + 2) x7.toNat) - x1) x3)) N) (fun r11 N12 =>
    if rg (x7 + 1) then
    m_Plugs_cool_22 o0 cap0 x1 x2 x3 x6 f (x4 + ((N (o0 + 1) x7.toNat) * (Int.tdiv ((N (o0 + 2) x7.toNat) - x1) x3))) (x7 + 1) N12
    else none)
    else none
    else none
    else none
    else none
    else none
    else none
def m_Plugs_cool (o0 cap0 : Nat) (x1 : Int) (x2 : Int) (N : nS) : Option (Int × nS) :=
  nbd (m_Plugs_clear o0 cap0 N) (fun r1 N2 =>
  if rg (N o0 2) then
  nbd (m_Plugs_cool_22 o0 cap0 x1 x2 (if 1 < x2 then x2 else 1) (N o0 2) FU 0 0 N2) (fun q16 N17 =>
  some (q16.1, N17))
  else none)
set_option maxRecDepth 20000 in
theorem k_27 : Cond.methodLink R_Plugs 9 Lib.Math.max.name ∈ TT := tt_i 91 (by decide +kernel) (by decide +kernel)
set_option maxRecDepth 20000 in
theorem k_28 : Cond.static Lib.Math.max.name ∈ TT := tt_i 92 (by decide +kernel) (by decide +kernel)
set_option maxRecDepth 20000 in
theorem k_29 : Cond.code Lib.Math.max.name Lib.Math.max.code 2 (some .int) ∈ TT := tt_i 93 (by decide +kernel) (by decide +kernel)
abbrev rm_Plugs_cool : Room := { frames := 1, cells := 0, slots := 0, locals := 24 }
set_option maxRecDepth 100000 in
set_option maxHeartbeats 4000000 in
theorem w_Plugs_cool_22 {p : Program} {l : Launch} {e : Env} {s : State} {m : MethodId} {args : Array Value} {below : List Frame} {meth : Method} {c : Code} {Q : State → Prop} {D : va_G} {ct : Nat → ClassId} {A : Nat → Prop} {ad : Nat → Nat} {S : nH} (hC : nC p s m args c D vwCl ct A ad S 9 b_Plugs_cool R_Plugs TT) (o0 cap0 : Nat) (hp0 : isP S o0 cap0) (x1 : Int) (hx1 : rg x1) (x2 : Int) (hx2 : rg x2) (x3 : Int) (hx3 : rg x3) (x6 : Int) (hx6 : rg x6) : ∀ (f : Nat) (x4 x7 : Int) (N : nS) (q : Int × Int) (No : nS), m_Plugs_cool_22 o0 cap0 x1 x2 x3 x6 f x4 x7 N = some (q, No) → rg x7 → nV p l e rm_Plugs_cool s m args below meth c 0 0 Q D vwCl ct A ad S 9 No 86 [(0, .ref (ad o0)), (1, .int (iI x1)), (2, .int (iI x2)), (3, .int (iI x3)), (4, .long (lI q.1)), (6, .int (iI x6)), (7, .int (iI q.2))] [] → nV p l e rm_Plugs_cool s m args below meth c 0 0 Q D vwCl ct A ad S 9 N 22 [(0, .ref (ad o0)), (1, .int (iI x1)), (2, .int (iI x2)), (3, .int (iI x3)), (4, .long (lI x4)), (6, .int (iI x6)), (7, .int (iI x7))] [] := by
  intro f
  induction f with
  | zero =>
    intro x4 x7 N q No hm
    rw [m_Plugs_cool_22] at hm
    cases hm
  | succ f ih =>
    intro x4 x7 N q No hm hx7 kx
    rw [m_Plugs_cool_22] at hm
    refine nv_iload hC d_Plugs_cool_22 6 rfl ?_
    refine nv_iload hC d_Plugs_cool_24 5 rfl ?_
    refine nv_icmp_ge hC hx7 hx6 d_Plugs_cool_26 (tgt := 86) (by decide) (fun c4 => ?_) (fun c4 => ?_)
    · have hm := if_t c4 hm
      obtain ⟨rfl, rfl⟩ := ret_s hm
      refine nv_sub (lv' := [(0, .ref (ad o0)), (1, .int (iI x1)), (2, .int (iI x2)), (3, .int (iI x3)), (4, .long (lI x4)), (6, .int (iI x6)), (7, .int (iI x7))]) [0, 1, 2, 3, 4, 5, 6] rfl ?_
      exact kx
    · have hm := if_f c4 hm
      refine nv_aload_n hC d_Plugs_cool_29 rfl 0 rfl ?_
      refine nv_getR hC (j := 1) hp0.1 rfl in_Plugs (by decide) k_2 rfl d_Plugs_cool_30 ?_
      refine nv_iload hC d_Plugs_cool_33 6 rfl ?_
      obtain ⟨hc5, hm⟩ := ck_s hm
      refine nv_iald hC hp0.2.2.1 hp0.2.2.2 hc5 d_Plugs_cool_35 ?_
      refine nv_iload_n hC d_Plugs_cool_36 rfl 1 rfl ?_
      refine nv_isub hC d_Plugs_cool_37 ?_
      refine nv_iload_n hC d_Plugs_cool_38 rfl 3 rfl ?_
      obtain ⟨hr6, hm⟩ := ck_s hm
      obtain ⟨hc7, hm⟩ := ck_s hm
      refine nv_idiv hC d_Plugs_cool_39 hr6 hx3 hc7 ?_
      refine nv_istore (lv' := [(8, .int (iI (Int.tdiv ((N (o0 + 2) x7.toNat) - x1) x3))), (0, .ref (ad o0)), (1, .int (iI x1)), (2, .int (iI x2)), (3, .int (iI x3)), (4, .long (lI x4)), (6, .int (iI x6)), (7, .int (iI x7))]) hC d_Plugs_cool_40 (by decide) rfl ?_
      refine nv_lload hC d_Plugs_cool_42 5 rfl ?_
      refine nv_aload_n hC d_Plugs_cool_44 rfl 1 rfl ?_
      refine nv_getR hC (j := 0) hp0.1 rfl in_Plugs (by decide) k_1 rfl d_Plugs_cool_45 ?_
      refine nv_iload hC d_Plugs_cool_48 7 rfl ?_
      refine nv_iald hC hp0.2.1 hp0.2.2.2 hc5 d_Plugs_cool_50 ?_
      obtain ⟨hr8, hm⟩ := ck_s hm
      refine nv_i2l hC d_Plugs_cool_51 hr8 ?_
      refine nv_iload hC d_Plugs_cool_52 0 rfl ?_
      obtain ⟨hr9, hm⟩ := ck_s hm
      refine nv_i2l hC d_Plugs_cool_54 hr9 ?_
      refine nv_lmul hC d_Plugs_cool_55 ?_
      refine nv_ladd hC d_Plugs_cool_56 ?_
      refine nv_lstore (lv' := [(4, .long (lI (x4 + ((N (o0 + 1) x7.toNat) * (Int.tdiv ((N (o0 + 2) x7.toNat) - x1) x3))))), (8, .int (iI (Int.tdiv ((N (o0 + 2) x7.toNat) - x1) x3))), (0, .ref (ad o0)), (1, .int (iI x1)), (2, .int (iI x2)), (3, .int (iI x3)), (6, .int (iI x6)), (7, .int (iI x7))]) hC d_Plugs_cool_57 (by decide) rfl ?_
      refine nv_aload_n hC d_Plugs_cool_59 rfl 2 rfl ?_
      refine nv_aload_n hC d_Plugs_cool_60 rfl 2 rfl ?_
      refine nv_getR hC (j := 0) hp0.1 rfl in_Plugs (by decide) k_1 rfl d_Plugs_cool_61 ?_
      refine nv_iload hC d_Plugs_cool_64 7 rfl ?_
      refine nv_iald hC hp0.2.1 hp0.2.2.2 hc5 d_Plugs_cool_66 ?_
      refine nv_aload_n hC d_Plugs_cool_67 rfl 2 rfl ?_
      refine nv_getR hC (j := 1) hp0.1 rfl in_Plugs (by decide) k_2 rfl d_Plugs_cool_68 ?_
      refine nv_iload hC d_Plugs_cool_71 7 rfl ?_
      refine nv_iald hC hp0.2.2.1 hp0.2.2.2 hc5 d_Plugs_cool_73 ?_
      refine nv_iload hC d_Plugs_cool_74 1 rfl ?_
      refine nv_isub hC d_Plugs_cool_76 ?_
      obtain ⟨hr10, hm⟩ := ck_s hm
      obtain ⟨r11, N12, hq13, hm⟩ := nbd_s hm
      refine nv_callv (N' := N12) (nr_V hC (As := [.int (iI (N (o0 + 1) x7.toNat)), .int (iI ((N (o0 + 2) x7.toNat) - (Int.tdiv ((N (o0 + 2) x7.toNat) - x1) x3)))]) (st := []) hp0.1 rfl (c_Plugs_add l hC.2.2.1 o0 cap0 hp0 (N (o0 + 1) x7.toNat) hr8 ((N (o0 + 2) x7.toNat) - (Int.tdiv ((N (o0 + 2) x7.toNat) - x1) x3)) hr10 N r11 N12 hq13) (cwV 2 hC.1.2.2.2.2 (tt_V k_3 k_5 k_6 k_7 k_4) rfl rfl rfl (by decide +kernel) ⟨Nat.le_of_ble_eq_true rfl, Nat.le_of_ble_eq_true rfl⟩) rfl rfl (Nat.le_of_ble_eq_true rfl) ⟨Nat.zero_le _, Nat.zero_le _⟩ d_Plugs_cool_77) ?_
      refine nv_iinc (lv' := [(7, .int (iI (x7 + 1))), (4, .long (lI (x4 + ((N (o0 + 1) x7.toNat) * (Int.tdiv ((N (o0 + 2) x7.toNat) - x1) x3))))), (8, .int (iI (Int.tdiv ((N (o0 + 2) x7.toNat) - x1) x3))), (0, .ref (ad o0)), (1, .int (iI x1)), (2, .int (iI x2)), (3, .int (iI x3)), (6, .int (iI x6))]) hC d_Plugs_cool_80 7 rfl (by decide) rfl ?_
      refine nv_goto hC d_Plugs_cool_83 (tgt := 22) (by decide) ?_
      obtain ⟨hr14, hm⟩ := ck_s hm
      refine nv_sub (lv' := [(0, .ref (ad o0)), (1, .int (iI x1)), (2, .int (iI x2)), (3, .int (iI x3)), (4, .long (lI (x4 + ((N (o0 + 1) x7.toNat) * (Int.tdiv ((N (o0 + 2) x7.toNat) - x1) x3))))), (6, .int (iI x6)), (7, .int (iI (x7 + 1)))]) [3, 4, 5, 6, 1, 7, 0] rfl ?_
      exact ih (x4 + ((N (o0 + 1) x7.toNat) * (Int.tdiv ((N (o0 + 2) x7.toNat) - x1) x3))) (x7 + 1) N12 q No hm hr14 kx
set_option maxRecDepth 100000 in
set_option maxHeartbeats 4000000 in
theorem c_Plugs_cool (l : Launch) {D : va_G} {ct : Nat → ClassId} {A : Nat → Prop} {ad : Nat → Nat} {S : nH} (hD : nD ad A S.length) (o0 cap0 : Nat) (hp0 : isP S o0 cap0) (x1 : Int) (hx1 : rg x1) (x2 : Int) (hx2 : rg x2) (N : nS) (r : Int) (No : nS) (hm : m_Plugs_cool o0 cap0 x1 x2 N = some (r, No)) : nM l y_Plugs_cool (Cond.code y_Plugs_cool b_Plugs_cool 9 (some .long) :: TT) rm_Plugs_cool D vwCl ct A ad S N [.ref (ad o0), .int (iI x1), .int (iI x2)] (nQl D vwCl ct A ad S r No) := by
  refine nM_of (cc := b_Plugs_cool) (maxL := 9) (ret := (some .long)) (by decide) rfl (Nat.le_of_ble_eq_true rfl) hD ?_
  intro p e s m below meth c hC hr hlk
  refine nv_lv (lv' := [(0, .ref (ad o0)), (1, .int (iI x1)), (2, .int (iI x2))]) rfl ?_
  rw [m_Plugs_cool] at hm
  refine nv_iconst hC d_Plugs_cool_0 ?_
  refine nv_iload_n hC d_Plugs_cool_1 rfl 2 rfl ?_
  refine nv_mmax hC k_27 k_28 k_14 k_29 (Nat.le_of_ble_eq_true rfl) (Nat.le_of_ble_eq_true rfl) (Nat.zero_le _) (Nat.zero_le _) ⟨by decide, by decide⟩ hx2 d_Plugs_cool_2 ?_
  refine nv_istore_n (lv' := [(3, .int (iI (if 1 < x2 then x2 else 1))), (0, .ref (ad o0)), (1, .int (iI x1)), (2, .int (iI x2))]) hC d_Plugs_cool_5 rfl (by decide) rfl ?_
  refine nv_lconst hC (z := 0) d_Plugs_cool_6 rfl ?_
  refine nv_lstore (lv' := [(4, .long (lI 0)), (3, .int (iI (if 1 < x2 then x2 else 1))), (0, .ref (ad o0)), (1, .int (iI x1)), (2, .int (iI x2))]) hC d_Plugs_cool_7 (by decide) rfl ?_
  refine nv_aload_n hC d_Plugs_cool_9 rfl 2 rfl ?_
  refine nv_getI hC (j := 2) hp0.1 rfl in_Plugs (by decide) k_0 rfl d_Plugs_cool_10 ?_
  refine nv_istore (lv' := [(6, .int (iI (N o0 2))), (4, .long (lI 0)), (3, .int (iI (if 1 < x2 then x2 else 1))), (0, .ref (ad o0)), (1, .int (iI x1)), (2, .int (iI x2))]) hC d_Plugs_cool_13 (by decide) rfl ?_
  refine nv_aload_n hC d_Plugs_cool_15 rfl 3 rfl ?_
  obtain ⟨r1, N2, hq3, hm⟩ := nbd_s hm
  refine nv_callv (N' := N2) (nr_V hC (As := []) (st := []) hp0.1 rfl (c_Plugs_clear l hC.2.2.1 o0 cap0 hp0 N r1 N2 hq3) (cwV 0 hC.1.2.2.2.2 (tt_V k_8 k_10 k_11 k_7 k_9) rfl rfl rfl (by decide +kernel) ⟨Nat.le_of_ble_eq_true rfl, Nat.le_of_ble_eq_true rfl⟩) rfl rfl (Nat.le_of_ble_eq_true rfl) ⟨Nat.zero_le _, Nat.zero_le _⟩ d_Plugs_cool_16) ?_
  refine nv_iconst hC d_Plugs_cool_19 ?_
  refine nv_istore (lv' := [(7, .int (iI 0)), (6, .int (iI (N o0 2))), (4, .long (lI 0)), (3, .int (iI (if 1 < x2 then x2 else 1))), (0, .ref (ad o0)), (1, .int (iI x1)), (2, .int (iI x2))]) hC d_Plugs_cool_20 (by decide) rfl ?_
  obtain ⟨hr15, hm⟩ := ck_s hm
  obtain ⟨q16, N17, hq18, hm⟩ := nbd_s hm
  refine nv_sub (lv' := [(0, .ref (ad o0)), (1, .int (iI x1)), (2, .int (iI x2)), (3, .int (iI (if 1 < x2 then x2 else 1))), (4, .long (lI 0)), (6, .int (iI (N o0 2))), (7, .int (iI 0))]) [4, 5, 6, 3, 2, 1, 0] rfl ?_
  refine w_Plugs_cool_22 hC o0 cap0 hp0 x1 hx1 x2 hx2 (if 1 < x2 then x2 else 1) (rg_max ⟨by decide, by decide⟩ hx2) (N o0 2) hr15 FU 0 0 N2 q16 N17 hq18 ⟨by decide, by decide⟩ ?_
  refine nv_lload hC d_Plugs_cool_86 4 rfl ?_
  obtain ⟨rfl, rfl⟩ := ret_s hm
  exact nv_lret hC hr hlk d_Plugs_cool_88
def m_Plugs_volumeTimesWarmth_4 (o0 cap0 : Nat) : Nat → Int → Int → nS → Option ((Int × Int) × nS)
  | 0, _, _, _ => none
  | f + 1, x1, x3, N =>
    if rg (N o0 2) then
    if (N o0 2) ≤ x3 then
    some ((x1, x3), N)
    else
    if 0 ≤ x3 ∧ x3 < ((cap0 : Nat) : Int) then
    if rg (N (o0 + 1) x3.toNat) then
    if rg (N (o0 + 2) x3.toNat) then
    if rg (x3 + 1) then
    m_Plugs_volumeTimesWarmth_4 o0 cap0 f (x1 + ((N (o0 + 1) x3.toNat) * (N (o0 + 2) x3.toNat))) (x3 + 1) N
    else none
    else none
    else none
    else none
    else none
def m_Plugs_volumeTimesWarmth (o0 cap0 : Nat) (N : nS) : Option (Int × nS) :=
  nbd (m_Plugs_volumeTimesWarmth_4 o0 cap0 FU 0 0 N) (fun q7 N8 =>
  some (q7.1, N8))
abbrev rm_Plugs_volumeTimesWarmth : Room := { frames := 0, cells := 0, slots := 0, locals := 0 }
set_option maxRecDepth 100000 in
set_option maxHeartbeats 4000000 in
theorem w_Plugs_volumeTimesWarmth_4 {p : Program} {l : Launch} {e : Env} {s : State} {m : MethodId} {args : Array Value} {below : List Frame} {meth : Method} {c : Code} {Q : State → Prop} {D : va_G} {ct : Nat → ClassId} {A : Nat → Prop} {ad : Nat → Nat} {S : nH} (hC : nC p s m args c D vwCl ct A ad S 4 b_Plugs_volumeTimesWarmth R_Plugs TT) (o0 cap0 : Nat) (hp0 : isP S o0 cap0) : ∀ (f : Nat) (x1 x3 : Int) (N : nS) (q : Int × Int) (No : nS), m_Plugs_volumeTimesWarmth_4 o0 cap0 f x1 x3 N = some (q, No) → rg x3 → nV p l e rm_Plugs_volumeTimesWarmth s m args below meth c 0 0 Q D vwCl ct A ad S 4 No 36 [(0, .ref (ad o0)), (1, .long (lI q.1)), (3, .int (iI q.2))] [] → nV p l e rm_Plugs_volumeTimesWarmth s m args below meth c 0 0 Q D vwCl ct A ad S 4 N 4 [(0, .ref (ad o0)), (1, .long (lI x1)), (3, .int (iI x3))] [] := by
  intro f
  induction f with
  | zero =>
    intro x1 x3 N q No hm
    rw [m_Plugs_volumeTimesWarmth_4] at hm
    cases hm
  | succ f ih =>
    intro x1 x3 N q No hm hx3 kx
    rw [m_Plugs_volumeTimesWarmth_4] at hm
    refine nv_iload_n hC d_Plugs_volumeTimesWarmth_4 rfl 2 rfl ?_
    refine nv_aload_n hC d_Plugs_volumeTimesWarmth_5 rfl 0 rfl ?_
    refine nv_getI hC (j := 2) hp0.1 rfl in_Plugs (by decide) k_0 rfl d_Plugs_volumeTimesWarmth_6 ?_
    obtain ⟨hr1, hm⟩ := ck_s hm
    refine nv_icmp_ge hC hx3 hr1 d_Plugs_volumeTimesWarmth_9 (tgt := 36) (by decide) (fun c2 => ?_) (fun c2 => ?_)
    · have hm := if_t c2 hm
      obtain ⟨rfl, rfl⟩ := ret_s hm
      refine nv_sub (lv' := [(0, .ref (ad o0)), (1, .long (lI x1)), (3, .int (iI x3))]) [0, 1, 2] rfl ?_
      exact kx
    · have hm := if_f c2 hm
      refine nv_lload_n hC d_Plugs_volumeTimesWarmth_12 rfl 1 rfl ?_
      refine nv_aload_n hC d_Plugs_volumeTimesWarmth_13 rfl 0 rfl ?_
      refine nv_getR hC (j := 0) hp0.1 rfl in_Plugs (by decide) k_1 rfl d_Plugs_volumeTimesWarmth_14 ?_
      refine nv_iload_n hC d_Plugs_volumeTimesWarmth_17 rfl 2 rfl ?_
      obtain ⟨hc3, hm⟩ := ck_s hm
      refine nv_iald hC hp0.2.1 hp0.2.2.2 hc3 d_Plugs_volumeTimesWarmth_18 ?_
      obtain ⟨hr4, hm⟩ := ck_s hm
      refine nv_i2l hC d_Plugs_volumeTimesWarmth_19 hr4 ?_
      refine nv_aload_n hC d_Plugs_volumeTimesWarmth_20 rfl 0 rfl ?_
      refine nv_getR hC (j := 1) hp0.1 rfl in_Plugs (by decide) k_2 rfl d_Plugs_volumeTimesWarmth_21 ?_
      refine nv_iload_n hC d_Plugs_volumeTimesWarmth_24 rfl 2 rfl ?_
      refine nv_iald hC hp0.2.2.1 hp0.2.2.2 hc3 d_Plugs_volumeTimesWarmth_25 ?_
      obtain ⟨hr5, hm⟩ := ck_s hm
      refine nv_i2l hC d_Plugs_volumeTimesWarmth_26 hr5 ?_
      refine nv_lmul hC d_Plugs_volumeTimesWarmth_27 ?_
      refine nv_ladd hC d_Plugs_volumeTimesWarmth_28 ?_
      refine nv_lstore_n (lv' := [(1, .long (lI (x1 + ((N (o0 + 1) x3.toNat) * (N (o0 + 2) x3.toNat))))), (0, .ref (ad o0)), (3, .int (iI x3))]) hC d_Plugs_volumeTimesWarmth_29 rfl (by decide) rfl ?_
      refine nv_iinc (lv' := [(3, .int (iI (x3 + 1))), (1, .long (lI (x1 + ((N (o0 + 1) x3.toNat) * (N (o0 + 2) x3.toNat))))), (0, .ref (ad o0))]) hC d_Plugs_volumeTimesWarmth_30 2 rfl (by decide) rfl ?_
      refine nv_goto hC d_Plugs_volumeTimesWarmth_33 (tgt := 4) (by decide) ?_
      obtain ⟨hr6, hm⟩ := ck_s hm
      refine nv_sub (lv' := [(0, .ref (ad o0)), (1, .long (lI (x1 + ((N (o0 + 1) x3.toNat) * (N (o0 + 2) x3.toNat))))), (3, .int (iI (x3 + 1)))]) [2, 1, 0] rfl ?_
      exact ih (x1 + ((N (o0 + 1) x3.toNat) * (N (o0 + 2) x3.toNat))) (x3 + 1) N q No hm hr6 kx
set_option maxRecDepth 100000 in
set_option maxHeartbeats 4000000 in
theorem c_Plugs_volumeTimesWarmth (l : Launch) {D : va_G} {ct : Nat → ClassId} {A : Nat → Prop} {ad : Nat → Nat} {S : nH} (hD : nD ad A S.length) (o0 cap0 : Nat) (hp0 : isP S o0 cap0) (N : nS) (r : Int) (No : nS) (hm : m_Plugs_volumeTimesWarmth o0 cap0 N = some (r, No)) : nM l y_Plugs_volumeTimesWarmth (Cond.code y_Plugs_volumeTimesWarmth b_Plugs_volumeTimesWarmth 4 (some .long) :: TT) rm_Plugs_volumeTimesWarmth D vwCl ct A ad S N [.ref (ad o0)] (nQl D vwCl ct A ad S r No) := by
  refine nM_of (cc := b_Plugs_volumeTimesWarmth) (maxL := 4) (ret := (some .long)) (by decide) rfl (Nat.le_of_ble_eq_true rfl) hD ?_
  intro p e s m below meth c hC hr hlk
  refine nv_lv (lv' := [(0, .ref (ad o0))]) rfl ?_
  rw [m_Plugs_volumeTimesWarmth] at hm
  refine nv_lconst hC (z := 0) d_Plugs_volumeTimesWarmth_0 rfl ?_
  refine nv_lstore_n (lv' := [(1, .long (lI 0)), (0, .ref (ad o0))]) hC d_Plugs_volumeTimesWarmth_1 rfl (by decide) rfl ?_
  refine nv_iconst hC d_Plugs_volumeTimesWarmth_2 ?_
  refine nv_istore_n (lv' := [(3, .int (iI 0)), (1, .long (lI 0)), (0, .ref (ad o0))]) hC d_Plugs_volumeTimesWarmth_3 rfl (by decide) rfl ?_
  obtain ⟨q7, N8, hq9, hm⟩ := nbd_s hm
  refine nv_sub (lv' := [(0, .ref (ad o0)), (1, .long (lI 0)), (3, .int (iI 0))]) [2, 1, 0] rfl ?_
  refine w_Plugs_volumeTimesWarmth_4 hC o0 cap0 hp0 FU 0 0 N q7 N8 hq9 ⟨by decide, by decide⟩ ?_
  refine nv_lload_n hC d_Plugs_volumeTimesWarmth_36 rfl 1 rfl ?_
  obtain ⟨rfl, rfl⟩ := ret_s hm
  exact nv_lret hC hr hlk d_Plugs_volumeTimesWarmth_37
def m_Plugs_least_6 (o0 cap0 : Nat) : Nat → Int → Int → nS → Option ((Int × Int) × nS)
  | 0, _, _, _ => none
  | f + 1, x1, x2, N =>
    if rg (N o0 2) then
    if (N o0 2) ≤ x2 then
    some ((x1, x2), N)
    else
    if 0 ≤ x2 ∧ x2 < ((cap0 : Nat) : Int) then
    if rg (N (o0 + 2) x2.toNat) then
    if rg (x2 + 1) then
    m_Plugs_least_6 o0 cap0 f (if (N (o0 + 2) x2.toNat) < x1 then (N (o0 + 2) x2.toNat) else x1) (x2 + 1) N
    else none
    else none
    else none
    else none
def m_Plugs_least (o0 cap0 : Nat) (N : nS) : Option (Int × nS) :=
  nbd (m_Plugs_least_6 o0 cap0 FU 10000 0 N) (fun q6 N7 =>
  some (q6.1, N7))
abbrev rm_Plugs_least : Room := { frames := 1, cells := 0, slots := 0, locals := 24 }
set_option maxRecDepth 100000 in
set_option maxHeartbeats 4000000 in
theorem w_Plugs_least_6 {p : Program} {l : Launch} {e : Env} {s : State} {m : MethodId} {args : Array Value} {below : List Frame} {meth : Method} {c : Code} {Q : State → Prop} {D : va_G} {ct : Nat → ClassId} {A : Nat → Prop} {ad : Nat → Nat} {S : nH} (hC : nC p s m args c D vwCl ct A ad S 3 b_Plugs_least R_Plugs TT) (o0 cap0 : Nat) (hp0 : isP S o0 cap0) : ∀ (f : Nat) (x1 x2 : Int) (N : nS) (q : Int × Int) (No : nS), m_Plugs_least_6 o0 cap0 f x1 x2 N = some (q, No) → rg x1 → rg x2 → nV p l e rm_Plugs_least s m args below meth c 0 0 Q D vwCl ct A ad S 3 No 31 [(0, .ref (ad o0)), (1, .int (iI q.1)), (2, .int (iI q.2))] [] → nV p l e rm_Plugs_least s m args below meth c 0 0 Q D vwCl ct A ad S 3 N 6 [(0, .ref (ad o0)), (1, .int (iI x1)), (2, .int (iI x2))] [] := by
  intro f
  induction f with
  | zero =>
    intro x1 x2 N q No hm
    rw [m_Plugs_least_6] at hm
    cases hm
  | succ f ih =>
    intro x1 x2 N q No hm hx1 hx2 kx
    rw [m_Plugs_least_6] at hm
    refine nv_iload_n hC d_Plugs_least_6 rfl 2 rfl ?_
    refine nv_aload_n hC d_Plugs_least_7 rfl 0 rfl ?_
    refine nv_getI hC (j := 2) hp0.1 rfl in_Plugs (by decide) k_0 rfl d_Plugs_least_8 ?_
    obtain ⟨hr1, hm⟩ := ck_s hm
    refine nv_icmp_ge hC hx2 hr1 d_Plugs_least_11 (tgt := 31) (by decide) (fun c2 => ?_) (fun c2 => ?_)
    · have hm := if_t c2 hm
      obtain ⟨rfl, rfl⟩ := ret_s hm
      refine nv_sub (lv' := [(0, .ref (ad o0)), (1, .int (iI x1)), (2, .int (iI x2))]) [0, 1, 2] rfl ?_
      exact kx
    · have hm := if_f c2 hm
      refine nv_iload_n hC d_Plugs_least_14 rfl 1 rfl ?_
      refine nv_aload_n hC d_Plugs_least_15 rfl 0 rfl ?_
      refine nv_getR hC (j := 1) hp0.1 rfl in_Plugs (by decide) k_2 rfl d_Plugs_least_16 ?_
      refine nv_iload_n hC d_Plugs_least_19 rfl 2 rfl ?_
      obtain ⟨hc3, hm⟩ := ck_s hm
      refine nv_iald hC hp0.2.2.1 hp0.2.2.2 hc3 d_Plugs_least_20 ?_
      obtain ⟨hr4, hm⟩ := ck_s hm
      refine nv_mmin hC k_12 k_13 k_14 k_15 (Nat.le_of_ble_eq_true rfl) (Nat.le_of_ble_eq_true rfl) (Nat.zero_le _) (Nat.zero_le _) hx1 hr4 d_Plugs_least_21 ?_
      refine nv_istore_n (lv' := [(1, .int (iI (if (N (o0 + 2) x2.toNat) < x1 then (N (o0 + 2) x2.toNat) else x1))), (0, .ref (ad o0)), (2, .int (iI x2))]) hC d_Plugs_least_24 rfl (by decide) rfl ?_
      refine nv_iinc (lv' := [(2, .int (iI (x2 + 1))), (1, .int (iI (if (N (o0 + 2) x2.toNat) < x1 then (N (o0 + 2) x2.toNat) else x1))), (0, .ref (ad o0))]) hC d_Plugs_least_25 2 rfl (by decide) rfl ?_
      refine nv_goto hC d_Plugs_least_28 (tgt := 6) (by decide) ?_
      obtain ⟨hr5, hm⟩ := ck_s hm
      refine nv_sub (lv' := [(0, .ref (ad o0)), (1, .int (iI (if (N (o0 + 2) x2.toNat) < x1 then (N (o0 + 2) x2.toNat) else x1))), (2, .int (iI (x2 + 1)))]) [2, 1, 0] rfl ?_
      exact ih (if (N (o0 + 2) x2.toNat) < x1 then (N (o0 + 2) x2.toNat) else x1) (x2 + 1) N q No hm (rg_min hx1 hr4) hr5 kx
set_option maxRecDepth 100000 in
set_option maxHeartbeats 4000000 in
theorem c_Plugs_least (l : Launch) {D : va_G} {ct : Nat → ClassId} {A : Nat → Prop} {ad : Nat → Nat} {S : nH} (hD : nD ad A S.length) (o0 cap0 : Nat) (hp0 : isP S o0 cap0) (N : nS) (r : Int) (No : nS) (hm : m_Plugs_least o0 cap0 N = some (r, No)) : nM l y_Plugs_least (Cond.code y_Plugs_least b_Plugs_least 3 (some .int) :: TT) rm_Plugs_least D vwCl ct A ad S N [.ref (ad o0)] (nQi D vwCl ct A ad S r No) := by
  refine nM_of (cc := b_Plugs_least) (maxL := 3) (ret := (some .int)) (by decide) rfl (Nat.le_of_ble_eq_true rfl) hD ?_
  intro p e s m below meth c hC hr hlk
  refine nv_lv (lv' := [(0, .ref (ad o0))]) rfl ?_
  rw [m_Plugs_least] at hm
  refine nv_sipush hC (z := 10000) d_Plugs_least_0 rfl ?_
  refine nv_istore_n (lv' := [(1, .int (iI 10000)), (0, .ref (ad o0))]) hC d_Plugs_least_3 rfl (by decide) rfl ?_
  refine nv_iconst hC d_Plugs_least_4 ?_
  refine nv_istore_n (lv' := [(2, .int (iI 0)), (1, .int (iI 10000)), (0, .ref (ad o0))]) hC d_Plugs_least_5 rfl (by decide) rfl ?_
  obtain ⟨q6, N7, hq8, hm⟩ := nbd_s hm
  refine nv_sub (lv' := [(0, .ref (ad o0)), (1, .int (iI 10000)), (2, .int (iI 0))]) [2, 1, 0] rfl ?_
  refine w_Plugs_least_6 hC o0 cap0 hp0 FU 10000 0 N q6 N7 hq8 ⟨by decide, by decide⟩ ⟨by decide, by decide⟩ ?_
  refine nv_iload_n hC d_Plugs_least_31 rfl 1 rfl ?_
  obtain ⟨rfl, rfl⟩ := ret_s hm
  exact nv_iret hC hr hlk d_Plugs_least_32
def m_Plugs_greatest_4 (o0 cap0 : Nat) : Nat → Int → Int → nS → Option ((Int × Int) × nS)
  | 0, _, _, _ => none
  | f + 1, x1, x2, N =>
    if rg (N o0 2) then
    if (N o0 2) ≤ x2 then
    some ((x1, x2), N)
    else
    if 0 ≤ x2 ∧ x2 < ((cap0 : Nat) : Int) then
    if rg (N (o0 + 2) x2.toNat) then
    if rg (x2 + 1) then
    m_Plugs_greatest_4 o0 cap0 f (if x1 < (N (o0 + 2) x2.toNat) then (N (o0 + 2) x2.toNat) else x1) (x2 + 1) N
    else none
    else none
    else none
    else none
def m_Plugs_greatest (o0 cap0 : Nat) (N : nS) : Option (Int × nS) :=
  nbd (m_Plugs_greatest_4 o0 cap0 FU 0 0 N) (fun q6 N7 =>
  some (q6.1, N7))
abbrev rm_Plugs_greatest : Room := { frames := 1, cells := 0, slots := 0, locals := 24 }
set_option maxRecDepth 100000 in
set_option maxHeartbeats 4000000 in
theorem w_Plugs_greatest_4 {p : Program} {l : Launch} {e : Env} {s : State} {m : MethodId} {args : Array Value} {below : List Frame} {meth : Method} {c : Code} {Q : State → Prop} {D : va_G} {ct : Nat → ClassId} {A : Nat → Prop} {ad : Nat → Nat} {S : nH} (hC : nC p s m args c D vwCl ct A ad S 3 b_Plugs_greatest R_Plugs TT) (o0 cap0 : Nat) (hp0 : isP S o0 cap0) : ∀ (f : Nat) (x1 x2 : Int) (N : nS) (q : Int × Int) (No : nS), m_Plugs_greatest_4 o0 cap0 f x1 x2 N = some (q, No) → rg x1 → rg x2 → nV p l e rm_Plugs_greatest s m args below meth c 0 0 Q D vwCl ct A ad S 3 No 29 [(0, .ref (ad o0)), (1, .int (iI q.1)), (2, .int (iI q.2))] [] → nV p l e rm_Plugs_greatest s m args below meth c 0 0 Q D vwCl ct A ad S 3 N 4 [(0, .ref (ad o0)), (1, .int (iI x1)), (2, .int (iI x2))] [] := by
  intro f
  induction f with
  | zero =>
    intro x1 x2 N q No hm
    rw [m_Plugs_greatest_4] at hm
    cases hm
  | succ f ih =>
    intro x1 x2 N q No hm hx1 hx2 kx
    rw [m_Plugs_greatest_4] at hm
    refine nv_iload_n hC d_Plugs_greatest_4 rfl 2 rfl ?_
    refine nv_aload_n hC d_Plugs_greatest_5 rfl 0 rfl ?_
    refine nv_getI hC (j := 2) hp0.1 rfl in_Plugs (by decide) k_0 rfl d_Plugs_greatest_6 ?_
    obtain ⟨hr1, hm⟩ := ck_s hm
    refine nv_icmp_ge hC hx2 hr1 d_Plugs_greatest_9 (tgt := 29) (by decide) (fun c2 => ?_) (fun c2 => ?_)
    · have hm := if_t c2 hm
      obtain ⟨rfl, rfl⟩ := ret_s hm
      refine nv_sub (lv' := [(0, .ref (ad o0)), (1, .int (iI x1)), (2, .int (iI x2))]) [0, 1, 2] rfl ?_
      exact kx
    · have hm := if_f c2 hm
      refine nv_iload_n hC d_Plugs_greatest_12 rfl 1 rfl ?_
      refine nv_aload_n hC d_Plugs_greatest_13 rfl 0 rfl ?_
      refine nv_getR hC (j := 1) hp0.1 rfl in_Plugs (by decide) k_2 rfl d_Plugs_greatest_14 ?_
      refine nv_iload_n hC d_Plugs_greatest_17 rfl 2 rfl ?_
      obtain ⟨hc3, hm⟩ := ck_s hm
      refine nv_iald hC hp0.2.2.1 hp0.2.2.2 hc3 d_Plugs_greatest_18 ?_
      obtain ⟨hr4, hm⟩ := ck_s hm
      refine nv_mmax hC k_27 k_28 k_14 k_29 (Nat.le_of_ble_eq_true rfl) (Nat.le_of_ble_eq_true rfl) (Nat.zero_le _) (Nat.zero_le _) hx1 hr4 d_Plugs_greatest_19 ?_
      refine nv_istore_n (lv' := [(1, .int (iI (if x1 < (N (o0 + 2) x2.toNat) then (N (o0 + 2) x2.toNat) else x1))), (0, .ref (ad o0)), (2, .int (iI x2))]) hC d_Plugs_greatest_22 rfl (by decide) rfl ?_
      refine nv_iinc (lv' := [(2, .int (iI (x2 + 1))), (1, .int (iI (if x1 < (N (o0 + 2) x2.toNat) then (N (o0 + 2) x2.toNat) else x1))), (0, .ref (ad o0))]) hC d_Plugs_greatest_23 2 rfl (by decide) rfl ?_
      refine nv_goto hC d_Plugs_greatest_26 (tgt := 4) (by decide) ?_
      obtain ⟨hr5, hm⟩ := ck_s hm
      refine nv_sub (lv' := [(0, .ref (ad o0)), (1, .int (iI (if x1 < (N (o0 + 2) x2.toNat) then (N (o0 + 2) x2.toNat) else x1))), (2, .int (iI (x2 + 1)))]) [2, 1, 0] rfl ?_
      exact ih (if x1 < (N (o0 + 2) x2.toNat) then (N (o0 + 2) x2.toNat) else x1) (x2 + 1) N q No hm (rg_max hx1 hr4) hr5 kx
set_option maxRecDepth 100000 in
set_option maxHeartbeats 4000000 in
theorem c_Plugs_greatest (l : Launch) {D : va_G} {ct : Nat → ClassId} {A : Nat → Prop} {ad : Nat → Nat} {S : nH} (hD : nD ad A S.length) (o0 cap0 : Nat) (hp0 : isP S o0 cap0) (N : nS) (r : Int) (No : nS) (hm : m_Plugs_greatest o0 cap0 N = some (r, No)) : nM l y_Plugs_greatest (Cond.code y_Plugs_greatest b_Plugs_greatest 3 (some .int) :: TT) rm_Plugs_greatest D vwCl ct A ad S N [.ref (ad o0)] (nQi D vwCl ct A ad S r No) := by
  refine nM_of (cc := b_Plugs_greatest) (maxL := 3) (ret := (some .int)) (by decide) rfl (Nat.le_of_ble_eq_true rfl) hD ?_
  intro p e s m below meth c hC hr hlk
  refine nv_lv (lv' := [(0, .ref (ad o0))]) rfl ?_
  rw [m_Plugs_greatest] at hm
  refine nv_iconst hC d_Plugs_greatest_0 ?_
  refine nv_istore_n (lv' := [(1, .int (iI 0)), (0, .ref (ad o0))]) hC d_Plugs_greatest_1 rfl (by decide) rfl ?_
  refine nv_iconst hC d_Plugs_greatest_2 ?_
  refine nv_istore_n (lv' := [(2, .int (iI 0)), (1, .int (iI 0)), (0, .ref (ad o0))]) hC d_Plugs_greatest_3 rfl (by decide) rfl ?_
  obtain ⟨q6, N7, hq8, hm⟩ := nbd_s hm
  refine nv_sub (lv' := [(0, .ref (ad o0)), (1, .int (iI 0)), (2, .int (iI 0))]) [2, 1, 0] rfl ?_
  refine w_Plugs_greatest_4 hC o0 cap0 hp0 FU 0 0 N q6 N7 hq8 ⟨by decide, by decide⟩ ⟨by decide, by decide⟩ ?_
  refine nv_iload_n hC d_Plugs_greatest_29 rfl 1 rfl ?_
  obtain ⟨rfl, rfl⟩ := ret_s hm
  exact nv_iret hC hr hlk d_Plugs_greatest_30
end
section
def m_Net_add (nn0 : Nat) (x1 : Int) (x2 : Int) (x3 : Int) (N : nS) : Option (Int × nS) :=
  if rg (N nn0 5) then
  if (N nn0 5) < 10 then
  if 0 ≤ (N nn0 5) ∧ (N nn0 5) < ((10 : Nat) : Int) then
  nlt (up2 N (nn0 + 1) (N nn0 5).toNat x1) (fun N4 =>
  if 0 ≤ (N4 nn0 5) ∧ (N4 nn0 5) < ((10 : Nat) : Int) then
  nlt (up2 N4 (nn0 + 2) (N4 nn0 5).toNat x2) (fun N7 =>
  if 0 ≤ (N7 nn0 5) ∧ (N7 nn0 5) < ((10 : Nat) : Int) then
  nlt (up2 N7 (nn0 + 3) (N7 nn0 5).toNat x3) (fun N10 =>
  nlt (up2 N10 nn0 5 ((N10 nn0 5) + 1)) (fun N12 =>
  some (((N12 nn0 5) - 1), N12)))
  else none)
  else none)
  else none
  else
  some ((-1), N)
  else none
set_option maxRecDepth 20000 in
theorem k_30 : Cond.fieldLink R_Net 28 (T_Net 5).1 (T_Net 5).2.1 (T_Net 5).2.2.1 ∈ TT := tt_i 60 (by decide +kernel) (by decide +kernel)
set_option maxRecDepth 20000 in
theorem k_31 : Cond.fieldLink R_Net 9 (T_Net 0).1 (T_Net 0).2.1 (T_Net 0).2.2.1 ∈ TT := tt_i 49 (by decide +kernel) (by decide +kernel)
set_option maxRecDepth 20000 in
theorem k_32 : Cond.fieldLink R_Net 15 (T_Net 1).1 (T_Net 1).2.1 (T_Net 1).2.2.1 ∈ TT := tt_i 51 (by decide +kernel) (by decide +kernel)
set_option maxRecDepth 20000 in
theorem k_33 : Cond.fieldLink R_Net 18 (T_Net 2).1 (T_Net 2).2.1 (T_Net 2).2.2.1 ∈ TT := tt_i 53 (by decide +kernel) (by decide +kernel)
abbrev rm_Net_add : Room := { frames := 0, cells := 0, slots := 0, locals := 0 }
set_option maxRecDepth 100000 in
set_option maxHeartbeats 4000000 in
theorem c_Net_add (l : Launch) {D : va_G} {ct : Nat → ClassId} {A : Nat → Prop} {ad : Nat → Nat} {S : nH} (hD : nD ad A S.length) (nn0 : Nat) (hp0 : isN S nn0) (x1 : Int) (hx1 : rg x1) (x2 : Int) (hx2 : rg x2) (x3 : Int) (hx3 : rg x3) (N : nS) (r : Int) (No : nS) (hm : m_Net_add nn0 x1 x2 x3 N = some (r, No)) : nM l y_Net_add (Cond.code y_Net_add b_Net_add 4 (some .int) :: TT) rm_Net_add D vwCl ct A ad S N [.ref (ad nn0), .int (iI x1), .int (iI x2), .int (iI x3)] (nQi D vwCl ct A ad S r No) := by
  refine nM_of (cc := b_Net_add) (maxL := 4) (ret := (some .int)) (by decide) rfl (Nat.le_of_ble_eq_true rfl) hD ?_
  intro p e s m below meth c hC hr hlk
  refine nv_lv (lv' := [(0, .ref (ad nn0)), (1, .int (iI x1)), (2, .int (iI x2)), (3, .int (iI x3))]) rfl ?_
  rw [m_Net_add] at hm
  refine nv_aload_n hC d_Net_add_0 rfl 0 rfl ?_
  refine nv_getI hC (j := 5) hp0.1 rfl in_Net (by decide) k_30 rfl d_Net_add_1 ?_
  refine nv_bipush hC (z := 10) d_Net_add_4 rfl ?_
  obtain ⟨hr1, hm⟩ := ck_s hm
  refine nv_icmp_lt hC hr1 ⟨by decide, by decide⟩ d_Net_add_6 (tgt := 11) (by decide) (fun c2 => ?_) (fun c2 => ?_)
  · have hm := if_t c2 hm
    refine nv_aload_n hC d_Net_add_11 rfl 0 rfl ?_
    refine nv_getR hC (j := 0) hp0.1 rfl in_Net (by decide) k_31 rfl d_Net_add_12 ?_
    refine nv_aload_n hC d_Net_add_15 rfl 0 rfl ?_
    refine nv_getI hC (j := 5) hp0.1 rfl in_Net (by decide) k_30 rfl d_Net_add_16 ?_
    refine nv_iload_n hC d_Net_add_19 rfl 1 rfl ?_
    obtain ⟨hc3, hm⟩ := ck_s hm
    obtain ⟨N4, e5, hm⟩ := nlt_s hm
    refine nv_iast hC hp0.2.1 (by decide) hc3 e5 d_Net_add_20 ?_
    refine nv_aload_n hC d_Net_add_21 rfl 0 rfl ?_
    refine nv_getR hC (j := 1) hp0.1 rfl in_Net (by decide) k_32 rfl d_Net_add_22 ?_
    refine nv_aload_n hC d_Net_add_25 rfl 0 rfl ?_
    refine nv_getI hC (j := 5) hp0.1 rfl in_Net (by decide) k_30 rfl d_Net_add_26 ?_
    refine nv_iload_n hC d_Net_add_29 rfl 2 rfl ?_
    obtain ⟨hc6, hm⟩ := ck_s hm
    obtain ⟨N7, e8, hm⟩ := nlt_s hm
    refine nv_iast hC hp0.2.2.1 (by decide) hc6 e8 d_Net_add_30 ?_
    refine nv_aload_n hC d_Net_add_31 rfl 0 rfl ?_
    refine nv_getR hC (j := 2) hp0.1 rfl in_Net (by decide) k_33 rfl d_Net_add_32 ?_
    refine nv_aload_n hC d_Net_add_35 rfl 0 rfl ?_
    refine nv_getI hC (j := 5) hp0.1 rfl in_Net (by decide) k_30 rfl d_Net_add_36 ?_
    refine nv_iload_n hC d_Net_add_39 rfl 3 rfl ?_
    obtain ⟨hc9, hm⟩ := ck_s hm
    obtain ⟨N10, e11, hm⟩ := nlt_s hm
    refine nv_iast hC hp0.2.2.2.1 (by decide) hc9 e11 d_Net_add_40 ?_
    refine nv_aload_n hC d_Net_add_41 rfl 0 rfl ?_
    refine nv_dup hC d_Net_add_42 rfl ?_
    refine nv_getI hC (j := 5) hp0.1 rfl in_Net (by decide) k_30 rfl d_Net_add_43 ?_
    refine nv_iconst hC d_Net_add_46 ?_
    refine nv_iadd hC d_Net_add_47 ?_
    obtain ⟨N12, e13, hm⟩ := nlt_s hm
    refine nv_putI hC (j := 5) hp0.1 rfl in_Net (by decide) ty_Net tyok_Net nm_Net k_30 rfl rfl (by decide +kernel) e13 d_Net_add_48 ?_
    refine nv_aload_n hC d_Net_add_51 rfl 0 rfl ?_
    refine nv_getI hC (j := 5) hp0.1 rfl in_Net (by decide) k_30 rfl d_Net_add_52 ?_
    refine nv_iconst hC d_Net_add_55 ?_
    refine nv_isub hC d_Net_add_56 ?_
    obtain ⟨rfl, rfl⟩ := ret_s hm
    exact nv_iret hC hr hlk d_Net_add_57
  · have hm := if_f c2 hm
    refine nv_iconst hC d_Net_add_9 ?_
    obtain ⟨rfl, rfl⟩ := ret_s hm
    exact nv_iret hC hr hlk d_Net_add_10
end
section
def m_Draws_add (dd0 : Nat) (x1 : Int) (x2 : Int) (x3 : Int) (N : nS) : Option (Int × nS) :=
  if rg (N dd0 6) then
  if (N dd0 6) < 60 then
  if 0 ≤ (N dd0 6) ∧ (N dd0 6) < ((60 : Nat) : Int) then
  nlt (up2 N (dd0 + 1) (N dd0 6).toNat x1) (fun N4 =>
  if 0 ≤ (N4 dd0 6) ∧ (N4 dd0 6) < ((60 : Nat) : Int) then
  nlt (up2 N4 (dd0 + 2) (N4 dd0 6).toNat x2) (fun N7 =>
  if 0 ≤ (N7 dd0 6) ∧ (N7 dd0 6) < ((60 : Nat) : Int) then
  nlt (up2 N7 (dd0 + 3) (N7 dd0 6).toNat x3) (fun N10 =>
  nlt (up2 N10 dd0 6 ((N10 dd0 6) + 1)) (fun N12 =>
  some (((N12 dd0 6) - 1), N12)))
  else none)
  else none)
  else none
  else
  some ((-1), N)
  else none
set_option maxRecDepth 20000 in
theorem k_34 : Cond.fieldLink R_Draws 30 (T_Draws 6).1 (T_Draws 6).2.1 (T_Draws 6).2.2.1 ∈ TT := tt_i 178 (by decide +kernel) (by decide +kernel)
set_option maxRecDepth 20000 in
theorem k_35 : Cond.fieldLink R_Draws 9 (T_Draws 0).1 (T_Draws 0).2.1 (T_Draws 0).2.2.1 ∈ TT := tt_i 166 (by decide +kernel) (by decide +kernel)
set_option maxRecDepth 20000 in
theorem k_36 : Cond.fieldLink R_Draws 15 (T_Draws 1).1 (T_Draws 1).2.1 (T_Draws 1).2.2.1 ∈ TT := tt_i 168 (by decide +kernel) (by decide +kernel)
set_option maxRecDepth 20000 in
theorem k_37 : Cond.fieldLink R_Draws 18 (T_Draws 2).1 (T_Draws 2).2.1 (T_Draws 2).2.2.1 ∈ TT := tt_i 170 (by decide +kernel) (by decide +kernel)
abbrev rm_Draws_add : Room := { frames := 0, cells := 0, slots := 0, locals := 0 }
set_option maxRecDepth 100000 in
set_option maxHeartbeats 4000000 in
theorem c_Draws_add (l : Launch) {D : va_G} {ct : Nat → ClassId} {A : Nat → Prop} {ad : Nat → Nat} {S : nH} (hD : nD ad A S.length) (dd0 : Nat) (hp0 : isD S dd0) (x1 : Int) (hx1 : rg x1) (x2 : Int) (hx2 : rg x2) (x3 : Int) (hx3 : rg x3) (N : nS) (r : Int) (No : nS) (hm : m_Draws_add dd0 x1 x2 x3 N = some (r, No)) : nM l y_Draws_add (Cond.code y_Draws_add b_Draws_add 4 (some .int) :: TT) rm_Draws_add D vwCl ct A ad S N [.ref (ad dd0), .int (iI x1), .int (iI x2), .int (iI x3)] (nQi D vwCl ct A ad S r No) := by
  refine nM_of (cc := b_Draws_add) (maxL := 4) (ret := (some .int)) (by decide) rfl (Nat.le_of_ble_eq_true rfl) hD ?_
  intro p e s m below meth c hC hr hlk
  refine nv_lv (lv' := [(0, .ref (ad dd0)), (1, .int (iI x1)), (2, .int (iI x2)), (3, .int (iI x3))]) rfl ?_
  rw [m_Draws_add] at hm
  refine nv_aload_n hC d_Draws_add_0 rfl 0 rfl ?_
  refine nv_getI hC (j := 6) hp0.1 rfl in_Draws (by decide) k_34 rfl d_Draws_add_1 ?_
  refine nv_bipush hC (z := 60) d_Draws_add_4 rfl ?_
  obtain ⟨hr1, hm⟩ := ck_s hm
  refine nv_icmp_lt hC hr1 ⟨by decide, by decide⟩ d_Draws_add_6 (tgt := 11) (by decide) (fun c2 => ?_) (fun c2 => ?_)
  · have hm := if_t c2 hm
    refine nv_aload_n hC d_Draws_add_11 rfl 0 rfl ?_
    refine nv_getR hC (j := 0) hp0.1 rfl in_Draws (by decide) k_35 rfl d_Draws_add_12 ?_
    refine nv_aload_n hC d_Draws_add_15 rfl 0 rfl ?_
    refine nv_getI hC (j := 6) hp0.1 rfl in_Draws (by decide) k_34 rfl d_Draws_add_16 ?_
    refine nv_iload_n hC d_Draws_add_19 rfl 1 rfl ?_
    obtain ⟨hc3, hm⟩ := ck_s hm
    obtain ⟨N4, e5, hm⟩ := nlt_s hm
    refine nv_iast hC hp0.2.1 (by decide) hc3 e5 d_Draws_add_20 ?_
    refine nv_aload_n hC d_Draws_add_21 rfl 0 rfl ?_
    refine nv_getR hC (j := 1) hp0.1 rfl in_Draws (by decide) k_36 rfl d_Draws_add_22 ?_
    refine nv_aload_n hC d_Draws_add_25 rfl 0 rfl ?_
    refine nv_getI hC (j := 6) hp0.1 rfl in_Draws (by decide) k_34 rfl d_Draws_add_26 ?_
    refine nv_iload_n hC d_Draws_add_29 rfl 2 rfl ?_
    obtain ⟨hc6, hm⟩ := ck_s hm
    obtain ⟨N7, e8, hm⟩ := nlt_s hm
    refine nv_iast hC hp0.2.2.1 (by decide) hc6 e8 d_Draws_add_30 ?_
    refine nv_aload_n hC d_Draws_add_31 rfl 0 rfl ?_
    refine nv_getR hC (j := 2) hp0.1 rfl in_Draws (by decide) k_37 rfl d_Draws_add_32 ?_
    refine nv_aload_n hC d_Draws_add_35 rfl 0 rfl ?_
    refine nv_getI hC (j := 6) hp0.1 rfl in_Draws (by decide) k_34 rfl d_Draws_add_36 ?_
    refine nv_iload_n hC d_Draws_add_39 rfl 3 rfl ?_
    obtain ⟨hc9, hm⟩ := ck_s hm
    obtain ⟨N10, e11, hm⟩ := nlt_s hm
    refine nv_iast hC hp0.2.2.2.1 (by decide) hc9 e11 d_Draws_add_40 ?_
    refine nv_aload_n hC d_Draws_add_41 rfl 0 rfl ?_
    refine nv_dup hC d_Draws_add_42 rfl ?_
    refine nv_getI hC (j := 6) hp0.1 rfl in_Draws (by decide) k_34 rfl d_Draws_add_43 ?_
    refine nv_iconst hC d_Draws_add_46 ?_
    refine nv_iadd hC d_Draws_add_47 ?_
    obtain ⟨N12, e13, hm⟩ := nlt_s hm
    refine nv_putI hC (j := 6) hp0.1 rfl in_Draws (by decide) ty_Draws tyok_Draws nm_Draws k_34 rfl rfl (by decide +kernel) e13 d_Draws_add_48 ?_
    refine nv_aload_n hC d_Draws_add_51 rfl 0 rfl ?_
    refine nv_getI hC (j := 6) hp0.1 rfl in_Draws (by decide) k_34 rfl d_Draws_add_52 ?_
    refine nv_iconst hC d_Draws_add_55 ?_
    refine nv_isub hC d_Draws_add_56 ?_
    obtain ⟨rfl, rfl⟩ := ret_s hm
    exact nv_iret hC hr hlk d_Draws_add_57
  · have hm := if_f c2 hm
    refine nv_iconst hC d_Draws_add_9 ?_
    obtain ⟨rfl, rfl⟩ := ret_s hm
    exact nv_iret hC hr hlk d_Draws_add_10
def m_Draws_keepAnswer (dd0 : Nat) (x1 : Int) (o2 cap2 : Nat) (N : nS) : Option (Int × nS) :=
  if x1 < 0 then
  some (0, N)
  else
  if rg (N dd0 6) then
  if x1 < (N dd0 6) then
  nbd (m_Plugs_volumeTimesWarmth o2 cap2 N) (fun r4 N5 =>
  if 0 ≤ x1 ∧ x1 < ((60 : Nat) : Int) then
  if rg (N5 (dd0 + 3) x1.toNat) then
  if rl r4 then
  if rl (if 1 < (N5 (dd0 + 3) x1.toNat) then (N5 (dd0 + 3) x1.toNat) else 1) then
  if ¬ (if 1 < (N5 (dd0 + 3) x1.toNat) then (N5 (dd0 + 3) x1.toNat) else 1) = 0 then
  nlt (up2 N5 (dd0 + 4) x1.toNat (Int.tdiv r4 (if 1 < (N5 (dd0 + 3) x1.toNat) then (N5 (dd0 + 3) x1.toNat) else 1))) (fun N12 =>
  nbd (m_Plugs_least o2 cap2 N12) (fun r14 N15 =>
  nlt (up2 N15 (dd0 + 5) x1.toNat r14) (fun N17 =>
  nbd (m_Plugs_greatest o2 cap2 N17) (fun r19 N20 =>
  nlt (up2 N20 (dd0 + 6) x1.toNat r19) (fun N22 =>
  some (0, N22))))))
  else none
  else none
  else none
  else none
  else none)
  else
  some (0, N)
  else none
set_option maxRecDepth 20000 in
theorem k_38 : Cond.fieldLink R_Draws 21 (T_Draws 3).1 (T_Draws 3).2.1 (T_Draws 3).2.2.1 ∈ TT := tt_i 172 (by decide +kernel) (by decide +kernel)
set_option maxRecDepth 20000 in
theorem k_39 : Cond.methodLink R_Draws 34 y_Plugs_volumeTimesWarmth ∈ TT := tt_i 432 (by decide +kernel) (by decide +kernel)
set_option maxRecDepth 20000 in
theorem k_40 : Cond.code y_Plugs_volumeTimesWarmth b_Plugs_volumeTimesWarmth 4 (some .long) ∈ TT := tt_i 391 (by decide +kernel) (by decide +kernel)
set_option maxRecDepth 20000 in
theorem k_41 : Cond.instanceMethod y_Plugs_volumeTimesWarmth ∈ TT := tt_i 389 (by decide +kernel) (by decide +kernel)
set_option maxRecDepth 20000 in
theorem k_42 : Cond.selects R_Plugs y_Plugs_volumeTimesWarmth y_Plugs_volumeTimesWarmth ∈ TT := tt_i 390 (by decide +kernel) (by decide +kernel)
set_option maxRecDepth 20000 in
theorem k_43 : Cond.methodLink R_Draws 40 Lib.Math.max.name ∈ TT := tt_i 433 (by decide +kernel) (by decide +kernel)
set_option maxRecDepth 20000 in
theorem k_44 : Cond.fieldLink R_Draws 24 (T_Draws 4).1 (T_Draws 4).2.1 (T_Draws 4).2.2.1 ∈ TT := tt_i 174 (by decide +kernel) (by decide +kernel)
set_option maxRecDepth 20000 in
theorem k_45 : Cond.methodLink R_Draws 46 y_Plugs_least ∈ TT := tt_i 434 (by decide +kernel) (by decide +kernel)
set_option maxRecDepth 20000 in
theorem k_46 : Cond.code y_Plugs_least b_Plugs_least 3 (some .int) ∈ TT := tt_i 437 (by decide +kernel) (by decide +kernel)
set_option maxRecDepth 20000 in
theorem k_47 : Cond.instanceMethod y_Plugs_least ∈ TT := tt_i 435 (by decide +kernel) (by decide +kernel)
set_option maxRecDepth 20000 in
theorem k_48 : Cond.selects R_Plugs y_Plugs_least y_Plugs_least ∈ TT := tt_i 436 (by decide +kernel) (by decide +kernel)
set_option maxRecDepth 20000 in
theorem k_49 : Cond.fieldLink R_Draws 27 (T_Draws 5).1 (T_Draws 5).2.1 (T_Draws 5).2.2.1 ∈ TT := tt_i 176 (by decide +kernel) (by decide +kernel)
set_option maxRecDepth 20000 in
theorem k_50 : Cond.methodLink R_Draws 50 y_Plugs_greatest ∈ TT := tt_i 438 (by decide +kernel) (by decide +kernel)
set_option maxRecDepth 20000 in
theorem k_51 : Cond.code y_Plugs_greatest b_Plugs_greatest 3 (some .int) ∈ TT := tt_i 441 (by decide +kernel) (by decide +kernel)
set_option maxRecDepth 20000 in
theorem k_52 : Cond.instanceMethod y_Plugs_greatest ∈ TT := tt_i 439 (by decide +kernel) (by decide +kernel)
set_option maxRecDepth 20000 in
theorem k_53 : Cond.selects R_Plugs y_Plugs_greatest y_Plugs_greatest ∈ TT := tt_i 440 (by decide +kernel) (by decide +kernel)
abbrev rm_Draws_keepAnswer : Room := { frames := 2, cells := 0, slots := 0, locals := 46 }
set_option maxRecDepth 100000 in
set_option maxHeartbeats 4000000 in
theorem c_Draws_keepAnswer (l : Launch) {D : va_G} {ct : Nat → ClassId} {A : Nat → Prop} {ad : Nat → Nat} {S : nH} (hD : nD ad A S.length) (dd0 : Nat) (hp0 : isD S dd0) (x1 : Int) (hx1 : rg x1) (o2 cap2 : Nat) (hp2 : isP S o2 cap2) (N : nS) (r : Int) (No : nS) (hm : m_Draws_keepAnswer dd0 x1 o2 cap2 N = some (r, No)) : nM l y_Draws_keepAnswer (Cond.code y_Draws_keepAnswer b_Draws_keepAnswer 3 none :: TT) rm_Draws_keepAnswer D vwCl ct A ad S N [.ref (ad dd0), .int (iI x1), .ref (ad o2)] (nQv D vwCl ct A ad S No) := by
  refine nM_of (cc := b_Draws_keepAnswer) (maxL := 3) (ret := none) (by decide) rfl (Nat.le_of_ble_eq_true rfl) hD ?_
  intro p e s m below meth c hC hr hlk
  refine nv_lv (lv' := [(0, .ref (ad dd0)), (1, .int (iI x1)), (2, .ref (ad o2))]) rfl ?_
  rw [m_Draws_keepAnswer] at hm
  refine nv_iload_n hC d_Draws_keepAnswer_0 rfl 1 rfl ?_
  refine nv_if_lt hC hx1 d_Draws_keepAnswer_1 (tgt := 12) (by decide) (fun c1 => ?_) (fun c1 => ?_)
  · have hm := if_t c1 hm
    obtain ⟨rfl, rfl⟩ := ret_s hm
    exact nv_vret hC hr hlk d_Draws_keepAnswer_12
  · have hm := if_f c1 hm
    refine nv_iload_n hC d_Draws_keepAnswer_4 rfl 1 rfl ?_
    refine nv_aload_n hC d_Draws_keepAnswer_5 rfl 0 rfl ?_
    refine nv_getI hC (j := 6) hp0.1 rfl in_Draws (by decide) k_34 rfl d_Draws_keepAnswer_6 ?_
    obtain ⟨hr2, hm⟩ := ck_s hm
    refine nv_icmp_lt hC hx1 hr2 d_Draws_keepAnswer_9 (tgt := 13) (by decide) (fun c3 => ?_) (fun c3 => ?_)
    · have hm := if_t c3 hm
      refine nv_aload_n hC d_Draws_keepAnswer_13 rfl 0 rfl ?_
      refine nv_getR hC (j := 3) hp0.1 rfl in_Draws (by decide) k_38 rfl d_Draws_keepAnswer_14 ?_
      refine nv_iload_n hC d_Draws_keepAnswer_17 rfl 1 rfl ?_
      refine nv_aload_n hC d_Draws_keepAnswer_18 rfl 2 rfl ?_
      obtain ⟨r4, N5, hq6, hm⟩ := nbd_s hm
      refine nv_calll (x := r4) (N' := N5) (nr_V hC (As := []) (st := [.int (iI x1), .ref (ad (dd0 + 4))]) hp2.1 rfl (c_Plugs_volumeTimesWarmth l hC.2.2.1 o2 cap2 hp2 N r4 N5 hq6) (cwV 0 hC.1.2.2.2.2 (tt_V k_39 k_41 k_42 k_7 k_40) rfl rfl rfl (by decide +kernel) ⟨Nat.le_of_ble_eq_true rfl, Nat.le_of_ble_eq_true rfl⟩) rfl rfl (Nat.le_of_ble_eq_true rfl) ⟨Nat.zero_le _, Nat.zero_le _⟩ d_Draws_keepAnswer_19) ?_
      refine nv_iconst hC d_Draws_keepAnswer_22 ?_
      refine nv_aload_n hC d_Draws_keepAnswer_23 rfl 0 rfl ?_
      refine nv_getR hC (j := 2) hp0.1 rfl in_Draws (by decide) k_37 rfl d_Draws_keepAnswer_24 ?_
      refine nv_iload_n hC d_Draws_keepAnswer_27 rfl 1 rfl ?_
      obtain ⟨hc7, hm⟩ := ck_s hm
      refine nv_iald hC hp0.2.2.2.1 (by decide) hc7 d_Draws_keepAnswer_28 ?_
      obtain ⟨hr8, hm⟩ := ck_s hm
      refine nv_mmax hC k_43 k_28 k_14 k_29 (Nat.le_of_ble_eq_true rfl) (Nat.le_of_ble_eq_true rfl) (Nat.zero_le _) (Nat.zero_le _) ⟨by decide, by decide⟩ hr8 d_Draws_keepAnswer_29 ?_
      refine nv_i2l hC d_Draws_keepAnswer_32 (rg_max ⟨by decide, by decide⟩ hr8) ?_
      obtain ⟨hc9, hm⟩ := ck_s hm
      obtain ⟨hc10, hm⟩ := ck_s hm
      obtain ⟨hc11, hm⟩ := ck_s hm
      refine nv_ldiv hC d_Draws_keepAnswer_33 hc9 hc10 hc11 ?_
      refine nv_l2i hC d_Draws_keepAnswer_34 ?_
      obtain ⟨N12, e13, hm⟩ := nlt_s hm
      refine nv_iast hC hp0.2.2.2.2.1 (by decide) hc7 e13 d_Draws_keepAnswer_35 ?_
      refine nv_aload_n hC d_Draws_keepAnswer_36 rfl 0 rfl ?_
      refine nv_getR hC (j := 4) hp0.1 rfl in_Draws (by decide) k_44 rfl d_Draws_keepAnswer_37 ?_
      refine nv_iload_n hC d_Draws_keepAnswer_40 rfl 1 rfl ?_
      refine nv_aload_n hC d_Draws_keepAnswer_41 rfl 2 rfl ?_
      obtain ⟨r14, N15, hq16, hm⟩ := nbd_s hm
      refine nv_calli (x := r14) (N' := N15) (nr_V hC (As := []) (st := [.int (iI x1), .ref (ad (dd0 + 5))]) hp2.1 rfl (c_Plugs_least l hC.2.2.1 o2 cap2 hp2 N12 r14 N15 hq16) (cwV 0 hC.1.2.2.2.2 (tt_V k_45 k_47 k_48 k_7 k_46) rfl rfl rfl (by decide +kernel) ⟨Nat.le_of_ble_eq_true rfl, Nat.le_of_ble_eq_true rfl⟩) rfl rfl (Nat.le_of_ble_eq_true rfl) ⟨Nat.zero_le _, Nat.zero_le _⟩ d_Draws_keepAnswer_42) ?_
      obtain ⟨N17, e18, hm⟩ := nlt_s hm
      refine nv_iast hC hp0.2.2.2.2.2.1 (by decide) hc7 e18 d_Draws_keepAnswer_45 ?_
      refine nv_aload_n hC d_Draws_keepAnswer_46 rfl 0 rfl ?_
      refine nv_getR hC (j := 5) hp0.1 rfl in_Draws (by decide) k_49 rfl d_Draws_keepAnswer_47 ?_
      refine nv_iload_n hC d_Draws_keepAnswer_50 rfl 1 rfl ?_
      refine nv_aload_n hC d_Draws_keepAnswer_51 rfl 2 rfl ?_
      obtain ⟨r19, N20, hq21, hm⟩ := nbd_s hm
      refine nv_calli (x := r19) (N' := N20) (nr_V hC (As := []) (st := [.int (iI x1), .ref (ad (dd0 + 6))]) hp2.1 rfl (c_Plugs_greatest l hC.2.2.1 o2 cap2 hp2 N17 r19 N20 hq21) (cwV 0 hC.1.2.2.2.2 (tt_V k_50 k_52 k_53 k_7 k_51) rfl rfl rfl (by decide +kernel) ⟨Nat.le_of_ble_eq_true rfl, Nat.le_of_ble_eq_true rfl⟩) rfl rfl (Nat.le_of_ble_eq_true rfl) ⟨Nat.zero_le _, Nat.zero_le _⟩ d_Draws_keepAnswer_52) ?_
      obtain ⟨N22, e23, hm⟩ := nlt_s hm
      refine nv_iast hC hp0.2.2.2.2.2.2 (by decide) hc7 e23 d_Draws_keepAnswer_55 ?_
      obtain ⟨rfl, rfl⟩ := ret_s hm
      exact nv_vret hC hr hlk d_Draws_keepAnswer_56
    · have hm := if_f c3 hm
      obtain ⟨rfl, rfl⟩ := ret_s hm
      exact nv_vret hC hr hlk d_Draws_keepAnswer_12
end
section
def m_Water_copyFrom_2 (w0 nn0 : Nat) (w1 nn1 : Nat) : Nat → Int → nS → Option ((Int) × nS)
  | 0, _, _ => none
  | f + 1, x2, N =>
    if rg (N nn0 5) then
    if (N nn0 5) ≤ x2 then
    some (x2, N)
    else
    if 0 ≤ x2 ∧ x2 < ((10 : Nat) : Int) then
    nbd (m_Plugs_clear (w0 + 1 + 13 + 3 * x2.toNat) 12 N) (fun r4 N5 =>
    nbd (m_Plugs_addAll (w0 + 1 + 13 + 3 * x2.toNat) 12 (w1 + 1 + 13 + 3 * x2.toNat) 12 N5) (fun r7 N8 =>
    if rg (x2 + 1) then
    m_Water_copyFrom_2 w0 nn0 w1 nn1 f (x2 + 1) N8
    else none))
    else none
    else none
def m_Water_copyFrom (w0 nn0 : Nat) (w1 nn1 : Nat) (N : nS) : Option (Int × nS) :=
  nbd (m_Water_copyFrom_2 w0 nn0 w1 nn1 FU 0 N) (fun q11 N12 =>
  nlt (up2 N12 w0 10 (N12 w1 10)) (fun N14 =>
  some (0, N14)))
set_option maxRecDepth 20000 in
theorem k_54 : Cond.fieldLink R_Water 47 (T_Water 0).1 (T_Water 0).2.1 (T_Water 0).2.2.1 ∈ TT := tt_i 110 (by decide +kernel) (by decide +kernel)
set_option maxRecDepth 20000 in
theorem k_55 : Cond.fieldLink R_Water 51 (T_Net 5).1 (T_Net 5).2.1 (T_Net 5).2.2.1 ∈ TT := tt_i 61 (by decide +kernel) (by decide +kernel)
set_option maxRecDepth 20000 in
theorem k_56 : Cond.fieldLink R_Water 11 (T_Water 1).1 (T_Water 1).2.1 (T_Water 1).2.2.1 ∈ TT := tt_i 111 (by decide +kernel) (by decide +kernel)
set_option maxRecDepth 20000 in
theorem k_57 : Cond.methodLink R_Water 56 y_Plugs_clear ∈ TT := tt_i 320 (by decide +kernel) (by decide +kernel)
set_option maxRecDepth 20000 in
theorem k_58 : Cond.methodLink R_Water 59 y_Plugs_addAll ∈ TT := tt_i 400 (by decide +kernel) (by decide +kernel)
set_option maxRecDepth 20000 in
theorem k_59 : Cond.code y_Plugs_addAll b_Plugs_addAll 3 none ∈ TT := tt_i 403 (by decide +kernel) (by decide +kernel)
set_option maxRecDepth 20000 in
theorem k_60 : Cond.instanceMethod y_Plugs_addAll ∈ TT := tt_i 401 (by decide +kernel) (by decide +kernel)
set_option maxRecDepth 20000 in
theorem k_61 : Cond.selects R_Plugs y_Plugs_addAll y_Plugs_addAll ∈ TT := tt_i 402 (by decide +kernel) (by decide +kernel)
set_option maxRecDepth 20000 in
theorem k_62 : Cond.fieldLink R_Water 44 (T_Water 10).1 (T_Water 10).2.1 (T_Water 10).2.2.1 ∈ TT := tt_i 124 (by decide +kernel) (by decide +kernel)
abbrev rm_Water_copyFrom : Room := { frames := 2, cells := 0, slots := 0, locals := 44 }
set_option maxRecDepth 100000 in
set_option maxHeartbeats 4000000 in
theorem w_Water_copyFrom_2 {p : Program} {l : Launch} {e : Env} {s : State} {m : MethodId} {args : Array Value} {below : List Frame} {meth : Method} {c : Code} {Q : State → Prop} {D : va_G} {ct : Nat → ClassId} {A : Nat → Prop} {ad : Nat → Nat} {S : nH} (hC : nC p s m args c D vwCl ct A ad S 3 b_Water_copyFrom R_Water TT) (w0 nn0 : Nat) (hp0 : isW S w0 nn0) (w1 nn1 : Nat) (hp1 : isW S w1 nn1) : ∀ (f : Nat) (x2 : Int) (N : nS) (q : Int) (No : nS), m_Water_copyFrom_2 w0 nn0 w1 nn1 f x2 N = some (q, No) → rg x2 → nV p l e rm_Water_copyFrom s m args below meth c 0 0 Q D vwCl ct A ad S 3 No 43 [(0, .ref (ad w0)), (1, .ref (ad w1)), (2, .int (iI q))] [] → nV p l e rm_Water_copyFrom s m args below meth c 0 0 Q D vwCl ct A ad S 3 N 2 [(0, .ref (ad w0)), (1, .ref (ad w1)), (2, .int (iI x2))] [] := by
  intro f
  induction f with
  | zero =>
    intro x2 N q No hm
    rw [m_Water_copyFrom_2] at hm
    cases hm
  | succ f ih =>
    intro x2 N q No hm hx2 kx
    rw [m_Water_copyFrom_2] at hm
    refine nv_iload_n hC d_Water_copyFrom_2 rfl 2 rfl ?_
    refine nv_aload_n hC d_Water_copyFrom_3 rfl 0 rfl ?_
    refine nv_getA hC (j := 0) hp0.1 rfl in_Water (by decide) k_54 rfl d_Water_copyFrom_4 ?_
    refine nv_getI hC (j := 5) (isW_net hp0).1 rfl in_Net (by decide) k_55 rfl d_Water_copyFrom_7 ?_
    obtain ⟨hr1, hm⟩ := ck_s hm
    refine nv_icmp_ge hC hx2 hr1 d_Water_copyFrom_10 (tgt := 43) (by decide) (fun c2 => ?_) (fun c2 => ?_)
    · have hm := if_t c2 hm
      obtain ⟨rfl, rfl⟩ := ret_s hm
      refine nv_sub (lv' := [(0, .ref (ad w0)), (1, .ref (ad w1)), (2, .int (iI x2))]) [0, 1, 2] rfl ?_
      exact kx
    · have hm := if_f c2 hm
      refine nv_aload_n hC d_Water_copyFrom_13 rfl 0 rfl ?_
      refine nv_getR hC (j := 1) hp0.1 rfl in_Water (by decide) k_56 rfl d_Water_copyFrom_14 ?_
      refine nv_iload_n hC d_Water_copyFrom_17 rfl 2 rfl ?_
      obtain ⟨hc3, hm⟩ := ck_s hm
      refine nv_aald hC (isW_rows hp0) (by decide) hc3 rfl d_Water_copyFrom_18 ?_
      obtain ⟨r4, N5, hq6, hm⟩ := nbd_s hm
      refine nv_callv (N' := N5) (nr_V hC (As := []) (st := []) (isW_row hp0 (tn_lt hc3)).1 rfl (c_Plugs_clear l hC.2.2.1 (w0 + 1 + 13 + 3 * x2.toNat) 12 (isW_row hp0 (tn_lt hc3)) N r4 N5 hq6) (cwV 0 hC.1.2.2.2.2 (tt_V k_57 k_10 k_11 k_7 k_9) rfl rfl rfl (by decide +kernel) ⟨Nat.le_of_ble_eq_true rfl, Nat.le_of_ble_eq_true rfl⟩) rfl rfl (Nat.le_of_ble_eq_true rfl) ⟨Nat.zero_le _, Nat.zero_le _⟩ d_Water_copyFrom_19) ?_
      refine nv_aload_n hC d_Water_copyFrom_22 rfl 0 rfl ?_
      refine nv_getR hC (j := 1) hp0.1 rfl in_Water (by decide) k_56 rfl d_Water_copyFrom_23 ?_
      refine nv_iload_n hC d_Water_copyFrom_26 rfl 2 rfl ?_
      refine nv_aald hC (isW_rows hp0) (by decide) hc3 rfl d_Water_copyFrom_27 ?_
      refine nv_aload_n hC d_Water_copyFrom_28 rfl 1 rfl ?_
      refine nv_getR hC (j := 1) hp1.1 rfl in_Water (by decide) k_56 rfl d_Water_copyFrom_29 ?_
      refine nv_iload_n hC d_Water_copyFrom_32 rfl 2 rfl ?_
      refine nv_aald hC (isW_rows hp1) (by decide) hc3 rfl d_Water_copyFrom_33 ?_
      obtain ⟨r7, N8, hq9, hm⟩ := nbd_s hm
      refine nv_callv (N' := N8) (nr_V hC (As := [.ref (ad (w1 + 1 + 13 + 3 * x2.toNat))]) (st := []) (isW_row hp0 (tn_lt hc3)).1 rfl (c_Plugs_addAll l hC.2.2.1 (w0 + 1 + 13 + 3 * x2.toNat) 12 (isW_row hp0 (tn_lt hc3)) (w1 + 1 + 13 + 3 * x2.toNat) 12 (isW_row hp1 (tn_lt hc3)) N5 r7 N8 hq9) (cwV 1 hC.1.2.2.2.2 (tt_V k_58 k_60 k_61 k_7 k_59) rfl rfl rfl (by decide +kernel) ⟨Nat.le_of_ble_eq_true rfl, Nat.le_of_ble_eq_true rfl⟩) rfl rfl (Nat.le_of_ble_eq_true rfl) ⟨Nat.zero_le _, Nat.zero_le _⟩ d_Water_copyFrom_34) ?_
      refine nv_iinc (lv' := [(2, .int (iI (x2 + 1))), (0, .ref (ad w0)), (1, .ref (ad w1))]) hC d_Water_copyFrom_37 2 rfl (by decide) rfl ?_
      refine nv_goto hC d_Water_copyFrom_40 (tgt := 2) (by decide) ?_
      obtain ⟨hr10, hm⟩ := ck_s hm
      refine nv_sub (lv' := [(0, .ref (ad w0)), (1, .ref (ad w1)), (2, .int (iI (x2 + 1)))]) [1, 2, 0] rfl ?_
      exact ih (x2 + 1) N8 q No hm hr10 kx
set_option maxRecDepth 100000 in
set_option maxHeartbeats 4000000 in
theorem c_Water_copyFrom (l : Launch) {D : va_G} {ct : Nat → ClassId} {A : Nat → Prop} {ad : Nat → Nat} {S : nH} (hD : nD ad A S.length) (w0 nn0 : Nat) (hp0 : isW S w0 nn0) (w1 nn1 : Nat) (hp1 : isW S w1 nn1) (N : nS) (r : Int) (No : nS) (hm : m_Water_copyFrom w0 nn0 w1 nn1 N = some (r, No)) : nM l y_Water_copyFrom (Cond.code y_Water_copyFrom b_Water_copyFrom 3 none :: TT) rm_Water_copyFrom D vwCl ct A ad S N [.ref (ad w0), .ref (ad w1)] (nQv D vwCl ct A ad S No) := by
  refine nM_of (cc := b_Water_copyFrom) (maxL := 3) (ret := none) (by decide) rfl (Nat.le_of_ble_eq_true rfl) hD ?_
  intro p e s m below meth c hC hr hlk
  refine nv_lv (lv' := [(0, .ref (ad w0)), (1, .ref (ad w1))]) rfl ?_
  rw [m_Water_copyFrom] at hm
  refine nv_iconst hC d_Water_copyFrom_0 ?_
  refine nv_istore_n (lv' := [(2, .int (iI 0)), (0, .ref (ad w0)), (1, .ref (ad w1))]) hC d_Water_copyFrom_1 rfl (by decide) rfl ?_
  obtain ⟨q11, N12, hq13, hm⟩ := nbd_s hm
  refine nv_sub (lv' := [(0, .ref (ad w0)), (1, .ref (ad w1)), (2, .int (iI 0))]) [1, 2, 0] rfl ?_
  refine w_Water_copyFrom_2 hC w0 nn0 hp0 w1 nn1 hp1 FU 0 N q11 N12 hq13 ⟨by decide, by decide⟩ ?_
  refine nv_aload_n hC d_Water_copyFrom_43 rfl 0 rfl ?_
  refine nv_aload_n hC d_Water_copyFrom_44 rfl 1 rfl ?_
  refine nv_getI hC (j := 10) hp1.1 rfl in_Water (by decide) k_62 rfl d_Water_copyFrom_45 ?_
  obtain ⟨N14, e15, hm⟩ := nlt_s hm
  refine nv_putI hC (j := 10) hp0.1 rfl in_Water (by decide) ty_Water tyok_Water nm_Water k_62 rfl rfl (by decide +kernel) e15 d_Water_copyFrom_48 ?_
  obtain ⟨rfl, rfl⟩ := ret_s hm
  exact nv_vret hC hr hlk d_Water_copyFrom_51
def m_Water_changeHeat (w0 nn0 : Nat) (x1 : Int) (N : nS) : Option (Int × nS) :=
  nlt (up2 N w0 9 x1) (fun N1 =>
  some ((N w0 9), N1))
set_option maxRecDepth 20000 in
theorem k_63 : Cond.fieldLink R_Water 40 (T_Water 9).1 (T_Water 9).2.1 (T_Water 9).2.2.1 ∈ TT := tt_i 123 (by decide +kernel) (by decide +kernel)
abbrev rm_Water_changeHeat : Room := { frames := 0, cells := 0, slots := 0, locals := 0 }
set_option maxRecDepth 100000 in
set_option maxHeartbeats 4000000 in
theorem c_Water_changeHeat (l : Launch) {D : va_G} {ct : Nat → ClassId} {A : Nat → Prop} {ad : Nat → Nat} {S : nH} (hD : nD ad A S.length) (w0 nn0 : Nat) (hp0 : isW S w0 nn0) (x1 : Int) (hx1 : rg x1) (N : nS) (r : Int) (No : nS) (hm : m_Water_changeHeat w0 nn0 x1 N = some (r, No)) : nM l y_Water_changeHeat (Cond.code y_Water_changeHeat b_Water_changeHeat 3 (some .int) :: TT) rm_Water_changeHeat D vwCl ct A ad S N [.ref (ad w0), .int (iI x1)] (nQi D vwCl ct A ad S r No) := by
  refine nM_of (cc := b_Water_changeHeat) (maxL := 3) (ret := (some .int)) (by decide) rfl (Nat.le_of_ble_eq_true rfl) hD ?_
  intro p e s m below meth c hC hr hlk
  refine nv_lv (lv' := [(0, .ref (ad w0)), (1, .int (iI x1))]) rfl ?_
  rw [m_Water_changeHeat] at hm
  refine nv_aload_n hC d_Water_changeHeat_0 rfl 0 rfl ?_
  refine nv_getI hC (j := 9) hp0.1 rfl in_Water (by decide) k_63 rfl d_Water_changeHeat_1 ?_
  refine nv_istore_n (lv' := [(2, .int (iI (N w0 9))), (0, .ref (ad w0)), (1, .int (iI x1))]) hC d_Water_changeHeat_4 rfl (by decide) rfl ?_
  refine nv_aload_n hC d_Water_changeHeat_5 rfl 1 rfl ?_
  refine nv_iload_n hC d_Water_changeHeat_6 rfl 2 rfl ?_
  obtain ⟨N1, e2, hm⟩ := nlt_s hm
  refine nv_putI hC (j := 9) hp0.1 rfl in_Water (by decide) ty_Water tyok_Water nm_Water k_63 rfl rfl (by decide +kernel) e2 d_Water_changeHeat_7 ?_
  refine nv_iload_n hC d_Water_changeHeat_10 rfl 0 rfl ?_
  obtain ⟨rfl, rfl⟩ := ret_s hm
  exact nv_iret hC hr hlk d_Water_changeHeat_11
def m_Water_fillWithAir (w0 nn0 : Nat) (x1 : Int) (N : nS) : Option (Int × nS) :=
  if x1 < 0 then
  some (0, N)
  else
  if rg (N nn0 5) then
  if (N nn0 5) ≤ x1 then
  some (0, N)
  else
  if 0 ≤ x1 ∧ x1 < ((10 : Nat) : Int) then
  nbd (m_Plugs_clear (w0 + 1 + 13 + 3 * x1.toNat) 12 N) (fun r5 N6 =>
  if rg (N6 (nn0 + 2) x1.toNat) then
  if rg (N6 w0 10) then
  nbd (m_Plugs_add (w0 + 1 + 13 + 3 * x1.toNat) 12 (N6 (nn0 + 2) x1.toNat) (N6 w0 10) N6) (fun r10 N11 =>
  some (0, N11))
  else none
  else none)
  else none
  else none
set_option maxRecDepth 20000 in
theorem k_64 : Cond.fieldLink R_Water 69 (T_Net 1).1 (T_Net 1).2.1 (T_Net 1).2.2.1 ∈ TT := tt_i 52 (by decide +kernel) (by decide +kernel)
set_option maxRecDepth 20000 in
theorem k_65 : Cond.methodLink R_Water 72 y_Plugs_add ∈ TT := tt_i 324 (by decide +kernel) (by decide +kernel)
abbrev rm_Water_fillWithAir : Room := { frames := 1, cells := 0, slots := 0, locals := 22 }
set_option maxRecDepth 100000 in
set_option maxHeartbeats 4000000 in
theorem c_Water_fillWithAir (l : Launch) {D : va_G} {ct : Nat → ClassId} {A : Nat → Prop} {ad : Nat → Nat} {S : nH} (hD : nD ad A S.length) (w0 nn0 : Nat) (hp0 : isW S w0 nn0) (x1 : Int) (hx1 : rg x1) (N : nS) (r : Int) (No : nS) (hm : m_Water_fillWithAir w0 nn0 x1 N = some (r, No)) : nM l y_Water_fillWithAir (Cond.code y_Water_fillWithAir b_Water_fillWithAir 2 none :: TT) rm_Water_fillWithAir D vwCl ct A ad S N [.ref (ad w0), .int (iI x1)] (nQv D vwCl ct A ad S No) := by
  refine nM_of (cc := b_Water_fillWithAir) (maxL := 2) (ret := none) (by decide) rfl (Nat.le_of_ble_eq_true rfl) hD ?_
  intro p e s m below meth c hC hr hlk
  refine nv_lv (lv' := [(0, .ref (ad w0)), (1, .int (iI x1))]) rfl ?_
  rw [m_Water_fillWithAir] at hm
  refine nv_iload_n hC d_Water_fillWithAir_0 rfl 1 rfl ?_
  refine nv_if_lt hC hx1 d_Water_fillWithAir_1 (tgt := 46) (by decide) (fun c1 => ?_) (fun c1 => ?_)
  · have hm := if_t c1 hm
    obtain ⟨rfl, rfl⟩ := ret_s hm
    exact nv_vret hC hr hlk d_Water_fillWithAir_46
  · have hm := if_f c1 hm
    refine nv_iload_n hC d_Water_fillWithAir_4 rfl 1 rfl ?_
    refine nv_aload_n hC d_Water_fillWithAir_5 rfl 0 rfl ?_
    refine nv_getA hC (j := 0) hp0.1 rfl in_Water (by decide) k_54 rfl d_Water_fillWithAir_6 ?_
    refine nv_getI hC (j := 5) (isW_net hp0).1 rfl in_Net (by decide) k_55 rfl d_Water_fillWithAir_9 ?_
    obtain ⟨hr2, hm⟩ := ck_s hm
    refine nv_icmp_ge hC hx1 hr2 d_Water_fillWithAir_12 (tgt := 46) (by decide) (fun c3 => ?_) (fun c3 => ?_)
    · have hm := if_t c3 hm
      obtain ⟨rfl, rfl⟩ := ret_s hm
      exact nv_vret hC hr hlk d_Water_fillWithAir_46
    · have hm := if_f c3 hm
      refine nv_aload_n hC d_Water_fillWithAir_15 rfl 0 rfl ?_
      refine nv_getR hC (j := 1) hp0.1 rfl in_Water (by decide) k_56 rfl d_Water_fillWithAir_16 ?_
      refine nv_iload_n hC d_Water_fillWithAir_19 rfl 1 rfl ?_
      obtain ⟨hc4, hm⟩ := ck_s hm
      refine nv_aald hC (isW_rows hp0) (by decide) hc4 rfl d_Water_fillWithAir_20 ?_
      obtain ⟨r5, N6, hq7, hm⟩ := nbd_s hm
      refine nv_callv (N' := N6) (nr_V hC (As := []) (st := []) (isW_row hp0 (tn_lt hc4)).1 rfl (c_Plugs_clear l hC.2.2.1 (w0 + 1 + 13 + 3 * x1.toNat) 12 (isW_row hp0 (tn_lt hc4)) N r5 N6 hq7) (cwV 0 hC.1.2.2.2.2 (tt_V k_57 k_10 k_11 k_7 k_9) rfl rfl rfl (by decide +kernel) ⟨Nat.le_of_ble_eq_true rfl, Nat.le_of_ble_eq_true rfl⟩) rfl rfl (Nat.le_of_ble_eq_true rfl) ⟨Nat.zero_le _, Nat.zero_le _⟩ d_Water_fillWithAir_21) ?_
      refine nv_aload_n hC d_Water_fillWithAir_24 rfl 0 rfl ?_
      refine nv_getR hC (j := 1) hp0.1 rfl in_Water (by decide) k_56 rfl d_Water_fillWithAir_25 ?_
      refine nv_iload_n hC d_Water_fillWithAir_28 rfl 1 rfl ?_
      refine nv_aald hC (isW_rows hp0) (by decide) hc4 rfl d_Water_fillWithAir_29 ?_
      refine nv_aload_n hC d_Water_fillWithAir_30 rfl 0 rfl ?_
      refine nv_getA hC (j := 0) hp0.1 rfl in_Water (by decide) k_54 rfl d_Water_fillWithAir_31 ?_
      refine nv_getR hC (j := 1) (isW_net hp0).1 rfl in_Net (by decide) k_64 rfl d_Water_fillWithAir_34 ?_
      refine nv_iload_n hC d_Water_fillWithAir_37 rfl 1 rfl ?_
      refine nv_iald hC (isW_net hp0).2.2.1 (by decide) hc4 d_Water_fillWithAir_38 ?_
      refine nv_aload_n hC d_Water_fillWithAir_39 rfl 0 rfl ?_
      refine nv_getI hC (j := 10) hp0.1 rfl in_Water (by decide) k_62 rfl d_Water_fillWithAir_40 ?_
      obtain ⟨hr8, hm⟩ := ck_s hm
      obtain ⟨hr9, hm⟩ := ck_s hm
      obtain ⟨r10, N11, hq12, hm⟩ := nbd_s hm
      refine nv_callv (N' := N11) (nr_V hC (As := [.int (iI (N6 (nn0 + 2) x1.toNat)), .int (iI (N6 w0 10))]) (st := []) (isW_row hp0 (tn_lt hc4)).1 rfl (c_Plugs_add l hC.2.2.1 (w0 + 1 + 13 + 3 * x1.toNat) 12 (isW_row hp0 (tn_lt hc4)) (N6 (nn0 + 2) x1.toNat) hr8 (N6 w0 10) hr9 N6 r10 N11 hq12) (cwV 2 hC.1.2.2.2.2 (tt_V k_65 k_5 k_6 k_7 k_4) rfl rfl rfl (by decide +kernel) ⟨Nat.le_of_ble_eq_true rfl, Nat.le_of_ble_eq_true rfl⟩) rfl rfl (Nat.le_of_ble_eq_true rfl) ⟨Nat.zero_le _, Nat.zero_le _⟩ d_Water_fillWithAir_43) ?_
      obtain ⟨rfl, rfl⟩ := ret_s hm
      exact nv_vret hC hr hlk d_Water_fillWithAir_46
def m_Water_changeAir_19 (w0 nn0 : Nat) (x1 : Int) (x2 : Int) : Nat → Int → nS → Option ((Int) × nS)
  | 0, _, _ => none
  | f + 1, x3, N =>
    if rg (N nn0 5) then
    if (N nn0 5) ≤ x3 then
    some (x3, N)
    else
    nbd (m_Water_fillWithAir w0 nn0 x3 N) (fun r7 N8 =>
    if rg (x3 + 1) then
    m_Water_changeAir_19 w0 nn0 x1 x2 f (x3 + 1) N8
    else none)
    else none
def m_Water_changeAir (w0 nn0 : Nat) (x1 : Int) (N : nS) : Option (Int × nS) :=
  nlt (up2 N w0 10 x1) (fun N1 =>
  if rg (N1 w0 8) then
  if (N1 w0 8) = 0 then
  if rg (N w0 10) then
  nbd (m_Water_changeAir_19 w0 nn0 x1 (N w0 10) FU 0 N1) (fun q12 N13 =>
  some ((N w0 10), N13))
  else none
  else
  some ((N w0 10), N1)
  else none)
set_option maxRecDepth 20000 in
theorem k_66 : Cond.fieldLink R_Water 63 (T_Water 8).1 (T_Water 8).2.1 (T_Water 8).2.2.1 ∈ TT := tt_i 122 (by decide +kernel) (by decide +kernel)
set_option maxRecDepth 20000 in
theorem k_67 : Cond.methodLink R_Water 66 y_Water_fillWithAir ∈ TT := tt_i 350 (by decide +kernel) (by decide +kernel)
set_option maxRecDepth 20000 in
theorem k_68 : Cond.code y_Water_fillWithAir b_Water_fillWithAir 2 none ∈ TT := tt_i 319 (by decide +kernel) (by decide +kernel)
set_option maxRecDepth 20000 in
theorem k_69 : Cond.instanceMethod y_Water_fillWithAir ∈ TT := tt_i 317 (by decide +kernel) (by decide +kernel)
set_option maxRecDepth 20000 in
theorem k_70 : Cond.selects R_Water y_Water_fillWithAir y_Water_fillWithAir ∈ TT := tt_i 318 (by decide +kernel) (by decide +kernel)
set_option maxRecDepth 20000 in
theorem k_71 : Cond.initialized R_Water ∈ TT := tt_i 25 (by decide +kernel) (by decide +kernel)
abbrev rm_Water_changeAir : Room := { frames := 2, cells := 0, slots := 0, locals := 43 }
set_option maxRecDepth 100000 in
set_option maxHeartbeats 4000000 in
theorem w_Water_changeAir_19 {p : Program} {l : Launch} {e : Env} {s : State} {m : MethodId} {args : Array Value} {below : List Frame} {meth : Method} {c : Code} {Q : State → Prop} {D : va_G} {ct : Nat → ClassId} {A : Nat → Prop} {ad : Nat → Nat} {S : nH} (hC : nC p s m args c D vwCl ct A ad S 4 b_Water_changeAir R_Water TT) (w0 nn0 : Nat) (hp0 : isW S w0 nn0) (x1 : Int) (hx1 : rg x1) (x2 : Int) (hx2 : rg x2) : ∀ (f : Nat) (x3 : Int) (N : nS) (q : Int) (No : nS), m_Water_changeAir_19 w0 nn0 x1 x2 f x3 N = some (q, No) → rg x3 → nV p l e rm_Water_changeAir s m args below meth c 0 0 Q D vwCl ct A ad S 4 No 41 [(0, .ref (ad w0)), (1, .int (iI x1)), (2, .int (iI x2)), (3, .int (iI q))] [] → nV p l e rm_Water_changeAir s m args below meth c 0 0 Q D vwCl ct A ad S 4 N 19 [(0, .ref (ad w0)), (1, .int (iI x1)), (2, .int (iI x2)), (3, .int (iI x3))] [] := by
  intro f
  induction f with
  | zero =>
    intro x3 N q No hm
    rw [m_Water_changeAir_19] at hm
    cases hm
  | succ f ih =>
    intro x3 N q No hm hx3 kx
    rw [m_Water_changeAir_19] at hm
    refine nv_iload_n hC d_Water_changeAir_19 rfl 3 rfl ?_
    refine nv_aload_n hC d_Water_changeAir_20 rfl 0 rfl ?_
    refine nv_getA hC (j := 0) hp0.1 rfl in_Water (by decide) k_54 rfl d_Water_changeAir_21 ?_
    refine nv_getI hC (j := 5) (isW_net hp0).1 rfl in_Net (by decide) k_55 rfl d_Water_changeAir_24 ?_
    obtain ⟨hr5, hm⟩ := ck_s hm
    refine nv_icmp_ge hC hx3 hr5 d_Water_changeAir_27 (tgt := 41) (by decide) (fun c6 => ?_) (fun c6 => ?_)
    · have hm := if_t c6 hm
      obtain ⟨rfl, rfl⟩ := ret_s hm
      refine nv_sub (lv' := [(0, .ref (ad w0)), (1, .int (iI x1)), (2, .int (iI x2)), (3, .int (iI x3))]) [0, 1, 2, 3] rfl ?_
      exact kx
    · have hm := if_f c6 hm
      refine nv_aload_n hC d_Water_changeAir_30 rfl 0 rfl ?_
      refine nv_iload_n hC d_Water_changeAir_31 rfl 3 rfl ?_
      obtain ⟨r7, N8, hq9, hm⟩ := nbd_s hm
      refine nv_callv (N' := N8) (nr_V hC (As := [.int (iI x3)]) (st := []) hp0.1 rfl (c_Water_fillWithAir l hC.2.2.1 w0 nn0 hp0 x3 hx3 N r7 N8 hq9) (cwV 1 hC.1.2.2.2.2 (tt_V k_67 k_69 k_70 k_71 k_68) rfl rfl rfl (by decide +kernel) ⟨Nat.le_of_ble_eq_true rfl, Nat.le_of_ble_eq_true rfl⟩) rfl rfl (Nat.le_of_ble_eq_true rfl) ⟨Nat.zero_le _, Nat.zero_le _⟩ d_Water_changeAir_32) ?_
      refine nv_iinc (lv' := [(3, .int (iI (x3 + 1))), (0, .ref (ad w0)), (1, .int (iI x1)), (2, .int (iI x2))]) hC d_Water_changeAir_35 3 rfl (by decide) rfl ?_
      refine nv_goto hC d_Water_changeAir_38 (tgt := 19) (by decide) ?_
      obtain ⟨hr10, hm⟩ := ck_s hm
      refine nv_sub (lv' := [(0, .ref (ad w0)), (1, .int (iI x1)), (2, .int (iI x2)), (3, .int (iI (x3 + 1)))]) [1, 2, 3, 0] rfl ?_
      exact ih (x3 + 1) N8 q No hm hr10 kx
set_option maxRecDepth 100000 in
set_option maxHeartbeats 4000000 in
theorem c_Water_changeAir (l : Launch) {D : va_G} {ct : Nat → ClassId} {A : Nat → Prop} {ad : Nat → Nat} {S : nH} (hD : nD ad A S.length) (w0 nn0 : Nat) (hp0 : isW S w0 nn0) (x1 : Int) (hx1 : rg x1) (N : nS) (r : Int) (No : nS) (hm : m_Water_changeAir w0 nn0 x1 N = some (r, No)) : nM l y_Water_changeAir (Cond.code y_Water_changeAir b_Water_changeAir 4 (some .int) :: TT) rm_Water_changeAir D vwCl ct A ad S N [.ref (ad w0), .int (iI x1)] (nQi D vwCl ct A ad S r No) := by
  refine nM_of (cc := b_Water_changeAir) (maxL := 4) (ret := (some .int)) (by decide) rfl (Nat.le_of_ble_eq_true rfl) hD ?_
  intro p e s m below meth c hC hr hlk
  refine nv_lv (lv' := [(0, .ref (ad w0)), (1, .int (iI x1))]) rfl ?_
  rw [m_Water_changeAir] at hm
  refine nv_aload_n hC d_Water_changeAir_0 rfl 0 rfl ?_
  refine nv_getI hC (j := 10) hp0.1 rfl in_Water (by decide) k_62 rfl d_Water_changeAir_1 ?_
  refine nv_istore_n (lv' := [(2, .int (iI (N w0 10))), (0, .ref (ad w0)), (1, .int (iI x1))]) hC d_Water_changeAir_4 rfl (by decide) rfl ?_
  refine nv_aload_n hC d_Water_changeAir_5 rfl 1 rfl ?_
  refine nv_iload_n hC d_Water_changeAir_6 rfl 2 rfl ?_
  obtain ⟨N1, e2, hm⟩ := nlt_s hm
  refine nv_putI hC (j := 10) hp0.1 rfl in_Water (by decide) ty_Water tyok_Water nm_Water k_62 rfl rfl (by decide +kernel) e2 d_Water_changeAir_7 ?_
  refine nv_aload_n hC d_Water_changeAir_10 rfl 1 rfl ?_
  refine nv_getI hC (j := 8) hp0.1 rfl in_Water (by decide) k_66 rfl d_Water_changeAir_11 ?_
  obtain ⟨hr3, hm⟩ := ck_s hm
  refine nv_if_ne hC hr3 d_Water_changeAir_14 (tgt := 41) (by decide) (fun c4 => ?_) (fun c4 => ?_)
  · have hm := if_f c4 hm
    refine nv_iload_n hC d_Water_changeAir_41 rfl 0 rfl ?_
    obtain ⟨rfl, rfl⟩ := ret_s hm
    exact nv_iret hC hr hlk d_Water_changeAir_42
  · have hm := if_t c4 hm
    refine nv_iconst hC d_Water_changeAir_17 ?_
    refine nv_istore_n (lv' := [(3, .int (iI 0)), (2, .int (iI (N w0 10))), (0, .ref (ad w0)), (1, .int (iI x1))]) hC d_Water_changeAir_18 rfl (by decide) rfl ?_
    obtain ⟨hr11, hm⟩ := ck_s hm
    obtain ⟨q12, N13, hq14, hm⟩ := nbd_s hm
    refine nv_sub (lv' := [(0, .ref (ad w0)), (1, .int (iI x1)), (2, .int (iI (N w0 10))), (3, .int (iI 0))]) [2, 3, 1, 0] rfl ?_
    refine w_Water_changeAir_19 hC w0 nn0 hp0 x1 hx1 (N w0 10) hr11 FU 0 N1 q12 N13 hq14 ⟨by decide, by decide⟩ ?_
    refine nv_iload_n hC d_Water_changeAir_41 rfl 2 rfl ?_
    obtain ⟨rfl, rfl⟩ := ret_s hm
    exact nv_iret hC hr hlk d_Water_changeAir_42
def m_Water_findWay_4 (w0 nn0 : Nat) (x1 : Int) : Nat → Int → Int → nS → Option ((Int × Int) × nS)
  | 0, _, _, _ => none
  | f + 1, x2, x3, N =>
    if 10 ≤ x2 then
    some ((x2, x3), N)
    else
    if x3 < 0 then
    some ((x2, x3), N)
    else
    if rg (N nn0 5) then
    if (N nn0 5) ≤ x3 then
    some ((x2, x3), N)
    else
    if 0 ≤ x2 ∧ x2 < ((10 : Nat) : Int) then
    nlt (up2 N (w0 + 11) x2.toNat x3) (fun N6 =>
    if 0 ≤ x3 ∧ x3 < ((10 : Nat) : Int) then
    if rg (x2 + 1) then
    if rg (N6 (nn0 + 1) x3.toNat) then
    m_Water_findWay_4 w0 nn0 x1 f (x2 + 1) (N6 (nn0 + 1) x3.toNat) N6
    else none
    else none
    else none)
    else none
    else none
def m_Water_findWay (w0 nn0 : Nat) (x1 : Int) (N : nS) : Option (Int × nS) :=
  nbd (m_Water_findWay_4 w0 nn0 x1 FU 0 x1 N) (fun q11 N12 =>
  some (q11.1, N12))
set_option maxRecDepth 20000 in
theorem k_72 : Cond.fieldLink R_Water 30 (T_Water 5).1 (T_Water 5).2.1 (T_Water 5).2.2.1 ∈ TT := tt_i 117 (by decide +kernel) (by decide +kernel)
set_option maxRecDepth 20000 in
theorem k_73 : Cond.fieldLink R_Water 94 (T_Net 0).1 (T_Net 0).2.1 (T_Net 0).2.2.1 ∈ TT := tt_i 50 (by decide +kernel) (by decide +kernel)
abbrev rm_Water_findWay : Room := { frames := 0, cells := 0, slots := 0, locals := 0 }
set_option maxRecDepth 100000 in
set_option maxHeartbeats 4000000 in
theorem w_Water_findWay_4 {p : Program} {l : Launch} {e : Env} {s : State} {m : MethodId} {args : Array Value} {below : List Frame} {meth : Method} {c : Code} {Q : State → Prop} {D : va_G} {ct : Nat → ClassId} {A : Nat → Prop} {ad : Nat → Nat} {S : nH} (hC : nC p s m args c D vwCl ct A ad S 4 b_Water_findWay R_Water TT) (w0 nn0 : Nat) (hp0 : isW S w0 nn0) (x1 : Int) (hx1 : rg x1) : ∀ (f : Nat) (x2 x3 : Int) (N : nS) (q : Int × Int) (No : nS), m_Water_findWay_4 w0 nn0 x1 f x2 x3 N = some (q, No) → rg x2 → rg x3 → nV p l e rm_Water_findWay s m args below meth c 0 0 Q D vwCl ct A ad S 4 No 48 [(0, .ref (ad w0)), (1, .int (iI x1)), (2, .int (iI q.1)), (3, .int (iI q.2))] [] → nV p l e rm_Water_findWay s m args below meth c 0 0 Q D vwCl ct A ad S 4 N 4 [(0, .ref (ad w0)), (1, .int (iI x1)), (2, .int (iI x2)), (3, .int (iI x3))] [] := by
  intro f
  induction f with
  | zero =>
    intro x2 x3 N q No hm
    rw [m_Water_findWay_4] at hm
    cases hm
  | succ f ih =>
    intro x2 x3 N q No hm hx2 hx3 kx
    rw [m_Water_findWay_4] at hm
    refine nv_iload_n hC d_Water_findWay_4 rfl 2 rfl ?_
    refine nv_bipush hC (z := 10) d_Water_findWay_5 rfl ?_
    refine nv_icmp_ge hC hx2 ⟨by decide, by decide⟩ d_Water_findWay_7 (tgt := 48) (by decide) (fun c1 => ?_) (fun c1 => ?_)
    · have hm := if_t c1 hm
      obtain ⟨rfl, rfl⟩ := ret_s hm
      refine nv_sub (lv' := [(0, .ref (ad w0)), (1, .int (iI x1)), (2, .int (iI x2)), (3, .int (iI x3))]) [0, 1, 2, 3] rfl ?_
      exact kx
    · have hm := if_f c1 hm
      refine nv_iload_n hC d_Water_findWay_10 rfl 3 rfl ?_
      refine nv_if_lt hC hx3 d_Water_findWay_11 (tgt := 48) (by decide) (fun c2 => ?_) (fun c2 => ?_)
      · have hm := if_t c2 hm
        obtain ⟨rfl, rfl⟩ := ret_s hm
        refine nv_sub (lv' := [(0, .ref (ad w0)), (1, .int (iI x1)), (2, .int (iI x2)), (3, .int (iI x3))]) [0, 1, 2, 3] rfl ?_
        exact kx
      · have hm := if_f c2 hm
        refine nv_iload_n hC d_Water_findWay_14 rfl 3 rfl ?_
        refine nv_aload_n hC d_Water_findWay_15 rfl 0 rfl ?_
        refine nv_getA hC (j := 0) hp0.1 rfl in_Water (by decide) k_54 rfl d_Water_findWay_16 ?_
        refine nv_getI hC (j := 5) (isW_net hp0).1 rfl in_Net (by decide) k_55 rfl d_Water_findWay_19 ?_
        obtain ⟨hr3, hm⟩ := ck_s hm
        refine nv_icmp_ge hC hx3 hr3 d_Water_findWay_22 (tgt := 48) (by decide) (fun c4 => ?_) (fun c4 => ?_)
        · have hm := if_t c4 hm
          obtain ⟨rfl, rfl⟩ := ret_s hm
          refine nv_sub (lv' := [(0, .ref (ad w0)), (1, .int (iI x1)), (2, .int (iI x2)), (3, .int (iI x3))]) [0, 1, 2, 3] rfl ?_
          exact kx
        · have hm := if_f c4 hm
          refine nv_aload_n hC d_Water_findWay_25 rfl 0 rfl ?_
          refine nv_getR hC (j := 5) hp0.1 rfl in_Water (by decide) k_72 rfl d_Water_findWay_26 ?_
          refine nv_iload_n hC d_Water_findWay_29 rfl 2 rfl ?_
          refine nv_iload_n hC d_Water_findWay_30 rfl 3 rfl ?_
          obtain ⟨hc5, hm⟩ := ck_s hm
          obtain ⟨N6, e7, hm⟩ := nlt_s hm
          refine nv_iast hC (isW_way hp0) (by decide) hc5 e7 d_Water_findWay_31 ?_
          refine nv_iinc (lv' := [(2, .int (iI (x2 + 1))), (0, .ref (ad w0)), (1, .int (iI x1)), (3, .int (iI x3))]) hC d_Water_findWay_32 2 rfl (by decide) rfl ?_
          refine nv_aload_n hC d_Water_findWay_35 rfl 1 rfl ?_
          refine nv_getA hC (j := 0) hp0.1 rfl in_Water (by decide) k_54 rfl d_Water_findWay_36 ?_
          refine nv_getR hC (j := 0) (isW_net hp0).1 rfl in_Net (by decide) k_73 rfl d_Water_findWay_39 ?_
          refine nv_iload_n hC d_Water_findWay_42 rfl 3 rfl ?_
          obtain ⟨hc8, hm⟩ := ck_s hm
          refine nv_iald hC (isW_net hp0).2.1 (by decide) hc8 d_Water_findWay_43 ?_
          refine nv_istore_n (lv' := [(3, .int (iI (N6 (nn0 + 1) x3.toNat))), (2, .int (iI (x2 + 1))), (0, .ref (ad w0)), (1, .int (iI x1))]) hC d_Water_findWay_44 rfl (by decide) rfl ?_
          refine nv_goto hC d_Water_findWay_45 (tgt := 4) (by decide) ?_
          obtain ⟨hr9, hm⟩ := ck_s hm
          obtain ⟨hr10, hm⟩ := ck_s hm
          refine nv_sub (lv' := [(0, .ref (ad w0)), (1, .int (iI x1)), (2, .int (iI (x2 + 1))), (3, .int (iI (N6 (nn0 + 1) x3.toNat)))]) [2, 3, 1, 0] rfl ?_
          exact ih (x2 + 1) (N6 (nn0 + 1) x3.toNat) N6 q No hm hr9 hr10 kx
set_option maxRecDepth 100000 in
set_option maxHeartbeats 4000000 in
theorem c_Water_findWay (l : Launch) {D : va_G} {ct : Nat → ClassId} {A : Nat → Prop} {ad : Nat → Nat} {S : nH} (hD : nD ad A S.length) (w0 nn0 : Nat) (hp0 : isW S w0 nn0) (x1 : Int) (hx1 : rg x1) (N : nS) (r : Int) (No : nS) (hm : m_Water_findWay w0 nn0 x1 N = some (r, No)) : nM l y_Water_findWay (Cond.code y_Water_findWay b_Water_findWay 4 (some .int) :: TT) rm_Water_findWay D vwCl ct A ad S N [.ref (ad w0), .int (iI x1)] (nQi D vwCl ct A ad S r No) := by
  refine nM_of (cc := b_Water_findWay) (maxL := 4) (ret := (some .int)) (by decide) rfl (Nat.le_of_ble_eq_true rfl) hD ?_
  intro p e s m below meth c hC hr hlk
  refine nv_lv (lv' := [(0, .ref (ad w0)), (1, .int (iI x1))]) rfl ?_
  rw [m_Water_findWay] at hm
  refine nv_iconst hC d_Water_findWay_0 ?_
  refine nv_istore_n (lv' := [(2, .int (iI 0)), (0, .ref (ad w0)), (1, .int (iI x1))]) hC d_Water_findWay_1 rfl (by decide) rfl ?_
  refine nv_iload_n hC d_Water_findWay_2 rfl 2 rfl ?_
  refine nv_istore_n (lv' := [(3, .int (iI x1)), (2, .int (iI 0)), (0, .ref (ad w0)), (1, .int (iI x1))]) hC d_Water_findWay_3 rfl (by decide) rfl ?_
  obtain ⟨q11, N12, hq13, hm⟩ := nbd_s hm
  refine nv_sub (lv' := [(0, .ref (ad w0)), (1, .int (iI x1)), (2, .int (iI 0)), (3, .int (iI x1))]) [2, 3, 1, 0] rfl ?_
  refine w_Water_findWay_4 hC w0 nn0 hp0 x1 hx1 FU 0 x1 N q11 N12 hq13 ⟨by decide, by decide⟩ hx1 ?_
  refine nv_iload_n hC d_Water_findWay_48 rfl 2 rfl ?_
  obtain ⟨rfl, rfl⟩ := ret_s hm
  exact nv_iret hC hr hlk d_Water_findWay_49
def m_Water_pushThrough (w0 nn0 : Nat) (x1 : Int) (N : nS) : Option (Int × nS) :=
  if 0 ≤ x1 ∧ x1 < ((10 : Nat) : Int) then
  nbd (m_Plugs_clear (w0 + 5) 121 N) (fun r2 N3 =>
  nbd (m_Plugs_addAll (w0 + 5) 121 (w0 + 2) 121 N3) (fun r5 N6 =>
  nbd (m_Plugs_addAll (w0 + 5) 121 (w0 + 1 + 13 + 3 * x1.toNat) 12 N6) (fun r8 N9 =>
  if rg (N9 (nn0 + 2) x1.toNat) then
  nbd (m_Plugs_split (w0 + 5) 121 (N9 (nn0 + 2) x1.toNat) (w0 + 8) 121 (w0 + 2) 121 N9) (fun r12 N13 =>
  nbd (m_Plugs_thin (w0 + 8) 121 N13) (fun r15 N16 =>
  if rg r15 then
  nlt (up2 N16 w0 13 ((N13 w0 13) + r15)) (fun N19 =>
  nbd (m_Plugs_clear (w0 + 1 + 13 + 3 * x1.toNat) 12 N19) (fun r21 N22 =>
  nbd (m_Plugs_addAll (w0 + 1 + 13 + 3 * x1.toNat) 12 (w0 + 8) 121 N22) (fun r24 N25 =>
  nlt (up2 N25 (w0 + 12) x1.toNat (N25 w0 8)) (fun N27 =>
  some (0, N27)))))
  else none))
  else none)))
  else none
set_option maxRecDepth 20000 in
theorem k_74 : Cond.fieldLink R_Water 24 (T_Water 3).1 (T_Water 3).2.1 (T_Water 3).2.2.1 ∈ TT := tt_i 115 (by decide +kernel) (by decide +kernel)
set_option maxRecDepth 20000 in
theorem k_75 : Cond.fieldLink R_Water 20 (T_Water 2).1 (T_Water 2).2.1 (T_Water 2).2.2.1 ∈ TT := tt_i 113 (by decide +kernel) (by decide +kernel)
set_option maxRecDepth 20000 in
theorem k_76 : Cond.fieldLink R_Water 27 (T_Water 4).1 (T_Water 4).2.1 (T_Water 4).2.2.1 ∈ TT := tt_i 116 (by decide +kernel) (by decide +kernel)
set_option maxRecDepth 20000 in
theorem k_77 : Cond.methodLink R_Water 97 y_Plugs_split ∈ TT := tt_i 405 (by decide +kernel) (by decide +kernel)
set_option maxRecDepth 20000 in
theorem k_78 : Cond.code y_Plugs_split b_Plugs_split 7 none ∈ TT := tt_i 408 (by decide +kernel) (by decide +kernel)
set_option maxRecDepth 20000 in
theorem k_79 : Cond.instanceMethod y_Plugs_split ∈ TT := tt_i 406 (by decide +kernel) (by decide +kernel)
set_option maxRecDepth 20000 in
theorem k_80 : Cond.selects R_Plugs y_Plugs_split y_Plugs_split ∈ TT := tt_i 407 (by decide +kernel) (by decide +kernel)
set_option maxRecDepth 20000 in
theorem k_81 : Cond.fieldLink R_Water 101 (T_Water 13).1 (T_Water 13).2.1 (T_Water 13).2.2.1 ∈ TT := tt_i 129 (by decide +kernel) (by decide +kernel)
set_option maxRecDepth 20000 in
theorem k_82 : Cond.methodLink R_Water 104 y_Plugs_thin ∈ TT := tt_i 413 (by decide +kernel) (by decide +kernel)
set_option maxRecDepth 20000 in
theorem k_83 : Cond.code y_Plugs_thin b_Plugs_thin 3 (some .int) ∈ TT := tt_i 416 (by decide +kernel) (by decide +kernel)
set_option maxRecDepth 20000 in
theorem k_84 : Cond.instanceMethod y_Plugs_thin ∈ TT := tt_i 414 (by decide +kernel) (by decide +kernel)
set_option maxRecDepth 20000 in
theorem k_85 : Cond.selects R_Plugs y_Plugs_thin y_Plugs_thin ∈ TT := tt_i 415 (by decide +kernel) (by decide +kernel)
set_option maxRecDepth 20000 in
theorem k_86 : Cond.fieldLink R_Water 34 (T_Water 6).1 (T_Water 6).2.1 (T_Water 6).2.2.1 ∈ TT := tt_i 118 (by decide +kernel) (by decide +kernel)
abbrev rm_Water_pushThrough : Room := { frames := 3, cells := 0, slots := 0, locals := 70 }
set_option maxRecDepth 100000 in
set_option maxHeartbeats 4000000 in
theorem c_Water_pushThrough (l : Launch) {D : va_G} {ct : Nat → ClassId} {A : Nat → Prop} {ad : Nat → Nat} {S : nH} (hD : nD ad A S.length) (w0 nn0 : Nat) (hp0 : isW S w0 nn0) (x1 : Int) (hx1 : rg x1) (N : nS) (r : Int) (No : nS) (hm : m_Water_pushThrough w0 nn0 x1 N = some (r, No)) : nM l y_Water_pushThrough (Cond.code y_Water_pushThrough b_Water_pushThrough 3 none :: TT) rm_Water_pushThrough D vwCl ct A ad S N [.ref (ad w0), .int (iI x1)] (nQv D vwCl ct A ad S No) := by
  refine nM_of (cc := b_Water_pushThrough) (maxL := 3) (ret := none) (by decide) rfl (Nat.le_of_ble_eq_true rfl) hD ?_
  intro p e s m below meth c hC hr hlk
  refine nv_lv (lv' := [(0, .ref (ad w0)), (1, .int (iI x1))]) rfl ?_
  rw [m_Water_pushThrough] at hm
  refine nv_aload_n hC d_Water_pushThrough_0 rfl 0 rfl ?_
  refine nv_getR hC (j := 1) hp0.1 rfl in_Water (by decide) k_56 rfl d_Water_pushThrough_1 ?_
  refine nv_iload_n hC d_Water_pushThrough_4 rfl 1 rfl ?_
  obtain ⟨hc1, hm⟩ := ck_s hm
  refine nv_aald hC (isW_rows hp0) (by decide) hc1 rfl d_Water_pushThrough_5 ?_
  refine nv_astore_n (lv' := [(2, .ref (ad (w0 + 1 + 13 + 3 * x1.toNat))), (0, .ref (ad w0)), (1, .int (iI x1))]) hC d_Water_pushThrough_6 rfl (by decide) rfl ?_
  refine nv_aload_n hC d_Water_pushThrough_7 rfl 1 rfl ?_
  refine nv_getR hC (j := 3) hp0.1 rfl in_Water (by decide) k_74 rfl d_Water_pushThrough_8 ?_
  obtain ⟨r2, N3, hq4, hm⟩ := nbd_s hm
  refine nv_callv (N' := N3) (nr_V hC (As := []) (st := []) (isW_pushed hp0).1 rfl (c_Plugs_clear l hC.2.2.1 (w0 + 5) 121 (isW_pushed hp0) N r2 N3 hq4) (cwV 0 hC.1.2.2.2.2 (tt_V k_57 k_10 k_11 k_7 k_9) rfl rfl rfl (by decide +kernel) ⟨Nat.le_of_ble_eq_true rfl, Nat.le_of_ble_eq_true rfl⟩) rfl rfl (Nat.le_of_ble_eq_true rfl) ⟨Nat.zero_le _, Nat.zero_le _⟩ d_Water_pushThrough_11) ?_
  refine nv_aload_n hC d_Water_pushThrough_14 rfl 1 rfl ?_
  refine nv_getR hC (j := 3) hp0.1 rfl in_Water (by decide) k_74 rfl d_Water_pushThrough_15 ?_
  refine nv_aload_n hC d_Water_pushThrough_18 rfl 1 rfl ?_
  refine nv_getR hC (j := 2) hp0.1 rfl in_Water (by decide) k_75 rfl d_Water_pushThrough_19 ?_
  obtain ⟨r5, N6, hq7, hm⟩ := nbd_s hm
  refine nv_callv (N' := N6) (nr_V hC (As := [.ref (ad (w0 + 2))]) (st := []) (isW_pushed hp0).1 rfl (c_Plugs_addAll l hC.2.2.1 (w0 + 5) 121 (isW_pushed hp0) (w0 + 2) 121 (isW_taken hp0) N3 r5 N6 hq7) (cwV 1 hC.1.2.2.2.2 (tt_V k_58 k_60 k_61 k_7 k_59) rfl rfl rfl (by decide +kernel) ⟨Nat.le_of_ble_eq_true rfl, Nat.le_of_ble_eq_true rfl⟩) rfl rfl (Nat.le_of_ble_eq_true rfl) ⟨Nat.zero_le _, Nat.zero_le _⟩ d_Water_pushThrough_22) ?_
  refine nv_aload_n hC d_Water_pushThrough_25 rfl 1 rfl ?_
  refine nv_getR hC (j := 3) hp0.1 rfl in_Water (by decide) k_74 rfl d_Water_pushThrough_26 ?_
  refine nv_aload_n hC d_Water_pushThrough_29 rfl 0 rfl ?_
  obtain ⟨r8, N9, hq10, hm⟩ := nbd_s hm
  refine nv_callv (N' := N9) (nr_V hC (As := [.ref (ad (w0 + 1 + 13 + 3 * x1.toNat))]) (st := []) (isW_pushed hp0).1 rfl (c_Plugs_addAll l hC.2.2.1 (w0 + 5) 121 (isW_pushed hp0) (w0 + 1 + 13 + 3 * x1.toNat) 12 (isW_row hp0 (tn_lt hc1)) N6 r8 N9 hq10) (cwV 1 hC.1.2.2.2.2 (tt_V k_58 k_60 k_61 k_7 k_59) rfl rfl rfl (by decide +kernel) ⟨Nat.le_of_ble_eq_true rfl, Nat.le_of_ble_eq_true rfl⟩) rfl rfl (Nat.le_of_ble_eq_true rfl) ⟨Nat.zero_le _, Nat.zero_le _⟩ d_Water_pushThrough_30) ?_
  refine nv_aload_n hC d_Water_pushThrough_33 rfl 1 rfl ?_
  refine nv_getR hC (j := 3) hp0.1 rfl in_Water (by decide) k_74 rfl d_Water_pushThrough_34 ?_
  refine nv_aload_n hC d_Water_pushThrough_37 rfl 1 rfl ?_
  refine nv_getA hC (j := 0) hp0.1 rfl in_Water (by decide) k_54 rfl d_Water_pushThrough_38 ?_
  refine nv_getR hC (j := 1) (isW_net hp0).1 rfl in_Net (by decide) k_64 rfl d_Water_pushThrough_41 ?_
  refine nv_iload_n hC d_Water_pushThrough_44 rfl 2 rfl ?_
  refine nv_iald hC (isW_net hp0).2.2.1 (by decide) hc1 d_Water_pushThrough_45 ?_
  refine nv_aload_n hC d_Water_pushThrough_46 rfl 1 rfl ?_
  refine nv_getR hC (j := 4) hp0.1 rfl in_Water (by decide) k_76 rfl d_Water_pushThrough_47 ?_
  refine nv_aload_n hC d_Water_pushThrough_50 rfl 1 rfl ?_
  refine nv_getR hC (j := 2) hp0.1 rfl in_Water (by decide) k_75 rfl d_Water_pushThrough_51 ?_
  obtain ⟨hr11, hm⟩ := ck_s hm
  obtain ⟨r12, N13, hq14, hm⟩ := nbd_s hm
  refine nv_callv (N' := N13) (nr_V hC (As := [.int (iI (N9 (nn0 + 2) x1.toNat)), .ref (ad (w0 + 8)), .ref (ad (w0 + 2))]) (st := []) (isW_pushed hp0).1 rfl (c_Plugs_split l hC.2.2.1 (w0 + 5) 121 (isW_pushed hp0) (N9 (nn0 + 2) x1.toNat) hr11 (w0 + 8) 121 (isW_rest hp0) (w0 + 2) 121 (isW_taken hp0) N9 r12 N13 hq14) (cwV 3 hC.1.2.2.2.2 (tt_V k_77 k_79 k_80 k_7 k_78) rfl rfl rfl (by decide +kernel) ⟨Nat.le_of_ble_eq_true rfl, Nat.le_of_ble_eq_true rfl⟩) rfl rfl (Nat.le_of_ble_eq_true rfl) ⟨Nat.zero_le _, Nat.zero_le _⟩ d_Water_pushThrough_54) ?_
  refine nv_aload_n hC d_Water_pushThrough_57 rfl 1 rfl ?_
  refine nv_dup hC d_Water_pushThrough_58 rfl ?_
  refine nv_getJ hC (j := 13) hp0.1 rfl in_Water (by decide) k_81 rfl d_Water_pushThrough_59 ?_
  refine nv_aload_n hC d_Water_pushThrough_62 rfl 1 rfl ?_
  refine nv_getR hC (j := 4) hp0.1 rfl in_Water (by decide) k_76 rfl d_Water_pushThrough_63 ?_
  obtain ⟨r15, N16, hq17, hm⟩ := nbd_s hm
  refine nv_calli (x := r15) (N' := N16) (nr_V hC (As := []) (st := [.long (lI (N13 w0 13)), .ref (ad w0)]) (isW_rest hp0).1 rfl (c_Plugs_thin l hC.2.2.1 (w0 + 8) 121 (isW_rest hp0) N13 r15 N16 hq17) (cwV 0 hC.1.2.2.2.2 (tt_V k_82 k_84 k_85 k_7 k_83) rfl rfl rfl (by decide +kernel) ⟨Nat.le_of_ble_eq_true rfl, Nat.le_of_ble_eq_true rfl⟩) rfl rfl (Nat.le_of_ble_eq_true rfl) ⟨Nat.zero_le _, Nat.zero_le _⟩ d_Water_pushThrough_66) ?_
  obtain ⟨hr18, hm⟩ := ck_s hm
  refine nv_i2l hC d_Water_pushThrough_69 hr18 ?_
  refine nv_ladd hC d_Water_pushThrough_70 ?_
  obtain ⟨N19, e20, hm⟩ := nlt_s hm
  refine nv_putJ hC (j := 13) hp0.1 rfl in_Water (by decide) ty_Water tyok_Water nm_Water k_81 rfl rfl (by decide +kernel) e20 d_Water_pushThrough_71 ?_
  refine nv_aload_n hC d_Water_pushThrough_74 rfl 0 rfl ?_
  obtain ⟨r21, N22, hq23, hm⟩ := nbd_s hm
  refine nv_callv (N' := N22) (nr_V hC (As := []) (st := []) (isW_row hp0 (tn_lt hc1)).1 rfl (c_Plugs_clear l hC.2.2.1 (w0 + 1 + 13 + 3 * x1.toNat) 12 (isW_row hp0 (tn_lt hc1)) N19 r21 N22 hq23) (cwV 0 hC.1.2.2.2.2 (tt_V k_57 k_10 k_11 k_7 k_9) rfl rfl rfl (by decide +kernel) ⟨Nat.le_of_ble_eq_true rfl, Nat.le_of_ble_eq_true rfl⟩) rfl rfl (Nat.le_of_ble_eq_true rfl) ⟨Nat.zero_le _, Nat.zero_le _⟩ d_Water_pushThrough_75) ?_
  refine nv_aload_n hC d_Water_pushThrough_78 rfl 0 rfl ?_
  refine nv_aload_n hC d_Water_pushThrough_79 rfl 1 rfl ?_
  refine nv_getR hC (j := 4) hp0.1 rfl in_Water (by decide) k_76 rfl d_Water_pushThrough_80 ?_
  obtain ⟨r24, N25, hq26, hm⟩ := nbd_s hm
  refine nv_callv (N' := N25) (nr_V hC (As := [.ref (ad (w0 + 8))]) (st := []) (isW_row hp0 (tn_lt hc1)).1 rfl (c_Plugs_addAll l hC.2.2.1 (w0 + 1 + 13 + 3 * x1.toNat) 12 (isW_row hp0 (tn_lt hc1)) (w0 + 8) 121 (isW_rest hp0) N22 r24 N25 hq26) (cwV 1 hC.1.2.2.2.2 (tt_V k_58 k_60 k_61 k_7 k_59) rfl rfl rfl (by decide +kernel) ⟨Nat.le_of_ble_eq_true rfl, Nat.le_of_ble_eq_true rfl⟩) rfl rfl (Nat.le_of_ble_eq_true rfl) ⟨Nat.zero_le _, Nat.zero_le _⟩ d_Water_pushThrough_83) ?_
  refine nv_aload_n hC d_Water_pushThrough_86 rfl 1 rfl ?_
  refine nv_getR hC (j := 6) hp0.1 rfl in_Water (by decide) k_86 rfl d_Water_pushThrough_87 ?_
  refine nv_iload_n hC d_Water_pushThrough_90 rfl 2 rfl ?_
  refine nv_aload_n hC d_Water_pushThrough_91 rfl 1 rfl ?_
  refine nv_getI hC (j := 8) hp0.1 rfl in_Water (by decide) k_66 rfl d_Water_pushThrough_92 ?_
  obtain ⟨N27, e28, hm⟩ := nlt_s hm
  refine nv_iast hC (isW_flow hp0) (by decide) hc1 e28 d_Water_pushThrough_95 ?_
  obtain ⟨rfl, rfl⟩ := ret_s hm
  exact nv_vret hC hr hlk d_Water_pushThrough_96
def m_Water_takeOut_43 (w0 nn0 : Nat) (x1 : Int) (x2 : Int) : Nat → Int → nS → Option ((Int) × nS)
  | 0, _, _ => none
  | f + 1, x3, N =>
    if x3 < 0 then
    some (x3, N)
    else
    if 0 ≤ x3 ∧ x3 < ((10 : Nat) : Int) then
    if rg (N (w0 + 11) x3.toNat) then
    nbd (m_Water_pushThrough w0 nn0 (N (w0 + 11) x3.toNat) N) (fun r19 N20 =>
    if rg (x3 + (-1)) then
    m_Water_takeOut_43 w0 nn0 x1 x2 f (x3 + (-1)) N20
    else none)
    else none
    else none
def m_Water_takeOut (w0 nn0 : Nat) (x1 : Int) (x2 : Int) (N : nS) : Option (Int × nS) :=
  nbd (m_Plugs_clear (w0 + 2) 121 N) (fun r1 N2 =>
  if rg (N2 w0 9) then
  nbd (m_Plugs_add (w0 + 2) 121 x2 (N2 w0 9) N2) (fun r5 N6 =>
  nbd (m_Plugs_volumeTimesWarmth (w0 + 2) 121 N6) (fun r8 N9 =>
  nlt (up2 N9 w0 11 ((N6 w0 11) + r8)) (fun N11 =>
  nbd (m_Water_findWay w0 nn0 x1 N11) (fun r13 N14 =>
  if rg (r13 - 1) then
  nbd (m_Water_takeOut_43 w0 nn0 x1 x2 FU (r13 - 1) N14) (fun q24 N25 =>
  nbd (m_Plugs_volumeTimesWarmth (w0 + 2) 121 N25) (fun r27 N28 =>
  nlt (up2 N28 w0 12 ((N25 w0 12) + r27)) (fun N30 =>
  some (0, N30))))
  else none))))
  else none)
set_option maxRecDepth 20000 in
theorem k_87 : Cond.fieldLink R_Water 76 (T_Water 11).1 (T_Water 11).2.1 (T_Water 11).2.2.1 ∈ TT := tt_i 125 (by decide +kernel) (by decide +kernel)
set_option maxRecDepth 20000 in
theorem k_88 : Cond.methodLink R_Water 80 y_Plugs_volumeTimesWarmth ∈ TT := tt_i 388 (by decide +kernel) (by decide +kernel)
set_option maxRecDepth 20000 in
theorem k_89 : Cond.methodLink R_Water 84 y_Water_findWay ∈ TT := tt_i 392 (by decide +kernel) (by decide +kernel)
set_option maxRecDepth 20000 in
theorem k_90 : Cond.code y_Water_findWay b_Water_findWay 4 (some .int) ∈ TT := tt_i 395 (by decide +kernel) (by decide +kernel)
set_option maxRecDepth 20000 in
theorem k_91 : Cond.instanceMethod y_Water_findWay ∈ TT := tt_i 394 (by decide +kernel) (by decide +kernel)
set_option maxRecDepth 20000 in
theorem k_92 : Cond.selects R_Water y_Water_findWay y_Water_findWay ∈ TT := tt_i 3 (by decide +kernel) (by decide +kernel)
set_option maxRecDepth 20000 in
theorem k_93 : Cond.methodLink R_Water 88 y_Water_pushThrough ∈ TT := tt_i 396 (by decide +kernel) (by decide +kernel)
set_option maxRecDepth 20000 in
theorem k_94 : Cond.code y_Water_pushThrough b_Water_pushThrough 3 none ∈ TT := tt_i 399 (by decide +kernel) (by decide +kernel)
set_option maxRecDepth 20000 in
theorem k_95 : Cond.instanceMethod y_Water_pushThrough ∈ TT := tt_i 398 (by decide +kernel) (by decide +kernel)
set_option maxRecDepth 20000 in
theorem k_96 : Cond.selects R_Water y_Water_pushThrough y_Water_pushThrough ∈ TT := tt_i 4 (by decide +kernel) (by decide +kernel)
set_option maxRecDepth 20000 in
theorem k_97 : Cond.fieldLink R_Water 91 (T_Water 12).1 (T_Water 12).2.1 (T_Water 12).2.2.1 ∈ TT := tt_i 127 (by decide +kernel) (by decide +kernel)
abbrev rm_Water_takeOut : Room := { frames := 4, cells := 0, slots := 0, locals := 92 }
set_option maxRecDepth 100000 in
set_option maxHeartbeats 4000000 in
theorem w_Water_takeOut_43 {p : Program} {l : Launch} {e : Env} {s : State} {m : MethodId} {args : Array Value} {below : List Frame} {meth : Method} {c : Code} {Q : State → Prop} {D : va_G} {ct : Nat → ClassId} {A : Nat → Prop} {ad : Nat → Nat} {S : nH} (hC : nC p s m args c D vwCl ct A ad S 4 b_Water_takeOut R_Water TT) (w0 nn0 : Nat) (hp0 : isW S w0 nn0) (x1 : Int) (hx1 : rg x1) (x2 : Int) (hx2 : rg x2) : ∀ (f : Nat) (x3 : Int) (N : nS) (q : Int) (No : nS), m_Water_takeOut_43 w0 nn0 x1 x2 f x3 N = some (q, No) → rg x3 → nV p l e rm_Water_takeOut s m args below meth c 0 0 Q D vwCl ct A ad S 4 No 63 [(0, .ref (ad w0)), (1, .int (iI x1)), (2, .int (iI x2)), (3, .int (iI q))] [] → nV p l e rm_Water_takeOut s m args below meth c 0 0 Q D vwCl ct A ad S 4 N 43 [(0, .ref (ad w0)), (1, .int (iI x1)), (2, .int (iI x2)), (3, .int (iI x3))] [] := by
  intro f
  induction f with
  | zero =>
    intro x3 N q No hm
    rw [m_Water_takeOut_43] at hm
    cases hm
  | succ f ih =>
    intro x3 N q No hm hx3 kx
    rw [m_Water_takeOut_43] at hm
    refine nv_iload_n hC d_Water_takeOut_43 rfl 3 rfl ?_
    refine nv_if_lt hC hx3 d_Water_takeOut_44 (tgt := 63) (by decide) (fun c16 => ?_) (fun c16 => ?_)
    · have hm := if_t c16 hm
      obtain ⟨rfl, rfl⟩ := ret_s hm
      refine nv_sub (lv' := [(0, .ref (ad w0)), (1, .int (iI x1)), (2, .int (iI x2)), (3, .int (iI x3))]) [0, 1, 2, 3] rfl ?_
      exact kx
    · have hm := if_f c16 hm
      refine nv_aload_n hC d_Water_takeOut_47 rfl 0 rfl ?_
      refine nv_aload_n hC d_Water_takeOut_48 rfl 0 rfl ?_
      refine nv_getR hC (j := 5) hp0.1 rfl in_Water (by decide) k_72 rfl d_Water_takeOut_49 ?_
      refine nv_iload_n hC d_Water_takeOut_52 rfl 3 rfl ?_
      obtain ⟨hc17, hm⟩ := ck_s hm
      refine nv_iald hC (isW_way hp0) (by decide) hc17 d_Water_takeOut_53 ?_
      obtain ⟨hr18, hm⟩ := ck_s hm
      obtain ⟨r19, N20, hq21, hm⟩ := nbd_s hm
      refine nv_callv (N' := N20) (nr_V hC (As := [.int (iI (N (w0 + 11) x3.toNat))]) (st := []) hp0.1 rfl (c_Water_pushThrough l hC.2.2.1 w0 nn0 hp0 (N (w0 + 11) x3.toNat) hr18 N r19 N20 hq21) (cwV 1 hC.1.2.2.2.2 (tt_V k_93 k_95 k_96 k_71 k_94) rfl rfl rfl (by decide +kernel) ⟨Nat.le_of_ble_eq_true rfl, Nat.le_of_ble_eq_true rfl⟩) rfl rfl (Nat.le_of_ble_eq_true rfl) ⟨Nat.zero_le _, Nat.zero_le _⟩ d_Water_takeOut_54) ?_
      refine nv_iinc (lv' := [(3, .int (iI (x3 + (-1)))), (0, .ref (ad w0)), (1, .int (iI x1)), (2, .int (iI x2))]) hC d_Water_takeOut_57 3 rfl (by decide) rfl ?_
      refine nv_goto hC d_Water_takeOut_60 (tgt := 43) (by decide) ?_
      obtain ⟨hr22, hm⟩ := ck_s hm
      refine nv_sub (lv' := [(0, .ref (ad w0)), (1, .int (iI x1)), (2, .int (iI x2)), (3, .int (iI (x3 + (-1))))]) [1, 2, 3, 0] rfl ?_
      exact ih (x3 + (-1)) N20 q No hm hr22 kx
set_option maxRecDepth 100000 in
set_option maxHeartbeats 4000000 in
theorem c_Water_takeOut (l : Launch) {D : va_G} {ct : Nat → ClassId} {A : Nat → Prop} {ad : Nat → Nat} {S : nH} (hD : nD ad A S.length) (w0 nn0 : Nat) (hp0 : isW S w0 nn0) (x1 : Int) (hx1 : rg x1) (x2 : Int) (hx2 : rg x2) (N : nS) (r : Int) (No : nS) (hm : m_Water_takeOut w0 nn0 x1 x2 N = some (r, No)) : nM l y_Water_takeOut (Cond.code y_Water_takeOut b_Water_takeOut 4 none :: TT) rm_Water_takeOut D vwCl ct A ad S N [.ref (ad w0), .int (iI x1), .int (iI x2)] (nQv D vwCl ct A ad S No) := by
  refine nM_of (cc := b_Water_takeOut) (maxL := 4) (ret := none) (by decide) rfl (Nat.le_of_ble_eq_true rfl) hD ?_
  intro p e s m below meth c hC hr hlk
  refine nv_lv (lv' := [(0, .ref (ad w0)), (1, .int (iI x1)), (2, .int (iI x2))]) rfl ?_
  rw [m_Water_takeOut] at hm
  refine nv_aload_n hC d_Water_takeOut_0 rfl 0 rfl ?_
  refine nv_getR hC (j := 2) hp0.1 rfl in_Water (by decide) k_75 rfl d_Water_takeOut_1 ?_
  obtain ⟨r1, N2, hq3, hm⟩ := nbd_s hm
  refine nv_callv (N' := N2) (nr_V hC (As := []) (st := []) (isW_taken hp0).1 rfl (c_Plugs_clear l hC.2.2.1 (w0 + 2) 121 (isW_taken hp0) N r1 N2 hq3) (cwV 0 hC.1.2.2.2.2 (tt_V k_57 k_10 k_11 k_7 k_9) rfl rfl rfl (by decide +kernel) ⟨Nat.le_of_ble_eq_true rfl, Nat.le_of_ble_eq_true rfl⟩) rfl rfl (Nat.le_of_ble_eq_true rfl) ⟨Nat.zero_le _, Nat.zero_le _⟩ d_Water_takeOut_4) ?_
  refine nv_aload_n hC d_Water_takeOut_7 rfl 0 rfl ?_
  refine nv_getR hC (j := 2) hp0.1 rfl in_Water (by decide) k_75 rfl d_Water_takeOut_8 ?_
  refine nv_iload_n hC d_Water_takeOut_11 rfl 2 rfl ?_
  refine nv_aload_n hC d_Water_takeOut_12 rfl 0 rfl ?_
  refine nv_getI hC (j := 9) hp0.1 rfl in_Water (by decide) k_63 rfl d_Water_takeOut_13 ?_
  obtain ⟨hr4, hm⟩ := ck_s hm
  obtain ⟨r5, N6, hq7, hm⟩ := nbd_s hm
  refine nv_callv (N' := N6) (nr_V hC (As := [.int (iI x2), .int (iI (N2 w0 9))]) (st := []) (isW_taken hp0).1 rfl (c_Plugs_add l hC.2.2.1 (w0 + 2) 121 (isW_taken hp0) x2 hx2 (N2 w0 9) hr4 N2 r5 N6 hq7) (cwV 2 hC.1.2.2.2.2 (tt_V k_65 k_5 k_6 k_7 k_4) rfl rfl rfl (by decide +kernel) ⟨Nat.le_of_ble_eq_true rfl, Nat.le_of_ble_eq_true rfl⟩) rfl rfl (Nat.le_of_ble_eq_true rfl) ⟨Nat.zero_le _, Nat.zero_le _⟩ d_Water_takeOut_16) ?_
  refine nv_aload_n hC d_Water_takeOut_19 rfl 0 rfl ?_
  refine nv_dup hC d_Water_takeOut_20 rfl ?_
  refine nv_getJ hC (j := 11) hp0.1 rfl in_Water (by decide) k_87 rfl d_Water_takeOut_21 ?_
  refine nv_aload_n hC d_Water_takeOut_24 rfl 0 rfl ?_
  refine nv_getR hC (j := 2) hp0.1 rfl in_Water (by decide) k_75 rfl d_Water_takeOut_25 ?_
  obtain ⟨r8, N9, hq10, hm⟩ := nbd_s hm
  refine nv_calll (x := r8) (N' := N9) (nr_V hC (As := []) (st := [.long (lI (N6 w0 11)), .ref (ad w0)]) (isW_taken hp0).1 rfl (c_Plugs_volumeTimesWarmth l hC.2.2.1 (w0 + 2) 121 (isW_taken hp0) N6 r8 N9 hq10) (cwV 0 hC.1.2.2.2.2 (tt_V k_88 k_41 k_42 k_7 k_40) rfl rfl rfl (by decide +kernel) ⟨Nat.le_of_ble_eq_true rfl, Nat.le_of_ble_eq_true rfl⟩) rfl rfl (Nat.le_of_ble_eq_true rfl) ⟨Nat.zero_le _, Nat.zero_le _⟩ d_Water_takeOut_28) ?_
  refine nv_ladd hC d_Water_takeOut_31 ?_
  obtain ⟨N11, e12, hm⟩ := nlt_s hm
  refine nv_putJ hC (j := 11) hp0.1 rfl in_Water (by decide) ty_Water tyok_Water nm_Water k_87 rfl rfl (by decide +kernel) e12 d_Water_takeOut_32 ?_
  refine nv_aload_n hC d_Water_takeOut_35 rfl 0 rfl ?_
  refine nv_iload_n hC d_Water_takeOut_36 rfl 1 rfl ?_
  obtain ⟨r13, N14, hq15, hm⟩ := nbd_s hm
  refine nv_calli (x := r13) (N' := N14) (nr_V hC (As := [.int (iI x1)]) (st := []) hp0.1 rfl (c_Water_findWay l hC.2.2.1 w0 nn0 hp0 x1 hx1 N11 r13 N14 hq15) (cwV 1 hC.1.2.2.2.2 (tt_V k_89 k_91 k_92 k_71 k_90) rfl rfl rfl (by decide +kernel) ⟨Nat.le_of_ble_eq_true rfl, Nat.le_of_ble_eq_true rfl⟩) rfl rfl (Nat.le_of_ble_eq_true rfl) ⟨Nat.zero_le _, Nat.zero_le _⟩ d_Water_takeOut_37) ?_
  refine nv_iconst hC d_Water_takeOut_40 ?_
  refine nv_isub hC d_Water_takeOut_41 ?_
  refine nv_istore_n (lv' := [(3, .int (iI (r13 - 1))), (0, .ref (ad w0)), (1, .int (iI x1)), (2, .int (iI x2))]) hC d_Water_takeOut_42 rfl (by decide) rfl ?_
  obtain ⟨hr23, hm⟩ := ck_s hm
  obtain ⟨q24, N25, hq26, hm⟩ := nbd_s hm
  refine nv_sub (lv' := [(0, .ref (ad w0)), (1, .int (iI x1)), (2, .int (iI x2)), (3, .int (iI (r13 - 1)))]) [1, 2, 3, 0] rfl ?_
  refine w_Water_takeOut_43 hC w0 nn0 hp0 x1 hx1 x2 hx2 FU (r13 - 1) N14 q24 N25 hq26 hr23 ?_
  refine nv_aload_n hC d_Water_takeOut_63 rfl 0 rfl ?_
  refine nv_dup hC d_Water_takeOut_64 rfl ?_
  refine nv_getJ hC (j := 12) hp0.1 rfl in_Water (by decide) k_97 rfl d_Water_takeOut_65 ?_
  refine nv_aload_n hC d_Water_takeOut_68 rfl 0 rfl ?_
  refine nv_getR hC (j := 2) hp0.1 rfl in_Water (by decide) k_75 rfl d_Water_takeOut_69 ?_
  obtain ⟨r27, N28, hq29, hm⟩ := nbd_s hm
  refine nv_calll (x := r27) (N' := N28) (nr_V hC (As := []) (st := [.long (lI (N25 w0 12)), .ref (ad w0)]) (isW_taken hp0).1 rfl (c_Plugs_volumeTimesWarmth l hC.2.2.1 (w0 + 2) 121 (isW_taken hp0) N25 r27 N28 hq29) (cwV 0 hC.1.2.2.2.2 (tt_V k_88 k_41 k_42 k_7 k_40) rfl rfl rfl (by decide +kernel) ⟨Nat.le_of_ble_eq_true rfl, Nat.le_of_ble_eq_true rfl⟩) rfl rfl (Nat.le_of_ble_eq_true rfl) ⟨Nat.zero_le _, Nat.zero_le _⟩ d_Water_takeOut_72) ?_
  refine nv_ladd hC d_Water_takeOut_75 ?_
  obtain ⟨N30, e31, hm⟩ := nlt_s hm
  refine nv_putJ hC (j := 12) hp0.1 rfl in_Water (by decide) ty_Water tyok_Water nm_Water k_97 rfl rfl (by decide +kernel) e31 d_Water_takeOut_76 ?_
  obtain ⟨rfl, rfl⟩ := ret_s hm
  exact nv_vret hC hr hlk d_Water_takeOut_79
def m_Water_endMinute_2 (w0 nn0 : Nat) : Nat → Int → nS → Option ((Int) × nS)
  | 0, _, _ => none
  | f + 1, x1, N =>
    if rg (N nn0 5) then
    if (N nn0 5) ≤ x1 then
    some (x1, N)
    else
    if 0 ≤ x1 ∧ x1 < ((10 : Nat) : Int) then
    if rg (N (nn0 + 4) x1.toNat) then
    if (N (nn0 + 4) x1.toNat) ≤ 0 then
    if rg (x1 + 1) then
    m_Water_endMinute_2 w0 nn0 f (x1 + 1) N
    else none
    else
    nbd (m_Water_takeOut w0 nn0 x1 (N (nn0 + 4) x1.toNat) N) (fun r7 N8 =>
    if rg (x1 + 1) then
    m_Water_endMinute_2 w0 nn0 f (x1 + 1) N8
    else none)
    else none
    else none
    else none
def m_Water_endMinute_47 (w0 nn0 : Nat) : Nat → Int → nS → Option ((Int) × nS)
  | 0, _, _ => none
  | f + 1, x1, N =>
    if rg (N nn0 5) then
    if (N nn0 5) ≤ x1 then
    some (x1, N)
    else
    if 0 ≤ x1 ∧ x1 < ((10 : Nat) : Int) then
    if rg (N w0 10) then
    if rg (N (nn0 + 3) x1.toNat) then
    nbd (m_Plugs_cool (w0 + 1 + 13 + 3 * x1.toNat) 12 (N w0 10) (N (nn0 + 3) x1.toNat) N) (fun r19 N20 =>
    nlt (up2 N20 w0 13 ((N w0 13) + r19)) (fun N22 =>
    nbd (m_Plugs_least (w0 + 1 + 13 + 3 * x1.toNat) 12 N22) (fun r24 N25 =>
    if rg r24 then
    if r24 < 2500 then
    if rg (x1 + 1) then
    m_Water_endMinute_47 w0 nn0 f (x1 + 1) N25
    else none
    else
    if 4500 < r24 then
    if rg (x1 + 1) then
    m_Water_endMinute_47 w0 nn0 f (x1 + 1) N25
    else none
    else
    nlt (up2 N25 (w0 + 13) x1.toNat ((N25 (w0 + 13) x1.toNat) + 1)) (fun N32 =>
    if rg (x1 + 1) then
    m_Water_endMinute_47 w0 nn0 f (x1 + 1) N32
    else none)
    else none)))
    else none
    else none
    else none
    else none
def m_Water_endMinute (w0 nn0 : Nat) (N : nS) : Option (Int × nS) :=
  nbd (m_Water_endMinute_2 w0 nn0 FU 0 N) (fun q11 N12 =>
  nbd (m_Water_endMinute_47 w0 nn0 FU 0 N12) (fun q35 N36 =>
  nlt (up2 N36 w0 8 ((N36 w0 8) + 1)) (fun N38 =>
  some (0, N38))))
set_option maxRecDepth 20000 in
theorem k_98 : Cond.fieldLink R_Water 108 (T_Net 3).1 (T_Net 3).2.1 (T_Net 3).2.2.1 ∈ TT := tt_i 57 (by decide +kernel) (by decide +kernel)
set_option maxRecDepth 20000 in
theorem k_99 : Cond.methodLink R_Water 111 y_Water_takeOut ∈ TT := tt_i 446 (by decide +kernel) (by decide +kernel)
set_option maxRecDepth 20000 in
theorem k_100 : Cond.code y_Water_takeOut b_Water_takeOut 4 none ∈ TT := tt_i 387 (by decide +kernel) (by decide +kernel)
set_option maxRecDepth 20000 in
theorem k_101 : Cond.instanceMethod y_Water_takeOut ∈ TT := tt_i 385 (by decide +kernel) (by decide +kernel)
set_option maxRecDepth 20000 in
theorem k_102 : Cond.selects R_Water y_Water_takeOut y_Water_takeOut ∈ TT := tt_i 386 (by decide +kernel) (by decide +kernel)
set_option maxRecDepth 20000 in
theorem k_103 : Cond.fieldLink R_Water 114 (T_Net 2).1 (T_Net 2).2.1 (T_Net 2).2.2.1 ∈ TT := tt_i 54 (by decide +kernel) (by decide +kernel)
set_option maxRecDepth 20000 in
theorem k_104 : Cond.methodLink R_Water 117 y_Plugs_cool ∈ TT := tt_i 447 (by decide +kernel) (by decide +kernel)
set_option maxRecDepth 20000 in
theorem k_105 : Cond.code y_Plugs_cool b_Plugs_cool 9 (some .long) ∈ TT := tt_i 450 (by decide +kernel) (by decide +kernel)
set_option maxRecDepth 20000 in
theorem k_106 : Cond.instanceMethod y_Plugs_cool ∈ TT := tt_i 448 (by decide +kernel) (by decide +kernel)
set_option maxRecDepth 20000 in
theorem k_107 : Cond.selects R_Plugs y_Plugs_cool y_Plugs_cool ∈ TT := tt_i 449 (by decide +kernel) (by decide +kernel)
set_option maxRecDepth 20000 in
theorem k_108 : Cond.methodLink R_Water 121 y_Plugs_least ∈ TT := tt_i 451 (by decide +kernel) (by decide +kernel)
set_option maxRecDepth 20000 in
theorem k_109 : Cond.fieldLink R_Water 37 (T_Water 7).1 (T_Water 7).2.1 (T_Water 7).2.2.1 ∈ TT := tt_i 119 (by decide +kernel) (by decide +kernel)
abbrev rm_Water_endMinute : Room := { frames := 5, cells := 0, slots := 0, locals := 115 }
set_option maxRecDepth 100000 in
set_option maxHeartbeats 4000000 in
theorem w_Water_endMinute_2 {p : Program} {l : Launch} {e : Env} {s : State} {m : MethodId} {args : Array Value} {below : List Frame} {meth : Method} {c : Code} {Q : State → Prop} {D : va_G} {ct : Nat → ClassId} {A : Nat → Prop} {ad : Nat → Nat} {S : nH} (hC : nC p s m args c D vwCl ct A ad S 3 b_Water_endMinute R_Water TT) (w0 nn0 : Nat) (hp0 : isW S w0 nn0) : ∀ (f : Nat) (x1 : Int) (N : nS) (q : Int) (No : nS), m_Water_endMinute_2 w0 nn0 f x1 N = some (q, No) → rg x1 → nV p l e rm_Water_endMinute s m args below meth c 0 0 Q D vwCl ct A ad S 3 No 45 [(0, .ref (ad w0)), (1, .int (iI q))] [] → nV p l e rm_Water_endMinute s m args below meth c 0 0 Q D vwCl ct A ad S 3 N 2 [(0, .ref (ad w0)), (1, .int (iI x1))] [] := by
  intro f
  induction f with
  | zero =>
    intro x1 N q No hm
    rw [m_Water_endMinute_2] at hm
    cases hm
  | succ f ih =>
    intro x1 N q No hm hx1 kx
    rw [m_Water_endMinute_2] at hm
    refine nv_iload_n hC d_Water_endMinute_2 rfl 1 rfl ?_
    refine nv_aload_n hC d_Water_endMinute_3 rfl 0 rfl ?_
    refine nv_getA hC (j := 0) hp0.1 rfl in_Water (by decide) k_54 rfl d_Water_endMinute_4 ?_
    refine nv_getI hC (j := 5) (isW_net hp0).1 rfl in_Net (by decide) k_55 rfl d_Water_endMinute_7 ?_
    obtain ⟨hr1, hm⟩ := ck_s hm
    refine nv_icmp_ge hC hx1 hr1 d_Water_endMinute_10 (tgt := 45) (by decide) (fun c2 => ?_) (fun c2 => ?_)
    · have hm := if_t c2 hm
      obtain ⟨rfl, rfl⟩ := ret_s hm
      refine nv_sub (lv' := [(0, .ref (ad w0)), (1, .int (iI x1))]) [0, 1] rfl ?_
      exact kx
    · have hm := if_f c2 hm
      refine nv_aload_n hC d_Water_endMinute_13 rfl 0 rfl ?_
      refine nv_getA hC (j := 0) hp0.1 rfl in_Water (by decide) k_54 rfl d_Water_endMinute_14 ?_
      refine nv_getR hC (j := 3) (isW_net hp0).1 rfl in_Net (by decide) k_98 rfl d_Water_endMinute_17 ?_
      refine nv_iload_n hC d_Water_endMinute_20 rfl 1 rfl ?_
      obtain ⟨hc3, hm⟩ := ck_s hm
      refine nv_iald hC (isW_net hp0).2.2.2.2.1 (by decide) hc3 d_Water_endMinute_21 ?_
      obtain ⟨hr4, hm⟩ := ck_s hm
      refine nv_if_le hC hr4 d_Water_endMinute_22 (tgt := 39) (by decide) (fun c5 => ?_) (fun c5 => ?_)
      · have hm := if_t c5 hm
        refine nv_iinc (lv' := [(1, .int (iI (x1 + 1))), (0, .ref (ad w0))]) hC d_Water_endMinute_39 1 rfl (by decide) rfl ?_
        refine nv_goto hC d_Water_endMinute_42 (tgt := 2) (by decide) ?_
        obtain ⟨hr6, hm⟩ := ck_s hm
        refine nv_sub (lv' := [(0, .ref (ad w0)), (1, .int (iI (x1 + 1)))]) [1, 0] rfl ?_
        exact ih (x1 + 1) N q No hm hr6 kx
      · have hm := if_f c5 hm
        refine nv_aload_n hC d_Water_endMinute_25 rfl 0 rfl ?_
        refine nv_iload_n hC d_Water_endMinute_26 rfl 1 rfl ?_
        refine nv_aload_n hC d_Water_endMinute_27 rfl 0 rfl ?_
        refine nv_getA hC (j := 0) hp0.1 rfl in_Water (by decide) k_54 rfl d_Water_endMinute_28 ?_
        refine nv_getR hC (j := 3) (isW_net hp0).1 rfl in_Net (by decide) k_98 rfl d_Water_endMinute_31 ?_
        refine nv_iload_n hC d_Water_endMinute_34 rfl 1 rfl ?_
        refine nv_iald hC (isW_net hp0).2.2.2.2.1 (by decide) hc3 d_Water_endMinute_35 ?_
        obtain ⟨r7, N8, hq9, hm⟩ := nbd_s hm
        refine nv_callv (N' := N8) (nr_V hC (As := [.int (iI x1), .int (iI (N (nn0 + 4) x1.toNat))]) (st := []) hp0.1 rfl (c_Water_takeOut l hC.2.2.1 w0 nn0 hp0 x1 hx1 (N (nn0 + 4) x1.toNat) hr4 N r7 N8 hq9) (cwV 2 hC.1.2.2.2.2 (tt_V k_99 k_101 k_102 k_71 k_100) rfl rfl rfl (by decide +kernel) ⟨Nat.le_of_ble_eq_true rfl, Nat.le_of_ble_eq_true rfl⟩) rfl rfl (Nat.le_of_ble_eq_true rfl) ⟨Nat.zero_le _, Nat.zero_le _⟩ d_Water_endMinute_36) ?_
        refine nv_iinc (lv' := [(1, .int (iI (x1 + 1))), (0, .ref (ad w0))]) hC d_Water_endMinute_39 1 rfl (by decide) rfl ?_
        refine nv_goto hC d_Water_endMinute_42 (tgt := 2) (by decide) ?_
        obtain ⟨hr10, hm⟩ := ck_s hm
        refine nv_sub (lv' := [(0, .ref (ad w0)), (1, .int (iI (x1 + 1)))]) [1, 0] rfl ?_
        exact ih (x1 + 1) N8 q No hm hr10 kx
set_option maxRecDepth 100000 in
set_option maxHeartbeats 4000000 in
theorem w_Water_endMinute_47 {p : Program} {l : Launch} {e : Env} {s : State} {m : MethodId} {args : Array Value} {below : List Frame} {meth : Method} {c : Code} {Q : State → Prop} {D : va_G} {ct : Nat → ClassId} {A : Nat → Prop} {ad : Nat → Nat} {S : nH} (hC : nC p s m args c D vwCl ct A ad S 3 b_Water_endMinute R_Water TT) (w0 nn0 : Nat) (hp0 : isW S w0 nn0) : ∀ (f : Nat) (x1 : Int) (N : nS) (q : Int) (No : nS), m_Water_endMinute_47 w0 nn0 f x1 N = some (q, No) → rg x1 → nV p l e rm_Water_endMinute s m args below meth c 0 0 Q D vwCl ct A ad S 3 No 129 [(0, .ref (ad w0)), (1, .int (iI q))] [] → nV p l e rm_Water_endMinute s m args below meth c 0 0 Q D vwCl ct A ad S 3 N 47 [(0, .ref (ad w0)), (1, .int (iI x1))] [] := by
  intro f
  induction f with
  | zero =>
    intro x1 N q No hm
    rw [m_Water_endMinute_47] at hm
    cases hm
  | succ f ih =>
    intro x1 N q No hm hx1 kx
    rw [m_Water_endMinute_47] at hm
    refine nv_iload_n hC d_Water_endMinute_47 rfl 1 rfl ?_
    refine nv_aload_n hC d_Water_endMinute_48 rfl 0 rfl ?_
    refine nv_getA hC (j := 0) hp0.1 rfl in_Water (by decide) k_54 rfl d_Water_endMinute_49 ?_
    refine nv_getI hC (j := 5) (isW_net hp0).1 rfl in_Net (by decide) k_55 rfl d_Water_endMinute_52 ?_
    obtain ⟨hr14, hm⟩ := ck_s hm
    refine nv_icmp_ge hC hx1 hr14 d_Water_endMinute_55 (tgt := 129) (by decide) (fun c15 => ?_) (fun c15 => ?_)
    · have hm := if_t c15 hm
      obtain ⟨rfl, rfl⟩ := ret_s hm
      refine nv_sub (lv' := [(0, .ref (ad w0)), (1, .int (iI x1))]) [0, 1] rfl ?_
      exact kx
    · have hm := if_f c15 hm
      refine nv_aload_n hC d_Water_endMinute_58 rfl 0 rfl ?_
      refine nv_dup hC d_Water_endMinute_59 rfl ?_
      refine nv_getJ hC (j := 13) hp0.1 rfl in_Water (by decide) k_81 rfl d_Water_endMinute_60 ?_
      refine nv_aload_n hC d_Water_endMinute_63 rfl 0 rfl ?_
      refine nv_getR hC (j := 1) hp0.1 rfl in_Water (by decide) k_56 rfl d_Water_endMinute_64 ?_
      refine nv_iload_n hC d_Water_endMinute_67 rfl 1 rfl ?_
      obtain ⟨hc16, hm⟩ := ck_s hm
      refine nv_aald hC (isW_rows hp0) (by decide) hc16 rfl d_Water_endMinute_68 ?_
      refine nv_aload_n hC d_Water_endMinute_69 rfl 0 rfl ?_
      refine nv_getI hC (j := 10) hp0.1 rfl in_Water (by decide) k_62 rfl d_Water_endMinute_70 ?_
      refine nv_aload_n hC d_Water_endMinute_73 rfl 0 rfl ?_
      refine nv_getA hC (j := 0) hp0.1 rfl in_Water (by decide) k_54 rfl d_Water_endMinute_74 ?_
      refine nv_getR hC (j := 2) (isW_net hp0).1 rfl in_Net (by decide) k_103 rfl d_Water_endMinute_77 ?_
      refine nv_iload_n hC d_Water_endMinute_80 rfl 1 rfl ?_
      refine nv_iald hC (isW_net hp0).2.2.2.1 (by decide) hc16 d_Water_endMinute_81 ?_
      obtain ⟨hr17, hm⟩ := ck_s hm
      obtain ⟨hr18, hm⟩ := ck_s hm
      obtain ⟨r19, N20, hq21, hm⟩ := nbd_s hm
      refine nv_calll (x := r19) (N' := N20) (nr_V hC (As := [.int (iI (N w0 10)), .int (iI (N (nn0 + 3) x1.toNat))]) (st := [.long (lI (N w0 13)), .ref (ad w0)]) (isW_row hp0 (tn_lt hc16)).1 rfl (c_Plugs_cool l hC.2.2.1 (w0 + 1 + 13 + 3 * x1.toNat) 12 (isW_row hp0 (tn_lt hc16)) (N w0 10) hr17 (N (nn0 + 3) x1.toNat) hr18 N r19 N20 hq21) (cwV 2 hC.1.2.2.2.2 (tt_V k_104 k_106 k_107 k_7 k_105) rfl rfl rfl (by decide +kernel) ⟨Nat.le_of_ble_eq_true rfl, Nat.le_of_ble_eq_true rfl⟩) rfl rfl (Nat.le_of_ble_eq_true rfl) ⟨Nat.zero_le _, Nat.zero_le _⟩ d_Water_endMinute_82) ?_
      refine nv_ladd hC d_Water_endMinute_85 ?_
      obtain ⟨N22, e23, hm⟩ := nlt_s hm
      refine nv_putJ hC (j := 13) hp0.1 rfl in_Water (by decide) ty_Water tyok_Water nm_Water k_81 rfl rfl (by decide +kernel) e23 d_Water_endMinute_86 ?_
      refine nv_aload_n hC d_Water_endMinute_89 rfl 0 rfl ?_
      refine nv_getR hC (j := 1) hp0.1 rfl in_Water (by decide) k_56 rfl d_Water_endMinute_90 ?_
      refine nv_iload_n hC d_Water_endMinute_93 rfl 1 rfl ?_
      refine nv_aald hC (isW_rows hp0) (by decide) hc16 rfl d_Water_endMinute_94 ?_
      obtain ⟨r24, N25, hq26, hm⟩ := nbd_s hm
      refine nv_calli (x := r24) (N' := N25) (nr_V hC (As := []) (st := []) (isW_row hp0 (tn_lt hc16)).1 rfl (c_Plugs_least l hC.2.2.1 (w0 + 1 + 13 + 3 * x1.toNat) 12 (isW_row hp0 (tn_lt hc16)) N22 r24 N25 hq26) (cwV 0 hC.1.2.2.2.2 (tt_V k_108 k_47 k_48 k_7 k_46) rfl rfl rfl (by decide +kernel) ⟨Nat.le_of_ble_eq_true rfl, Nat.le_of_ble_eq_true rfl⟩) rfl rfl (Nat.le_of_ble_eq_true rfl) ⟨Nat.zero_le _, Nat.zero_le _⟩ d_Water_endMinute_95) ?_
      refine nv_istore_n (lv' := [(2, .int (iI r24)), (0, .ref (ad w0)), (1, .int (iI x1))]) hC d_Water_endMinute_98 rfl (by decide) rfl ?_
      refine nv_iload_n hC d_Water_endMinute_99 rfl 0 rfl ?_
      refine nv_sipush hC (z := 2500) d_Water_endMinute_100 rfl ?_
      obtain ⟨hr27, hm⟩ := ck_s hm
      refine nv_icmp_lt hC hr27 ⟨by decide, by decide⟩ d_Water_endMinute_103 (tgt := 123) (by decide) (fun c28 => ?_) (fun c28 => ?_)
      · have hm := if_t c28 hm
        refine nv_iinc (lv' := [(1, .int (iI (x1 + 1))), (2, .int (iI r24)), (0, .ref (ad w0))]) hC d_Water_endMinute_123 2 rfl (by decide) rfl ?_
        refine nv_goto hC d_Water_endMinute_126 (tgt := 47) (by decide) ?_
        obtain ⟨hr29, hm⟩ := ck_s hm
        refine nv_sub (lv' := [(0, .ref (ad w0)), (1, .int (iI (x1 + 1)))]) [2, 0] rfl ?_
        exact ih (x1 + 1) N25 q No hm hr29 kx
      · have hm := if_f c28 hm
        refine nv_iload_n hC d_Water_endMinute_106 rfl 0 rfl ?_
        refine nv_sipush hC (z := 4500) d_Water_endMinute_107 rfl ?_
        refine nv_icmp_gt hC hr27 ⟨by decide, by decide⟩ d_Water_endMinute_110 (tgt := 123) (by decide) (fun c30 => ?_) (fun c30 => ?_)
        · have hm := if_t c30 hm
          refine nv_iinc (lv' := [(1, .int (iI (x1 + 1))), (2, .int (iI r24)), (0, .ref (ad w0))]) hC d_Water_endMinute_123 2 rfl (by decide) rfl ?_
          refine nv_goto hC d_Water_endMinute_126 (tgt := 47) (by decide) ?_
          obtain ⟨hr31, hm⟩ := ck_s hm
          refine nv_sub (lv' := [(0, .ref (ad w0)), (1, .int (iI (x1 + 1)))]) [2, 0] rfl ?_
          exact ih (x1 + 1) N25 q No hm hr31 kx
        · have hm := if_f c30 hm
          refine nv_aload_n hC d_Water_endMinute_113 rfl 1 rfl ?_
          refine nv_getR hC (j := 7) hp0.1 rfl in_Water (by decide) k_109 rfl d_Water_endMinute_114 ?_
          refine nv_iload_n hC d_Water_endMinute_117 rfl 2 rfl ?_
          refine nv_dup2_11 hC d_Water_endMinute_118 rfl rfl ?_
          refine nv_iald hC (isW_tepid hp0) (by decide) hc16 d_Water_endMinute_119 ?_
          refine nv_iconst hC d_Water_endMinute_120 ?_
          refine nv_iadd hC d_Water_endMinute_121 ?_
          obtain ⟨N32, e33, hm⟩ := nlt_s hm
          refine nv_iast hC (isW_tepid hp0) (by decide) hc16 e33 d_Water_endMinute_122 ?_
          refine nv_iinc (lv' := [(1, .int (iI (x1 + 1))), (2, .int (iI r24)), (0, .ref (ad w0))]) hC d_Water_endMinute_123 2 rfl (by decide) rfl ?_
          refine nv_goto hC d_Water_endMinute_126 (tgt := 47) (by decide) ?_
          obtain ⟨hr34, hm⟩ := ck_s hm
          refine nv_sub (lv' := [(0, .ref (ad w0)), (1, .int (iI (x1 + 1)))]) [2, 0] rfl ?_
          exact ih (x1 + 1) N32 q No hm hr34 kx
set_option maxRecDepth 100000 in
set_option maxHeartbeats 4000000 in
theorem c_Water_endMinute (l : Launch) {D : va_G} {ct : Nat → ClassId} {A : Nat → Prop} {ad : Nat → Nat} {S : nH} (hD : nD ad A S.length) (w0 nn0 : Nat) (hp0 : isW S w0 nn0) (N : nS) (r : Int) (No : nS) (hm : m_Water_endMinute w0 nn0 N = some (r, No)) : nM l y_Water_endMinute (Cond.code y_Water_endMinute b_Water_endMinute 3 none :: TT) rm_Water_endMinute D vwCl ct A ad S N [.ref (ad w0)] (nQv D vwCl ct A ad S No) := by
  refine nM_of (cc := b_Water_endMinute) (maxL := 3) (ret := none) (by decide) rfl (Nat.le_of_ble_eq_true rfl) hD ?_
  intro p e s m below meth c hC hr hlk
  refine nv_lv (lv' := [(0, .ref (ad w0))]) rfl ?_
  rw [m_Water_endMinute] at hm
  refine nv_iconst hC d_Water_endMinute_0 ?_
  refine nv_istore_n (lv' := [(1, .int (iI 0)), (0, .ref (ad w0))]) hC d_Water_endMinute_1 rfl (by decide) rfl ?_
  obtain ⟨q11, N12, hq13, hm⟩ := nbd_s hm
  refine nv_sub (lv' := [(0, .ref (ad w0)), (1, .int (iI 0))]) [1, 0] rfl ?_
  refine w_Water_endMinute_2 hC w0 nn0 hp0 FU 0 N q11 N12 hq13 ⟨by decide, by decide⟩ ?_
  refine nv_iconst hC d_Water_endMinute_45 ?_
  refine nv_istore_n (lv' := [(1, .int (iI 0)), (0, .ref (ad w0))]) hC d_Water_endMinute_46 rfl (by decide) rfl ?_
  obtain ⟨q35, N36, hq37, hm⟩ := nbd_s hm
  refine nv_sub (lv' := [(0, .ref (ad w0)), (1, .int (iI 0))]) [1, 0] rfl ?_
  refine w_Water_endMinute_47 hC w0 nn0 hp0 FU 0 N12 q35 N36 hq37 ⟨by decide, by decide⟩ ?_
  refine nv_aload_n hC d_Water_endMinute_129 rfl 0 rfl ?_
  refine nv_dup hC d_Water_endMinute_130 rfl ?_
  refine nv_getI hC (j := 8) hp0.1 rfl in_Water (by decide) k_66 rfl d_Water_endMinute_131 ?_
  refine nv_iconst hC d_Water_endMinute_134 ?_
  refine nv_iadd hC d_Water_endMinute_135 ?_
  obtain ⟨N38, e39, hm⟩ := nlt_s hm
  refine nv_putI hC (j := 8) hp0.1 rfl in_Water (by decide) ty_Water tyok_Water nm_Water k_66 rfl rfl (by decide +kernel) e39 d_Water_endMinute_136 ?_
  obtain ⟨rfl, rfl⟩ := ret_s hm
  exact nv_vret hC hr hlk d_Water_endMinute_139
def m_Water_minutesSinceFlow (w0 nn0 : Nat) (x1 : Int) (N : nS) : Option (Int × nS) :=
  if 0 ≤ x1 ∧ x1 < ((10 : Nat) : Int) then
  some ((((N w0 8) - 1) - (N (w0 + 12) x1.toNat)), N)
  else none
abbrev rm_Water_minutesSinceFlow : Room := { frames := 0, cells := 0, slots := 0, locals := 0 }
set_option maxRecDepth 100000 in
set_option maxHeartbeats 4000000 in
theorem c_Water_minutesSinceFlow (l : Launch) {D : va_G} {ct : Nat → ClassId} {A : Nat → Prop} {ad : Nat → Nat} {S : nH} (hD : nD ad A S.length) (w0 nn0 : Nat) (hp0 : isW S w0 nn0) (x1 : Int) (hx1 : rg x1) (N : nS) (r : Int) (No : nS) (hm : m_Water_minutesSinceFlow w0 nn0 x1 N = some (r, No)) : nM l y_Water_minutesSinceFlow (Cond.code y_Water_minutesSinceFlow b_Water_minutesSinceFlow 2 (some .int) :: TT) rm_Water_minutesSinceFlow D vwCl ct A ad S N [.ref (ad w0), .int (iI x1)] (nQi D vwCl ct A ad S r No) := by
  refine nM_of (cc := b_Water_minutesSinceFlow) (maxL := 2) (ret := (some .int)) (by decide) rfl (Nat.le_of_ble_eq_true rfl) hD ?_
  intro p e s m below meth c hC hr hlk
  refine nv_lv (lv' := [(0, .ref (ad w0)), (1, .int (iI x1))]) rfl ?_
  rw [m_Water_minutesSinceFlow] at hm
  refine nv_aload_n hC d_Water_minutesSinceFlow_0 rfl 0 rfl ?_
  refine nv_getI hC (j := 8) hp0.1 rfl in_Water (by decide) k_66 rfl d_Water_minutesSinceFlow_1 ?_
  refine nv_iconst hC d_Water_minutesSinceFlow_4 ?_
  refine nv_isub hC d_Water_minutesSinceFlow_5 ?_
  refine nv_aload_n hC d_Water_minutesSinceFlow_6 rfl 0 rfl ?_
  refine nv_getR hC (j := 6) hp0.1 rfl in_Water (by decide) k_86 rfl d_Water_minutesSinceFlow_7 ?_
  refine nv_iload_n hC d_Water_minutesSinceFlow_10 rfl 1 rfl ?_
  obtain ⟨hc1, hm⟩ := ck_s hm
  refine nv_iald hC (isW_flow hp0) (by decide) hc1 d_Water_minutesSinceFlow_11 ?_
  refine nv_isub hC d_Water_minutesSinceFlow_12 ?_
  obtain ⟨rfl, rfl⟩ := ret_s hm
  exact nv_iret hC hr hlk d_Water_minutesSinceFlow_13
def m_Water_stoodStill (w0 nn0 : Nat) (x1 : Int) (x2 : Int) (N : nS) : Option (Int × nS) :=
  if 0 ≤ x1 ∧ x1 < ((10 : Nat) : Int) then
  if rg (N (w0 + 12) x1.toNat) then
  if (N (w0 + 12) x1.toNat) = (-1) then
  some (1, N)
  else
  nbd (m_Water_minutesSinceFlow w0 nn0 x1 N) (fun r4 N5 =>
  if rg r4 then
  if r4 < x2 then
  some (0, N5)
  else
  some (1, N5)
  else none)
  else none
  else none
set_option maxRecDepth 20000 in
theorem k_110 : Cond.methodLink R_Water 124 y_Water_minutesSinceFlow ∈ TT := tt_i 487 (by decide +kernel) (by decide +kernel)
set_option maxRecDepth 20000 in
theorem k_111 : Cond.code y_Water_minutesSinceFlow b_Water_minutesSinceFlow 2 (some .int) ∈ TT := tt_i 475 (by decide +kernel) (by decide +kernel)
set_option maxRecDepth 20000 in
theorem k_112 : Cond.instanceMethod y_Water_minutesSinceFlow ∈ TT := tt_i 473 (by decide +kernel) (by decide +kernel)
set_option maxRecDepth 20000 in
theorem k_113 : Cond.selects R_Water y_Water_minutesSinceFlow y_Water_minutesSinceFlow ∈ TT := tt_i 474 (by decide +kernel) (by decide +kernel)
abbrev rm_Water_stoodStill : Room := { frames := 1, cells := 0, slots := 0, locals := 21 }
set_option maxRecDepth 100000 in
set_option maxHeartbeats 4000000 in
theorem c_Water_stoodStill (l : Launch) {D : va_G} {ct : Nat → ClassId} {A : Nat → Prop} {ad : Nat → Nat} {S : nH} (hD : nD ad A S.length) (w0 nn0 : Nat) (hp0 : isW S w0 nn0) (x1 : Int) (hx1 : rg x1) (x2 : Int) (hx2 : rg x2) (N : nS) (r : Int) (No : nS) (hm : m_Water_stoodStill w0 nn0 x1 x2 N = some (r, No)) : nM l y_Water_stoodStill (Cond.code y_Water_stoodStill b_Water_stoodStill 3 (some .boolean) :: TT) rm_Water_stoodStill D vwCl ct A ad S N [.ref (ad w0), .int (iI x1), .int (iI x2)] (nQi D vwCl ct A ad S r No) := by
  refine nM_of (cc := b_Water_stoodStill) (maxL := 3) (ret := (some .boolean)) (by decide) rfl (Nat.le_of_ble_eq_true rfl) hD ?_
  intro p e s m below meth c hC hr hlk
  refine nv_lv (lv' := [(0, .ref (ad w0)), (1, .int (iI x1)), (2, .int (iI x2))]) rfl ?_
  rw [m_Water_stoodStill] at hm
  refine nv_aload_n hC d_Water_stoodStill_0 rfl 0 rfl ?_
  refine nv_getR hC (j := 6) hp0.1 rfl in_Water (by decide) k_86 rfl d_Water_stoodStill_1 ?_
  refine nv_iload_n hC d_Water_stoodStill_4 rfl 1 rfl ?_
  obtain ⟨hc1, hm⟩ := ck_s hm
  refine nv_iald hC (isW_flow hp0) (by decide) hc1 d_Water_stoodStill_5 ?_
  refine nv_iconst hC d_Water_stoodStill_6 ?_
  obtain ⟨hr2, hm⟩ := ck_s hm
  refine nv_icmp_eq hC hr2 ⟨by decide, by decide⟩ d_Water_stoodStill_7 (tgt := 19) (by decide) (fun c3 => ?_) (fun c3 => ?_)
  · have hm := if_t c3 hm
    refine nv_iconst hC d_Water_stoodStill_19 ?_
    refine nv_goto hC d_Water_stoodStill_20 (tgt := 24) (by decide) ?_
    obtain ⟨rfl, rfl⟩ := ret_s hm
    exact nv_zret hC hr hlk (Or.inr rfl) d_Water_stoodStill_24
  · have hm := if_f c3 hm
    refine nv_aload_n hC d_Water_stoodStill_10 rfl 0 rfl ?_
    refine nv_iload_n hC d_Water_stoodStill_11 rfl 1 rfl ?_
    obtain ⟨r4, N5, hq6, hm⟩ := nbd_s hm
    refine nv_calli (x := r4) (N' := N5) (nr_V hC (As := [.int (iI x1)]) (st := []) hp0.1 rfl (c_Water_minutesSinceFlow l hC.2.2.1 w0 nn0 hp0 x1 hx1 N r4 N5 hq6) (cwV 1 hC.1.2.2.2.2 (tt_V k_110 k_112 k_113 k_71 k_111) rfl rfl rfl (by decide +kernel) ⟨Nat.le_of_ble_eq_true rfl, Nat.le_of_ble_eq_true rfl⟩) rfl rfl (Nat.le_of_ble_eq_true rfl) ⟨Nat.zero_le _, Nat.zero_le _⟩ d_Water_stoodStill_12) ?_
    refine nv_iload_n hC d_Water_stoodStill_15 rfl 2 rfl ?_
    obtain ⟨hr7, hm⟩ := ck_s hm
    refine nv_icmp_lt hC hr7 hx2 d_Water_stoodStill_16 (tgt := 23) (by decide) (fun c8 => ?_) (fun c8 => ?_)
    · have hm := if_t c8 hm
      refine nv_iconst hC d_Water_stoodStill_23 ?_
      obtain ⟨rfl, rfl⟩ := ret_s hm
      exact nv_zret hC hr hlk (Or.inl rfl) d_Water_stoodStill_24
    · have hm := if_f c8 hm
      refine nv_iconst hC d_Water_stoodStill_19 ?_
      refine nv_goto hC d_Water_stoodStill_20 (tgt := 24) (by decide) ?_
      obtain ⟨rfl, rfl⟩ := ret_s hm
      exact nv_zret hC hr hlk (Or.inr rfl) d_Water_stoodStill_24
def m_Water_volumeBefore_42 (w0 nn0 : Nat) (x1 : Int) (x2 : Int) (x4 : Int) (x5 : Int) (o6 cap6 : Nat) : Nat → Int → Int → nS → Option ((Int × Int × Int × Int) × nS)
  | 0, _, _, _ => none
  | f + 1, x3, x7, N =>
    if x7 < 0 then
    some ((0, 0, x3, x7), N)
    else
    if 0 ≤ x7 ∧ x7 < ((cap6 : Nat) : Int) then
    if rg (N (o6 + 2) x7.toNat) then
    if (N (o6 + 2) x7.toNat) < x2 then
    if rg (x3 + (N (o6 + 1) x7.toNat)) then
    if rg (x7 + (-1)) then
    m_Water_volumeBefore_42 w0 nn0 x1 x2 x4 x5 o6 cap6 f (x3 + (N (o6 + 1) x7.toNat)) (x7 + (-1)) N
    else none
    else none
    else
    some ((1, x3, x3, x7), N)
    else none
    else none
def m_Water_volumeBefore_12 (w0 nn0 : Nat) (x1 : Int) (x2 : Int) (x4 : Int) : Nat → Int → Int → nS → Option ((Int × Int × Int × Int) × nS)
  | 0, _, _, _ => none
  | f + 1, x3, x5, N =>
    if x4 ≤ x5 then
    some ((0, 0, x3, x5), N)
    else
    if 0 ≤ x5 ∧ x5 < ((10 : Nat) : Int) then
    if 0 ≤ (N (w0 + 11) x5.toNat) ∧ (N (w0 + 11) x5.toNat) < ((10 : Nat) : Int) then
    if rg ((N (w0 + 1 + 13 + 3 * (N (w0 + 11) x5.toNat).toNat) 2) - 1) then
    nbd (m_Water_volumeBefore_42 w0 nn0 x1 x2 x4 x5 (w0 + 1 + 13 + 3 * (N (w0 + 11) x5.toNat).toNat) 12 FU x3 ((N (w0 + 1 + 13 + 3 * (N (w0 + 11) x5.toNat).toNat) 2) - 1) N) (fun q14 N15 =>
    if q14.1 = 0 then
    if rg q14.2.2.1 then
    if rg (x5 + 1) then
    m_Water_volumeBefore_12 w0 nn0 x1 x2 x4 f q14.2.2.1 (x5 + 1) N15
    else none
    else none
    else
    some ((1, q14.2.1, 0, 0), N15))
    else none
    else none
    else none
def m_Water_volumeBefore (w0 nn0 : Nat) (x1 : Int) (x2 : Int) (N : nS) : Option (Int × nS) :=
  nbd (m_Water_findWay w0 nn0 x1 N) (fun r1 N2 =>
  if rg r1 then
  nbd (m_Water_volumeBefore_12 w0 nn0 x1 x2 r1 FU 0 0 N2) (fun q21 N22 =>
  if q21.1 = 0 then
  if rg (N22 w0 9) then
  if (N22 w0 9) < x2 then
  some ((-1), N22)
  else
  some (q21.2.2.1, N22)
  else none
  else
  some (q21.2.1, N22))
  else none)
set_option maxRecDepth 20000 in
theorem k_114 : Cond.fieldLink R_Water 127 (T_Plugs 2).1 (T_Plugs 2).2.1 (T_Plugs 2).2.2.1 ∈ TT := tt_i 102 (by decide +kernel) (by decide +kernel)
set_option maxRecDepth 20000 in
theorem k_115 : Cond.fieldLink R_Water 128 (T_Plugs 1).1 (T_Plugs 1).2.1 (T_Plugs 1).2.2.1 ∈ TT := tt_i 99 (by decide +kernel) (by decide +kernel)
set_option maxRecDepth 20000 in
theorem k_116 : Cond.fieldLink R_Water 131 (T_Plugs 0).1 (T_Plugs 0).2.1 (T_Plugs 0).2.2.1 ∈ TT := tt_i 96 (by decide +kernel) (by decide +kernel)
abbrev rm_Water_volumeBefore : Room := { frames := 1, cells := 0, slots := 0, locals := 23 }
set_option maxRecDepth 100000 in
set_option maxHeartbeats 4000000 in
theorem w_Water_volumeBefore_42 {p : Program} {l : Launch} {e : Env} {s : State} {m : MethodId} {args : Array Value} {below : List Frame} {meth : Method} {c : Code} {Q : State → Prop} {D : va_G} {ct : Nat → ClassId} {A : Nat → Prop} {ad : Nat → Nat} {S : nH} (hC : nC p s m args c D vwCl ct A ad S 8 b_Water_volumeBefore R_Water TT) (w0 nn0 : Nat) (hp0 : isW S w0 nn0) (x1 : Int) (hx1 : rg x1) (x2 : Int) (hx2 : rg x2) (x4 : Int) (hx4 : rg x4) (x5 : Int) (hx5 : rg x5) (o6 cap6 : Nat) (hp6 : isP S o6 cap6) : ∀ (f : Nat) (x3 x7 : Int) (N : nS) (q : Int × Int × Int × Int) (No : nS), m_Water_volumeBefore_42 w0 nn0 x1 x2 x4 x5 o6 cap6 f x3 x7 N = some (q, No) → rg x3 → rg x7 → (q.1 = 0 → nV p l e rm_Water_volumeBefore s m args below meth c 0 0 Q D vwCl ct A ad S 8 No 78 [(0, .ref (ad w0)), (1, .int (iI x1)), (2, .int (iI x2)), (3, .int (iI q.2.2.1)), (4, .int (iI x4)), (5, .int (iI x5)), (6, .ref (ad o6)), (7, .int (iI q.2.2.2))] []) → (q.1 = 1 → nV p l e rm_Water_volumeBefore s m args below meth c 0 0 Q D vwCl ct A ad S 8 No 60 [] [.int (iI q.2.1)]) → nV p l e rm_Water_volumeBefore s m args below meth c 0 0 Q D vwCl ct A ad S 8 N 42 [(0, .ref (ad w0)), (1, .int (iI x1)), (2, .int (iI x2)), (3, .int (iI x3)), (4, .int (iI x4)), (5, .int (iI x5)), (6, .ref (ad o6)), (7, .int (iI x7))] [] := by
  intro f
  induction f with
  | zero =>
    intro x3 x7 N q No hm
    rw [m_Water_volumeBefore_42] at hm
    cases hm
  | succ f ih =>
    intro x3 x7 N q No hm hx3 hx7 kx kr
    rw [m_Water_volumeBefore_42] at hm
    refine nv_iload hC d_Water_volumeBefore_42 7 rfl ?_
    refine nv_if_lt hC hx7 d_Water_volumeBefore_44 (tgt := 78) (by decide) (fun c7 => ?_) (fun c7 => ?_)
    · have hm := if_t c7 hm
      obtain ⟨rfl, rfl⟩ := ret_s hm
      refine nv_sub (lv' := [(0, .ref (ad w0)), (1, .int (iI x1)), (2, .int (iI x2)), (3, .int (iI x3)), (4, .int (iI x4)), (5, .int (iI x5)), (6, .ref (ad o6)), (7, .int (iI x7))]) [0, 1, 2, 3, 4, 5, 6, 7] rfl ?_
      exact kx rfl
    · have hm := if_f c7 hm
      refine nv_aload hC d_Water_volumeBefore_47 6 rfl ?_
      refine nv_getR hC (j := 1) hp6.1 rfl in_Plugs (by decide) k_115 rfl d_Water_volumeBefore_49 ?_
      refine nv_iload hC d_Water_volumeBefore_52 7 rfl ?_
      obtain ⟨hc8, hm⟩ := ck_s hm
      refine nv_iald hC hp6.2.2.1 hp6.2.2.2 hc8 d_Water_volumeBefore_54 ?_
      refine nv_iload_n hC d_Water_volumeBefore_55 rfl 2 rfl ?_
      obtain ⟨hr9, hm⟩ := ck_s hm
      refine nv_icmp_lt hC hr9 hx2 d_Water_volumeBefore_56 (tgt := 61) (by decide) (fun c10 => ?_) (fun c10 => ?_)
      · have hm := if_t c10 hm
        refine nv_iload_n hC d_Water_volumeBefore_61 rfl 3 rfl ?_
        refine nv_aload hC d_Water_volumeBefore_62 6 rfl ?_
        refine nv_getR hC (j := 0) hp6.1 rfl in_Plugs (by decide) k_116 rfl d_Water_volumeBefore_64 ?_
        refine nv_iload hC d_Water_volumeBefore_67 7 rfl ?_
        refine nv_iald hC hp6.2.1 hp6.2.2.2 hc8 d_Water_volumeBefore_69 ?_
        refine nv_iadd hC d_Water_volumeBefore_70 ?_
        refine nv_istore_n (lv' := [(3, .int (iI (x3 + (N (o6 + 1) x7.toNat)))), (0, .ref (ad w0)), (1, .int (iI x1)), (2, .int (iI x2)), (4, .int (iI x4)), (5, .int (iI x5)), (6, .ref (ad o6)), (7, .int (iI x7))]) hC d_Water_volumeBefore_71 rfl (by decide) rfl ?_
        refine nv_iinc (lv' := [(7, .int (iI (x7 + (-1)))), (3, .int (iI (x3 + (N (o6 + 1) x7.toNat)))), (0, .ref (ad w0)), (1, .int (iI x1)), (2, .int (iI x2)), (4, .int (iI x4)), (5, .int (iI x5)), (6, .ref (ad o6))]) hC d_Water_volumeBefore_72 7 rfl (by decide) rfl ?_
        refine nv_goto hC d_Water_volumeBefore_75 (tgt := 42) (by decide) ?_
        obtain ⟨hr11, hm⟩ := ck_s hm
        obtain ⟨hr12, hm⟩ := ck_s hm
        refine nv_sub (lv' := [(0, .ref (ad w0)), (1, .int (iI x1)), (2, .int (iI x2)), (3, .int (iI (x3 + (N (o6 + 1) x7.toNat)))), (4, .int (iI x4)), (5, .int (iI x5)), (6, .ref (ad o6)), (7, .int (iI (x7 + (-1))))]) [2, 3, 4, 1, 5, 6, 7, 0] rfl ?_
        exact ih (x3 + (N (o6 + 1) x7.toNat)) (x7 + (-1)) N q No hm hr11 hr12 kx kr
      · have hm := if_f c10 hm
        refine nv_iload_n hC d_Water_volumeBefore_59 rfl 3 rfl ?_
        obtain ⟨rfl, rfl⟩ := ret_s hm
        refine nv_sub (lv' := []) [] rfl ?_
        exact kr rfl
set_option maxRecDepth 100000 in
set_option maxHeartbeats 4000000 in
theorem w_Water_volumeBefore_12 {p : Program} {l : Launch} {e : Env} {s : State} {m : MethodId} {args : Array Value} {below : List Frame} {meth : Method} {c : Code} {Q : State → Prop} {D : va_G} {ct : Nat → ClassId} {A : Nat → Prop} {ad : Nat → Nat} {S : nH} (hC : nC p s m args c D vwCl ct A ad S 8 b_Water_volumeBefore R_Water TT) (w0 nn0 : Nat) (hp0 : isW S w0 nn0) (x1 : Int) (hx1 : rg x1) (x2 : Int) (hx2 : rg x2) (x4 : Int) (hx4 : rg x4) : ∀ (f : Nat) (x3 x5 : Int) (N : nS) (q : Int × Int × Int × Int) (No : nS), m_Water_volumeBefore_12 w0 nn0 x1 x2 x4 f x3 x5 N = some (q, No) → rg x3 → rg x5 → (q.1 = 0 → nV p l e rm_Water_volumeBefore s m args below meth c 0 0 Q D vwCl ct A ad S 8 No 84 [(0, .ref (ad w0)), (1, .int (iI x1)), (2, .int (iI x2)), (3, .int (iI q.2.2.1)), (4, .int (iI x4)), (5, .int (iI q.2.2.2))] []) → (q.1 = 1 → nV p l e rm_Water_volumeBefore s m args below meth c 0 0 Q D vwCl ct A ad S 8 No 60 [] [.int (iI q.2.1)]) → nV p l e rm_Water_volumeBefore s m args below meth c 0 0 Q D vwCl ct A ad S 8 N 12 [(0, .ref (ad w0)), (1, .int (iI x1)), (2, .int (iI x2)), (3, .int (iI x3)), (4, .int (iI x4)), (5, .int (iI x5))] [] := by
  intro f
  induction f with
  | zero =>
    intro x3 x5 N q No hm
    rw [m_Water_volumeBefore_12] at hm
    cases hm
  | succ f ih =>
    intro x3 x5 N q No hm hx3 hx5 kx kr
    rw [m_Water_volumeBefore_12] at hm
    refine nv_iload hC d_Water_volumeBefore_12 5 rfl ?_
    refine nv_iload hC d_Water_volumeBefore_14 4 rfl ?_
    refine nv_icmp_ge hC hx5 hx4 d_Water_volumeBefore_16 (tgt := 84) (by decide) (fun c4 => ?_) (fun c4 => ?_)
    · have hm := if_t c4 hm
      obtain ⟨rfl, rfl⟩ := ret_s hm
      refine nv_sub (lv' := [(0, .ref (ad w0)), (1, .int (iI x1)), (2, .int (iI x2)), (3, .int (iI x3)), (4, .int (iI x4)), (5, .int (iI x5))]) [0, 1, 2, 3, 4, 5] rfl ?_
      exact kx rfl
    · have hm := if_f c4 hm
      refine nv_aload_n hC d_Water_volumeBefore_19 rfl 0 rfl ?_
      refine nv_getR hC (j := 1) hp0.1 rfl in_Water (by decide) k_56 rfl d_Water_volumeBefore_20 ?_
      refine nv_aload_n hC d_Water_volumeBefore_23 rfl 0 rfl ?_
      refine nv_getR hC (j := 5) hp0.1 rfl in_Water (by decide) k_72 rfl d_Water_volumeBefore_24 ?_
      refine nv_iload hC d_Water_volumeBefore_27 5 rfl ?_
      obtain ⟨hc5, hm⟩ := ck_s hm
      refine nv_iald hC (isW_way hp0) (by decide) hc5 d_Water_volumeBefore_29 ?_
      obtain ⟨hc6, hm⟩ := ck_s hm
      refine nv_aald hC (isW_rows hp0) (by decide) hc6 rfl d_Water_volumeBefore_30 ?_
      refine nv_astore (lv' := [(6, .ref (ad (w0 + 1 + 13 + 3 * (N (w0 + 11) x5.toNat).toNat))), (0, .ref (ad w0)), (1, .int (iI x1)), (2, .int (iI x2)), (3, .int (iI x3)), (4, .int (iI x4)), (5, .int (iI x5))]) hC d_Water_volumeBefore_31 (by decide) rfl ?_
      refine nv_aload hC d_Water_volumeBefore_33 0 rfl ?_
      refine nv_getI hC (j := 2) (isW_row hp0 (tn_lt hc6)).1 rfl in_Plugs (by decide) k_114 rfl d_Water_volumeBefore_35 ?_
      refine nv_iconst hC d_Water_volumeBefore_38 ?_
      refine nv_isub hC d_Water_volumeBefore_39 ?_
      refine nv_istore (lv' := [(7, .int (iI ((N (w0 + 1 + 13 + 3 * (N (w0 + 11) x5.toNat).toNat) 2) - 1))), (6, .ref (ad (w0 + 1 + 13 + 3 * (N (w0 + 11) x5.toNat).toNat))), (0, .ref (ad w0)), (1, .int (iI x1)), (2, .int (iI x2)), (3, .int (iI x3)), (4, .int (iI x4)), (5, .int (iI x5))]) hC d_Water_volumeBefore_40 (by decide) rfl ?_
      obtain ⟨hr13, hm⟩ := ck_s hm
      obtain ⟨q14, N15, hq16, hm⟩ := nbd_s hm
      refine nv_sub (lv' := [(0, .ref (ad w0)), (1, .int (iI x1)), (2, .int (iI x2)), (3, .int (iI x3)), (4, .int (iI x4)), (5, .int (iI x5)), (6, .ref (ad (w0 + 1 + 13 + 3 * (N (w0 + 11) x5.toNat).toNat))), (7, .int (iI ((N (w0 + 1 + 13 + 3 * (N (w0 + 11) x5.toNat).toNat) 2) - 1)))]) [2, 3, 4, 5, 6, 7, 1, 0] rfl ?_
      by_cases c17 : q14.1 = 0
      · have hm := if_t c17 hm
        refine w_Water_volumeBefore_42 hC w0 nn0 hp0 x1 hx1 x2 hx2 x4 hx4 x5 hx5 (w0 + 1 + 13 + 3 * (N (w0 + 11) x5.toNat).toNat) 12 (isW_row hp0 (tn_lt hc6)) FU x3 ((N (w0 + 1 + 13 + 3 * (N (w0 + 11) x5.toNat).toNat) 2) - 1) N q14 N15 hq16 hx3 hr13 (fun _ => ?_) (fun h9 => absurd (c17.symm.trans h9) (by decide))
        refine nv_iinc (lv' := [(5, .int (iI (x5 + 1))), (0, .ref (ad w0)), (1, .int (iI x1)), (2, .int (iI x2)), (3, .int (iI q14.2.2.1)), (4, .int (iI x4)), (6, .ref (ad (w0 + 1 + 13 + 3 * (N (w0 + 11) x5.toNat).toNat))), (7, .int (iI q14.2.2.2))]) hC d_Water_volumeBefore_78 5 rfl (by decide) rfl ?_
        refine nv_goto hC d_Water_volumeBefore_81 (tgt := 12) (by decide) ?_
        obtain ⟨hr18, hm⟩ := ck_s hm
        obtain ⟨hr19, hm⟩ := ck_s hm
        refine nv_sub (lv' := [(0, .ref (ad w0)), (1, .int (iI x1)), (2, .int (iI x2)), (3, .int (iI q14.2.2.1)), (4, .int (iI x4)), (5, .int (iI (x5 + 1)))]) [1, 2, 3, 4, 5, 0] rfl ?_
        exact ih q14.2.2.1 (x5 + 1) N15 q No hm hr18 hr19 kx kr
      · have hm := if_f c17 hm
        refine w_Water_volumeBefore_42 hC w0 nn0 hp0 x1 hx1 x2 hx2 x4 hx4 x5 hx5 (w0 + 1 + 13 + 3 * (N (w0 + 11) x5.toNat).toNat) 12 (isW_row hp0 (tn_lt hc6)) FU x3 ((N (w0 + 1 + 13 + 3 * (N (w0 + 11) x5.toNat).toNat) 2) - 1) N q14 N15 hq16 hx3 hr13 (fun h9 => absurd h9 c17) (fun _ => ?_)
        obtain ⟨rfl, rfl⟩ := ret_s hm
        refine nv_sub (lv' := []) [] rfl ?_
        exact kr rfl
set_option maxRecDepth 100000 in
set_option maxHeartbeats 4000000 in
theorem c_Water_volumeBefore (l : Launch) {D : va_G} {ct : Nat → ClassId} {A : Nat → Prop} {ad : Nat → Nat} {S : nH} (hD : nD ad A S.length) (w0 nn0 : Nat) (hp0 : isW S w0 nn0) (x1 : Int) (hx1 : rg x1) (x2 : Int) (hx2 : rg x2) (N : nS) (r : Int) (No : nS) (hm : m_Water_volumeBefore w0 nn0 x1 x2 N = some (r, No)) : nM l y_Water_volumeBefore (Cond.code y_Water_volumeBefore b_Water_volumeBefore 8 (some .int) :: TT) rm_Water_volumeBefore D vwCl ct A ad S N [.ref (ad w0), .int (iI x1), .int (iI x2)] (nQi D vwCl ct A ad S r No) := by
  refine nM_of (cc := b_Water_volumeBefore) (maxL := 8) (ret := (some .int)) (by decide) rfl (Nat.le_of_ble_eq_true rfl) hD ?_
  intro p e s m below meth c hC hr hlk
  refine nv_lv (lv' := [(0, .ref (ad w0)), (1, .int (iI x1)), (2, .int (iI x2))]) rfl ?_
  rw [m_Water_volumeBefore] at hm
  refine nv_iconst hC d_Water_volumeBefore_0 ?_
  refine nv_istore_n (lv' := [(3, .int (iI 0)), (0, .ref (ad w0)), (1, .int (iI x1)), (2, .int (iI x2))]) hC d_Water_volumeBefore_1 rfl (by decide) rfl ?_
  refine nv_aload_n hC d_Water_volumeBefore_2 rfl 1 rfl ?_
  refine nv_iload_n hC d_Water_volumeBefore_3 rfl 2 rfl ?_
  obtain ⟨r1, N2, hq3, hm⟩ := nbd_s hm
  refine nv_calli (x := r1) (N' := N2) (nr_V hC (As := [.int (iI x1)]) (st := []) hp0.1 rfl (c_Water_findWay l hC.2.2.1 w0 nn0 hp0 x1 hx1 N r1 N2 hq3) (cwV 1 hC.1.2.2.2.2 (tt_V k_89 k_91 k_92 k_71 k_90) rfl rfl rfl (by decide +kernel) ⟨Nat.le_of_ble_eq_true rfl, Nat.le_of_ble_eq_true rfl⟩) rfl rfl (Nat.le_of_ble_eq_true rfl) ⟨Nat.zero_le _, Nat.zero_le _⟩ d_Water_volumeBefore_4) ?_
  refine nv_istore (lv' := [(4, .int (iI r1)), (3, .int (iI 0)), (0, .ref (ad w0)), (1, .int (iI x1)), (2, .int (iI x2))]) hC d_Water_volumeBefore_7 (by decide) rfl ?_
  refine nv_iconst hC d_Water_volumeBefore_9 ?_
  refine nv_istore (lv' := [(5, .int (iI 0)), (4, .int (iI r1)), (3, .int (iI 0)), (0, .ref (ad w0)), (1, .int (iI x1)), (2, .int (iI x2))]) hC d_Water_volumeBefore_10 (by decide) rfl ?_
  obtain ⟨hr20, hm⟩ := ck_s hm
  obtain ⟨q21, N22, hq23, hm⟩ := nbd_s hm
  refine nv_sub (lv' := [(0, .ref (ad w0)), (1, .int (iI x1)), (2, .int (iI x2)), (3, .int (iI 0)), (4, .int (iI r1)), (5, .int (iI 0))]) [3, 4, 5, 2, 1, 0] rfl ?_
  by_cases c24 : q21.1 = 0
  · have hm := if_t c24 hm
    refine w_Water_volumeBefore_12 hC w0 nn0 hp0 x1 hx1 x2 hx2 r1 hr20 FU 0 0 N2 q21 N22 hq23 ⟨by decide, by decide⟩ ⟨by decide, by decide⟩ (fun _ => ?_) (fun h9 => absurd (c24.symm.trans h9) (by decide))
    refine nv_aload_n hC d_Water_volumeBefore_84 rfl 0 rfl ?_
    refine nv_getI hC (j := 9) hp0.1 rfl in_Water (by decide) k_63 rfl d_Water_volumeBefore_85 ?_
    refine nv_iload_n hC d_Water_volumeBefore_88 rfl 2 rfl ?_
    obtain ⟨hr25, hm⟩ := ck_s hm
    refine nv_icmp_lt hC hr25 hx2 d_Water_volumeBefore_89 (tgt := 96) (by decide) (fun c26 => ?_) (fun c26 => ?_)
    · have hm := if_t c26 hm
      refine nv_iconst hC d_Water_volumeBefore_96 ?_
      obtain ⟨rfl, rfl⟩ := ret_s hm
      exact nv_iret hC hr hlk d_Water_volumeBefore_97
    · have hm := if_f c26 hm
      refine nv_iload_n hC d_Water_volumeBefore_92 rfl 3 rfl ?_
      refine nv_goto hC d_Water_volumeBefore_93 (tgt := 97) (by decide) ?_
      obtain ⟨rfl, rfl⟩ := ret_s hm
      exact nv_iret hC hr hlk d_Water_volumeBefore_97
  · have hm := if_f c24 hm
    refine w_Water_volumeBefore_12 hC w0 nn0 hp0 x1 hx1 x2 hx2 r1 hr20 FU 0 0 N2 q21 N22 hq23 ⟨by decide, by decide⟩ ⟨by decide, by decide⟩ (fun h9 => absurd h9 c24) (fun _ => ?_)
    obtain ⟨rfl, rfl⟩ := ret_s hm
    exact nv_iret hC hr hlk d_Water_volumeBefore_60
def m_Water_held_4 (w0 nn0 : Nat) : Nat → Int → Int → nS → Option ((Int × Int) × nS)
  | 0, _, _, _ => none
  | f + 1, x1, x3, N =>
    if rg (N nn0 5) then
    if (N nn0 5) ≤ x3 then
    some ((x1, x3), N)
    else
    if 0 ≤ x3 ∧ x3 < ((10 : Nat) : Int) then
    nbd (m_Plugs_volumeTimesWarmth (w0 + 1 + 13 + 3 * x3.toNat) 12 N) (fun r4 N5 =>
    if rg (x3 + 1) then
    m_Water_held_4 w0 nn0 f (x1 + r4) (x3 + 1) N5
    else none)
    else none
    else none
def m_Water_held (w0 nn0 : Nat) (N : nS) : Option (Int × nS) :=
  nbd (m_Water_held_4 w0 nn0 FU 0 0 N) (fun q8 N9 =>
  some (q8.1, N9))
abbrev rm_Water_held : Room := { frames := 1, cells := 0, slots := 0, locals := 23 }
set_option maxRecDepth 100000 in
set_option maxHeartbeats 4000000 in
theorem w_Water_held_4 {p : Program} {l : Launch} {e : Env} {s : State} {m : MethodId} {args : Array Value} {below : List Frame} {meth : Method} {c : Code} {Q : State → Prop} {D : va_G} {ct : Nat → ClassId} {A : Nat → Prop} {ad : Nat → Nat} {S : nH} (hC : nC p s m args c D vwCl ct A ad S 4 b_Water_held R_Water TT) (w0 nn0 : Nat) (hp0 : isW S w0 nn0) : ∀ (f : Nat) (x1 x3 : Int) (N : nS) (q : Int × Int) (No : nS), m_Water_held_4 w0 nn0 f x1 x3 N = some (q, No) → rg x3 → nV p l e rm_Water_held s m args below meth c 0 0 Q D vwCl ct A ad S 4 No 33 [(0, .ref (ad w0)), (1, .long (lI q.1)), (3, .int (iI q.2))] [] → nV p l e rm_Water_held s m args below meth c 0 0 Q D vwCl ct A ad S 4 N 4 [(0, .ref (ad w0)), (1, .long (lI x1)), (3, .int (iI x3))] [] := by
  intro f
  induction f with
  | zero =>
    intro x1 x3 N q No hm
    rw [m_Water_held_4] at hm
    cases hm
  | succ f ih =>
    intro x1 x3 N q No hm hx3 kx
    rw [m_Water_held_4] at hm
    refine nv_iload_n hC d_Water_held_4 rfl 2 rfl ?_
    refine nv_aload_n hC d_Water_held_5 rfl 0 rfl ?_
    refine nv_getA hC (j := 0) hp0.1 rfl in_Water (by decide) k_54 rfl d_Water_held_6 ?_
    refine nv_getI hC (j := 5) (isW_net hp0).1 rfl in_Net (by decide) k_55 rfl d_Water_held_9 ?_
    obtain ⟨hr1, hm⟩ := ck_s hm
    refine nv_icmp_ge hC hx3 hr1 d_Water_held_12 (tgt := 33) (by decide) (fun c2 => ?_) (fun c2 => ?_)
    · have hm := if_t c2 hm
      obtain ⟨rfl, rfl⟩ := ret_s hm
      refine nv_sub (lv' := [(0, .ref (ad w0)), (1, .long (lI x1)), (3, .int (iI x3))]) [0, 1, 2] rfl ?_
      exact kx
    · have hm := if_f c2 hm
      refine nv_lload_n hC d_Water_held_15 rfl 1 rfl ?_
      refine nv_aload_n hC d_Water_held_16 rfl 0 rfl ?_
      refine nv_getR hC (j := 1) hp0.1 rfl in_Water (by decide) k_56 rfl d_Water_held_17 ?_
      refine nv_iload_n hC d_Water_held_20 rfl 2 rfl ?_
      obtain ⟨hc3, hm⟩ := ck_s hm
      refine nv_aald hC (isW_rows hp0) (by decide) hc3 rfl d_Water_held_21 ?_
      obtain ⟨r4, N5, hq6, hm⟩ := nbd_s hm
      refine nv_calll (x := r4) (N' := N5) (nr_V hC (As := []) (st := [.long (lI x1)]) (isW_row hp0 (tn_lt hc3)).1 rfl (c_Plugs_volumeTimesWarmth l hC.2.2.1 (w0 + 1 + 13 + 3 * x3.toNat) 12 (isW_row hp0 (tn_lt hc3)) N r4 N5 hq6) (cwV 0 hC.1.2.2.2.2 (tt_V k_88 k_41 k_42 k_7 k_40) rfl rfl rfl (by decide +kernel) ⟨Nat.le_of_ble_eq_true rfl, Nat.le_of_ble_eq_true rfl⟩) rfl rfl (Nat.le_of_ble_eq_true rfl) ⟨Nat.zero_le _, Nat.zero_le _⟩ d_Water_held_22) ?_
      refine nv_ladd hC d_Water_held_25 ?_
      refine nv_lstore_n (lv' := [(1, .long (lI (x1 + r4))), (0, .ref (ad w0)), (3, .int (iI x3))]) hC d_Water_held_26 rfl (by decide) rfl ?_
      refine nv_iinc (lv' := [(3, .int (iI (x3 + 1))), (1, .long (lI (x1 + r4))), (0, .ref (ad w0))]) hC d_Water_held_27 2 rfl (by decide) rfl ?_
      refine nv_goto hC d_Water_held_30 (tgt := 4) (by decide) ?_
      obtain ⟨hr7, hm⟩ := ck_s hm
      refine nv_sub (lv' := [(0, .ref (ad w0)), (1, .long (lI (x1 + r4))), (3, .int (iI (x3 + 1)))]) [2, 1, 0] rfl ?_
      exact ih (x1 + r4) (x3 + 1) N5 q No hm hr7 kx
set_option maxRecDepth 100000 in
set_option maxHeartbeats 4000000 in
theorem c_Water_held (l : Launch) {D : va_G} {ct : Nat → ClassId} {A : Nat → Prop} {ad : Nat → Nat} {S : nH} (hD : nD ad A S.length) (w0 nn0 : Nat) (hp0 : isW S w0 nn0) (N : nS) (r : Int) (No : nS) (hm : m_Water_held w0 nn0 N = some (r, No)) : nM l y_Water_held (Cond.code y_Water_held b_Water_held 4 (some .long) :: TT) rm_Water_held D vwCl ct A ad S N [.ref (ad w0)] (nQl D vwCl ct A ad S r No) := by
  refine nM_of (cc := b_Water_held) (maxL := 4) (ret := (some .long)) (by decide) rfl (Nat.le_of_ble_eq_true rfl) hD ?_
  intro p e s m below meth c hC hr hlk
  refine nv_lv (lv' := [(0, .ref (ad w0))]) rfl ?_
  rw [m_Water_held] at hm
  refine nv_lconst hC (z := 0) d_Water_held_0 rfl ?_
  refine nv_lstore_n (lv' := [(1, .long (lI 0)), (0, .ref (ad w0))]) hC d_Water_held_1 rfl (by decide) rfl ?_
  refine nv_iconst hC d_Water_held_2 ?_
  refine nv_istore_n (lv' := [(3, .int (iI 0)), (1, .long (lI 0)), (0, .ref (ad w0))]) hC d_Water_held_3 rfl (by decide) rfl ?_
  obtain ⟨q8, N9, hq10, hm⟩ := nbd_s hm
  refine nv_sub (lv' := [(0, .ref (ad w0)), (1, .long (lI 0)), (3, .int (iI 0))]) [2, 1, 0] rfl ?_
  refine w_Water_held_4 hC w0 nn0 hp0 FU 0 0 N q8 N9 hq10 ⟨by decide, by decide⟩ ?_
  refine nv_lload_n hC d_Water_held_33 rfl 1 rfl ?_
  obtain ⟨rfl, rfl⟩ := ret_s hm
  exact nv_lret hC hr hlk d_Water_held_34
end
