/-! ===== the words: all good ones of the tables ===== -/
def TT : List Cond := lw_tbl.filter goodWord
theorem tt_i (i : Nat) {w : Cond} (h : lw_tbl[i]? = some w) (g : goodWord w = true) : w ∈ TT := List.mem_filter.mpr ⟨List.mem_of_getElem? h, g⟩
theorem tt_good : GoodIn TT TT := fun w h => ⟨h, good_of_word (List.mem_filter.mp h).2⟩
theorem tt_c {y : MethodName} {b : ByteArray} {n : Nat} {r : Option FieldType} (h : Cond.code y b n r ∈ TT) : GoodIn TT (Cond.code y b n r :: TT) := fun w q => (List.mem_cons.mp q).elim (fun e => by rw [e]; exact tt_good _ h) (tt_good w)
theorem tt_V {own C : String} {i : Nat} {y : MethodName} {b : ByteArray} {n : Nat} {r : Option FieldType} (h1 : Cond.methodLink own i y ∈ TT) (h2 : Cond.instanceMethod y ∈ TT) (h3 : Cond.selects C y y ∈ TT) (h4 : Cond.initialized C ∈ TT) (h5 : Cond.code y b n r ∈ TT) : GoodIn TT (wsV own i C y (Cond.code y b n r :: TT)) := by
  intro w q
  rcases List.mem_append.mp q with q | q
  · simp only [List.mem_cons, List.not_mem_nil, or_false] at q
    rcases q with e | e | e | e <;> rw [e] <;> apply tt_good <;> assumption
  · exact tt_c h5 w q
theorem tt_S {own : String} {i : Nat} {y : MethodName} {b : ByteArray} {n : Nat} {r : Option FieldType} (h1 : Cond.methodLink own i y ∈ TT) (h2 : Cond.static y ∈ TT) (h3 : Cond.initialized own ∈ TT) (h5 : Cond.code y b n r ∈ TT) : GoodIn TT (wsS own i y (Cond.code y b n r :: TT)) := by
  intro w q
  rcases List.mem_append.mp q with q | q
  · simp only [List.mem_cons, List.not_mem_nil, or_false] at q
    rcases q with e | e | e <;> rw [e] <;> apply tt_good <;> assumption
  · exact tt_c h5 w q
/-! ===== classes and fields ===== -/
def R_Plugs : String := "HotLoops$Plugs"
def T_Plugs : u_T := fun k => match k with
  | 0 => ("HotLoops$Plugs", "volumes", "[I", true)
  | 1 => ("HotLoops$Plugs", "warmths", "[I", true)
  | _ => ("HotLoops$Plugs", "count", "I", false)
def ty_Plugs : Nat → FieldType := fun k => match k with
  | 0 => .array .int
  | 1 => .array .int
  | _ => .int
set_option maxRecDepth 20000 in
theorem nm_Plugs : ∀ a, a < 3 → ∀ b, b < 3 → a ≠ b → (T_Plugs a).2.1 ≠ (T_Plugs b).2.1 := by decide +kernel
set_option maxRecDepth 20000 in
theorem tyok_Plugs : ∀ k, k < 3 → parseFieldDescriptor (T_Plugs k).2.2.1 = some (ty_Plugs k) := by decide +kernel
set_option maxRecDepth 20000 in
theorem in_Plugs : ∀ w ∈ u_ws R_Plugs T_Plugs 3, w ∈ TT := by decide +kernel
def R_Net : String := "HotLoops$Net"
def T_Net : u_T := fun k => match k with
  | 0 => ("HotLoops$Net", "froms", "[I", true)
  | 1 => ("HotLoops$Net", "volumes", "[I", true)
  | 2 => ("HotLoops$Net", "leads", "[I", true)
  | 3 => ("HotLoops$Net", "loops", "[I", true)
  | 4 => ("HotLoops$Net", "tapped", "[Z", true)
  | _ => ("HotLoops$Net", "count", "I", false)
def ty_Net : Nat → FieldType := fun k => match k with
  | 0 => .array .int
  | 1 => .array .int
  | 2 => .array .int
  | 3 => .array .int
  | 4 => .array .boolean
  | _ => .int
set_option maxRecDepth 20000 in
theorem nm_Net : ∀ a, a < 6 → ∀ b, b < 6 → a ≠ b → (T_Net a).2.1 ≠ (T_Net b).2.1 := by decide +kernel
set_option maxRecDepth 20000 in
theorem tyok_Net : ∀ k, k < 6 → parseFieldDescriptor (T_Net k).2.2.1 = some (ty_Net k) := by decide +kernel
set_option maxRecDepth 20000 in
theorem in_Net : ∀ w ∈ u_ws R_Net T_Net 6, w ∈ TT := by decide +kernel
def R_Draws : String := "HotLoops$Draws"
def T_Draws : u_T := fun k => match k with
  | 0 => ("HotLoops$Draws", "pipes", "[I", true)
  | 1 => ("HotLoops$Draws", "minutes", "[I", true)
  | 2 => ("HotLoops$Draws", "volumes", "[I", true)
  | 3 => ("HotLoops$Draws", "means", "[I", true)
  | 4 => ("HotLoops$Draws", "leasts", "[I", true)
  | 5 => ("HotLoops$Draws", "greatests", "[I", true)
  | _ => ("HotLoops$Draws", "count", "I", false)
def ty_Draws : Nat → FieldType := fun k => match k with
  | 0 => .array .int
  | 1 => .array .int
  | 2 => .array .int
  | 3 => .array .int
  | 4 => .array .int
  | 5 => .array .int
  | _ => .int
set_option maxRecDepth 20000 in
theorem nm_Draws : ∀ a, a < 7 → ∀ b, b < 7 → a ≠ b → (T_Draws a).2.1 ≠ (T_Draws b).2.1 := by decide +kernel
set_option maxRecDepth 20000 in
theorem tyok_Draws : ∀ k, k < 7 → parseFieldDescriptor (T_Draws k).2.2.1 = some (ty_Draws k) := by decide +kernel
set_option maxRecDepth 20000 in
theorem in_Draws : ∀ w ∈ u_ws R_Draws T_Draws 7, w ∈ TT := by decide +kernel
def R_Water : String := "HotLoops$Water"
def T_Water : u_T := fun k => match k with
  | 0 => ("HotLoops$Water", "net", "LHotLoops$Net;", true)
  | 1 => ("HotLoops$Water", "rows", "[LHotLoops$Plugs;", true)
  | 2 => ("HotLoops$Water", "taken", "LHotLoops$Plugs;", true)
  | 3 => ("HotLoops$Water", "pushed", "LHotLoops$Plugs;", true)
  | 4 => ("HotLoops$Water", "rest", "LHotLoops$Plugs;", true)
  | 5 => ("HotLoops$Water", "way", "[I", true)
  | 6 => ("HotLoops$Water", "flowMinutes", "[I", true)
  | 7 => ("HotLoops$Water", "tepidMinutes", "[I", true)
  | 8 => ("HotLoops$Water", "minute", "I", false)
  | 9 => ("HotLoops$Water", "heat", "I", false)
  | 10 => ("HotLoops$Water", "air", "I", false)
  | 11 => ("HotLoops$Water", "given", "J", false)
  | 12 => ("HotLoops$Water", "out", "J", false)
  | _ => ("HotLoops$Water", "lost", "J", false)
def ty_Water : Nat → FieldType := fun k => match k with
  | 0 => .object "HotLoops$Net"
  | 1 => .array (.object "HotLoops$Plugs")
  | 2 => .object "HotLoops$Plugs"
  | 3 => .object "HotLoops$Plugs"
  | 4 => .object "HotLoops$Plugs"
  | 5 => .array .int
  | 6 => .array .int
  | 7 => .array .int
  | 8 => .int
  | 9 => .int
  | 10 => .int
  | 11 => .long
  | 12 => .long
  | _ => .long
set_option maxRecDepth 20000 in
theorem nm_Water : ∀ a, a < 14 → ∀ b, b < 14 → a ≠ b → (T_Water a).2.1 ≠ (T_Water b).2.1 := by decide +kernel
set_option maxRecDepth 20000 in
theorem tyok_Water : ∀ k, k < 14 → parseFieldDescriptor (T_Water k).2.2.1 = some (ty_Water k) := by decide +kernel
set_option maxRecDepth 20000 in
theorem in_Water : ∀ w ∈ u_ws R_Water T_Water 14, w ∈ TT := by decide +kernel
def R_HL : String := "HotLoops"
def T_HL : u_T := fun k => match k with
  | 0 => ("HotLoops", "net", "LHotLoops$Net;", true)
  | 1 => ("HotLoops", "water", "LHotLoops$Water;", true)
  | 2 => ("HotLoops", "trial", "LHotLoops$Water;", true)
  | 3 => ("HotLoops", "draws", "LHotLoops$Draws;", true)
  | _ => ("HotLoops", "marked", "[Z", true)
def ty_HL : Nat → FieldType := fun k => match k with
  | 0 => .object "HotLoops$Net"
  | 1 => .object "HotLoops$Water"
  | 2 => .object "HotLoops$Water"
  | 3 => .object "HotLoops$Draws"
  | _ => .array .boolean
set_option maxRecDepth 20000 in
theorem nm_HL : ∀ a, a < 5 → ∀ b, b < 5 → a ≠ b → (T_HL a).2.1 ≠ (T_HL b).2.1 := by decide +kernel
set_option maxRecDepth 20000 in
theorem tyok_HL : ∀ k, k < 5 → parseFieldDescriptor (T_HL k).2.2.1 = some (ty_HL k) := by decide +kernel
set_option maxRecDepth 20000 in
theorem in_HL : ∀ w ∈ u_ws R_HL T_HL 5, w ∈ TT := by decide +kernel
def R_Mo : String := "HotLoopsModel"
def T_Mo : u_T := fun k => match k with
  | 0 => ("HotLoopsModel", "thrown", "I", false)
  | 1 => ("HotLoopsModel", "pipes", "I", false)
  | 2 => ("HotLoopsModel", "froms", "[I", true)
  | 3 => ("HotLoopsModel", "volumes", "[I", true)
  | 4 => ("HotLoopsModel", "leads", "[I", true)
  | 5 => ("HotLoopsModel", "taps", "[Z", true)
  | 6 => ("HotLoopsModel", "loops", "[I", true)
  | 7 => ("HotLoopsModel", "heat", "I", false)
  | 8 => ("HotLoopsModel", "air", "I", false)
  | 9 => ("HotLoopsModel", "now", "I", false)
  | 10 => ("HotLoopsModel", "many", "[I", true)
  | 11 => ("HotLoopsModel", "vol", "[I", true)
  | 12 => ("HotLoopsModel", "warmths", "[I", true)
  | 13 => ("HotLoopsModel", "flowed", "[I", true)
  | 14 => ("HotLoopsModel", "risky", "[I", true)
  | 15 => ("HotLoopsModel", "draws", "I", false)
  | 16 => ("HotLoopsModel", "drawPipe", "[I", true)
  | 17 => ("HotLoopsModel", "drawMinute", "[I", true)
  | 18 => ("HotLoopsModel", "drawVolume", "[I", true)
  | 19 => ("HotLoopsModel", "drawMean", "[I", true)
  | 20 => ("HotLoopsModel", "drawLeast", "[I", true)
  | 21 => ("HotLoopsModel", "drawMost", "[I", true)
  | 22 => ("HotLoopsModel", "given", "J", false)
  | 23 => ("HotLoopsModel", "out", "J", false)
  | 24 => ("HotLoopsModel", "lost", "J", false)
  | 25 => ("HotLoopsModel", "taken", "I", false)
  | 26 => ("HotLoopsModel", "takenVol", "[I", true)
  | 27 => ("HotLoopsModel", "takenWarm", "[I", true)
  | 28 => ("HotLoopsModel", "row", "I", false)
  | 29 => ("HotLoopsModel", "rowVol", "[I", true)
  | 30 => ("HotLoopsModel", "rowWarm", "[I", true)
  | 31 => ("HotLoopsModel", "way", "[I", true)
  | 32 => ("HotLoopsModel", "sum", "J", false)
  | 33 => ("HotLoopsModel", "least", "I", false)
  | 34 => ("HotLoopsModel", "most", "I", false)
  | 35 => ("HotLoopsModel", "keptMany", "[I", true)
  | 36 => ("HotLoopsModel", "keptVol", "[I", true)
  | 37 => ("HotLoopsModel", "keptWarm", "[I", true)
  | 38 => ("HotLoopsModel", "keptFlowed", "[I", true)
  | 39 => ("HotLoopsModel", "keptRisky", "[I", true)
  | _ => ("HotLoopsModel", "comes", "[Z", true)
def ty_Mo : Nat → FieldType := fun k => match k with
  | 0 => .int
  | 1 => .int
  | 2 => .array .int
  | 3 => .array .int
  | 4 => .array .int
  | 5 => .array .boolean
  | 6 => .array .int
  | 7 => .int
  | 8 => .int
  | 9 => .int
  | 10 => .array .int
  | 11 => .array .int
  | 12 => .array .int
  | 13 => .array .int
  | 14 => .array .int
  | 15 => .int
  | 16 => .array .int
  | 17 => .array .int
  | 18 => .array .int
  | 19 => .array .int
  | 20 => .array .int
  | 21 => .array .int
  | 22 => .long
  | 23 => .long
  | 24 => .long
  | 25 => .int
  | 26 => .array .int
  | 27 => .array .int
  | 28 => .int
  | 29 => .array .int
  | 30 => .array .int
  | 31 => .array .int
  | 32 => .long
  | 33 => .int
  | 34 => .int
  | 35 => .array .int
  | 36 => .array .int
  | 37 => .array .int
  | 38 => .array .int
  | 39 => .array .int
  | _ => .array .boolean
set_option maxRecDepth 20000 in
theorem nm_Mo : ∀ a, a < 41 → ∀ b, b < 41 → a ≠ b → (T_Mo a).2.1 ≠ (T_Mo b).2.1 := by decide +kernel
set_option maxRecDepth 20000 in
theorem tyok_Mo : ∀ k, k < 41 → parseFieldDescriptor (T_Mo k).2.2.1 = some (ty_Mo k) := by decide +kernel
set_option maxRecDepth 20000 in
theorem in_Mo : ∀ w ∈ u_ws R_Mo T_Mo 41, w ∈ TT := by decide +kernel
def R_Law : String := "HotLoopsLaw"
abbrev vwCl : List vw_C := [(R_Plugs, T_Plugs, 3), (R_Net, T_Net, 6), (R_Draws, T_Draws, 7), (R_Water, T_Water, 14), (R_HL, T_HL, 5), (R_Mo, T_Mo, 41)]
abbrev ci_Plugs : Nat := 0
abbrev ci_Net : Nat := 1
abbrev ci_Draws : Nat := 2
abbrev ci_Water : Nat := 3
abbrev ci_HL : Nat := 4
abbrev ci_Mo : Nat := 5
/-! ===== methods ===== -/
abbrev b_HL_init : ByteArray := prog_1_method_1_code
def y_HL_init : MethodName := ⟨R_HL, "<init>", "()V"⟩
abbrev b_HL_pipe : ByteArray := prog_1_method_2_code
def y_HL_pipe : MethodName := ⟨R_HL, "pipe", "(III)I"⟩
abbrev b_HL_tap : ByteArray := prog_1_method_3_code
def y_HL_tap : MethodName := ⟨R_HL, "tap", "(I)Z"⟩
abbrev b_HL_set : ByteArray := prog_1_method_4_code
def y_HL_set : MethodName := ⟨R_HL, "set", "(II)I"⟩
abbrev b_HL_loop : ByteArray := prog_1_method_5_code
def y_HL_loop : MethodName := ⟨R_HL, "loop", "(II)I"⟩
abbrev b_HL_draw : ByteArray := prog_1_method_6_code
def y_HL_draw : MethodName := ⟨R_HL, "draw", "(III)I"⟩
abbrev b_HL_run : ByteArray := prog_1_method_7_code
def y_HL_run : MethodName := ⟨R_HL, "run", "(I)I"⟩
abbrev b_HL_plug : ByteArray := prog_1_method_8_code
def y_HL_plug : MethodName := ⟨R_HL, "plug", "(III)I"⟩
abbrev b_HL_told : ByteArray := prog_1_method_9_code
def y_HL_told : MethodName := ⟨R_HL, "told", "(II)I"⟩
abbrev b_HL_dead : ByteArray := prog_1_method_10_code
def y_HL_dead : MethodName := ⟨R_HL, "dead", "(II)I"⟩
abbrev b_HL_warm : ByteArray := prog_1_method_11_code
def y_HL_warm : MethodName := ⟨R_HL, "warm", "(II)I"⟩
abbrev b_HL_drawn : ByteArray := prog_1_method_12_code
def y_HL_drawn : MethodName := ⟨R_HL, "drawn", "(II)I"⟩
abbrev b_HL_heat : ByteArray := prog_1_method_13_code
def y_HL_heat : MethodName := ⟨R_HL, "heat", "(I)J"⟩
abbrev b_HL_shock : ByteArray := prog_1_method_14_code
def y_HL_shock : MethodName := ⟨R_HL, "shock", "(IIIII)I"⟩
abbrev b_HL_needPipe : ByteArray := prog_1_method_15_code
def y_HL_needPipe : MethodName := ⟨R_HL, "needPipe", "(I)V"⟩
abbrev b_HL_needWithin : ByteArray := prog_1_method_16_code
def y_HL_needWithin : MethodName := ⟨R_HL, "needWithin", "(III)V"⟩
abbrev b_HL_needNotBelowZero : ByteArray := prog_1_method_17_code
def y_HL_needNotBelowZero : MethodName := ⟨R_HL, "needNotBelowZero", "(I)V"⟩
abbrev b_HL_takeDraws : ByteArray := prog_1_method_18_code
def y_HL_takeDraws : MethodName := ⟨R_HL, "takeDraws", "()V"⟩
abbrev b_HL_markMissed : ByteArray := prog_1_method_19_code
def y_HL_markMissed : MethodName := ⟨R_HL, "markMissed", "(IIII)V"⟩
abbrev b_HL_takeShock : ByteArray := prog_1_method_20_code
def y_HL_takeShock : MethodName := ⟨R_HL, "takeShock", "(II)V"⟩
abbrev b_HL_markedPipe : ByteArray := prog_1_method_21_code
def y_HL_markedPipe : MethodName := ⟨R_HL, "markedPipe", "(I)I"⟩
abbrev b_Mo_init : ByteArray := prog_7_method_1_code
def y_Mo_init : MethodName := ⟨R_Mo, "<init>", "()V"⟩
abbrev b_Mo_thrown : ByteArray := prog_7_method_2_code
def y_Mo_thrown : MethodName := ⟨R_Mo, "thrown", "()I"⟩
abbrev b_Mo_in : ByteArray := prog_7_method_3_code
def y_Mo_in : MethodName := ⟨R_Mo, "in", "(III)Z"⟩
abbrev b_Mo_isPipe : ByteArray := prog_7_method_4_code
def y_Mo_isPipe : MethodName := ⟨R_Mo, "isPipe", "(I)Z"⟩
abbrev b_Mo_lay : ByteArray := prog_7_method_5_code
def y_Mo_lay : MethodName := ⟨R_Mo, "lay", "(II)V"⟩
abbrev b_Mo_join : ByteArray := prog_7_method_6_code
def y_Mo_join : MethodName := ⟨R_Mo, "join", "(I)V"⟩
abbrev b_Mo_joinTillFew : ByteArray := prog_7_method_7_code
def y_Mo_joinTillFew : MethodName := ⟨R_Mo, "joinTillFew", "()V"⟩
abbrev b_Mo_putBack : ByteArray := prog_7_method_8_code
def y_Mo_putBack : MethodName := ⟨R_Mo, "putBack", "(I)V"⟩
abbrev b_Mo_push : ByteArray := prog_7_method_9_code
def y_Mo_push : MethodName := ⟨R_Mo, "push", "(I)V"⟩
abbrev b_Mo_take : ByteArray := prog_7_method_10_code
def y_Mo_take : MethodName := ⟨R_Mo, "take", "(II)V"⟩
abbrev b_Mo_leastOf : ByteArray := prog_7_method_11_code
def y_Mo_leastOf : MethodName := ⟨R_Mo, "leastOf", "(I)I"⟩
abbrev b_Mo_mostOf : ByteArray := prog_7_method_12_code
def y_Mo_mostOf : MethodName := ⟨R_Mo, "mostOf", "(I)I"⟩
abbrev b_Mo_rest : ByteArray := prog_7_method_13_code
def y_Mo_rest : MethodName := ⟨R_Mo, "rest", "()V"⟩
abbrev b_Mo_fill : ByteArray := prog_7_method_14_code
def y_Mo_fill : MethodName := ⟨R_Mo, "fill", "(I)V"⟩
abbrev b_Mo_pipe : ByteArray := prog_7_method_15_code
def y_Mo_pipe : MethodName := ⟨R_Mo, "pipe", "(III)I"⟩
abbrev b_Mo_tap : ByteArray := prog_7_method_16_code
def y_Mo_tap : MethodName := ⟨R_Mo, "tap", "(I)Z"⟩
abbrev b_Mo_set : ByteArray := prog_7_method_17_code
def y_Mo_set : MethodName := ⟨R_Mo, "set", "(II)I"⟩
abbrev b_Mo_loop : ByteArray := prog_7_method_18_code
def y_Mo_loop : MethodName := ⟨R_Mo, "loop", "(II)I"⟩
abbrev b_Mo_draw : ByteArray := prog_7_method_19_code
def y_Mo_draw : MethodName := ⟨R_Mo, "draw", "(III)I"⟩
abbrev b_Mo_run : ByteArray := prog_7_method_20_code
def y_Mo_run : MethodName := ⟨R_Mo, "run", "(I)I"⟩
abbrev b_Mo_plug : ByteArray := prog_7_method_21_code
def y_Mo_plug : MethodName := ⟨R_Mo, "plug", "(III)I"⟩
abbrev b_Mo_told : ByteArray := prog_7_method_22_code
def y_Mo_told : MethodName := ⟨R_Mo, "told", "(II)I"⟩
abbrev b_Mo_dead : ByteArray := prog_7_method_23_code
def y_Mo_dead : MethodName := ⟨R_Mo, "dead", "(II)I"⟩
abbrev b_Mo_warm : ByteArray := prog_7_method_24_code
def y_Mo_warm : MethodName := ⟨R_Mo, "warm", "(II)I"⟩
abbrev b_Mo_drawn : ByteArray := prog_7_method_25_code
def y_Mo_drawn : MethodName := ⟨R_Mo, "drawn", "(II)I"⟩
abbrev b_Mo_heat : ByteArray := prog_7_method_26_code
def y_Mo_heat : MethodName := ⟨R_Mo, "heat", "(I)J"⟩
abbrev b_Mo_copy : ByteArray := prog_7_method_27_code
def y_Mo_copy : MethodName := ⟨R_Mo, "copy", "([I[I)V"⟩
abbrev b_Mo_shock : ByteArray := prog_7_method_28_code
def y_Mo_shock : MethodName := ⟨R_Mo, "shock", "(IIIII)I"⟩
abbrev b_Draws_init : ByteArray := prog_2_method_1_code
def y_Draws_init : MethodName := ⟨R_Draws, "<init>", "()V"⟩
abbrev b_Draws_add : ByteArray := prog_2_method_2_code
def y_Draws_add : MethodName := ⟨R_Draws, "add", "(III)I"⟩
abbrev b_Draws_keepAnswer : ByteArray := prog_2_method_3_code
def y_Draws_keepAnswer : MethodName := ⟨R_Draws, "keepAnswer", "(ILHotLoops$Plugs;)V"⟩
abbrev b_Net_init : ByteArray := prog_3_method_1_code
def y_Net_init : MethodName := ⟨R_Net, "<init>", "()V"⟩
abbrev b_Net_add : ByteArray := prog_3_method_2_code
def y_Net_add : MethodName := ⟨R_Net, "add", "(III)I"⟩
abbrev b_Plugs_init : ByteArray := prog_4_method_1_code
def y_Plugs_init : MethodName := ⟨R_Plugs, "<init>", "(I)V"⟩
abbrev b_Plugs_add : ByteArray := prog_4_method_2_code
def y_Plugs_add : MethodName := ⟨R_Plugs, "add", "(II)V"⟩
abbrev b_Plugs_addAll : ByteArray := prog_4_method_3_code
def y_Plugs_addAll : MethodName := ⟨R_Plugs, "addAll", "(LHotLoops$Plugs;)V"⟩
abbrev b_Plugs_clear : ByteArray := prog_4_method_4_code
def y_Plugs_clear : MethodName := ⟨R_Plugs, "clear", "()V"⟩
abbrev b_Plugs_split : ByteArray := prog_4_method_5_code
def y_Plugs_split : MethodName := ⟨R_Plugs, "split", "(ILHotLoops$Plugs;LHotLoops$Plugs;)V"⟩
abbrev b_Plugs_thin : ByteArray := prog_4_method_6_code
def y_Plugs_thin : MethodName := ⟨R_Plugs, "thin", "()I"⟩
abbrev b_Plugs_likest : ByteArray := prog_4_method_7_code
def y_Plugs_likest : MethodName := ⟨R_Plugs, "likest", "()I"⟩
abbrev b_Plugs_joinBehind : ByteArray := prog_4_method_8_code
def y_Plugs_joinBehind : MethodName := ⟨R_Plugs, "joinBehind", "(I)I"⟩
abbrev b_Plugs_cool : ByteArray := prog_4_method_9_code
def y_Plugs_cool : MethodName := ⟨R_Plugs, "cool", "(II)J"⟩
abbrev b_Plugs_volumeTimesWarmth : ByteArray := prog_4_method_10_code
def y_Plugs_volumeTimesWarmth : MethodName := ⟨R_Plugs, "volumeTimesWarmth", "()J"⟩
abbrev b_Plugs_least : ByteArray := prog_4_method_11_code
def y_Plugs_least : MethodName := ⟨R_Plugs, "least", "()I"⟩
abbrev b_Plugs_greatest : ByteArray := prog_4_method_12_code
def y_Plugs_greatest : MethodName := ⟨R_Plugs, "greatest", "()I"⟩
abbrev b_Water_init : ByteArray := prog_5_method_1_code
def y_Water_init : MethodName := ⟨R_Water, "<init>", "(LHotLoops$Net;)V"⟩
abbrev b_Water_copyFrom : ByteArray := prog_5_method_2_code
def y_Water_copyFrom : MethodName := ⟨R_Water, "copyFrom", "(LHotLoops$Water;)V"⟩
abbrev b_Water_changeHeat : ByteArray := prog_5_method_3_code
def y_Water_changeHeat : MethodName := ⟨R_Water, "changeHeat", "(I)I"⟩
abbrev b_Water_changeAir : ByteArray := prog_5_method_4_code
def y_Water_changeAir : MethodName := ⟨R_Water, "changeAir", "(I)I"⟩
abbrev b_Water_fillWithAir : ByteArray := prog_5_method_5_code
def y_Water_fillWithAir : MethodName := ⟨R_Water, "fillWithAir", "(I)V"⟩
abbrev b_Water_takeOut : ByteArray := prog_5_method_6_code
def y_Water_takeOut : MethodName := ⟨R_Water, "takeOut", "(II)V"⟩
abbrev b_Water_findWay : ByteArray := prog_5_method_7_code
def y_Water_findWay : MethodName := ⟨R_Water, "findWay", "(I)I"⟩
abbrev b_Water_pushThrough : ByteArray := prog_5_method_8_code
def y_Water_pushThrough : MethodName := ⟨R_Water, "pushThrough", "(I)V"⟩
abbrev b_Water_endMinute : ByteArray := prog_5_method_9_code
def y_Water_endMinute : MethodName := ⟨R_Water, "endMinute", "()V"⟩
abbrev b_Water_minutesSinceFlow : ByteArray := prog_5_method_10_code
def y_Water_minutesSinceFlow : MethodName := ⟨R_Water, "minutesSinceFlow", "(I)I"⟩
abbrev b_Water_stoodStill : ByteArray := prog_5_method_11_code
def y_Water_stoodStill : MethodName := ⟨R_Water, "stoodStill", "(II)Z"⟩
abbrev b_Water_volumeBefore : ByteArray := prog_5_method_12_code
def y_Water_volumeBefore : MethodName := ⟨R_Water, "volumeBefore", "(II)I"⟩
abbrev b_Water_held : ByteArray := prog_5_method_13_code
def y_Water_held : MethodName := ⟨R_Water, "held", "()J"⟩
abbrev b_Law_pipe : ByteArray := method_3_code
def y_Law_pipe : MethodName := ⟨R_Law, "pipe", "(LHotLoops;III[J)I"⟩
abbrev b_Law_tap : ByteArray := method_4_code
def y_Law_tap : MethodName := ⟨R_Law, "tap", "(LHotLoops;I[J)I"⟩
abbrev b_Law_set : ByteArray := method_5_code
def y_Law_set : MethodName := ⟨R_Law, "set", "(LHotLoops;II[J)I"⟩
abbrev b_Law_loop : ByteArray := method_6_code
def y_Law_loop : MethodName := ⟨R_Law, "loop", "(LHotLoops;II[J)I"⟩
abbrev b_Law_draw : ByteArray := method_7_code
def y_Law_draw : MethodName := ⟨R_Law, "draw", "(LHotLoops;III[J)I"⟩
abbrev b_Law_run : ByteArray := method_8_code
def y_Law_run : MethodName := ⟨R_Law, "run", "(LHotLoops;I[J)I"⟩
abbrev b_Law_plug : ByteArray := method_9_code
def y_Law_plug : MethodName := ⟨R_Law, "plug", "(LHotLoops;III[J)I"⟩
abbrev b_Law_told : ByteArray := method_10_code
def y_Law_told : MethodName := ⟨R_Law, "told", "(LHotLoops;II[J)I"⟩
abbrev b_Law_dead : ByteArray := method_11_code
def y_Law_dead : MethodName := ⟨R_Law, "dead", "(LHotLoops;II[J)I"⟩
abbrev b_Law_warm : ByteArray := method_12_code
def y_Law_warm : MethodName := ⟨R_Law, "warm", "(LHotLoops;II[J)I"⟩
abbrev b_Law_drawn : ByteArray := method_13_code
def y_Law_drawn : MethodName := ⟨R_Law, "drawn", "(LHotLoops;II[J)I"⟩
abbrev b_Law_heat : ByteArray := method_14_code
def y_Law_heat : MethodName := ⟨R_Law, "heat", "(LHotLoops;I[J)I"⟩
abbrev b_Law_shock : ByteArray := method_15_code
def y_Law_shock : MethodName := ⟨R_Law, "shock", "(LHotLoops;IIIII[J)I"⟩
abbrev b_Law_law : ByteArray := code
def y_Law_law : MethodName := ⟨R_Law, "law", "([I)Z"⟩
