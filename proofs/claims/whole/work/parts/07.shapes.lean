/-! ===== the shapes of the landed class's cells ===== -/
def isP (S : nH) (o cap : Nat) : Prop := S[o]? = some (4, ci_Plugs, [(3, 1), (3, 2), (0, 0)]) ∧ S[o + 1]? = some (0, cap, []) ∧ S[o + 2]? = some (0, cap, []) ∧ cap < 2147483648
def isN (S : nH) (n : Nat) : Prop := S[n]? = some (4, ci_Net, [(3, 1), (3, 2), (3, 3), (3, 4), (3, 5), (0, 0)]) ∧ S[n + 1]? = some (0, 10, []) ∧ S[n + 2]? = some (0, 10, []) ∧ S[n + 3]? = some (0, 10, []) ∧ S[n + 4]? = some (0, 10, []) ∧ S[n + 5]? = some (1, 10, [])
def isD (S : nH) (d : Nat) : Prop := S[d]? = some (4, ci_Draws, [(3, 1), (3, 2), (3, 3), (3, 4), (3, 5), (3, 6), (0, 0)]) ∧ S[d + 1]? = some (0, 60, []) ∧ S[d + 2]? = some (0, 60, []) ∧ S[d + 3]? = some (0, 60, []) ∧ S[d + 4]? = some (0, 60, []) ∧ S[d + 5]? = some (0, 60, []) ∧ S[d + 6]? = some (0, 60, [])
def isW (S : nH) (w nn : Nat) : Prop := S[w]? = some (4, ci_Water, [(2, nn), (3, 1), (3, 2), (3, 5), (3, 8), (3, 11), (3, 12), (3, 13), (0, 0), (0, 0), (0, 0), (1, 0), (1, 0), (1, 0)]) ∧ isN S nn ∧ S[w + 1]? = some (3, 10, [(13, 3), (10, 0)]) ∧ isP S (w + 2) 121 ∧ isP S (w + 5) 121 ∧ isP S (w + 8) 121 ∧ S[w + 11]? = some (0, 10, []) ∧ S[w + 12]? = some (0, 10, []) ∧ S[w + 13]? = some (0, 10, []) ∧ ∀ i, i < 10 → isP S (w + 1 + 13 + 3 * i) 12
theorem isW_net {S : nH} {w nn : Nat} (h : isW S w nn) : isN S nn := h.2.1
theorem isW_rows {S : nH} {w nn : Nat} (h : isW S w nn) : S[w + 1]? = some (3, 10, [(13, 3), (10, 0)]) := h.2.2.1
theorem isW_taken {S : nH} {w nn : Nat} (h : isW S w nn) : isP S (w + 2) 121 := h.2.2.2.1
theorem isW_pushed {S : nH} {w nn : Nat} (h : isW S w nn) : isP S (w + 5) 121 := h.2.2.2.2.1
theorem isW_rest {S : nH} {w nn : Nat} (h : isW S w nn) : isP S (w + 8) 121 := h.2.2.2.2.2.1
theorem isW_way {S : nH} {w nn : Nat} (h : isW S w nn) : S[w + 11]? = some (0, 10, []) := h.2.2.2.2.2.2.1
theorem isW_flow {S : nH} {w nn : Nat} (h : isW S w nn) : S[w + 12]? = some (0, 10, []) := h.2.2.2.2.2.2.2.1
theorem isW_tepid {S : nH} {w nn : Nat} (h : isW S w nn) : S[w + 13]? = some (0, 10, []) := h.2.2.2.2.2.2.2.2.1
theorem isW_row {S : nH} {w nn i : Nat} (h : isW S w nn) (hi : i < 10) : isP S (w + 1 + 13 + 3 * i) 12 := h.2.2.2.2.2.2.2.2.2 i hi
def isH (S : nH) (h : Nat) : Prop := S[h]? = some (4, ci_HL, [(3, 1), (3, 7), (3, 51), (3, 95), (3, 102)]) ∧ isN S (h + 1) ∧ isW S (h + 7) (h + 1) ∧ isW S (h + 51) (h + 1) ∧ isD S (h + 95) ∧ S[h + 102]? = some (1, 10, [])
theorem isH_net {S : nH} {h : Nat} (q : isH S h) : isN S (h + 1) := q.2.1
theorem isH_water {S : nH} {h : Nat} (q : isH S h) : isW S (h + 7) (h + 1) := q.2.2.1
theorem isH_trial {S : nH} {h : Nat} (q : isH S h) : isW S (h + 51) (h + 1) := q.2.2.2.1
theorem isH_draws {S : nH} {h : Nat} (q : isH S h) : isD S (h + 95) := q.2.2.2.2.1
theorem isH_marked {S : nH} {h : Nat} (q : isH S h) : S[h + 102]? = some (1, 10, []) := q.2.2.2.2.2
