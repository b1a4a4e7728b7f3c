/-! ===== the shapes of the landed class's cells ===== -/
def isP (S : nH) (o cap : Nat) : Prop := S[o]? = some (4, ci_Plugs, [(3, 1), (3, 2), (0, 0)]) ∧ S[o + 1]? = some (0, cap, []) ∧ S[o + 2]? = some (0, cap, []) ∧ cap < 2147483648
def isN (S : nH) (n : Nat) : Prop := S[n]? = some (4, ci_Net, [(3, 1), (3, 2), (3, 3), (3, 4), (3, 5), (0, 0)]) ∧ S[n + 1]? = some (0, 10, []) ∧ S[n + 2]? = some (0, 10, []) ∧ S[n + 3]? = some (0, 10, []) ∧ S[n + 4]? = some (0, 10, []) ∧ S[n + 5]? = some (1, 10, [])
def isD (S : nH) (d : Nat) : Prop := S[d]? = some (4, ci_Draws, [(3, 1), (3, 2), (3, 3), (3, 4), (3, 5), (3, 6), (0, 0)]) ∧ S[d + 1]? = some (0, 60, []) ∧ S[d + 2]? = some (0, 60, []) ∧ S[d + 3]? = some (0, 60, []) ∧ S[d + 4]? = some (0, 60, []) ∧ S[d + 5]? = some (0, 60, []) ∧ S[d + 6]? = some (0, 60, [])
def isW (S : nH) (w nn : Nat) : Prop := S[w]? = some (4, ci_Water, [(2, nn), (3, 1), (3, 2), (3, 5), (3, 8), (3, 11), (3, 12), (3, 13), (0, 0), (0, 0), (0, 0), (1, 0), (1, 0), (1, 0)]) ∧ isN S nn ∧ S[w + 1]? = some (3, 10, [(13, 3), (10, 0)]) ∧ isP S (w + 2) 121 ∧ isP S (w + 5) 121 ∧ isP S (w + 8) 121 ∧ S[w + 11]? = some (0, 10, []) ∧ S[w + 12]? = some (0, 10, []) ∧ S[w + 13]? = some (0, 10, []) ∧ ∀ i, i < 10 → isP S (w + 1 + 13 + 3 * i) 12
theorem isW_net {S : nH} {w nn : Nat} (h : isW S w nn) : isN S nn := h.2.1
theorem isW_rows {S : nH} {w nn : Nat} (h : isW S w nn) : S[w + 1]? = some (3, 10, [(13, 3), (10, 0)]) := h.2.2.1
theorem isW_taken {S : nH} {w nn : Nat} (h : isW S w nn) : isP S (w + 2) 121 := h.2.2.2.1
theorem isW_pushed {S : nH} {w nn : Nat} (h : isW S w nn) : isP S (w + 5) 121 := h.2.2.2.2.1
theorem isW_rest {S : nH} {w nn : Nat} (h : isW S w nn) : isP S (w + 8) 121 := h.2.2.2.2.2.1
theorem isW_way {S : nH} {w nn : Nat} (h : isW S w nn) : S[w + 11]? = some (0, 10, []) := h.2.2.2.2.2.2.1
theorem isW_flow {S : nH} {w nn : Nat} (h : isW S w nn) : S[w + 12]? = some (0, 10, []) := h.2.2.2.2.2.2.2.1
theorem isW_tepid {S : nH} {w nn : Nat} (h : isW S w nn) : S[w + 13]? = some (0, 10, []) := h.2.2.2.2.2.2.2.2.1
theorem isW_row {S : nH} {w nn i : Nat} (h : isW S w nn) (hi : i < 10) : isP S (w + 1 + 13 + 3 * i) 12 := h.2.2.2.2.2.2.2.2.2 i hi
def isH (S : nH) (h : Nat) : Prop := S[h]? = some (4, ci_HL, [(3, 1), (3, 7), (3, 51), (3, 95), (3, 102)]) ∧ isN S (h + 1) ∧ isW S (h + 7) (h + 1) ∧ isW S (h + 51) (h + 1) ∧ isD S (h + 95) ∧ S[h + 102]? = some (1, 10, [])
theorem isH_net {S : nH} {h : Nat} (q : isH S h) : isN S (h + 1) := q.2.1
theorem isH_water {S : nH} {h : Nat} (q : isH S h) : isW S (h + 7) (h + 1) := q.2.2.1
theorem isH_trial {S : nH} {h : Nat} (q : isH S h) : isW S (h + 51) (h + 1) := q.2.2.2.1
theorem isH_draws {S : nH} {h : Nat} (q : isH S h) : isD S (h + 95) := q.2.2.2.2.1
theorem isH_marked {S : nH} {h : Nat} (q : isH S h) : S[h + 102]? = some (1, 10, []) := q.2.2.2.2.2
def isA (S : nH) (a n : Nat) : Prop := S[a]? = some (0, n, []) ∧ n < 2147483648
theorem isA_mk {S : nH} {a n : Nat} (h : S[a]? = some (0, n, [])) (q : n < 2147483648) : isA S a n := ⟨h, q⟩
def isM (S : nH) (k : Nat) : Prop := S[k]? = some (4, ci_Mo, [(0, 0), (0, 0), (3, 1), (3, 2), (3, 3), (3, 4), (3, 5), (0, 0), (0, 0), (0, 0), (3, 6), (3, 7), (3, 8), (3, 9), (3, 10), (0, 0), (3, 11), (3, 12), (3, 13), (3, 14), (3, 15), (3, 16), (1, 0), (1, 0), (1, 0), (0, 0), (3, 17), (3, 18), (0, 0), (3, 19), (3, 20), (3, 21), (1, 0), (0, 0), (0, 0), (3, 22), (3, 23), (3, 24), (3, 25), (3, 26), (3, 27)]) ∧ S[k + 1]? = some (0, 10, []) ∧ S[k + 2]? = some (0, 10, []) ∧ S[k + 3]? = some (0, 10, []) ∧ S[k + 4]? = some (1, 10, []) ∧ S[k + 5]? = some (0, 10, []) ∧ S[k + 6]? = some (0, 10, []) ∧ S[k + 7]? = some (0, 120, []) ∧ S[k + 8]? = some (0, 120, []) ∧ S[k + 9]? = some (0, 10, []) ∧ S[k + 10]? = some (0, 10, []) ∧ S[k + 11]? = some (0, 60, []) ∧ S[k + 12]? = some (0, 60, []) ∧ S[k + 13]? = some (0, 60, []) ∧ S[k + 14]? = some (0, 60, []) ∧ S[k + 15]? = some (0, 60, []) ∧ S[k + 16]? = some (0, 60, []) ∧ S[k + 17]? = some (0, 160, []) ∧ S[k + 18]? = some (0, 160, []) ∧ S[k + 19]? = some (0, 160, []) ∧ S[k + 20]? = some (0, 160, []) ∧ S[k + 21]? = some (0, 10, []) ∧ S[k + 22]? = some (0, 10, []) ∧ S[k + 23]? = some (0, 120, []) ∧ S[k + 24]? = some (0, 120, []) ∧ S[k + 25]? = some (0, 10, []) ∧ S[k + 26]? = some (0, 10, []) ∧ S[k + 27]? = some (1, 10, [])
theorem isM_1 {S : nH} {k : Nat} (h : isM S k) : S[k + 1]? = some (0, 10, []) := h.2.1
theorem isM_2 {S : nH} {k : Nat} (h : isM S k) : S[k + 2]? = some (0, 10, []) := h.2.2.1
theorem isM_3 {S : nH} {k : Nat} (h : isM S k) : S[k + 3]? = some (0, 10, []) := h.2.2.2.1
theorem isM_4 {S : nH} {k : Nat} (h : isM S k) : S[k + 4]? = some (1, 10, []) := h.2.2.2.2.1
theorem isM_5 {S : nH} {k : Nat} (h : isM S k) : S[k + 5]? = some (0, 10, []) := h.2.2.2.2.2.1
theorem isM_6 {S : nH} {k : Nat} (h : isM S k) : S[k + 6]? = some (0, 10, []) := h.2.2.2.2.2.2.1
theorem isM_7 {S : nH} {k : Nat} (h : isM S k) : S[k + 7]? = some (0, 120, []) := h.2.2.2.2.2.2.2.1
theorem isM_8 {S : nH} {k : Nat} (h : isM S k) : S[k + 8]? = some (0, 120, []) := h.2.2.2.2.2.2.2.2.1
theorem isM_9 {S : nH} {k : Nat} (h : isM S k) : S[k + 9]? = some (0, 10, []) := h.2.2.2.2.2.2.2.2.2.1
theorem isM_10 {S : nH} {k : Nat} (h : isM S k) : S[k + 10]? = some (0, 10, []) := h.2.2.2.2.2.2.2.2.2.2.1
theorem isM_11 {S : nH} {k : Nat} (h : isM S k) : S[k + 11]? = some (0, 60, []) := h.2.2.2.2.2.2.2.2.2.2.2.1
theorem isM_12 {S : nH} {k : Nat} (h : isM S k) : S[k + 12]? = some (0, 60, []) := h.2.2.2.2.2.2.2.2.2.2.2.2.1
theorem isM_13 {S : nH} {k : Nat} (h : isM S k) : S[k + 13]? = some (0, 60, []) := h.2.2.2.2.2.2.2.2.2.2.2.2.2.1
theorem isM_14 {S : nH} {k : Nat} (h : isM S k) : S[k + 14]? = some (0, 60, []) := h.2.2.2.2.2.2.2.2.2.2.2.2.2.2.1
theorem isM_15 {S : nH} {k : Nat} (h : isM S k) : S[k + 15]? = some (0, 60, []) := h.2.2.2.2.2.2.2.2.2.2.2.2.2.2.2.1
theorem isM_16 {S : nH} {k : Nat} (h : isM S k) : S[k + 16]? = some (0, 60, []) := h.2.2.2.2.2.2.2.2.2.2.2.2.2.2.2.2.1
theorem isM_17 {S : nH} {k : Nat} (h : isM S k) : S[k + 17]? = some (0, 160, []) := h.2.2.2.2.2.2.2.2.2.2.2.2.2.2.2.2.2.1
theorem isM_18 {S : nH} {k : Nat} (h : isM S k) : S[k + 18]? = some (0, 160, []) := h.2.2.2.2.2.2.2.2.2.2.2.2.2.2.2.2.2.2.1
theorem isM_19 {S : nH} {k : Nat} (h : isM S k) : S[k + 19]? = some (0, 160, []) := h.2.2.2.2.2.2.2.2.2.2.2.2.2.2.2.2.2.2.2.1
theorem isM_20 {S : nH} {k : Nat} (h : isM S k) : S[k + 20]? = some (0, 160, []) := h.2.2.2.2.2.2.2.2.2.2.2.2.2.2.2.2.2.2.2.2.1
theorem isM_21 {S : nH} {k : Nat} (h : isM S k) : S[k + 21]? = some (0, 10, []) := h.2.2.2.2.2.2.2.2.2.2.2.2.2.2.2.2.2.2.2.2.2.1
theorem isM_22 {S : nH} {k : Nat} (h : isM S k) : S[k + 22]? = some (0, 10, []) := h.2.2.2.2.2.2.2.2.2.2.2.2.2.2.2.2.2.2.2.2.2.2.1
theorem isM_23 {S : nH} {k : Nat} (h : isM S k) : S[k + 23]? = some (0, 120, []) := h.2.2.2.2.2.2.2.2.2.2.2.2.2.2.2.2.2.2.2.2.2.2.2.1
theorem isM_24 {S : nH} {k : Nat} (h : isM S k) : S[k + 24]? = some (0, 120, []) := h.2.2.2.2.2.2.2.2.2.2.2.2.2.2.2.2.2.2.2.2.2.2.2.2.1
theorem isM_25 {S : nH} {k : Nat} (h : isM S k) : S[k + 25]? = some (0, 10, []) := h.2.2.2.2.2.2.2.2.2.2.2.2.2.2.2.2.2.2.2.2.2.2.2.2.2.1
theorem isM_26 {S : nH} {k : Nat} (h : isM S k) : S[k + 26]? = some (0, 10, []) := h.2.2.2.2.2.2.2.2.2.2.2.2.2.2.2.2.2.2.2.2.2.2.2.2.2.2.1
theorem isM_27 {S : nH} {k : Nat} (h : isM S k) : S[k + 27]? = some (1, 10, []) := h.2.2.2.2.2.2.2.2.2.2.2.2.2.2.2.2.2.2.2.2.2.2.2.2.2.2.2
