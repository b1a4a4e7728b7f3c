/-! ===== run: a minute's draws ===== -/
abbrev Qd : Type := St × (Nat → Nat → Int)
def dKeep (d : Nat → Nat → Int) (i : Nat) (x y z : Int) : Nat → Nat → Int := va_up (va_up (va_up d 3 (va_up (d 3) i x)) 4 (va_up (d 4) i y)) 5 (va_up (d 5) i z)
def drQ (g : Nat → Nat → Int) (ht mi : Int) (i : Nat) (q : Qd) : Qd := if q.2 1 i = mi then (tkS (g 0) (g 1) ht mi (q.2 0 i).toNat (q.2 2 i) q.1, dKeep q.2 i (Int.tdiv (vw (TK (g 0) (g 1) ht (q.2 0 i).toNat (q.2 2 i) (sR q.1)).2.1) (q.2 2 i)) (mnL 10000 (TK (g 0) (g 1) ht (q.2 0 i).toNat (q.2 2 i) (sR q.1)).2.1) (mxL 0 (TK (g 0) (g 1) ht (q.2 0 i).toNat (q.2 2 i) (sR q.1)).2.1)) else q
def drS (g : Nat → Nat → Int) (ht mi : Int) : Nat → Nat → Qd → Qd
  | 0, _, q => q
  | n + 1, i, q => drS g ht mi n (i + 1) (drQ g ht mi i q)
def DB (cnt dn : Nat) (d : Nat → Nat → Int) : Prop := ∀ i, i < dn → (0 ≤ d 0 i ∧ d 0 i < (cnt : Int)) ∧ (0 ≤ d 1 i ∧ d 1 i ≤ 2999) ∧ (1 ≤ d 2 i ∧ d 2 i ≤ 1000)
def D3 (d : Nat → Nat → Int) : Prop := ∀ i, i < 60 → (0 ≤ d 3 i ∧ d 3 i ≤ 10000) ∧ (0 ≤ d 4 i ∧ d 4 i ≤ 10000) ∧ (0 ≤ d 5 i ∧ d 5 i ≤ 10000)
section
variable {h k a : Nat} {N : nS} {cnt dn : Nat} {g d : Nat → Nat → Int} {mi ht air : Int} {s : St}
theorem tkS_bd {fr vol : Nat → Int} {p : Nat} {v B : Int} (hf : frw fr cnt) (hc : cnt ≤ 10) (hp : p < cnt) (hok : OKR (sR s) cnt vol) (hv : 1 ≤ v ∧ v ≤ 1000) (hh : 0 ≤ ht ∧ ht ≤ 10000) (hb : Bd B s) : Bd (B + 20000000) (tkS fr vol ht mi p v s) := by
  obtain ⟨t1, t2, t3, t4, t5, t6, t7⟩ := TK_ok (p := p) hf hc hp hok hv hh
  obtain ⟨w1, w2⟩ := vw_le _ t2
  have m1 : 0 ≤ v * ht := Int.mul_nonneg (by omega) hh.1
  have m2 : v * ht ≤ v * 10000 := Int.mul_le_mul_of_nonneg_left hh.2 (by omega)
  obtain ⟨⟨b1, b2⟩, ⟨b3, b4⟩, ⟨b5, b6⟩⟩ := hb
  have eG : sG (tkS fr vol ht mi p v s) = sG s + v * ht := rfl
  have eO : sO (tkS fr vol ht mi p v s) = sO s + vw (TK fr vol ht p v (sR s)).2.1 := rfl
  have eL : sL (tkS fr vol ht mi p v s) = sL s + (TK fr vol ht p v (sR s)).2.2 := rfl
  refine ⟨?_, ?_, ?_⟩
  · rw [eG]; omega
  · rw [eO]; omega
  · rw [eL]; omega
theorem tkS_fb {fr vol : Nat → Int} {p : Nat} {v : Int} (hm : 0 ≤ mi) (hb : FB mi s) : FB mi (tkS fr vol ht mi p v s) := fun q hq => by
  refine ⟨?_, (hb q hq).2⟩
  show -1 ≤ (if q ∈ ch fr 10 (p : Int) then mi else sF s q) ∧ (if q ∈ ch fr 10 (p : Int) then mi else sF s q) ≤ mi
  split
  · omega
  · exact (hb q hq).1
theorem tdiv_bd {x v : Int} (hv : 1 ≤ v) (hx : 0 ≤ x ∧ x ≤ v * 10000) : 0 ≤ Int.tdiv x v ∧ Int.tdiv x v ≤ 10000 := by
  rw [Int.tdiv_eq_ediv_of_nonneg hx.1]
  refine ⟨Int.ediv_nonneg hx.1 (by omega), ?_⟩
  have := Int.ediv_le_ediv (show 0 < v by omega) hx.2
  rw [Int.mul_ediv_cancel_left _ (by omega : v ≠ 0)] at this
  exact this
theorem drQ_ok {i : Nat} {q : Qd} {B : Int} (hP : PN cnt (g 0) (g 1) (g 2) (g 3)) (hh : 0 ≤ ht ∧ ht ≤ 10000) (hm : 0 ≤ mi) (hi : i < dn) (hok : OKR (sR q.1) cnt (g 1)) (hD : DB cnt dn q.2) (h3 : D3 q.2) (hB : Bd B q.1) (hF : FB mi q.1) : OKR (sR (drQ g ht mi i q).1) cnt (g 1) ∧ DB cnt dn (drQ g ht mi i q).2 ∧ D3 (drQ g ht mi i q).2 ∧ Bd (B + 20000000) (drQ g ht mi i q).1 ∧ FB mi (drQ g ht mi i q).1 := by
  obtain ⟨hc, hf, hvo, _⟩ := hP
  rw [drQ]
  split
  · obtain ⟨p0, _, p2⟩ := hD i hi
    have hp : (q.2 0 i).toNat < cnt := by omega
    obtain ⟨t1, t2, t3, t4, t5, t6, t7⟩ := TK_ok (p := (q.2 0 i).toNat) hf hc hp hok p2 hh
    have w := vw_le _ t2
    rw [t4] at w
    have wa := tdiv_bd p2.1 w
    have wb := mnL_le _ 10000 (by omega) (by omega) t2
    have wc := mxL_le _ 0 (by omega) (by omega) t2
    refine ⟨t1, hD, fun j hj => ?_, tkS_bd hf hc hp hok p2 hh hB, tkS_fb hm hF⟩
    obtain ⟨j1, j2, j3⟩ := h3 j hj
    refine ⟨?_, ?_, ?_⟩
    · show 0 ≤ va_up (q.2 3) i _ j ∧ va_up (q.2 3) i _ j ≤ 10000
      by_cases e : j = i
      · subst e; rw [va_up_self]; exact wa
      · rw [va_up_ne _ _ e]; exact j1
    · show 0 ≤ va_up (q.2 4) i _ j ∧ va_up (q.2 4) i _ j ≤ 10000
      by_cases e : j = i
      · subst e; rw [va_up_self]; exact wb
      · rw [va_up_ne _ _ e]; exact j2
    · show 0 ≤ va_up (q.2 5) i _ j ∧ va_up (q.2 5) i _ j ≤ 10000
      by_cases e : j = i
      · subst e; rw [va_up_self]; exact wc
      · rw [va_up_ne _ _ e]; exact j3
  · exact ⟨hok, hD, h3, ⟨by have := hB.1; omega, by have := hB.2.1; omega, by have := hB.2.2; omega⟩, hF⟩
theorem drS_ok (hP : PN cnt (g 0) (g 1) (g 2) (g 3)) (hh : 0 ≤ ht ∧ ht ≤ 10000) (hm : 0 ≤ mi) : ∀ (n i : Nat) (q : Qd) (B : Int), i + n ≤ dn → OKR (sR q.1) cnt (g 1) → DB cnt dn q.2 → D3 q.2 → Bd B q.1 → FB mi q.1 → OKR (sR (drS g ht mi n i q).1) cnt (g 1) ∧ DB cnt dn (drS g ht mi n i q).2 ∧ D3 (drS g ht mi n i q).2 ∧ Bd (B + n * 20000000) (drS g ht mi n i q).1 ∧ FB mi (drS g ht mi n i q).1 := by
  intro n
  induction n with
  | zero => intro i q B _ h1 h2 h3 h4 h5; exact ⟨h1, h2, h3, by rw [show B + ((0 : Nat) : Int) * 20000000 = B by omega]; exact h4, h5⟩
  | succ n ih =>
    intro i q B hi h1 h2 h3 h4 h5
    obtain ⟨k1, k2, k3, k4, k5⟩ := drQ_ok (i := i) hP hh hm (by omega) h1 h2 h3 h4 h5
    have := ih (i + 1) _ _ (by omega) k1 k2 k3 k4 k5
    rw [show B + 20000000 + (n : Int) * 20000000 = B + ((n + 1 : Nat) : Int) * 20000000 by omega] at this
    exact this
/-! the end of a minute: bounds -/
theorem loS_ok {fr vol ld lp : Nat → Int} (hP : PN cnt fr vol ld lp) (hh : 0 ≤ ht ∧ ht ≤ 10000) (hm : 0 ≤ mi) : ∀ (n i : Nat) (s : St) (B : Int), i + n ≤ cnt → OKR (sR s) cnt vol → Bd B s → FB mi s → OKR (sR (loS fr vol lp ht mi n i s)) cnt vol ∧ Bd (B + n * 20000000) (loS fr vol lp ht mi n i s) ∧ FB mi (loS fr vol lp ht mi n i s) := by
  intro n
  induction n with
  | zero => intro i s B _ h1 h4 h5; exact ⟨h1, by rw [show B + ((0 : Nat) : Int) * 20000000 = B by omega]; exact h4, h5⟩
  | succ n ih =>
    intro i s B hi h1 h4 h5
    have e : B + 20000000 + (n : Int) * 20000000 = B + ((n + 1 : Nat) : Int) * 20000000 := by omega
    have hl := hP.2.2.2.2 i (by omega)
    rw [loS]
    split
    · have := ih (i + 1) s (B + 20000000) (by omega) h1 ⟨by have := h4.1; omega, by have := h4.2.1; omega, by have := h4.2.2; omega⟩ h5
      rw [e] at this
      exact this
    · have := ih (i + 1) (tkS fr vol ht mi i (lp i) s) (B + 20000000) (by omega) (TK_ok (p := i) hP.2.1 hP.1 (by omega) h1 (by omega) hh).1 (tkS_bd (p := i) (v := lp i) (mi := mi) hP.2.1 hP.1 (by omega) h1 (by omega) hh h4) (tkS_fb hm h5)
      rw [e] at this
      exact this
theorem coS_ok {fr vol ld lp : Nat → Int} (hP : PN cnt fr vol ld lp) (ha : 0 ≤ air ∧ air ≤ 10000) : ∀ (n i : Nat) (s : St) (B : Int), i + n ≤ cnt → OKR (sR s) cnt vol → Bd B s → (∀ q, q < 10 → (-1 ≤ sF s q ∧ sF s q ≤ mi) ∧ (0 ≤ sT s q ∧ sT s q ≤ mi + (if q < i then 1 else 0))) → OKR (sR (coS air ld n i s)) cnt vol ∧ Bd (B + n * 10000000) (coS air ld n i s) ∧ ∀ q, q < 10 → (-1 ≤ sF (coS air ld n i s) q ∧ sF (coS air ld n i s) q ≤ mi) ∧ (0 ≤ sT (coS air ld n i s) q ∧ sT (coS air ld n i s) q ≤ mi + 1) := by
  intro n
  induction n with
  | zero =>
    intro i s B _ h1 h4 h5
    refine ⟨h1, by rw [show B + ((0 : Nat) : Int) * 10000000 = B by omega]; exact h4, fun q hq => ?_⟩
    have := h5 q hq
    refine ⟨this.1, this.2.1, ?_⟩
    have t := this.2.2
    show sT s q ≤ mi + 1
    split at t <;> omega
  | succ n ih =>
    intro i s B hi h1 h4 h5
    have e : B + 10000000 + (n : Int) * 10000000 = B + ((n + 1 : Nat) : Int) * 10000000 := by omega
    have hl := hP.2.2.2.1 i (by omega)
    obtain ⟨o1, o2, o3, o4, o5, o6⟩ := h1 i (by omega)
    obtain ⟨_, _, c1, c2⟩ := clp_l (air := air) (d := ld i) hl.1 ha (sR s i) o1
    have hB : Bd (B + 10000000) (coP air (ld i) i s) := by
      obtain ⟨⟨b1, b2⟩, ⟨b3, b4⟩, ⟨b5, b6⟩⟩ := h4
      have eL : sL (coP air (ld i) i s) = sL s + cll air (ld i) (sR s i) := rfl
      refine ⟨⟨?_, ?_⟩, ⟨?_, ?_⟩, ?_⟩
      · show -(B + 10000000) ≤ sG s; omega
      · show sG s ≤ B + 10000000; omega
      · show -(B + 10000000) ≤ sO s; omega
      · show sO s ≤ B + 10000000; omega
      · rw [eL]; omega
    have := ih (i + 1) (coP air (ld i) i s) (B + 10000000) (by omega) (coP_ok hl.1 ha h1) hB (fun q hq => by
      obtain ⟨k1, k2, k3⟩ := h5 q hq
      refine ⟨k1, ?_⟩
      show 0 ≤ (if mnL 10000 (coR air (ld i) (sR s i)) < 2500 then sT s else if 4500 < mnL 10000 (coR air (ld i) (sR s i)) then sT s else va_up (sT s) i (sT s i + 1)) q ∧ (if mnL 10000 (coR air (ld i) (sR s i)) < 2500 then sT s else if 4500 < mnL 10000 (coR air (ld i) (sR s i)) then sT s else va_up (sT s) i (sT s i + 1)) q ≤ _
      have kk : sT s q ≤ mi + (if q < i + 1 then 1 else 0) := by
        by_cases u : q < i
        · rw [if_pos u] at k3; rw [if_pos (by omega)]; exact k3
        · rw [if_neg u] at k3; split <;> omega
      split
      · exact ⟨k2, kk⟩
      · split
        · exact ⟨k2, kk⟩
        · by_cases u : q = i
          · subst u
            rw [va_up_self, if_pos (by omega)]
            rw [if_neg (by omega)] at k3
            omega
          · rw [va_up_ne _ _ u]
            exact ⟨k2, kk⟩)
    rw [e] at this
    exact this
theorem emS_ok {fr vol ld lp : Nat → Int} {B : Int} (hP : PN cnt fr vol ld lp) (hh : 0 ≤ ht ∧ ht ≤ 10000) (ha : 0 ≤ air ∧ air ≤ 10000) (hm : 0 ≤ mi) (h1 : OKR (sR s) cnt vol) (h4 : Bd B s) (h5 : FB mi s) : OKR (sR (emS fr vol ld lp cnt ht air mi s)) cnt vol ∧ Bd (B + 300000000) (emS fr vol ld lp cnt ht air mi s) ∧ FB (mi + 1) (emS fr vol ld lp cnt ht air mi s) := by
  have hc := hP.1
  obtain ⟨k1, k2, k3⟩ := loS_ok hP hh hm cnt 0 s B (by omega) h1 h4 h5
  obtain ⟨j1, j2, j3⟩ := coS_ok hP ha cnt 0 _ _ (by omega) k1 k2 (fun q hq => by
    have := k3 q hq
    refine ⟨this.1, this.2.1, ?_⟩
    rw [if_neg (by omega)]
    omega)
  refine ⟨j1, ?_, fun q hq => ?_⟩
  · obtain ⟨⟨b1, b2⟩, ⟨b3, b4⟩, ⟨b5, b6⟩⟩ := j2
    exact ⟨⟨by show _ ≤ sG (coS air ld cnt 0 _); omega, by show sG (coS air ld cnt 0 _) ≤ _; omega⟩, ⟨by show _ ≤ sO (coS air ld cnt 0 _); omega, by show sO (coS air ld cnt 0 _) ≤ _; omega⟩, ⟨by show _ ≤ sL (coS air ld cnt 0 _); omega, by show sL (coS air ld cnt 0 _) ≤ _; omega⟩⟩
  · have := j3 q hq
    exact ⟨⟨this.1.1, by show sF (coS air ld cnt 0 _) q ≤ _; omega⟩, this.2⟩
/-! a minute, a run -/
def mnS (g : Nat → Nat → Int) (cnt dn : Nat) (ht air mi : Int) (q : Qd) : Qd := (emS (g 0) (g 1) (g 2) (g 3) cnt ht air mi (drS g ht mi dn 0 q).1, (drS g ht mi dn 0 q).2)
def ruS (g : Nat → Nat → Int) (cnt dn : Nat) (ht air : Int) : Nat → Int → Qd → Qd
  | 0, _, q => q
  | n + 1, mi, q => ruS g cnt dn ht air n (mi + 1) (mnS g cnt dn ht air mi q)
theorem pur_minute (hP : PurI cnt g mi ht air s dn d) (hm : mi + 1 ≤ 3000) : PurI cnt g (mi + 1) ht air (mnS g cnt dn ht air mi (s, d)).1 dn (mnS g cnt dn ht air mi (s, d)).2 := by
  obtain ⟨a1, a2, a3, a4, a5, a6, a7, a8, a9, a10, a11, a12, a13⟩ := hP
  obtain ⟨k1, k2, k3, k4, k5⟩ := drS_ok (dn := dn) a1 a6 a5.1 dn 0 (s, d) _ (by omega) a4 a9 a10 a11 a12
  obtain ⟨j1, j2, j3⟩ := emS_ok a1 a6 a7 a5.1 k1 k4 k5
  refine ⟨a1, a2, a3, j1, by omega, a6, a7, a8, k2, k3, ?_, j3, fun e => absurd e (by omega)⟩
  obtain ⟨⟨b1, b2⟩, ⟨b3, b4⟩, ⟨b5, b6⟩⟩ := j2
  have hb : mi * 2000000000 + (dn : Int) * 20000000 + 300000000 ≤ (mi + 1) * 2000000000 := by omega
  exact ⟨⟨by show _ ≤ sG (emS _ _ _ _ _ _ _ _ _); omega, by show sG (emS _ _ _ _ _ _ _ _ _) ≤ _; omega⟩, ⟨by show _ ≤ sO (emS _ _ _ _ _ _ _ _ _); omega, by show sO (emS _ _ _ _ _ _ _ _ _) ≤ _; omega⟩, ⟨by show _ ≤ sL (emS _ _ _ _ _ _ _ _ _); omega, by show sL (emS _ _ _ _ _ _ _ _ _) ≤ _; omega⟩⟩
theorem pur_run : ∀ (n : Nat) (mi : Int) (s : St) (d : Nat → Nat → Int), PurI cnt g mi ht air s dn d → mi + n ≤ 3000 → PurI cnt g (mi + n) ht air (ruS g cnt dn ht air n mi (s, d)).1 dn (ruS g cnt dn ht air n mi (s, d)).2 := by
  intro n
  induction n with
  | zero => intro mi s d hP _; rw [show mi + ((0 : Nat) : Int) = mi by omega]; exact hP
  | succ n ih =>
    intro mi s d hP hm
    have := ih (mi + 1) _ _ (pur_minute hP (by omega)) (by omega)
    rw [show mi + 1 + (n : Int) = mi + ((n + 1 : Nat) : Int) by omega] at this
    exact this
/-! the class -/
theorem ok_keep {dd i o : Nat} {T : Rw} {v : Int} (hi : i < dn) (hd : dn ≤ 60) (ho : o + 2 < dd) (h6 : N dd 6 = (dn : Int)) (hT : RP N o 121 T) (wT : wl T) (tT : tv T = v) (hv : 1 ≤ v ∧ v ≤ 1000) (h3 : N (dd + 3) i = v) : Ok (m_Draws_keepAnswer dd (i : Int) o 121 N) (fun _ N' => N' (dd + 4) = va_up (N (dd + 4)) i (Int.tdiv (vw T) v) ∧ N' (dd + 5) = va_up (N (dd + 5)) i (mnL 10000 T) ∧ N' (dd + 6) = va_up (N (dd + 6)) i (mxL 0 T) ∧ ∀ j, j ≠ dd + 4 → j ≠ dd + 5 → j ≠ dd + 6 → N' j = N j) := by
  have w := vw_le _ wT
  rw [tT] at w
  rw [m_Draws_keepAnswer]
  refine ok_f (by omega) ?_
  rw [h6]
  refine ok_ck ⟨by omega, by omega⟩ ?_
  refine ok_t (by omega) ?_
  refine ok_nbd (ok_Plugs_vtw (by omega) hT wT (by omega)) (fun r4 N5 q => ?_)
  obtain ⟨rfl, rfl⟩ := q
  refine ok_ck ⟨by omega, by omega⟩ ?_
  rw [Int.toNat_natCast, h3]
  have ev : (if 1 < v then v else 1) = v := by split <;> omega
  rw [ev]
  refine ok_ck ⟨by omega, by omega⟩ ?_
  refine ok_ck ⟨by omega, by omega⟩ ?_
  refine ok_ck ⟨by omega, by omega⟩ ?_
  refine ok_ck (by omega) ?_
  refine ok_nlt (fun N12 e12 => ?_)
  have T12 : RP N12 o 121 T := RP_of hT (up2_n e12 (by omega)) (up2_n e12 (by omega)) (up2_n e12 (by omega))
  refine ok_nbd (ok_Plugs_least (by omega) T12 wT) (fun r14 N15 q => ?_)
  obtain ⟨rfl, rfl⟩ := q
  refine ok_nlt (fun N17 e17 => ?_)
  have T17 : RP N17 o 121 T := RP_of T12 (up2_n e17 (by omega)) (up2_n e17 (by omega)) (up2_n e17 (by omega))
  refine ok_nbd (ok_Plugs_greatest (by omega) T17 wT) (fun r19 N20 q => ?_)
  obtain ⟨rfl, rfl⟩ := q
  refine ok_nlt (fun N22 e22 => ok_ret ⟨?_, ?_, ?_, fun j j4 j5 j6 => ?_⟩)
  · rw [up2_n e22 (by omega), up2_n e17 (by omega), up2_at e12]
  · rw [up2_n e22 (by omega), up2_at e17, up2_n e12 (by omega)]
  · rw [up2_at e22, up2_n e17 (by omega), up2_n e12 (by omega)]
  · rw [up2_n e22 j6, up2_n e17 j5, up2_n e12 j4]
theorem ok_td (hP : PN cnt (g 0) (g 1) (g 2) (g 3)) (hh : 0 ≤ ht ∧ ht ≤ 10000) (hm : 0 ≤ mi ∧ mi ≤ 3000) (hdn : dn ≤ 60) : ∀ (f n i : Nat) (N : nS) (s : St) (d : Nat → Nat → Int), n < f → i + n = dn → OKR (sR s) cnt (g 1) → DB cnt dn d → ClsI h N cnt g mi ht air s dn d → Ok (m_HL_takeDraws_2 h f (i : Int) N) (fun _ N' => ClsI h N' cnt g mi ht air (drS g ht mi n i (s, d)).1 dn (drS g ht mi n i (s, d)).2 ∧ ∀ j, h + 103 ≤ j → N' j = N j) := by
  have hc := hP.1
  intro f
  induction f with
  | zero => intro n i N s d h1; omega
  | succ f ih =>
    intro n i N s d h1 h2 hok hD H
    have H' := H
    obtain ⟨a1, a2, a3, a4, a5, a6, a7, a8, a9⟩ := H
    rw [m_HL_takeDraws_2, a7]
    refine ok_ck ⟨by omega, by omega⟩ ?_
    refine ok_if (fun c1 => ?_) (fun c1 => ?_)
    · have e : n = 0 := by omega
      subst e
      exact ok_ret ⟨H', fun _ _ => rfl⟩
    · obtain ⟨n, rfl⟩ : ∃ m, n = m + 1 := ⟨n - 1, by omega⟩
      have hi : i < dn := by omega
      obtain ⟨p0, p1, p2⟩ := hD i hi
      obtain ⟨e0, e1, e2⟩ := a8 i hi
      refine ok_ck ⟨by omega, by omega⟩ ?_
      rw [Int.toNat_natCast, e0, e1, e2, a4]
      refine ok_ck ⟨by omega, by omega⟩ ?_
      refine ok_ck ⟨by omega, by omega⟩ ?_
      rw [show (i : Int) + 1 = ((i + 1 : Nat) : Int) by omega, drS, drQ]
      refine ok_if (fun c2 => ?_) (fun c2 => ?_)
      · refine ok_ck ⟨by omega, by omega⟩ ?_
        refine ok_ck ⟨by omega, by omega⟩ ?_
        rw [if_pos c2]
        have hp : (d 0 i).toNat < cnt := by omega
        obtain ⟨t1, t2, t3, t4, t5, t6, t7⟩ := TK_ok (p := (d 0 i).toNat) hP.2.1 hc hp hok p2 hh
        have tko := ok_takeS (w := h + 7) (nn := h + 1) (p := (d 0 i).toNat) hP (by omega) hp a1 a3 hok p2 a5 hh a4
        rw [show (((d 0 i).toNat : Nat) : Int) = d 0 i by omega] at tko
        refine ok_nbd tko (fun r10 N11 q => ?_)
        obtain ⟨q1, q2, q3⟩ := q
        have s3 := q3.1
        refine ok_nbd (ok_keep (dn := dn) (dd := h + 95) (T := (TK (g 0) (g 1) ht (d 0 i).toNat (d 2 i) (sR s)).2.1) (v := d 2 i) hi hdn (by omega) (by rw [s3 _ (by omega)]; exact a7) q2 t2 t4 p2 (by rw [s3 _ (by omega)]; exact e2)) (fun r13 N14 q => ?_)
        obtain ⟨u4, u5, u6, u⟩ := q
        refine ok_ck ⟨by omega, by omega⟩ ?_
        have st : ∀ j, j < h + 7 ∨ h + 51 ≤ j → j ≠ h + 95 + 4 → j ≠ h + 95 + 5 → j ≠ h + 95 + 6 → N14 j = N j := fun j j1 j4 j5 j6 => by rw [u j j4 j5 j6, s3 j (by omega)]
        refine ok_mono (ih n (i + 1) N14 (tkS (g 0) (g 1) ht mi (d 0 i).toNat (d 2 i) s) (dKeep d i _ _ _) (by omega) (by omega) t1 hD ⟨NT_of a1 (fun j _ _ => st j (by omega) (by omega) (by omega) (by omega)), fun p hp => ?_, CW_of hc q1 (fun j _ _ => u j (by omega) (by omega) (by omega)), ?_, ?_, ?_, ?_, fun j hj => ?_, fun j hj => ?_⟩) (fun r N' t => ⟨t.1, fun j hj => by rw [t.2 j hj, st j (by omega) (by omega) (by omega) (by omega)]⟩)
        · rw [st _ (by omega) (by omega) (by omega) (by omega), st _ (by omega) (by omega) (by omega) (by omega)]; exact a2 p hp
        · rw [u _ (by omega) (by omega) (by omega), q3.2.1]; exact a4
        · rw [u _ (by omega) (by omega) (by omega), q3.2.2.1]; exact a5
        · rw [u _ (by omega) (by omega) (by omega), q3.2.2.2]; exact a6
        · rw [st _ (by omega) (by omega) (by omega) (by omega)]; exact a7
        · rw [st _ (by omega) (by omega) (by omega) (by omega), st _ (by omega) (by omega) (by omega) (by omega), st _ (by omega) (by omega) (by omega) (by omega)]; exact a8 j hj
        · rw [u4, u5, u6, s3 _ (by omega), s3 _ (by omega), s3 _ (by omega)]
          obtain ⟨w3, w4, w5⟩ := a9 j hj
          show va_up (N (h + 95 + 4)) i _ j = va_up (d 3) i _ j ∧ va_up (N (h + 95 + 5)) i _ j = va_up (d 4) i _ j ∧ va_up (N (h + 95 + 6)) i _ j = va_up (d 5) i _ j
          by_cases e : j = i
          · subst e; simp only [va_up_self]; exact ⟨trivial, trivial, trivial⟩
          · rw [va_up_ne _ _ e, va_up_ne _ _ e, va_up_ne _ _ e, va_up_ne _ _ e, va_up_ne _ _ e, va_up_ne _ _ e]
            exact ⟨w3, w4, w5⟩
      · refine ok_ck ⟨by omega, by omega⟩ ?_
        rw [if_neg c2]
        exact ih n (i + 1) N s d (by omega) (by omega) hok hD H'
theorem cls_minute {F : Int → nS → Option ((Int) × nS)} {Q : Int → nS → Prop} (hP : PurI cnt g mi ht air s dn d) (H : ClsI h N cnt g mi ht air s dn d) (hF : ∀ r N', ClsI h N' cnt g (mi + 1) ht air (mnS g cnt dn ht air mi (s, d)).1 dn (mnS g cnt dn ht air mi (s, d)).2 → (∀ j, h + 103 ≤ j → N' j = N j) → Ok (F r N') Q) : Ok (nbd (m_HL_takeDraws h N) (fun r8 N9 => nbd (m_Water_endMinute (h + 7) (h + 1) N9) F)) Q := by
  obtain ⟨p1, p2, p3, p4, p5, p6, p7, p8, p9, p10, p11, p12, p13⟩ := hP
  have hc := p1.1
  have k1 := (drS_ok (dn := dn) p1 p6 p5.1 dn 0 (s, d) _ (by omega) p4 p9 p10 p11 p12).1
  rw [m_HL_takeDraws]
  refine ok_nbd (R := fun _ N' => ClsI h N' cnt g mi ht air (drS g ht mi dn 0 (s, d)).1 dn (drS g ht mi dn 0 (s, d)).2 ∧ ∀ j, h + 103 ≤ j → N' j = N j) (ok_nbd (ok_td p1 p6 p5 p8 FU dn 0 N s d (by show dn < 200; omega) (by omega) p4 p9 H) (fun q N' t => ok_ret t)) (fun r8 N9 t => ?_)
  obtain ⟨⟨a1, a2, a3, a4, a5, a6, a7, a8, a9⟩, t2⟩ := t
  refine ok_nbd (ok_endMinute p1 (by omega) p6 p7 a1 a3 k1 a4 a5 a6) (fun r11 N12 q => ?_)
  obtain ⟨q1, q2, q3, q4, q5, q6⟩ := q
  refine hF r11 N12 ⟨NT_of a1 (fun i _ _ => q3 i (by omega)), fun p hp => ?_, q1, q4, q5, q6, ?_, fun i hi => ?_, fun i hi => ?_⟩ (fun j hj => by rw [q3 j (by omega), t2 j hj])
  · rw [q3 _ (by omega), q3 _ (by omega)]; exact a2 p hp
  · rw [q3 _ (by omega)]; exact a7
  · rw [q3 _ (by omega), q3 _ (by omega), q3 _ (by omega)]; exact a8 i hi
  · rw [q3 _ (by omega), q3 _ (by omega), q3 _ (by omega)]; exact a9 i hi
theorem ok_run_34 {x : Int} (hx : x ≤ 100) : ∀ (f n : Nat) (j : Int) (N : nS) (mi : Int) (s : St) (d : Nat → Nat → Int), n < f → 0 ≤ j → j + n = x → mi + n ≤ 3000 → PurI cnt g mi ht air s dn d → ClsI h N cnt g mi ht air s dn d → Ok (m_HL_run_34 h x f j N) (fun _ N' => ClsI h N' cnt g (mi + n) ht air (ruS g cnt dn ht air n mi (s, d)).1 dn (ruS g cnt dn ht air n mi (s, d)).2 ∧ ∀ i, h + 103 ≤ i → N' i = N i) := by
  intro f
  induction f with
  | zero => intro n j N mi s d h1; omega
  | succ f ih =>
    intro n j N mi s d h1 h0 h2 h3 hP H
    rw [m_HL_run_34]
    refine ok_if (fun c1 => ?_) (fun c1 => ?_)
    · have e : n = 0 := by omega
      subst e
      refine ok_ret ⟨?_, fun _ _ => rfl⟩
      rw [show mi + ((0 : Nat) : Int) = mi by omega]
      exact H
    · obtain ⟨n, rfl⟩ : ∃ m, n = m + 1 := ⟨n - 1, by omega⟩
      refine cls_minute hP H (fun r N' t1 t2 => ?_)
      refine ok_ck ⟨by omega, by omega⟩ ?_
      refine ok_mono (ih n (j + 1) N' (mi + 1) _ _ (by omega) (by omega) (by omega) (by omega) (pur_minute hP (by omega)) t1) (fun q N2 t => ⟨?_, fun i hi => by rw [t.2 i hi, t2 i hi]⟩)
      have := t.1
      rw [show mi + 1 + (n : Int) = mi + ((n + 1 : Nat) : Int) by omega] at this
      exact this
/-! the reference -/
theorem ok_mrun_53 {x1 x2 : Int} (hP : PN cnt (g 0) (g 1) (g 2) (g 3)) (hh : 0 ≤ ht ∧ ht ≤ 10000) (hm : 0 ≤ mi ∧ mi ≤ 3000) (hdn : dn ≤ 60) : ∀ (f n i : Nat) (N : nS) (s : St) (d : Nat → Nat → Int), n < f → i + n = dn → OKR (sR s) cnt (g 1) → DB cnt dn d → RefI k N cnt g mi ht air s dn d → Ok (m_Mo_run_53 k x1 x2 f (i : Int) N) (fun _ N' => RefI k N' cnt g mi ht air (drS g ht mi n i (s, d)).1 dn (drS g ht mi n i (s, d)).2 ∧ N' k 0 = N k 0 ∧ ∀ j, j < k ∨ k + 28 ≤ j → N' j = N j) := by
  have hc := hP.1
  intro f
  induction f with
  | zero => intro n i N s d h1; omega
  | succ f ih =>
    intro n i N s d h1 h2 hok hD H
    have H' := H
    obtain ⟨a1, a2, a3, a4, a5, a6, a7, a8, a9⟩ := H
    rw [m_Mo_run_53, a7]
    refine ok_ck ⟨by omega, by omega⟩ ?_
    refine ok_if (fun c1 => ?_) (fun c1 => ?_)
    · have e : n = 0 := by omega
      subst e
      exact ok_ret ⟨H', rfl, fun _ _ => rfl⟩
    · obtain ⟨n, rfl⟩ : ∃ m, n = m + 1 := ⟨n - 1, by omega⟩
      have hi : i < dn := by omega
      obtain ⟨p0, p1, p2⟩ := hD i hi
      obtain ⟨e0, e1, e2⟩ := a8 i hi
      refine ok_ck ⟨by omega, by omega⟩ ?_
      rw [Int.toNat_natCast, e0, e1, e2, a4]
      refine ok_ck ⟨by omega, by omega⟩ ?_
      refine ok_ck ⟨by omega, by omega⟩ ?_
      rw [show (i : Int) + 1 = ((i + 1 : Nat) : Int) by omega, drS, drQ]
      refine ok_if (fun c2 => ?_) (fun c2 => ?_)
      · refine ok_ck ⟨by omega, by omega⟩ ?_
        refine ok_ck ⟨by omega, by omega⟩ ?_
        rw [if_pos c2]
        have hp : (d 0 i).toNat < cnt := by omega
        obtain ⟨t1, t2, t3, t4, t5, t6, t7⟩ := TK_ok (p := (d 0 i).toNat) hP.2.1 hc hp hok p2 hh
        have w := vw_le _ t2
        rw [t4] at w
        have tko := ok_mtake (k := k) (p := (d 0 i).toNat) hP hp a1 a3 hok p2 a5 hh a4
        rw [show (((d 0 i).toNat : Nat) : Int) = d 0 i by omega] at tko
        refine ok_nbd tko (fun r21 N22 q => ?_)
        obtain ⟨q1, q2, q3, q4, q5⟩ := q
        obtain ⟨f1, f2⟩ := q5
        rw [f1 (k + 13) (by omega) (by omega) (by omega), e2, q2]
        refine ok_ck ⟨by omega, by omega⟩ ?_
        refine ok_ck ⟨by omega, by omega⟩ ?_
        refine ok_ck ⟨by omega, by omega⟩ ?_
        refine ok_ck (by omega) ?_
        refine ok_nlt (fun N28 e28 => ?_)
        rw [up2_n e28 (show k ≠ k + 14 by omega), q3]
        refine ok_nlt (fun N30 e30 => ?_)
        rw [up2_n e30 (show k ≠ k + 15 by omega), up2_n e28 (show k ≠ k + 14 by omega), q4]
        refine ok_nlt (fun N32 e32 => ?_)
        refine ok_ck ⟨by omega, by omega⟩ ?_
        have u : ∀ j, j ≠ k + 14 → j ≠ k + 15 → j ≠ k + 16 → N32 j = N22 j := fun j j1 j2 j3 => by rw [up2_n e32 j3, up2_n e30 j2, up2_n e28 j1]
        have st : ∀ j, j ≠ k → (j < k + 6 ∨ k + 10 ≤ j) → j < k + 14 ∨ k + 22 ≤ j → N32 j = N j := fun j j0 j1 j2 => by rw [u j (by omega) (by omega) (by omega), f1 j j0 j1 (by omega)]
        have sk : ∀ j, j < 22 → N32 k j = N k j := fun j hj => by rw [u k (by omega) (by omega) (by omega), f2 j (by omega)]
        have u4 : N32 (k + 14) = va_up (N (k + 14)) i (Int.tdiv (vw (TK (g 0) (g 1) ht (d 0 i).toNat (d 2 i) (sR s)).2.1) (d 2 i)) := by rw [up2_n e32 (by omega), up2_n e30 (by omega), up2_at e28, f1 _ (by omega) (by omega) (by omega)]
        have u5 : N32 (k + 15) = va_up (N (k + 15)) i (mnL 10000 (TK (g 0) (g 1) ht (d 0 i).toNat (d 2 i) (sR s)).2.1) := by rw [up2_n e32 (by omega), up2_at e30, up2_n e28 (by omega), f1 _ (by omega) (by omega) (by omega)]
        have u6 : N32 (k + 16) = va_up (N (k + 16)) i (mxL 0 (TK (g 0) (g 1) ht (d 0 i).toNat (d 2 i) (sR s)).2.1) := by rw [up2_at e32, up2_n e30 (by omega), up2_n e28 (by omega), f1 _ (by omega) (by omega) (by omega)]
        refine ok_mono (ih n (i + 1) N32 (tkS (g 0) (g 1) ht mi (d 0 i).toNat (d 2 i) s) (dKeep d i _ _ _) (by omega) (by omega) t1 hD ⟨NR_of a1 (sk 1 (by omega)) (fun j _ _ => st j (by omega) (by omega) (by omega)), fun p hp => ?_, CR_of q1 (fun j _ _ => u j (by omega) (by omega) (by omega)) (fun j _ => by rw [u k (by omega) (by omega) (by omega)]), ?_, ?_, ?_, ?_, fun j hj => ?_, fun j hj => ?_⟩) (fun r N' t => ⟨t.1, t.2.1.trans (sk 0 (by omega)), fun j hj => by rw [t.2.2 j hj, st j (by omega) (by omega) (by omega)]⟩)
        · rw [st _ (by omega) (by omega) (by omega), st _ (by omega) (by omega) (by omega)]; exact a2 p hp
        · rw [sk _ (by omega)]; exact a4
        · rw [sk _ (by omega)]; exact a5
        · rw [sk _ (by omega)]; exact a6
        · rw [sk _ (by omega)]; exact a7
        · rw [st _ (by omega) (by omega) (by omega), st _ (by omega) (by omega) (by omega), st _ (by omega) (by omega) (by omega)]; exact a8 j hj
        · rw [u4, u5, u6]
          obtain ⟨w3, w4, w5⟩ := a9 j hj
          show va_up (N (k + 14)) i _ j = va_up (d 3) i _ j ∧ va_up (N (k + 15)) i _ j = va_up (d 4) i _ j ∧ va_up (N (k + 16)) i _ j = va_up (d 5) i _ j
          by_cases e : j = i
          · subst e; simp only [va_up_self]; exact ⟨trivial, trivial, trivial⟩
          · rw [va_up_ne _ _ e, va_up_ne _ _ e, va_up_ne _ _ e, va_up_ne _ _ e, va_up_ne _ _ e, va_up_ne _ _ e]
            exact ⟨w3, w4, w5⟩
      · refine ok_ck ⟨by omega, by omega⟩ ?_
        rw [if_neg c2]
        exact ih n (i + 1) N s d (by omega) (by omega) hok hD H'
theorem ok_mrun_46 {x : Int} (hx : x ≤ 100) : ∀ (f n : Nat) (j : Int) (N : nS) (mi : Int) (s : St) (d : Nat → Nat → Int), n < f → 0 ≤ j → j + n = x → mi + n ≤ 3000 → PurI cnt g mi ht air s dn d → RefI k N cnt g mi ht air s dn d → Ok (m_Mo_run_46 k x f j N) (fun _ N' => RefI k N' cnt g (mi + n) ht air (ruS g cnt dn ht air n mi (s, d)).1 dn (ruS g cnt dn ht air n mi (s, d)).2 ∧ N' k 0 = N k 0 ∧ ∀ i, i < k ∨ k + 28 ≤ i → N' i = N i) := by
  intro f
  induction f with
  | zero => intro n j N mi s d h1; omega
  | succ f ih =>
    intro n j N mi s d h1 h0 h2 h3 hP H
    rw [m_Mo_run_46]
    refine ok_if (fun c1 => ?_) (fun c1 => ?_)
    · have e : n = 0 := by omega
      subst e
      refine ok_ret ⟨?_, rfl, fun _ _ => rfl⟩
      rw [show mi + ((0 : Nat) : Int) = mi by omega]
      exact H
    · obtain ⟨n, rfl⟩ : ∃ m, n = m + 1 := ⟨n - 1, by omega⟩
      have hP' := hP
      obtain ⟨p1, p2, p3, p4, p5, p6, p7, p8, p9, p10, p11, p12, p13⟩ := hP
      have k1 := (drS_ok (dn := dn) p1 p6 p5.1 dn 0 (s, d) _ (by omega) p4 p9 p10 p11 p12).1
      refine ok_nbd (ok_mrun_53 p1 p6 p5 p8 FU dn 0 N s d (by show dn < 200; omega) (by omega) p4 p9 H) (fun q35 N36 t => ?_)
      obtain ⟨⟨a1, a2, a3, a4, a5, a6, a7, a8, a9⟩, t0, t2⟩ := t
      refine ok_nbd (ok_rest p1 p6 p7 a1 a3 k1 a5 a6 a4) (fun r38 N39 q => ?_)
      obtain ⟨q1, q2, q3, q4⟩ := q
      refine ok_nlt (fun N41 e41 => ?_)
      refine ok_ck ⟨by omega, by omega⟩ ?_
      have st : ∀ i, i ≠ k → (i < k + 6 ∨ k + 11 ≤ i) → (i < k + 17 ∨ k + 22 ≤ i) → N41 i = N36 i := fun i i0 i1 i2 => by rw [up2_n e41 i0, q3 i i0 i1 i2]
      have sk : ∀ j, j ≠ 9 → j < 22 → N41 k j = N36 k j := fun j j9 hj => by rw [up2_at e41, va_up_ne _ _ j9, q4 j (by omega)]
      refine ok_mono (ih n (j + 1) N41 (mi + 1) _ _ (by omega) (by omega) (by omega) (by omega) (pur_minute hP' (by omega)) ⟨NR_of a1 (sk 1 (by omega) (by omega)) (fun i _ _ => st i (by omega) (by omega) (by omega)), fun p hp => ?_, CR_of q1 (fun i _ _ => up2_n e41 (by omega)) (fun j hj => by rw [up2_at e41, va_up_ne _ _ (by omega)]), ?_, ?_, ?_, ?_, fun i hi => ?_, fun i hi => ?_⟩) (fun q N2 t => ⟨?_, ?_, fun i hi => by rw [t.2.2 i hi, st i (by omega) (by omega) (by omega), t2 i hi]⟩)
      · rw [st _ (by omega) (by omega) (by omega), st _ (by omega) (by omega) (by omega)]; exact a2 p hp
      · rw [up2_v e41, q4 9 (by omega), a4]
      · rw [sk _ (by omega) (by omega)]; exact a5
      · rw [sk _ (by omega) (by omega)]; exact a6
      · rw [sk _ (by omega) (by omega)]; exact a7
      · rw [st _ (by omega) (by omega) (by omega), st _ (by omega) (by omega) (by omega), st _ (by omega) (by omega) (by omega)]; exact a8 i hi
      · rw [st _ (by omega) (by omega) (by omega), st _ (by omega) (by omega) (by omega), st _ (by omega) (by omega) (by omega)]; exact a9 i hi
      · have := t.1
        rw [show mi + 1 + (n : Int) = mi + ((n + 1 : Nat) : Int) by omega] at this
        exact this
      · rw [t.2.1, sk 0 (by omega) (by omega), t0]
theorem both_run {x : Int} (ha : h + 103 ≤ a) (hP : PurI cnt g mi ht air s dn d) (HC : ClsI h N cnt g mi ht air s dn d) : Both h k a N (m_Law_run h x a N) (fun N3 => m_Mo_run k x N3) cnt g mi ht air s dn d := by
  have hc := hP.1.1
  have hmi := hP.2.2.2.2.1
  by_cases hx : 1 ≤ x ∧ x ≤ 100
  · by_cases hA : mi + x ≤ 3000
    · obtain ⟨n, rfl⟩ : ∃ n : Nat, x = (n : Int) := ⟨x.toNat, by omega⟩
      have hv : (0 : Int) = 0 → rg (mi + (n : Int)) := fun _ => ⟨by omega, by omega⟩
      refine ⟨0, mi + (n : Int), cnt, g, mi + (n : Int), ht, air, (ruS g cnt dn ht air n mi (s, d)).1, dn, (ruS g cnt dn ht air n mi (s, d)).2, Or.inl rfl, hv, pur_run n mi s d hP hA, wrap2 hc ha hv (Or.inl rfl) ?_, fun N3 H3 => ?_⟩
      · rw [m_HL_run]
        refine gateW (fun _ => ?_) (fun n => absurd hx n)
        rw [HC.2.2.2.1]
        refine ok_ck ⟨by omega, by omega⟩ ?_
        refine ok_t hA ?_
        refine ok_nbd (ok_run_34 hx.2 FU n 0 N mi s d (by show n < 200; omega) (by omega) (by omega) hA hP HC) (fun q N' t => ?_)
        refine ok_ret ⟨rfl, fun _ => t.1.2.2.2.1, t.1, t.2⟩
      · show Ok (m_Mo_run k (n : Int) N3) _
        rw [m_Mo_run]
        refine gateI (fun _ => ?_) (fun n => absurd hx n)
        rw [H3.2.2.2.1]
        refine ok_ck ⟨by omega, by omega⟩ ?_
        refine ok_t hA ?_
        refine ok_nlt (fun N8 e8 => ?_)
        refine ok_nbd (ok_mrun_46 hx.2 FU n 0 N8 mi s d (by show n < 200; omega) (by omega) (by omega) hA hP (RefI_thr H3 e8)) (fun q N' t => ?_)
        exact ok_ret ⟨t.2.1.trans (up2_v e8), fun _ => t.1.2.2.2.1, t.1, fun i hi => by rw [t.2.2 i hi, up2_n e8 (by omega)]⟩
    · refine ⟨2, 0, cnt, g, mi, ht, air, s, dn, d, Or.inr (Or.inr rfl), fun q => absurd q (by decide), hP, wrap2 hc ha (fun q => absurd q (by decide)) (Or.inr (Or.inr rfl)) ?_, fun N3 H3 => ?_⟩
      · rw [m_HL_run]
        refine gateW (fun _ => ?_) (fun n => absurd hx n)
        rw [HC.2.2.2.1]
        refine ok_ck ⟨by omega, by omega⟩ ?_
        exact ok_f hA (ok_ret (HQ_bad2 HC))
      · show Ok (m_Mo_run k x N3) _
        rw [m_Mo_run]
        refine gateI (fun _ => ?_) (fun n => absurd hx n)
        rw [H3.2.2.2.1]
        refine ok_ck ⟨by omega, by omega⟩ ?_
        exact ok_f hA (ok_nlt (fun N' e => ok_ret (MoQ_bad (by decide) H3 e)))
  · refine ⟨1, 0, cnt, g, mi, ht, air, s, dn, d, Or.inr (Or.inl rfl), fun q => absurd q (by decide), hP, wrap2 hc ha (fun q => absurd q (by decide)) (Or.inr (Or.inl rfl)) ?_, fun N3 H3 => ?_⟩
    · rw [m_HL_run]
      exact gateW (fun c1 => absurd c1 hx) (fun _ => HQ_bad HC)
    · show Ok (m_Mo_run k x N3) _
      rw [m_Mo_run]
      exact gateI (fun c1 => absurd c1 hx) (fun _ N' e => MoQ_bad (by decide) H3 e)
end
