/-! ===== Plugs: split ===== -/
def spl : Rw → Rw → Int → Rw → Rw × Rw
  | F, B, _, [] => (F, B)
  | F, B, op, p :: l => spl (addL F (if p.1 < op then p.1 else op) p.2) (addL B (p.1 - (if p.1 < op then p.1 else op)) p.2) (op - (if p.1 < op then p.1 else op)) l
theorem spl_ok : ∀ (l F B : Rw) (op : Int), wl l → wl F → wl B → 0 ≤ op → wl (spl F B op l).1 ∧ wl (spl F B op l).2 ∧ tv (spl F B op l).1 = tv F + (if tv l < op then tv l else op) ∧ tv (spl F B op l).1 + tv (spl F B op l).2 = tv F + tv B + tv l ∧ ex (spl F B op l).1 = ex F ++ (ex l).take op.toNat ∧ ex (spl F B op l).2 = ex B ++ (ex l).drop op.toNat := by
  intro l
  induction l with
  | nil =>
    intro F B op _ hF hB ho
    refine ⟨hF, hB, ?_, ?_, ?_, ?_⟩
    · show tv F = tv F + (if (0 : Int) < op then 0 else op)
      split <;> omega
    · show tv F + tv B = tv F + tv B + 0
      omega
    · show ex F = ex F ++ List.take op.toNat []
      simp
    · show ex B = ex B ++ List.drop op.toNat []
      simp
  | cons p l ih =>
    intro F B op hl hF hB ho
    obtain ⟨hp, hl2⟩ := wl_cons hl
    have hn := tv_nn hl2
    obtain ⟨q, hq⟩ : ∃ q, q = (if p.1 < op then p.1 else op) := ⟨_, rfl⟩
    have hq1 : 0 ≤ q ∧ q ≤ p.1 ∧ q ≤ op ∧ (q = p.1 ∨ q = op) := by
      rw [hq]; split <;> omega
    have hs : spl F B op (p :: l) = spl (addL F q p.2) (addL B (p.1 - q) p.2) (op - q) l := by rw [hq]; rfl
    obtain ⟨a1, a2, a3, a4, a5, a6⟩ := ih (addL F q p.2) (addL B (p.1 - q) p.2) (op - q) hl2 (wl_addL hF hp.2) (wl_addL hB hp.2) (by omega)
    rw [hs]
    have t1 := tv_addL F q p.2 (by omega)
    have t2 := tv_addL B (p.1 - q) p.2 (by omega)
    have tl : tv (p :: l) = p.1 + tv l := rfl
    have xl : ex (p :: l) = List.replicate p.1.toNat p.2 ++ ex l := rfl
    refine ⟨a1, a2, ?_, ?_, ?_, ?_⟩
    · rw [a3, t1, tl]
      split <;> split <;> omega
    · rw [a4, t1, t2, tl]; omega
    · rw [a5, ex_addL hF, xl, List.append_assoc, List.take_append, List.length_replicate, List.take_replicate]
      congr 2
      · congr 1; omega
      · congr 1; omega
    · rw [a6, ex_addL hB, xl, List.append_assoc, List.drop_append, List.length_replicate, List.drop_replicate]
      congr 2
      · congr 1; omega
      · congr 1; omega
theorem spl_len : ∀ (l F B : Rw) (op : Int), (spl F B op l).1.length ≤ F.length + l.length ∧ (spl F B op l).2.length ≤ B.length + l.length := by
  intro l
  induction l with
  | nil => intro F B op; exact ⟨Nat.le_refl _, Nat.le_refl _⟩
  | cons p l ih =>
    intro F B op
    have a := ih (addL F (if p.1 < op then p.1 else op) p.2) (addL B (p.1 - (if p.1 < op then p.1 else op)) p.2) (op - (if p.1 < op then p.1 else op))
    have b := addL_len F (if p.1 < op then p.1 else op) p.2
    have c := addL_len B (p.1 - (if p.1 < op then p.1 else op)) p.2
    rw [List.length_cons]
    show (spl (addL F (if p.1 < op then p.1 else op) p.2) (addL B (p.1 - (if p.1 < op then p.1 else op)) p.2) (op - (if p.1 < op then p.1 else op)) l).1.length ≤ _ ∧ (spl (addL F (if p.1 < op then p.1 else op) p.2) (addL B (p.1 - (if p.1 < op then p.1 else op)) p.2) (op - (if p.1 < op then p.1 else op)) l).2.length ≤ _
    omega
def F6 (a b : Nat) (N N' : nS) : Prop := ∀ k, k ≠ a → k ≠ a + 1 → k ≠ a + 2 → k ≠ b → k ≠ b + 1 → k ≠ b + 2 → N' k = N k
theorem F6_rf {a b : Nat} {N : nS} : F6 a b N N := fun _ _ _ _ _ _ _ => rfl
theorem F6_tr {a b : Nat} {N N1 N2 : nS} (h : F6 a b N N1) (k : F6 a b N1 N2) : F6 a b N N2 := fun i x1 x2 x3 x4 x5 x6 => (k i x1 x2 x3 x4 x5 x6).trans (h i x1 x2 x3 x4 x5 x6)
theorem F6_l {a b : Nat} {N N1 : nS} (h : F3 a N N1) : F6 a b N N1 := fun i x1 x2 x3 _ _ _ => h i x1 x2 x3
theorem F6_r {a b : Nat} {N N1 : nS} (h : F3 b N N1) : F6 a b N N1 := fun i _ _ _ x4 x5 x6 => h i x4 x5 x6
theorem ok_Plugs_split_14 {o cap o2 cap2 o3 cap3 : Nat} {x1 : Int} (hd1 : o2 + 2 < o ∨ o + 2 < o2) (hd2 : o3 + 2 < o ∨ o + 2 < o3) (hd3 : o3 + 2 < o2 ∨ o2 + 2 < o3) (hc : cap ≤ 1000) (hc2 : cap2 ≤ 1000) (hc3 : cap3 ≤ 1000) : ∀ (f i : Nat) (N : nS) (l F B : Rw) (op : Int), l.length < f + i → i ≤ l.length → RP N o cap l → RP N o2 cap2 F → RP N o3 cap3 B → wl l → wl F → wl B → 0 ≤ op → op ≤ 100000 → tv F + tv B + tv (l.drop i) ≤ 100000 → F.length + (l.length - i) ≤ cap2 → B.length + (l.length - i) ≤ cap3 → Ok (m_Plugs_split_14 o cap x1 o2 cap2 o3 cap3 f op (i : Int) N) (fun _ N' => RP N' o2 cap2 (spl F B op (l.drop i)).1 ∧ RP N' o3 cap3 (spl F B op (l.drop i)).2 ∧ F6 o2 o3 N N') := by
  intro f
  induction f with
  | zero => intro i N l F B op h1 h2; exact absurd h1 (by omega)
  | succ f ih =>
    intro i N l F B op h1 h2 hr hF hB wL wF wB ho ho2 ht hl2 hl3
    rw [m_Plugs_split_14]
    have hcnt := hr.1
    have hl1 := hr.2.1
    refine ok_ck (by rw [hcnt]; exact ⟨by omega, by omega⟩) ?_
    rw [hcnt]
    refine ok_if (fun c => ?_) (fun c => ?_)
    · have e : i = l.length := by omega
      subst e
      rw [List.drop_length]
      exact ok_ret ⟨hF, hB, F6_rf⟩
    · have hi : i < l.length := by omega
      have hg := hr.2.2 i hi
      rw [Nat.zero_add] at hg
      have hm := wL _ (gv_mem hi)
      have n1 := tv_nn wF
      have n2 := tv_nn wB
      have n3 := tv_nn (l := l.drop (i + 1)) (fun p hp => wL p (List.mem_of_mem_drop hp))
      rw [drop_gv hi] at ht
      have ht3 : tv F + tv B + ((gv l i).1 + tv (l.drop (i + 1))) ≤ 100000 := ht
      rw [Int.toNat_natCast, hg.1, hg.2]
      obtain ⟨q, hq⟩ : ∃ q, q = (if (gv l i).1 < op then (gv l i).1 else op) := ⟨_, rfl⟩
      have hq1 : 0 ≤ q ∧ q ≤ (gv l i).1 ∧ q ≤ op := by rw [hq]; split <;> omega
      rw [← hq]
      refine ok_ck ⟨by omega, by omega⟩ ?_
      refine ok_ck ⟨by omega, by omega⟩ ?_
      refine ok_ck ⟨by omega, by omega⟩ ?_
      have b2 := addL_len F q (gv l i).2
      have b3 := addL_len B ((gv l i).1 - q) (gv l i).2
      refine ok_nbd (ok_Plugs_add hF (bd_of wF (by omega)) hc2 (by omega)) (fun r N13 h13 => ?_)
      have e1 : N13 (o + 1) i = (gv l i).1 := by rw [h13.2.1 (o + 1) (by omega) (by omega) (by omega)]; exact hg.1
      have e2 : N13 (o + 2) i = (gv l i).2 := by rw [h13.2.1 (o + 2) (by omega) (by omega) (by omega)]; exact hg.2
      rw [e1, e2]
      refine ok_ck ⟨by omega, by omega⟩ ?_
      refine ok_ck ⟨by omega, by omega⟩ ?_
      have hB2 := RP_F3 hB h13.2.1 (by omega)
      refine ok_nbd (ok_Plugs_add hB2 (bd_of wB (by omega)) hc3 (by omega)) (fun r N18 h18 => ?_)
      refine ok_ck ⟨by omega, by omega⟩ ?_
      refine ok_ck ⟨by omega, by omega⟩ ?_
      have t1 := tv_addL F q (gv l i).2 (by omega)
      have t2 := tv_addL B ((gv l i).1 - q) (gv l i).2 (by omega)
      have h9 := ih (i + 1) N18 l (addL F q (gv l i).2) (addL B ((gv l i).1 - q) (gv l i).2) (op - q) (by omega) (by omega) (RP_F3 (RP_F3 hr h13.2.1 (by omega)) h18.2.1 (by omega)) (RP_F3 h13.1 h18.2.1 (by omega)) h18.1 wL (wl_addL wF hm.2) (wl_addL wB hm.2) (by omega) (by omega) (by omega) (by omega) (by omega)
      refine ok_mono h9 (fun a N' h => ?_)
      rw [drop_gv hi]
      show RP N' o2 cap2 (spl (addL F (if (gv l i).1 < op then (gv l i).1 else op) (gv l i).2) (addL B ((gv l i).1 - (if (gv l i).1 < op then (gv l i).1 else op)) (gv l i).2) (op - (if (gv l i).1 < op then (gv l i).1 else op)) (l.drop (i + 1))).1 ∧ RP N' o3 cap3 (spl (addL F (if (gv l i).1 < op then (gv l i).1 else op) (gv l i).2) (addL B ((gv l i).1 - (if (gv l i).1 < op then (gv l i).1 else op)) (gv l i).2) (op - (if (gv l i).1 < op then (gv l i).1 else op)) (l.drop (i + 1))).2 ∧ _
      rw [← hq]
      exact ⟨h.1, h.2.1, F6_tr (F6_tr (F6_l h13.2.1) (F6_r h18.2.1)) h.2.2⟩
theorem ok_Plugs_split {o cap o2 cap2 o3 cap3 : Nat} {N : nS} {l : Rw} {V : Int} (hd1 : o2 + 2 < o ∨ o + 2 < o2) (hd2 : o3 + 2 < o ∨ o + 2 < o3) (hd3 : o3 + 2 < o2 ∨ o2 + 2 < o3) (hc : cap ≤ 150) (hc2 : cap2 ≤ 150) (hc3 : cap3 ≤ 150) (hr : RP N o cap l) (wL : wl l) (hV : 0 ≤ V ∧ V ≤ 100000) (ht : tv l ≤ 100000) (h2 : l.length ≤ cap2) (h3 : l.length ≤ cap3) : Ok (m_Plugs_split o cap V o2 cap2 o3 cap3 N) (fun _ N' => RP N' o2 cap2 (spl [] [] V l).1 ∧ RP N' o3 cap3 (spl [] [] V l).2 ∧ F6 o2 o3 N N') := by
  rw [m_Plugs_split]
  refine ok_nbd ok_Plugs_clear (fun r1 N2 h2a => ?_)
  refine ok_nbd ok_Plugs_clear (fun r4 N5 h5 => ?_)
  have hl := hr.2.1
  have hr5 := RP_F3 (RP_F3 hr h2a.2.1 (by omega)) h5.2.1 (by omega)
  refine ok_nbd (ok_Plugs_split_14 hd1 hd2 hd3 (by omega) (by omega) (by omega) FU 0 N5 l [] [] V (by show l.length < 200 + 0; omega) (Nat.zero_le _) hr5 (RP_F3 h2a.1 h5.2.1 (by omega)) h5.1 wL wl_nil wl_nil hV.1 hV.2 (by show 0 + 0 + tv l ≤ 100000; omega) (by show 0 + (l.length - 0) ≤ cap2; omega) (by show 0 + (l.length - 0) ≤ cap3; omega)) (fun q N' h => ?_)
  exact ok_ret ⟨h.1, h.2.1, F6_tr (F6_tr (F6_l h2a.2.1) (F6_r h5.2.1)) h.2.2⟩
