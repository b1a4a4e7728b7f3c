/-! ===== the invariant of the law's loop ===== -/
def Rel (N : nS) : Prop := RelG 0 103 N
theorem n00_f : ∀ q, q < 10 → N00 19 q = -1 := by decide +kernel
theorem n00_t : ∀ q, q < 10 → N00 20 q = 0 := by decide +kernel
theorem n00_z : ∀ i, i < 131 → i ≠ 7 → i ≠ 19 → i ≠ 51 → i ≠ 63 → i ≠ 103 → N00 i = fun _ => 0 := by
  intro i _ h1 h2 h3 h4 h5
  unfold N00 nMi nHi0 nWi up2
  simp only [Nat.zero_add, Nat.add_zero, Nat.reduceAdd]
  rw [va_up_ne _ _ h5, va_up_ne _ _ h5]
  rw [va_up_ne _ _ h4, va_up_ne _ _ h4, va_up_ne _ _ h4, va_up_ne _ _ h4, va_up_ne _ _ h4, va_up_ne _ _ h4, va_up_ne _ _ h4, va_up_ne _ _ h4, va_up_ne _ _ h4, va_up_ne _ _ h4]
  rw [va_up_ne _ _ h3, va_up_ne _ _ h3]
  rw [va_up_ne _ _ h2, va_up_ne _ _ h2, va_up_ne _ _ h2, va_up_ne _ _ h2, va_up_ne _ _ h2, va_up_ne _ _ h2, va_up_ne _ _ h2, va_up_ne _ _ h2, va_up_ne _ _ h2, va_up_ne _ _ h2]
  rw [va_up_ne _ _ h1, va_up_ne _ _ h1]
theorem z500 : (0 : Int) ≤ 0 ∧ (0 : Int) ≤ 500 := by decide
theorem z10k : (0 : Int) ≤ 0 ∧ (0 : Int) ≤ 10000 := by decide
theorem z00 : (0 : Int) ≤ 0 ∧ (0 : Int) ≤ 0 := by decide
theorem rel_start : Rel N00 := by
  refine ⟨0, fun _ _ => 0, 0, 6000, 2000, (fun _ => [], 0, 0, 0, N00 19, fun _ => 0), 0, fun _ _ => 0, ?_, ?_, ?_⟩
  · refine ⟨⟨by omega, fun p hp => absurd hp (Nat.not_lt_zero _), fun p hp => absurd hp (Nat.not_lt_zero _), fun p hp => absurd hp (Nat.not_lt_zero _), fun p hp => absurd hp (Nat.not_lt_zero _)⟩, fun p hp => z500, fun p hp => Or.inl rfl, fun p hp => absurd hp (Nat.not_lt_zero _), ⟨by decide, by decide⟩, ⟨by decide, by decide⟩, ⟨by decide, by decide⟩, by decide, fun i hi => absurd hi (Nat.not_lt_zero _), fun i hi => ⟨z10k, z10k, z10k⟩, ⟨⟨by decide, by decide⟩, ⟨by decide, by decide⟩, ⟨by decide, by decide⟩⟩, fun q hq => ⟨?_, z00⟩, fun _ q hq => ⟨n00_f q hq, rfl⟩⟩
    show -1 ≤ N00 19 q ∧ N00 19 q ≤ 0
    rw [n00_f q hq]
    exact ⟨by decide, by decide⟩
  · refine ⟨⟨by rw [n00_z _ (by omega) (by omega) (by omega) (by omega) (by omega) (by omega)]; rfl, fun p hp => absurd hp (Nat.not_lt_zero _), fun p hp => absurd hp (Nat.not_lt_zero _), fun p hp => absurd hp (Nat.not_lt_zero _), fun p hp => absurd hp (Nat.not_lt_zero _)⟩, fun p hp => ⟨by rw [n00_z _ (by omega) (by omega) (by omega) (by omega) (by omega) (by omega)], by rw [n00_z _ (by omega) (by omega) (by omega) (by omega) (by omega) (by omega)]⟩, ⟨fun p hp => absurd hp (Nat.not_lt_zero _), by decide +kernel, by decide +kernel, by decide +kernel, fun q => rfl, fun q => by rw [n00_z _ (by omega) (by omega) (by omega) (by omega) (by omega) (by omega)]; rfl⟩, by decide +kernel, by decide +kernel, by decide +kernel, by decide +kernel, fun i hi => absurd hi (Nat.not_lt_zero _), fun i hi => ⟨by rw [n00_z _ (by omega) (by omega) (by omega) (by omega) (by omega) (by omega)], by rw [n00_z _ (by omega) (by omega) (by omega) (by omega) (by omega) (by omega)], by rw [n00_z _ (by omega) (by omega) (by omega) (by omega) (by omega) (by omega)]⟩⟩
  · refine ⟨⟨by decide +kernel, fun p hp => absurd hp (Nat.not_lt_zero _), fun p hp => absurd hp (Nat.not_lt_zero _), fun p hp => absurd hp (Nat.not_lt_zero _), fun p hp => absurd hp (Nat.not_lt_zero _)⟩, fun p hp => ⟨by rw [n00_z _ (by omega) (by omega) (by omega) (by omega) (by omega) (by omega)], by rw [n00_z _ (by omega) (by omega) (by omega) (by omega) (by omega) (by omega)]⟩, ⟨fun p hp => absurd hp (Nat.not_lt_zero _), by decide +kernel, by decide +kernel, by decide +kernel, fun q hq => absurd hq (Nat.not_lt_zero _), fun q hq => by rw [n00_z _ (by omega) (by omega) (by omega) (by omega) (by omega) (by omega)]; rfl⟩, by decide +kernel, by decide +kernel, by decide +kernel, by decide +kernel, fun i hi => absurd hi (Nat.not_lt_zero _), fun i hi => ⟨by rw [n00_z _ (by omega) (by omega) (by omega) (by omega) (by omega) (by omega)], by rw [n00_z _ (by omega) (by omega) (by omega) (by omega) (by omega) (by omega)], by rw [n00_z _ (by omega) (by omega) (by omega) (by omega) (by omega) (by omega)]⟩⟩
theorem rel_step : ∀ (N : nS) (y0 y1 y2 y3 y4 y5 : Int), rg y0 → rg y1 → rg y2 → rg y3 → rg y4 → rg y5 → Rel N → ∃ No, m_Law_body 0 103 131 y0 y1 y2 y3 y4 y5 N = some (1, No) ∧ Rel No := by
  intro N y0 y1 y2 y3 y4 y5 _ _ _ _ _ _ hR
  obtain ⟨cnt, g, mi, ht, air, s, dn, d, hP, HC, HR⟩ := hR
  have hk : 0 + 103 ≤ 103 := by omega
  have ha : 103 + 28 ≤ 131 := by omega
  have ha' : 0 + 103 ≤ 131 := by omega
  rw [m_Law_body]
  by_cases c0 : y0 % 16 = 0
  · rw [if_pos c0]; exact law_int hk ha HR (both_pipe ha' hP HC)
  rw [if_neg c0]
  by_cases c1 : y0 % 16 = 1
  · rw [if_pos c1]; exact step_tap hk ha hP HC HR
  rw [if_neg c1]
  by_cases c2 : y0 % 16 = 2
  · rw [if_pos c2]; exact law_int hk ha HR (both_set ha' hP HC)
  rw [if_neg c2]
  by_cases c3 : y0 % 16 = 3
  · rw [if_pos c3]; exact law_int hk ha HR (both_loop ha' hP HC)
  rw [if_neg c3]
  by_cases c4 : y0 % 16 = 4
  · rw [if_pos c4]; exact law_int hk ha HR (both_draw ha' hP HC)
  rw [if_neg c4]
  by_cases c5 : y0 % 16 = 5
  · rw [if_pos c5]; exact law_int hk ha HR (both_run ha' hP HC)
  rw [if_neg c5]
  by_cases c6 : y0 % 16 = 6
  · rw [if_pos c6]; exact law_int hk ha HR (both_plug ha' hP HC)
  rw [if_neg c6]
  by_cases c7 : y0 % 16 = 7
  · rw [if_pos c7]; exact law_int hk ha HR (both_told ha' hP HC)
  rw [if_neg c7]
  by_cases c8 : y0 % 16 = 8
  · rw [if_pos c8]; exact law_int hk ha HR (both_dead ha' hP HC)
  rw [if_neg c8]
  by_cases c9 : y0 % 16 = 9
  · rw [if_pos c9]; exact law_int hk ha HR (both_warm ha' hP HC)
  rw [if_neg c9]
  by_cases c10 : y0 % 16 = 10
  · rw [if_pos c10]; exact law_int hk ha HR (both_drawn ha' hP HC)
  rw [if_neg c10]
  by_cases c11 : y0 % 16 = 11
  · rw [if_pos c11]; exact step_heat hk ha hP HC HR
  rw [if_neg c11]
  by_cases c12 : y0 % 16 = 12
  · rw [if_pos c12]; exact law_int hk ha HR (both_shock ha' hP HC)
  rw [if_neg c12]
  exact ⟨N, rfl, ⟨cnt, g, mi, ht, air, s, dn, d, hP, HC, HR⟩⟩
