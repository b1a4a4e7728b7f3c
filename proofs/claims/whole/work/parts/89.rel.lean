def Rel (N : nS) : Prop := N = N
theorem rel_start : Rel N00 := rfl
theorem rel_step : ∀ (N : nS) (y0 y1 y2 y3 y4 y5 : Int), rg y0 → rg y1 → rg y2 → rg y3 → rg y4 → rg y5 → Rel N → ∃ No, m_Law_body 0 103 131 y0 y1 y2 y3 y4 y5 N = some (1, No) ∧ Rel No := by
  sorry
