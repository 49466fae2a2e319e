theorem sim_count {σ : hx_S} {τ : hm_S} (hR : hr_R σ τ) (x1 : Int32) : ∃ r, f_X_count σ x1 = some r ∧ f_M_count τ x1 = some r := by
  obtain ⟨E, F, K, n, g, u, fl, st, S, sk, go, h1, h2, h3⟩ := hR
  obtain ⟨_, _, _, _, _, g7, g8, _, _, g11, g12, g13, g14, _, _⟩ := h3
  have a := h2 0 (by omega)
  have b := h2 1 (by omega)
  rw [f_X_count, f_M_count]
  by_cases c0 : x1 = 0
  · subst c0
    rw [if_pos rfl, if_pos rfl, f_M_count_44, if_neg (by decide)]
    exact ⟨_, rfl, by rw [a.2.2.1]; exact congrArg some a.2.2.2.1⟩
  · rw [if_neg c0, if_neg c0]
    by_cases c1 : x1 = 1
    · subst c1
      rw [if_pos rfl, if_pos rfl, f_M_count_44, if_neg (by decide)]
      exact ⟨_, rfl, by rw [b.2.2.1]; exact congrArg some b.2.2.2.1⟩
    · rw [if_neg c1, if_neg c1]
      by_cases c2 : x1 = 2
      · subst c2
        rw [if_pos rfl, if_pos rfl, f_M_count_51, if_neg (by decide)]
        exact ⟨_, rfl, by rw [a.2.2.2.2.1]; exact congrArg some a.2.2.2.2.2.1⟩
      · rw [if_neg c2, if_neg c2]
        by_cases c3 : x1 = 3
        · subst c3
          rw [if_pos rfl, if_pos rfl, f_M_count_51, if_neg (by decide)]
          exact ⟨_, rfl, by rw [b.2.2.2.2.1]; exact congrArg some b.2.2.2.2.2.1⟩
        · rw [if_neg c3, if_neg c3]
          by_cases c4 : x1 = 4
          · rw [if_pos c4, if_pos c4]; exact ⟨_, rfl, by rw [g7, g8]⟩
          · rw [if_neg c4, if_neg c4]
            by_cases c5 : x1 = 5
            · rw [if_pos c5, if_pos c5]; exact ⟨_, rfl, by rw [g11, g12]⟩
            · rw [if_neg c5, if_neg c5]
              by_cases c6 : x1 = 6
              · rw [if_pos c6, if_pos c6]; exact ⟨_, rfl, by rw [g13, g14]⟩
              · rw [if_neg c6, if_neg c6]; exact ⟨_, rfl, rfl⟩
