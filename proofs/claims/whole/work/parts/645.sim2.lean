theorem sim_seed {σ : hx_S} {τ : hm_S} (hR : hr_R σ τ) (x1 : Int32) : ∃ r σ1 τ1, f_X_seed σ x1 = some (r, σ1) ∧ f_M_seed τ x1 = some (r, τ1) ∧ hr_R σ1 τ1 := by
  obtain ⟨z, z1, z2, rfl⟩ := iI_of x1
  have hR0 := hR
  obtain ⟨E, F, K, n, g, u, fl, st, S, sk, go, h1, h2, h3⟩ := hR
  obtain ⟨g1, g2, g3, g4, g6, g7⟩ := h3
  have r := m_isIn (lo := 1) (hi := 2147483646) z1 z2 (by omega) (by omega) (by omega) (by omega)
  rw [show lI 1 = 1 from rfl, show lI 2147483646 = 2147483646 from rfl] at r
  have e1 : (iI z < (1 : Int32)) = (z < 1) := by rw [show (1 : Int32) = iI 1 from rfl, iI_lt z1 z2 (by omega) (by omega)]
  have e2 : (iI z ≤ (2147483646 : Int32)) = (z ≤ 2147483646) := by rw [show (2147483646 : Int32) = iI 2147483646 from rfl, iI_le z1 z2 (by omega) (by omega)]
  rw [f_M_seed, r, hx_b1_some]
  simp only [f_X_seed, e1, e2]
  by_cases c : 1 ≤ z ∧ z ≤ 2147483646
  · rw [if_neg (show ¬ z < 1 by omega), if_pos c.2, decide_eq_true c, if_neg (show ¬ bI true = 0 by decide), hx_n_eq, hx_n_eq, hx_n_eq, hx_n_eq, g3, g4]
    have e3 : (iI z).toInt64 = lN z.toNat := by rw [iI_l z1 z2, lN_nn (by omega)]
    rw [e3]
    exact ⟨_, _, _, rfl, rfl, E, F, K, n, g, u, fl, z.toNat, S, sk, go, h1, h2, g1, g2, rfl, rfl, by omega, g7⟩
  · rw [decide_eq_false c, if_pos (show bI false = 0 from rfl)]
    by_cases c1 : z < 1
    · rw [if_pos c1]; exact ⟨_, _, _, rfl, rfl, hR0⟩
    · rw [if_neg c1, if_neg (show ¬ z ≤ 2147483646 by omega)]; exact ⟨_, _, _, rfl, rfl, hR0⟩
