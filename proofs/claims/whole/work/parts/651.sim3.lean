theorem sim_form {σ : hx_S} {τ : hm_S} (hR : hr_R σ τ) (x1 x2 : Int32) : ∃ r, f_X_form σ x1 x2 = some r ∧ f_M_form τ x1 x2 = some r := by
  obtain ⟨E, F, K, n, g, u, fl, st, S, sk, go, h1, h2, h3⟩ := hR
  rw [f_X_form, f_M_form]
  rcases a_form x1 with ⟨k, hk, rfl, a1, a2⟩ | ⟨a1, a2⟩
  · rw [a1, a2, hx_b1_some, hx_b1_some, if_neg one_ne, if_neg one_ne, hx_gn (nI_clampT hk), hc4 hk, (h1 k hk).2.1]
    have hv := (h1 k hk).1
    have hM := mF_of h1 hk
    have w := q_w hv
    have q := q_limlt hv
    obtain ⟨z, z1, z2, rfl, ⟨c1, c2, b1⟩ | ⟨c, b1⟩⟩ := a_in x2 0 4 (by omega) (by omega) (by omega) (by omega)
    · rw [show (0 : Int64) = lI 0 from rfl, show (4 : Int64) = lI 4 from rfl, b1, hx_b1_some, if_neg one_ne]
      have hz : z = 0 ∨ z = 1 ∨ z = 2 ∨ z = 3 ∨ z = 4 := by omega
      rcases hz with rfl | rfl | rfl | rfl | rfl
      · rw [if_pos (show iI 0 = 0 from rfl), if_pos (show iI 0 = 0 from rfl), hx_gn (hg4n hk)]
        exact ⟨_, rfl, by rw [hM.2.2.1]; rfl⟩
      · rw [if_neg (show ¬ iI 1 = 0 by decide), if_pos (show iI 1 = 1 from rfl), if_neg (show ¬ iI 1 = 0 by decide), if_pos (show iI 1 = 1 from rfl), hx_gn (hg4n hk)]
        exact ⟨_, rfl, by rw [hM.2.2.2.1]; rfl⟩
      · rw [if_neg (show ¬ iI 2 = 0 by decide), if_neg (show ¬ iI 2 = 1 by decide), if_pos (show iI 2 = 2 from rfl), if_neg (show ¬ iI 2 = 0 by decide), if_neg (show ¬ iI 2 = 1 by decide), if_pos (show iI 2 = 2 from rfl), hx_gn (hg4n hk)]
        exact ⟨_, rfl, by rw [hM.2.2.2.2]; rfl⟩
      · rw [if_neg (show ¬ iI 3 = 0 by decide), if_neg (show ¬ iI 3 = 1 by decide), if_neg (show ¬ iI 3 = 2 by decide), if_pos (show iI 3 = 3 from rfl), if_neg (show ¬ iI 3 = 0 by decide), if_neg (show ¬ iI 3 = 1 by decide), if_neg (show ¬ iI 3 = 2 by decide), if_pos (show iI 3 = 3 from rfl), m_limit hM, hx_b1_some]
        refine ⟨_, rfl, ?_⟩
        rw [FM_l, nI_i, lN_i2, show (1 : Int64) = lI 1 from rfl, lI_sub, lI_i, show (1 : Int32) = iI 1 from rfl, iI_sub]
      · rw [if_neg (show ¬ iI 4 = 0 by decide), if_neg (show ¬ iI 4 = 1 by decide), if_neg (show ¬ iI 4 = 2 by decide), if_neg (show ¬ iI 4 = 3 by decide), if_pos (show iI 4 = 4 from rfl), if_neg (show ¬ iI 4 = 0 by decide), if_neg (show ¬ iI 4 = 1 by decide), if_neg (show ¬ iI 4 = 2 by decide), if_neg (show ¬ iI 4 = 3 by decide), m_nan hM, hx_b1_some]
        refine ⟨_, rfl, ?_⟩
        rw [FM_n, nI_i, lN_i2, lI_i]
    · rw [show (0 : Int64) = lI 0 from rfl, show (4 : Int64) = lI 4 from rfl, b1, hx_b1_some, if_pos rfl]
      have hn : ∀ j : Int, 0 ≤ j → j ≤ 4 → ¬ iI z = iI j := fun j j1 j2 q => by
        rw [iI_eq z1 z2 (by omega) (by omega)] at q
        omega
      rw [if_neg (show ¬ iI z = 0 from hn 0 (by omega) (by omega)), if_neg (show ¬ iI z = 1 from hn 1 (by omega) (by omega)), if_neg (show ¬ iI z = 2 from hn 2 (by omega) (by omega)), if_neg (show ¬ iI z = 3 from hn 3 (by omega) (by omega)), if_neg (show ¬ iI z = 4 from hn 4 (by omega) (by omega))]
      exact ⟨_, rfl, rfl⟩
  · rw [a1, a2, hx_b1_some, hx_b1_some, if_pos rfl, if_pos rfl]
    exact ⟨_, rfl, rfl⟩
theorem sim_part {σ : hx_S} {τ : hm_S} (hR : hr_R σ τ) (x1 x2 x3 : Int32) : ∃ r, f_X_part σ x1 x2 x3 = some r ∧ f_M_part τ x1 x2 x3 = some r := by
  obtain ⟨E, F, K, n, g, u, fl, st, S, sk, go, h1, h2, h3⟩ := hR
  rw [f_X_part, f_M_part]
  rcases a_form x1 with ⟨k, hk, rfl, a1, a2⟩ | ⟨a1, a2⟩
  · rw [a2, hx_b1_some, if_neg one_ne]
    rcases a_pat h1 hk x2 with ⟨a, ha, rfl, p1, p2, p3⟩ | ⟨p1, p2⟩
    · have hv := (h1 k hk).1
      have hM := mF_of h1 hk
      have h32 := pw_p hv ha
      have hs := sort_le (E k) (F k) (K k) a
      rw [p1, p2, hx_b1_some, hx_b1_some, if_neg one_ne, if_neg one_ne, hx_gn (nI_clampT hk), hc4 hk, (h1 k hk).2.1, x_sortOf hv h32, hx_b1_some]
      have hg : ∀ c : Prop, ∀ _ : Decidable c, c = (q_sort (E k) (F k) (K k) a = 1 ∨ q_sort (E k) (F k) (K k) a = 2) → (if (nI (q_sort (E k) (F k) (K k) a) = (1 : Int32)) then (f_X_part_40 σ (nI a) x3 k (nI (q_sort (E k) (F k) (K k) a))) else (if (nI (q_sort (E k) (F k) (K k) a) = (2 : Int32)) then (f_X_part_40 σ (nI a) x3 k (nI (q_sort (E k) (F k) (K k) a))) else (f_X_part_45 σ (nI a) x3 k (nI (q_sort (E k) (F k) (K k) a)) (0 : Int32)))) = f_X_part_45 σ (nI a) x3 k (nI (q_sort (E k) (F k) (K k) a)) (bI (decide c)) := by
        intro c hc e
        by_cases s1 : q_sort (E k) (F k) (K k) a = 1
        · rw [if_pos (by rw [s1]; rfl), bI_t (by rw [e]; exact Or.inl s1)]; rfl
        · rw [if_neg (by rw [sort_1]; exact s1)]
          by_cases s2 : q_sort (E k) (F k) (K k) a = 2
          · rw [if_pos (by rw [s2]; rfl), bI_t (by rw [e]; exact Or.inr s2)]; rfl
          · rw [if_neg (by rw [sort_2]; exact s2), bI_f (by rw [e]; omega)]
      rw [hg _ inferInstance rfl, f_X_part_45, (h1 k hk).2.1, x_isNegative hv ha, hx_b1_some, x_wholeOf hv h32, hx_b1_some, x_powerOf hv h32, hx_b1_some]
      obtain ⟨z, z1, z2, rfl, ⟨c1, c2, b1⟩ | ⟨c, b1⟩⟩ := a_in x3 0 3 (by omega) (by omega) (by omega) (by omega)
      · rw [show (0 : Int64) = lI 0 from rfl, show (3 : Int64) = lI 3 from rfl, b1, hx_b1_some, if_neg one_ne, p3 τ hM, hx_b1_some, m_sortOf hM h32, hx_b1_some, m_isBelow hM h32, hx_b1_some, m_wholeOf hM h32, hx_b1_some, m_powerOf hM h32, hx_b1_some]
        have hz : z = 0 ∨ z = 1 ∨ z = 2 ∨ z = 3 := by omega
        rcases hz with rfl | rfl | rfl | rfl
        · rw [if_pos (show iI 0 = 0 from rfl), if_pos (show iI 0 = 0 from rfl)]
          exact ⟨_, rfl, rfl⟩
        · rw [if_neg (show ¬ iI 1 = 0 by decide), if_pos (show iI 1 = 1 from rfl), if_neg (show ¬ iI 1 = 0 by decide), if_pos (show iI 1 = 1 from rfl)]
          by_cases c : 2 ^ (E k + F k) ≤ a
          · rw [bI_t c, if_neg one_ne]; exact ⟨_, rfl, rfl⟩
          · rw [bI_f c, if_pos rfl]; exact ⟨_, rfl, rfl⟩
        · rw [if_neg (show ¬ iI 2 = 0 by decide), if_neg (show ¬ iI 2 = 1 by decide), if_pos (show iI 2 = 2 from rfl), if_neg (show ¬ iI 2 = 0 by decide), if_neg (show ¬ iI 2 = 1 by decide), if_pos (show iI 2 = 2 from rfl)]
          by_cases c : q_sort (E k) (F k) (K k) a = 1 ∨ q_sort (E k) (F k) (K k) a = 2
          · rw [bI_t c, if_neg one_ne, q_mc_m (kd := K k) (by omega)]; exact ⟨_, rfl, rfl⟩
          · rw [bI_f c, if_pos rfl]
            refine ⟨_, rfl, ?_⟩
            rw [q_m, if_neg (by omega), if_neg (by omega)]; rfl
        · rw [if_neg (show ¬ iI 3 = 0 by decide), if_neg (show ¬ iI 3 = 1 by decide), if_neg (show ¬ iI 3 = 2 by decide), if_pos (show iI 3 = 3 from rfl), if_neg (show ¬ iI 3 = 0 by decide), if_neg (show ¬ iI 3 = 1 by decide), if_neg (show ¬ iI 3 = 2 by decide)]
          by_cases c : q_sort (E k) (F k) (K k) a = 1 ∨ q_sort (E k) (F k) (K k) a = 2
          · rw [bI_t c, if_neg one_ne, q_pc_p hv c]; exact ⟨_, rfl, rfl⟩
          · rw [bI_f c, if_pos rfl]
            refine ⟨_, rfl, ?_⟩
            rw [q_pw, if_neg c]; rfl
      · rw [show (0 : Int64) = lI 0 from rfl, show (3 : Int64) = lI 3 from rfl, b1, hx_b1_some, if_pos rfl]
        have hn : ∀ j : Int, 0 ≤ j → j ≤ 3 → ¬ iI z = iI j := fun j j1 j2 q => by
          rw [iI_eq z1 z2 (by omega) (by omega)] at q
          omega
        rw [if_neg (show ¬ iI z = 0 from hn 0 (by omega) (by omega)), if_neg (show ¬ iI z = 1 from hn 1 (by omega) (by omega)), if_neg (show ¬ iI z = 2 from hn 2 (by omega) (by omega)), if_neg (show ¬ iI z = 3 from hn 3 (by omega) (by omega))]
        exact ⟨_, rfl, rfl⟩
    · rw [p1, p2, hx_b1_some, hx_b1_some, if_pos rfl, if_pos rfl]; exact ⟨_, rfl, rfl⟩
  · rw [x_isPat0 a1, a2, hx_b1_some, hx_b1_some, if_pos rfl, if_pos rfl]; exact ⟨_, rfl, rfl⟩
