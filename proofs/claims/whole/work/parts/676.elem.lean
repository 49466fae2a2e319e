theorem block {σ : hx_S} {τ : hm_S} {E F K n g : Nat → Nat} {u : Nat → Nat → Nat} (h1 : hr_F σ τ E F K) (h2 : hr_W σ τ E F n g u) {k : Nat} (hk : k < 4) : ∃ sc : Int, f_X_blockScale σ k = some (iI sc) ∧ f_M_scaleOf τ (nI k) = some (iI sc) ∧ ∀ i, i < n 0 → 0 ≤ q_pw (E (g 0)) (F (g 0)) (K (g 0)) (u 0 i) + 352 + -sc ∧ q_pw (E (g 0)) (F (g 0)) (K (g 0)) (u 0 i) + 352 + -sc < 676 := by
  have fu : hx_fuel = 5000 := rfl
  have hW := h2 0 (by omega)
  have hg := hW.2.1
  have hn := hW.1
  have hv := (h1 _ hg).1
  have hv2 := (h1 _ hk).1
  have hl := q_limlt hv
  obtain ⟨G, a1, a2, a3, a4⟩ := scale_loop h1 h2 hk (n 0) hx_fuel hx_fuel 0 0 (by omega) (by omega) (by omega) hl.2.1 (fun j hj => absurd hj (Nat.not_lt_zero j))
  refine ⟨scV (E (g 0)) (F (g 0)) (K (g 0)) (E k) (F k) (K k) G, ?_, ?_, ?_⟩
  · rw [f_X_blockScale, hW.2.2.2.2.1, hc4 hg, hx_gn (hg4n hg)]; exact a3
  · rw [f_M_scaleOf]; exact a4
  · intro i hi
    have hb := q_pwb hv (u 0 i)
    unfold scV
    by_cases c : G = 0
    · rw [if_pos c]; omega
    · rw [if_neg c]
      have hlim := q_limt hv2
      have hG := q_sort_fin a1 (by omega) c
      have tG : q_t (E (g 0)) (F (g 0)) G ≤ 128 := by
        have h := q_limt hv
        have := q_t_mono (v := G) (w := q_lim (E (g 0)) (F (g 0)) (K (g 0)) - 1) (q_mc_pos hG) (q_mc_pos (Or.inr (q_sort_lim hv))) (by omega) (by omega) (by omega)
        omega
      have tG2 : -149 ≤ q_t (E (g 0)) (F (g 0)) G := by
        have := q_pcb hv (u := G)
        unfold q_t
        omega
      by_cases s : q_sort (E (g 0)) (F (g 0)) (K (g 0)) (u 0 i) = 1 ∨ q_sort (E (g 0)) (F (g 0)) (K (g 0)) (u 0 i) = 2
      · have hle := a2 i hi (by omega)
        have hp := q_mc_pos (e := E (g 0)) (f := F (g 0)) (kd := K (g 0)) (u := u 0 i % 2 ^ (E (g 0) + F (g 0))) (by rw [q_sort_mod]; exact s)
        have hm := q_t_mono hp (q_mc_pos hG) (Nat.mod_lt _ (Nat.two_pow_pos _)) (by omega) hle
        rw [q_t_mod] at hm
        have hq : q_pw (E (g 0)) (F (g 0)) (K (g 0)) (u 0 i) ≤ q_t (E (g 0)) (F (g 0)) (u 0 i) := by
          rw [← q_pc_p hv s]
          unfold q_t
          omega
        omega
      · have h0 : q_pw (E (g 0)) (F (g 0)) (K (g 0)) (u 0 i) = 0 := by unfold q_pw; rw [if_neg s]
        omega
theorem sim_scale {σ : hx_S} {τ : hm_S} (hR : hr_R σ τ) (x1 : Int32) : ∃ r, f_X_scale σ x1 = some r ∧ f_M_scale τ x1 = some r := by
  obtain ⟨E, F, K, n, g, u, fl, st, S, sk, go, h1, h2, h3⟩ := hR
  rw [f_X_scale, f_M_scale]
  rcases a_form x1 with ⟨k, hk, rfl, a1, a2⟩ | ⟨a1, a2⟩
  · obtain ⟨sc, b1, b2, _⟩ := block h1 h2 hk
    rw [a1, a2, hx_b1_some, hx_b1_some, if_neg one_ne, if_neg one_ne, hc4 hk, hx_gn (hg4n hk), b1, b2, hx_b1_some]
    exact ⟨_, rfl, rfl⟩
  · rw [a1, a2, hx_b1_some, hx_b1_some, if_pos rfl, if_pos rfl]; exact ⟨_, rfl, rfl⟩
theorem sim_element {σ : hx_S} {τ : hm_S} (hR : hr_R σ τ) (x1 x2 : Int32) : ∃ r σ1 τ1, f_X_element σ x1 x2 = some (r, σ1) ∧ f_M_element τ x1 x2 = some (r, τ1) ∧ hr_R σ1 τ1 := by
  have hR0 := hR
  obtain ⟨E, F, K, n, g, u, fl, st, S, sk, go, h1, h2, h3⟩ := hR
  have hP : hr_P σ τ E F K n g u fl st S sk go := ⟨h1, h2, h3⟩
  have hW := h2 0 (by omega)
  have hg := hW.2.1
  have hn := hW.1
  rw [f_X_element, f_M_element]
  rcases a_form x1 with ⟨k, hk, rfl, a1, a2⟩ | ⟨a1, a2⟩
  · rw [a1, a2, hx_b1_some, hx_b1_some, if_neg one_ne, if_neg one_ne, hx_gn g01, cn0, hW.2.2.2.1]
    rcases a_has h2 (r := 0) (by omega) x2 with ⟨i, hi, rfl, b1, b2⟩ | ⟨b1, b2⟩
    · obtain ⟨sc, c1, c2, c3⟩ := block h1 h2 hk
      have hp := hW.2.2.2.2.2.2 i hi
      have e0 : hm_row τ i = lN (u 0 i) := by rw [← hp.2.2, Nat.mul_zero, Nat.zero_add]
      have c4 := c3 i hi
      obtain ⟨p, fl1, st1, σ2, τ0, τ1, τ2, q1, q2, q3, q4, q5, q6, q7⟩ := AB_turn (way := 0) hP hg hk (by omega) hp.1 (-sc) (q_pw (E (g 0)) (F (g 0)) (K (g 0)) (u 0 i) + 352 + -sc).toNat (by omega) (by omega)
      rw [show nI 0 = 0 from rfl] at q2 q5
      rw [b1, b2, hx_b1_some, hx_b1_some, if_neg one_ne, if_neg one_ne, hc4 hk, hx_gn (hg4n hk), c1, c2, hx_b1_some, hx_b1_some, hx_n_eq, hx_n_eq, iI_neg, hW.2.2.2.2.1, hc4 hg, hx_gn (hg4n hg), hcl (show i < 4096 by omega), hx_gn (hgn (N := 32) (by omega) (by omega)), hx_gn (hg4n hk), hp.2.1, q2, hx_b2_some, x_bits (pw_k h1 hk q1), hx_b1_some, q3, hx_b1_some, hx_gn g01', hx_gn (hgn (N := 64) (by omega) (by omega)), q6.2.2.2.1, q6.2.2.2.2.2.1, hW.2.2.2.2.2.1, e0, q4, hx_b1_some, q5, hx_b2_some]
      exact ⟨_, _, _, rfl, rfl, (hr_N.P hP q7).R⟩
    · rw [b1, b2, hx_b1_some, hx_b1_some, if_pos rfl, if_pos rfl]; exact ⟨_, _, _, rfl, rfl, hR0⟩
  · rw [a1, a2, hx_b1_some, hx_b1_some, if_pos rfl, if_pos rfl]; exact ⟨_, _, _, rfl, rfl, hR0⟩
