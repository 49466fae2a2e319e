theorem step_end {σ : hx_S} {τ : hm_S} {E F K n g : Nat → Nat} {u : Nat → Nat → Nat} {fl : Int32} {st : Nat} {S : Int} {sk go : Nat} (hP : hr_P σ τ E F K n g u fl st S sk go) {l : Nat} (hl : l = if n 1 < n 0 then n 1 else n 0) (rt : Nat) {i : Nat} (hi : l ≤ i) (hi2 : i ≤ 32) (N N' : Nat) : ∃ σ1 τ1, f_X_step_67 (N + 1) σ (nI rt) (nI l) (nI i) = some (1, σ1) ∧ f_M_step_89 (N' + 1) τ (nI rt) (nI (g 1)) (nI i) = some (1, τ1) ∧ hr_R σ1 τ1 := by
  obtain ⟨h1, h2, h3⟩ := hP
  have h3' := h3
  obtain ⟨g1, g2, g3, g4, g5, g6, g7, g8, g9, g10, g11, g12, g13, g14, g15⟩ := h3'
  have e1 : hx_streak (hx_streak_s σ (nI (sk + 1))) = nI (sk + 1) := rfl
  have e2 : hx_goal (hx_streak_s σ (nI (sk + 1))) = nI go := g12
  have e3 : hx_shift (hx_streak_s σ (nI (sk + 1))) = iI S := g6
  have e4 : hm_streak (hm_streak_s τ (nI (sk + 1))) = nI (sk + 1) := rfl
  have e5 : hm_growth (hm_streak_s τ (nI (sk + 1))) = nI go := g13
  have e6 : hm_scaleS (hm_streak_s τ (nI (sk + 1))) = iI S := g7
  rw [f_X_step_67, if_pos (nI_le hi (by omega)), g10, nI_1, f_M_step_89, m_shorter h2, ← hl, hx_b1_some, if_pos (nI_le hi (by omega)), g11, nI_1]
  simp only [hx_n_eq]
  rw [e1, e2, e3, e4, e5, e6]
  by_cases c : sk + 1 < go
  · rw [if_pos (nI_lt c (by omega)), if_neg (show ¬ nI (sk + 1) = nI go from fun q => absurd ((nI_eq (by omega) (by omega)).mp q) (by omega))]
    exact ⟨_, _, rfl, rfl, E, F, K, n, g, u, fl, st, S, sk + 1, go, hr_F_of h1 rfl rfl rfl rfl, hr_W_of h2 rfl rfl rfl rfl, hr_G_put h3 rfl rfl rfl g6 g7 g8 g9 rfl rfl rfl rfl c⟩
  · rw [if_neg (nI_nlt (by omega) (by omega)), if_pos (show nI (sk + 1) = nI go by rw [show sk + 1 = go by omega])]
    have a1 : iI S + 1 = iI (S + 1) := iI_add S 1
    have a2 : (60 : Int32) < iI (S + 1) ↔ 60 < S + 1 := iI_lt (a := 60) (by omega) (by omega) (by omega) (by omega)
    have a3 : (60 : Int32) ≤ iI S ↔ 60 ≤ S := iI_le (a := 60) (by omega) (by omega) (by omega) (by omega)
    rw [a1]
    by_cases d : S = 60
    · have a4 : iI S + 0 = iI S := by rw [show (0 : Int32) = iI 0 from rfl, iI_add, Int.add_zero]
      rw [if_pos (a2.mpr (by omega)), if_pos (a3.mpr (by omega)), f_M_step_248, a4, hx_n_eq, hx_n_eq, hx_n_eq, show (60 : Int32) = iI 60 from rfl, d]
      exact ⟨_, _, rfl, rfl, E, F, K, n, g, u, fl, st, 60, 0, go, hr_F_of h1 rfl rfl rfl rfl, hr_W_of h2 rfl rfl rfl rfl, hr_G_put h3 rfl rfl rfl rfl rfl (by omega) (by omega) rfl rfl rfl rfl (by omega)⟩
    · rw [if_neg (fun q => absurd (a2.mp q) (by omega)), if_neg (fun q => absurd (a3.mp q) (by omega)), f_M_step_248, a1, hx_n_eq, hx_n_eq, hx_n_eq]
      exact ⟨_, _, rfl, rfl, E, F, K, n, g, u, fl, st, S + 1, 0, go, hr_F_of h1 rfl rfl rfl rfl, hr_W_of h2 rfl rfl rfl rfl, hr_G_put h3 rfl rfl rfl rfl rfl (by omega) (by omega) rfl rfl rfl rfl (by omega)⟩
theorem step_all {E F K n g : Nat → Nat} {S : Int} {sk go l rt : Nat} (hl : l = if n 1 < n 0 then n 1 else n 0) (hl32 : l ≤ 32) (hrt : rt < 2 ^ (E (g 1) + F (g 1) + 1)) : ∀ (d N N' i : Nat) (u : Nat → Nat → Nat) (σ : hx_S) (τ : hm_S) (fl : Int32) (st : Nat), hr_P σ τ E F K n g u fl st S sk go → i + d = l → d < N → d < N' → ∃ σ1 τ1, f_X_step_67 N σ (nI rt) (nI l) (nI i) = some (1, σ1) ∧ f_M_step_89 N' τ (nI rt) (nI (g 1)) (nI i) = some (1, τ1) ∧ hr_R σ1 τ1 := by
  intro d
  induction d with
  | zero =>
    intro N N' i u σ τ fl st hP hi hN hN'
    obtain ⟨N, rfl⟩ : ∃ z, N = z + 1 := ⟨N - 1, by omega⟩
    obtain ⟨N', rfl⟩ : ∃ z, N' = z + 1 := ⟨N' - 1, by omega⟩
    exact step_end hP hl rt (by omega) (by omega) N N'
  | succ d ih =>
    intro N N' i u σ τ fl st hP hi hN hN'
    obtain ⟨N, rfl⟩ : ∃ z, N = z + 1 := ⟨N - 1, by omega⟩
    obtain ⟨N', rfl⟩ : ∃ z, N' = z + 1 := ⟨N' - 1, by omega⟩
    obtain ⟨p, fl1, st1, σ2, τ2, q1, q2, q3, q4⟩ := step_one hP hl hrt (show i < l by omega) N N'
    obtain ⟨σ3, τ3, r1, r2, r3⟩ := ih N N' (i + 1) _ _ _ fl1 st1 ((hr_N.P hP q4).put1 (i := i) q1) (by omega) (by omega) (by omega)
    exact ⟨σ3, τ3, q2.trans r1, q3.trans r2, r3⟩
theorem sim_step {σ : hx_S} {τ : hm_S} (hR : hr_R σ τ) (x1 : Int32) : ∃ r σ1 τ1, f_X_step σ x1 = some (r, σ1) ∧ f_M_step τ x1 = some (r, τ1) ∧ hr_R σ1 τ1 := by
  have fu : hx_fuel = 5000 := rfl
  have hR0 := hR
  obtain ⟨E, F, K, n, g, u, fl, st, S, sk, go, h1, h2, h3⟩ := hR
  have hP : hr_P σ τ E F K n g u fl st S sk go := ⟨h1, h2, h3⟩
  have W0 := h2 0 (by omega)
  have W1 := h2 1 (by omega)
  have hn0 := W0.1
  have hn1 := W1.1
  have hg0 := W0.2.1
  have hg1 := W1.2.1
  rw [f_X_step, f_M_step, W1.2.2.2.2.1, hx_gn g11, cn1, W1.2.2.2.2.2.1]
  simp only [hx_n_eq]
  rcases a_pat h1 hg1 x1 with ⟨rt, hrt, rfl, p1, p2, p3⟩ | ⟨p1, p2⟩
  · rw [p1, p2, hx_b1_some, hx_b1_some, if_neg one_ne, if_neg one_ne, f_X_slopesBroke, W0.2.2.2.2.1, hc4 hg0, hx_gn (hg4n hg0)]
    rcases broke h1 h2 (nI rt) (nI (g 1)) (n 0) hx_fuel hx_fuel 0 (by omega) (by omega) (by omega) with ⟨b1, b2⟩ | ⟨b1, b2⟩
    · rw [show nI 0 = 0 from rfl] at b1 b2
      rw [b1, b2, hx_b1_some, if_pos rfl, x_len h2]
      obtain ⟨σ1, τ1, r1, r2, r3⟩ := step_all (n := n) (l := if n 1 < n 0 then n 1 else n 0) rfl (by split <;> omega) hrt (if n 1 < n 0 then n 1 else n 0) hx_fuel hx_fuel 0 u σ τ fl st hP (by omega) (by split <;> omega) (by split <;> omega)
      exact ⟨1, σ1, τ1, r1, r2, r3⟩
    · rw [show nI 0 = 0 from rfl] at b1 b2
      have h3' := h3
      obtain ⟨g1, g2, g3, g4, g5, g6, g7, g8, g9, g10, g11, g12, g13, g14, g15⟩ := h3'
      have a1 : iI S - 1 = iI (S - 1) := iI_sub S 1
      have a2 : iI (S - 1) < (-60 : Int32) ↔ S - 1 < -60 := by rw [show (-60 : Int32) = iI (-60) by decide]; exact iI_lt (by omega) (by omega) (by omega) (by omega)
      have a3 : iI S ≤ (-60 : Int32) ↔ S ≤ -60 := by rw [show (-60 : Int32) = iI (-60) by decide]; exact iI_le (by omega) (by omega) (by omega) (by omega)
      rw [b1, b2, hx_b1_some, if_neg one_ne, g6, g7, a1]
      by_cases d : S = -60
      · have a4 : iI S - 0 = iI S := by rw [show (0 : Int32) = iI 0 from rfl, iI_sub, Int.sub_zero]
        rw [if_pos (a2.mpr (by omega)), if_pos (a3.mpr (by omega)), f_M_step_70, a4, hx_n_eq, hx_n_eq, hx_n_eq, show (-60 : Int32) = iI (-60) by decide, d]
        exact ⟨_, _, _, rfl, rfl, E, F, K, n, g, u, fl, st, -60, 0, go, hr_F_of h1 rfl rfl rfl rfl, hr_W_of h2 rfl rfl rfl rfl, hr_G_put h3 rfl rfl rfl rfl rfl (by omega) (by omega) rfl rfl rfl rfl (by omega)⟩
      · rw [if_neg (fun q => absurd (a2.mp q) (by omega)), if_neg (fun q => absurd (a3.mp q) (by omega)), f_M_step_70, a1, hx_n_eq, hx_n_eq, hx_n_eq]
        exact ⟨_, _, _, rfl, rfl, E, F, K, n, g, u, fl, st, S - 1, 0, go, hr_F_of h1 rfl rfl rfl rfl, hr_W_of h2 rfl rfl rfl rfl, hr_G_put h3 rfl rfl rfl rfl rfl (by omega) (by omega) rfl rfl rfl rfl (by omega)⟩
  · rw [p1, p2, hx_b1_some, hx_b1_some, if_pos rfl, if_pos rfl]; exact ⟨_, _, _, rfl, rfl, hR0⟩
