theorem hc2 {r : Nat} (hr : r < 2) : (nI r).toNatClampNeg = r := nI_clamp (by omega)
theorem hg2n {r : Nat} (hr : r < 2) : ¬ (nI r < 0 ∨ 2 ≤ r) := fun h => by
  have := nI_in hr (by omega)
  rw [hc2 hr] at this
  exact this h
theorem hgn {i N : Nat} (hi : i < N) (hN : N < 2147483648) : ¬ (nI i < 0 ∨ N ≤ i) := fun h => by
  have := nI_in hi hN
  rw [nI_clamp (show i < 2 ^ 31 by omega)] at this
  exact this h
theorem ix32 (r i : Nat) : (32 : Int32) * nI r + nI i = nI (32 * r + i) := by
  rw [show (32 : Int32) = iI 32 from rfl, nI_i r, iI_mul, nI_i i, iI_add, nI_i]
  rfl
theorem x_rowOf {σ : hx_S} {r : Nat} (hr : r < 2) : f_X_rowOf σ (nI r) = some r := by
  match r, hr with
  | 0, _ => rfl
  | 1, _ => rfl
theorem a_has {σ : hx_S} {τ : hm_S} {E F n g : Nat → Nat} {u : Nat → Nat → Nat} (h : hr_W σ τ E F n g u) {r : Nat} (hr : r < 2) (x : Int32) : (∃ i, i < n r ∧ x = nI i ∧ f_R_has (hx_rw σ r) x = some 1 ∧ f_M_isIn x.toInt64 0 (nI (n r) - (1 : Int32)).toInt64 = some 1) ∨ (f_R_has (hx_rw σ r) x = some 0 ∧ f_M_isIn x.toInt64 0 (nI (n r) - (1 : Int32)).toInt64 = some 0) := by
  have hs : hx_rw_size (hx_rw σ r) = iI (n r : Int) := by rw [← nI_i]; exact (h r hr).2.2.1
  have hn := (h r hr).1
  rw [show nI (n r) - (1 : Int32) = iI ((n r : Int) - 1) by rw [nI_i, show (1 : Int32) = iI 1 from rfl, iI_sub], iI_l (by omega) (by omega), show (0 : Int64) = lI 0 from rfl]
  obtain ⟨z, z1, z2, rfl, ⟨c1, c2, b1⟩ | ⟨c, b1⟩⟩ := a_in x 0 ((n r : Int) - 1) (by omega) (by omega) (by omega) (by omega)
  · refine Or.inl ⟨z.toNat, by omega, iI_nn c1, ?_, b1⟩
    rw [f_R_has, hs, if_neg (show ¬ iI z < 0 from fun q => absurd ((iI_lt (b := 0) z1 z2 (by omega) (by omega)).mp q) (by omega)), if_neg (fun q => absurd ((iI_le (by omega) (by omega) z1 z2).mp q) (by omega))]
  · refine Or.inr ⟨?_, b1⟩
    rw [f_R_has, hs]
    by_cases c0 : z < 0
    · rw [if_pos (show iI z < 0 from (iI_lt (b := 0) z1 z2 (by omega) (by omega)).mpr c0)]
    · rw [if_neg (show ¬ iI z < 0 from fun q => absurd ((iI_lt (b := 0) z1 z2 (by omega) (by omega)).mp q) (by omega)), if_pos ((iI_le (by omega) (by omega) z1 z2).mpr (by omega))]
theorem hr_pat {σ : hx_S} {τ : hm_S} {E F K n g : Nat → Nat} {u : Nat → Nat → Nat} (h1 : hr_F σ τ E F K) (h : hr_W σ τ E F n g u) {r i : Nat} (hr : r < 2) (hi : i < n r) : u r i < 4294967296 := pw_p (h1 (g r) (h r hr).2.1).1 ((h r hr).2.2.2.2.2.2 i hi).1
theorem hr_F_of {σ σ1 : hx_S} {τ τ1 : hm_S} {E F K : Nat → Nat} (h : hr_F σ τ E F K) (a : σ1.1 = σ.1) (b : hm_fE τ1 = hm_fE τ) (c : hm_fF τ1 = hm_fF τ) (d : hm_fK τ1 = hm_fK τ) : hr_F σ1 τ1 E F K := by
  intro k hk
  have hh := h k hk
  refine ⟨hh.1, ?_, ?_, ?_, ?_⟩
  · show σ1.1 k = _
    rw [a]; exact hh.2.1
  · rw [b]; exact hh.2.2.1
  · rw [c]; exact hh.2.2.2.1
  · rw [d]; exact hh.2.2.2.2
theorem hr_W_of {σ σ1 : hx_S} {τ τ1 : hm_S} {E F n g : Nat → Nat} {u : Nat → Nat → Nat} (h : hr_W σ τ E F n g u) (a : σ1.2.1 = σ.2.1) (b : hm_rM τ1 = hm_rM τ) (c : hm_rF τ1 = hm_rF τ) (d : hm_row τ1 = hm_row τ) : hr_W σ1 τ1 E F n g u := by
  intro r hr
  have hh := h r hr
  refine ⟨hh.1, hh.2.1, ?_, ?_, ?_, ?_, ?_⟩
  · show hx_rw_size (σ1.2.1 r) = _
    rw [a]; exact hh.2.2.1
  · rw [b]; exact hh.2.2.2.1
  · show hx_rw_format (σ1.2.1 r) = _
    rw [a]; exact hh.2.2.2.2.1
  · rw [c]; exact hh.2.2.2.2.2.1
  · intro i hi
    show _ ∧ (σ1.2.1 r).1 i = _ ∧ _
    rw [a, d]; exact hh.2.2.2.2.2.2 i hi
theorem hx_size_ss (σ : hx_S) (r : Nat) (x : Int32) : hx_size (hx_size_s σ r x) r = x := by simp [hx_size, hx_size_s, hx_rw_s, hx_rw_size]
theorem hx_size_ps (σ : hx_S) (r i : Nat) (x : Int32) : hx_size (hx_pat_s σ r i x) r = hx_size σ r := by simp [hx_size, hx_pat_s, hx_rw_s, hx_rw_size]
theorem hx_fmt_ss (σ : hx_S) (r : Nat) (x : Int32) : hx_format (hx_size_s σ r x) r = hx_format σ r := by simp [hx_format, hx_size_s, hx_rw_s, hx_rw_format]
theorem hx_fmt_ps (σ : hx_S) (r i : Nat) (x : Int32) : hx_format (hx_pat_s σ r i x) r = hx_format σ r := by simp [hx_format, hx_pat_s, hx_rw_s, hx_rw_format]
theorem hx_pat_ss (σ : hx_S) (r : Nat) (x : Int32) : hx_pat (hx_size_s σ r x) r = hx_pat σ r := by simp [hx_pat, hx_size_s, hx_rw_s]
theorem hx_pat_ps (σ : hx_S) (r i : Nat) (x : Int32) : hx_pat (hx_pat_s σ r i x) r = upd (hx_pat σ r) i x := by simp [hx_pat, hx_pat_s, hx_rw_s]
theorem hx_rw_ss (σ : hx_S) (r q : Nat) (x : Int32) (h : ¬ q = r) : hx_rw (hx_size_s σ r x) q = hx_rw σ q := by simp [hx_rw, hx_size_s, hx_rw_s, h]
theorem hx_rw_fs (σ : hx_S) (r q : Nat) (x : Int32) (h : ¬ q = r) : hx_rw (hx_format_s σ r x) q = hx_rw σ q := by simp [hx_rw, hx_format_s, hx_rw_s, h]
theorem hx_rw_ps (σ : hx_S) (r q i : Nat) (x : Int32) (h : ¬ q = r) : hx_rw (hx_pat_s σ r i x) q = hx_rw σ q := by simp [hx_rw, hx_pat_s, hx_rw_s, h]
theorem hm_rM_ss (τ : hm_S) (r : Nat) (x : Int32) : hm_rM (hm_rM_s τ r x) r = x := by show upd _ r x r = x; rw [upd, if_pos rfl]
theorem hm_rM_rs (τ : hm_S) (i : Nat) (x : Int64) : hm_rM (hm_row_s τ i x) = hm_rM τ := rfl
theorem sim_at {σ : hx_S} {τ : hm_S} (hR : hr_R σ τ) (x1 x2 : Int32) : ∃ r, f_X_at σ x1 x2 = some r ∧ f_M_at τ x1 x2 = some r := by
  obtain ⟨E, F, K, n, g, u, fl, st, S, sk, go, h1, h2, h3⟩ := hR
  rw [f_X_at, f_M_at]
  rcases a_row x1 with ⟨r, hr, rfl, a1, a2⟩ | ⟨a1, a2⟩
  · rw [a1, a2, hx_b1_some, hx_b1_some, if_neg one_ne, if_neg one_ne, x_rowOf hr, hx_b1_some, if_pos hr, hc2 hr, hx_gn (hg2n hr), (h2 r hr).2.2.2.1]
    rcases a_has h2 hr x2 with ⟨i, hi, rfl, b1, b2⟩ | ⟨b1, b2⟩
    · have hn := (h2 r hr).1
      have hp := (h2 r hr).2.2.2.2.2.2 i hi
      rw [b1, b2, hx_b1_some, hx_b1_some, hx_b1_some, if_neg one_ne, if_neg one_ne, if_pos hr, nI_clamp (show i < 2 ^ 31 by omega), hx_gn (hgn (N := 32) (by omega) (by omega)), ix32, nI_clamp (show 32 * r + i < 2 ^ 31 by omega), hx_gn (hgn (N := 64) (by omega) (by omega)), hp.2.1, hp.2.2, x_bits (hr_pat h1 h2 hr hi)]
      exact ⟨_, rfl, rfl⟩
    · rw [b1, b2, hx_b1_some, hx_b1_some, hx_b1_some, if_pos rfl, if_pos rfl]; exact ⟨_, rfl, rfl⟩
  · rw [a1, a2, hx_b1_some, hx_b1_some, if_pos rfl, if_pos rfl]; exact ⟨_, rfl, rfl⟩
theorem sim_clear {σ : hx_S} {τ : hm_S} (hR : hr_R σ τ) (x1 x2 : Int32) : ∃ r σ1 τ1, f_X_clear σ x1 x2 = some (r, σ1) ∧ f_M_clear τ x1 x2 = some (r, τ1) ∧ hr_R σ1 τ1 := by
  have hR0 := hR
  obtain ⟨E, F, K, n, g, u, fl, st, S, sk, go, h1, h2, h3⟩ := hR
  rw [f_X_clear, f_M_clear]
  rcases a_row x1 with ⟨r, hr, rfl, a1, a2⟩ | ⟨a1, a2⟩
  · rw [a1, a2, hx_b1_some, hx_b1_some, if_neg one_ne, if_neg one_ne]
    rcases a_form x2 with ⟨k, hk, rfl, b1, b2⟩ | ⟨b1, b2⟩
    · rw [b1, b2, hx_b1_some, hx_b1_some, if_neg one_ne, if_neg one_ne, x_rowOf hr, hx_b1_some, if_pos hr, hx_n_eq, hx_n_eq, hx_n_eq, hc2 hr, hx_gn (hg2n hr), hx_n_eq, hx_gn (hg2n hr), hx_n_eq, hx_gn (hg2n hr), hx_n_eq, (h2 r hr).2.2.1, (h2 r hr).2.2.2.1]
      refine ⟨_, _, _, rfl, rfl, E, F, K, fun q => if q = r then 0 else n q, fun q => if q = r then k else g q, u, fl, st, S, sk, go, h1, ?_, h3⟩
      intro q hq
      have hh := h2 q hq
      match r, hr, q, hq, hh with
      | 0, _, 0, _, hh => exact ⟨Nat.zero_le _, hk, rfl, rfl, rfl, rfl, fun i hi => absurd hi (Nat.not_lt_zero _)⟩
      | 1, _, 1, _, hh => exact ⟨Nat.zero_le _, hk, rfl, rfl, rfl, rfl, fun i hi => absurd hi (Nat.not_lt_zero _)⟩
      | 0, _, 1, _, hh => exact hh
      | 1, _, 0, _, hh => exact hh
    · rw [b1, b2, hx_b1_some, hx_b1_some, if_pos rfl, if_pos rfl]; exact ⟨_, _, _, rfl, rfl, hR0⟩
  · rw [a1, a2, hx_b1_some, hx_b1_some, if_pos rfl, if_pos rfl]; exact ⟨_, _, _, rfl, rfl, hR0⟩
theorem sim_push {σ : hx_S} {τ : hm_S} (hR : hr_R σ τ) (x1 x2 : Int32) : ∃ r σ1 τ1, f_X_push σ x1 x2 = some (r, σ1) ∧ f_M_push τ x1 x2 = some (r, τ1) ∧ hr_R σ1 τ1 := by
  have hR0 := hR
  obtain ⟨E, F, K, n, g, u, fl, st, S, sk, go, h1, h2, h3⟩ := hR
  rw [f_X_push, f_M_push]
  rcases a_row x1 with ⟨r, hr, rfl, a1, a2⟩ | ⟨a1, a2⟩
  · have hg := (h2 r hr).2.1
    have hn := (h2 r hr).1
    rw [a1, a2, hx_b1_some, hx_b1_some, if_neg one_ne, if_neg one_ne, x_rowOf hr, hx_b1_some, if_pos hr, hc2 hr, hx_gn (hg2n hr), (h2 r hr).2.2.2.2.1, (h2 r hr).2.2.2.2.2.1]
    rcases a_pat h1 hg x2 with ⟨a, ha, rfl, p1, p2, p3⟩ | ⟨p1, p2⟩
    · rw [p1, p2, hx_b1_some, hx_b1_some, hx_b1_some, if_neg one_ne, if_neg one_ne, if_pos hr, hx_gn (hg2n hr), (h2 r hr).2.2.1, (h2 r hr).2.2.2.1]
      by_cases c : n r = 32
      · rw [if_pos (show nI (n r) = 32 by rw [c]; rfl), if_neg (show ¬ nI (n r) < 32 by rw [c]; decide)]; exact ⟨_, _, _, rfl, rfl, hR0⟩
      · rw [if_neg (show ¬ nI (n r) = 32 from fun q => c ((nI_eq (b := 32) (by omega) (by omega)).mp q)), if_pos (show nI (n r) < 32 from (nI_ltI (b := 32) (by omega) (by omega)).mpr (by omega)), nI_clamp (show n r < 2 ^ 31 by omega), hx_gn (hgn (N := 32) (by omega) (by omega)), hx_n_eq, hx_n_eq, hx_n_eq, hx_gn (hg2n hr), hx_gn (hg2n hr), p3 τ (mF_of h1 hg), hx_b1_some, ix32, nI_clamp (show 32 * r + n r < 2 ^ 31 by omega), hx_gn (hgn (N := 64) (by omega) (by omega)), hx_n_eq, hx_gn (hg2n hr), hx_n_eq, hx_gn (hg2n hr), hx_n_eq, hx_gn (hg2n hr)]
        rw [hx_size_ps, hm_rM_rs, hx_size_ss, hm_rM_ss, (h2 r hr).2.2.1, (h2 r hr).2.2.2.1, nI_1]
        refine ⟨_, _, _, rfl, rfl, E, F, K, fun q => if q = r then n r + 1 else n q, g, fun q i => if q = r ∧ i = n r then a else u q i, fl, st, S, sk, go, hr_F_of h1 rfl rfl rfl rfl, ?_, h3⟩
        intro q hq
        have hh := h2 q hq
        by_cases cq : q = r
        · subst cq
          simp only [if_pos]
          refine ⟨by omega, hg, hx_size_ss _ _ _, hm_rM_ss _ _ _, by rw [hx_fmt_ss, hx_fmt_ps]; exact hh.2.2.2.2.1, hh.2.2.2.2.2.1, fun i hi => ?_⟩
          rw [hx_pat_ss, hx_pat_ps]
          show _ ∧ upd (hx_pat σ q) (n q) (nI a) i = _ ∧ vp_updL (hm_row τ) (32 * q + n q) (lN a) (32 * q + i) = _
          rw [upd, vp_updL]
          by_cases ci : i = n q
          · subst ci
            rw [if_pos ⟨trivial, rfl⟩, if_pos rfl, if_pos rfl]
            exact ⟨ha, rfl, rfl⟩
          · rw [if_neg (fun w => ci w.2), if_neg ci, if_neg (by omega)]
            exact hh.2.2.2.2.2.2 i (by omega)
        · simp only [if_neg cq]
          have hpx : hx_rw (hx_size_s (hx_pat_s σ r (n r) (nI a)) r (nI (n r + 1))) q = hx_rw σ q := by
            rw [hx_rw_ss _ _ _ _ cq, hx_rw_ps _ _ _ _ _ cq]
          refine ⟨hh.1, hh.2.1, ?_, ?_, ?_, hh.2.2.2.2.2.1, fun i hi => ?_⟩
          · show hx_rw_size (hx_rw _ q) = _
            rw [hpx]; exact hh.2.2.1
          · show upd (hm_rM τ) r (nI (n r + 1)) q = _
            rw [upd, if_neg cq]; exact hh.2.2.2.1
          · show hx_rw_format (hx_rw _ q) = _
            rw [hpx]; exact hh.2.2.2.2.1
          · show _ ∧ hx_rw_pats (hx_rw _ q) i = _ ∧ vp_updL (hm_row τ) (32 * r + n r) (lN a) (32 * q + i) = _
            have hq1 := hh.2.2.2.2.2.2 i hi
            have hnq := hh.1
            rw [if_neg (fun w => cq w.1), hpx, vp_updL, if_neg (by omega)]
            exact hq1
    · rw [p1, p2, hx_b1_some, hx_b1_some, hx_b1_some, if_pos rfl, if_pos rfl]; exact ⟨_, _, _, rfl, rfl, hR0⟩
  · rw [a1, a2, hx_b1_some, hx_b1_some, if_pos rfl, if_pos rfl]; exact ⟨_, _, _, rfl, rfl, hR0⟩
theorem sim_scaler {σ : hx_S} {τ : hm_S} (hR : hr_R σ τ) (x1 x2 : Int32) : ∃ r σ1 τ1, f_X_scaler σ x1 x2 = some (r, σ1) ∧ f_M_scaler τ x1 x2 = some (r, τ1) ∧ hr_R σ1 τ1 := by
  have hR0 := hR
  obtain ⟨E, F, K, n, g, u, fl, st, S, sk, go, h1, h2, h3⟩ := hR
  obtain ⟨g1, g2, g3, g4, g5, g6⟩ := h3
  rw [f_X_scaler, f_M_scaler, show (-60 : Int64) = lI (-60) from rfl, show (60 : Int64) = lI 60 from rfl, show (1 : Int64) = lI 1 from rfl, show (100 : Int64) = lI 100 from rfl]
  obtain ⟨z, z1, z2, rfl, hz⟩ := a_in x1 (-60) 60 (by omega) (by omega) (by omega) (by omega)
  obtain ⟨y, y1, y2, rfl, hy⟩ := a_in x2 1 100 (by omega) (by omega) (by omega) (by omega)
  have e1 : (iI z < (-60 : Int32)) ↔ z < -60 := by rw [show (-60 : Int32) = iI (-60) by decide]; exact iI_lt z1 z2 (by omega) (by omega)
  have e2 : ((60 : Int32) < iI z) ↔ 60 < z := iI_lt (a := 60) (by omega) (by omega) z1 z2
  have e3 : (iI y < (1 : Int32)) ↔ y < 1 := iI_lt (b := 1) y1 y2 (by omega) (by omega)
  have e4 : (iI y ≤ (100 : Int32)) ↔ y ≤ 100 := iI_le (b := 100) y1 y2 (by omega) (by omega)
  rcases hz with ⟨c1, c2, b1⟩ | ⟨c, b1⟩
  · rw [b1, hx_b1_some, if_neg one_ne, if_neg (fun q => absurd (e1.mp q) (by omega)), if_neg (fun q => absurd (e2.mp q) (by omega))]
    rcases hy with ⟨d1, d2, b2⟩ | ⟨d, b2⟩
    · rw [b2, hx_b1_some, if_neg one_ne, if_neg (fun q => absurd (e3.mp q) (by omega)), if_pos (e4.mpr d2), hx_n_eq, hx_n_eq, hx_n_eq, hx_n_eq, hx_n_eq, hx_n_eq]
      have w1 : hr_G (hx_streak_s (hx_goal_s (hx_shift_s σ (iI z)) (iI y)) 0) (hm_streak_s (hm_growth_s (hm_scaleS_s τ (iI z)) (iI y)) 0) fl st z 0 y.toNat := by
        rw [iI_nn (show 0 ≤ y by omega)]
        refine ⟨?_, ?_, ?_, ?_, g5, ?_, ?_, c1, c2, ?_, ?_, ?_, ?_, by omega, by omega⟩
        · show σ.2.2.2.1.1 = fl
          exact g1
        · show τ.2.2.2.2.2.2.2.2.1 = fl
          exact g2
        · show σ.2.2.2.1.2 = lN st
          exact g3
        · show τ.2.2.2.2.2.2.2.2.2.1 = lN st
          exact g4
        all_goals rfl
      have w2 : hr_F (hx_streak_s (hx_goal_s (hx_shift_s σ (iI z)) (iI y)) 0) (hm_streak_s (hm_growth_s (hm_scaleS_s τ (iI z)) (iI y)) 0) E F K := hr_F_of h1 rfl rfl rfl rfl
      have w3 : hr_W (hx_streak_s (hx_goal_s (hx_shift_s σ (iI z)) (iI y)) 0) (hm_streak_s (hm_growth_s (hm_scaleS_s τ (iI z)) (iI y)) 0) E F n g u := hr_W_of h2 rfl rfl rfl rfl
      exact ⟨_, _, _, rfl, rfl, E, F, K, n, g, u, fl, st, z, 0, y.toNat, w2, w3, w1⟩
    · rw [b2, hx_b1_some, if_pos rfl]
      by_cases c : y < 1
      · rw [if_pos (e3.mpr c)]; exact ⟨_, _, _, rfl, rfl, hR0⟩
      · rw [if_neg (fun q => c (e3.mp q)), if_neg (fun q => absurd (e4.mp q) (by omega))]; exact ⟨_, _, _, rfl, rfl, hR0⟩
  · rw [b1, hx_b1_some, if_pos rfl]
    by_cases c0 : z < -60
    · rw [if_pos (e1.mpr c0)]; exact ⟨_, _, _, rfl, rfl, hR0⟩
    · rw [if_neg (fun q => c0 (e1.mp q)), if_pos (e2.mpr (by omega))]; exact ⟨_, _, _, rfl, rfl, hR0⟩
