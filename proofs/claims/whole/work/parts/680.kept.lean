theorem shl2_t : ∀ w, w < 12 → (2 : Int32) <<< (nI w &&& 31) = nI (2 ^ (w + 1)) := by decide +kernel
set_option maxHeartbeats 1000000 in
theorem kept_loop {E F K n g : Nat → Nat} {u : Nat → Nat → Nat} {S : Int} {sk go k m w : Nat} (hk : k < 4) (hm : m < 4) (hw : w ≤ 5) (h11 : E k + F k ≤ 11) (fl0 : Int32) : ∀ (d N N' a same : Nat) (σ : hx_S) (τ : hm_S) (fl : Int32) (st : Nat), hr_P σ τ E F K n g u fl st S sk go → a + d = 2 ^ (E k + F k + 1) → d < N → d < N' → ∃ r σ1 τ1, f_X_kept_71 N σ (nI k) (nI m) (nI w) fl0 (nI (2 ^ (E k + F k + 1))) (nI same) (nI a) = some (r, σ1) ∧ f_M_kept_59 N' τ (nI k) (nI m) (nI w) fl0 (nI same) (lN a) = some (r, τ1) ∧ hr_R σ1 τ1 := by
  have hp : 2 ^ (E k + F k + 1) ≤ 2 ^ 12 := Nat.pow_le_pow_right (by decide) (by omega)
  have hp2 : 2 ^ (E k + F k + 1) = 2 ^ (E k + F k) * 2 := Nat.pow_succ ..
  have e2 : (2 : Int64) * lN (2 ^ (E k + F k)) = lN (2 ^ (E k + F k + 1)) := by rw [show (2 : Int64) = lN 2 from rfl, lN_mul, hp2, Nat.mul_comm]
  intro d
  induction d with
  | zero =>
    intro N N' a same σ τ fl st hP ha hN hN'
    obtain ⟨N, rfl⟩ : ∃ z, N = z + 1 := ⟨N - 1, by omega⟩
    obtain ⟨N', rfl⟩ : ∃ z, N' = z + 1 := ⟨N' - 1, by omega⟩
    obtain ⟨h1, h2, h3⟩ := hP
    have hc : 0 ≤ lg_cmp (lN a) (lN (2 ^ (E k + F k + 1))) := by rw [c_ge (by omega) (by omega)]; omega
    rw [f_X_kept_71, if_pos (nI_le (by omega) (by omega)), hx_n_eq, f_M_kept_59, m_signBit (mF_of h1 hk), hx_b1_some, e2, if_pos hc, hx_n_eq]
    obtain ⟨g1, g2, g3⟩ := h3
    exact ⟨_, _, _, rfl, rfl, E, F, K, n, g, u, fl0, st, S, sk, go, hr_F_of h1 rfl rfl rfl rfl, hr_W_of h2 rfl rfl rfl rfl, rfl, rfl, g3⟩
  | succ d ih =>
    intro N N' a same σ τ fl st hP ha hN hN'
    obtain ⟨N, rfl⟩ : ∃ z, N = z + 1 := ⟨N - 1, by omega⟩
    obtain ⟨N', rfl⟩ : ∃ z, N' = z + 1 := ⟨N' - 1, by omega⟩
    have hv := (hP.1 k hk).1
    have hM := mF_of hP.1 hk
    have hc : ¬ 0 ≤ lg_cmp (lN a) (lN (2 ^ (E k + F k + 1))) := by rw [c_ge (by omega) (by omega)]; omega
    have haP : a < 2 ^ (E k + F k + 1) := by omega
    rw [f_X_kept_71, if_neg (nI_ge (by omega) (by omega)), hc4 hk, hc4 hm, hx_gn (hg4n hk), hx_gn (hg4n hm), f_X_comesBack, (hP.1 k hk).2.1, x_sortOf hv (by omega), hx_b1_some, f_M_kept_59, m_signBit hM, hx_b1_some, e2, if_neg hc, m_sortOf hM (by omega), hx_b1_some]
    have k117 : ∀ (τ1 : hm_S) (s : Nat), f_M_kept_117 (f_M_kept_59 N') τ1 (nI k) (nI m) (nI w) fl0 (nI s) (lN a) = f_M_kept_59 N' τ1 (nI k) (nI m) (nI w) fl0 (nI s) (lN (a + 1)) := fun τ1 s => by
      rw [f_M_kept_117, hx_n_eq, lN_1]
    have k103 : ∀ (σ1 : hx_S) (s : Nat), f_X_kept_103 (f_X_kept_71 N) σ1 (nI k) (nI m) (nI w) fl0 (nI (2 ^ (E k + F k + 1))) (nI s) (nI a) = f_X_kept_71 N σ1 (nI k) (nI m) (nI w) fl0 (nI (2 ^ (E k + F k + 1))) (nI s) (nI (a + 1)) := fun σ1 s => by
      rw [f_X_kept_103, hx_n_eq, nI_1]
    by_cases c4 : q_sort (E k) (F k) (K k) a = 4
    · have e4 : nI (q_sort (E k) (F k) (K k) a) = 4 := by rw [c4]; rfl
      rw [if_pos e4, if_pos e4, hx_b2_some, if_pos rfl, k117, k103]
      exact ih N N' (a + 1) same σ τ fl st hP (by omega) (by omega) (by omega)
    · have e4 : ¬ nI (q_sort (E k) (F k) (K k) a) = 4 := by rw [sort_4]; exact c4
      obtain ⟨p, fl1, st1, σ2, τ2, q1, q2, q3, q4⟩ := AB_turned hP hk hm hw haP
      have hP2 := hr_N.P hP q4
      obtain ⟨p2, fl2, st2, σ3, τ3, r1, r2, r3, r4⟩ := AB_turned hP2 hm hk hw q1
      have hP3 := hr_N.P hP2 r4
      have hE : nI p2 = nI a ↔ p2 = a := nI_eq (by omega) (by omega)
      have hE2 : lg_cmp (lN p2) (lN a) = 0 ↔ p2 = a := by rw [c_eq (by omega) (by omega)]
      rw [if_neg e4, if_neg e4, q2, hx_b2_some, r2, hx_b2_some, q3, hx_b2_some, r3, hx_b2_some]
      by_cases c : p2 = a
      · rw [if_pos (hE.mpr c), if_pos (hE2.mpr c), hx_b2_some, if_neg one_ne, hx_n_eq, nI_1, k103, f_M_kept_114, hx_n_eq, show nI same + 1 = nI (same + 1) from nI_1 same, k117]
        exact ih N N' (a + 1) (same + 1) σ3 τ3 fl2 st2 hP3 (by omega) (by omega) (by omega)
      · rw [if_neg (fun q => c (hE.mp q)), if_neg (fun q => c (hE2.mp q)), hx_b2_some, if_pos rfl, k103, f_M_kept_114, hx_n_eq, show nI same + 0 = nI same from nI_add same 0, k117]
        exact ih N N' (a + 1) same σ3 τ3 fl2 st2 hP3 (by omega) (by omega) (by omega)
theorem sim_kept {σ : hx_S} {τ : hm_S} (hR : hr_R σ τ) (x1 x2 x3 : Int32) : ∃ r σ1 τ1, f_X_kept σ x1 x2 x3 = some (r, σ1) ∧ f_M_kept τ x1 x2 x3 = some (r, τ1) ∧ hr_R σ1 τ1 := by
  have fu : hx_fuel = 5000 := rfl
  have hR0 := hR
  obtain ⟨E, F, K, n, g, u, fl, st, S, sk, go, h1, h2, h3⟩ := hR
  have hP : hr_P σ τ E F K n g u fl st S sk go := ⟨h1, h2, h3⟩
  rw [f_X_kept, f_M_kept]
  rcases a_form x1 with ⟨k, hk, rfl, a1, a2⟩ | ⟨a1, a2⟩
  · rw [a1, a2, hx_b1_some, hx_b1_some, if_neg one_ne, if_neg one_ne]
    rcases a_form x2 with ⟨m, hm, rfl, b1, b2⟩ | ⟨b1, b2⟩
    · rw [b1, b2, hx_b1_some, hx_b1_some, if_neg one_ne, if_neg one_ne, show (0 : Int64) = lI 0 from rfl, show (4 : Int64) = lI 4 from rfl]
      obtain ⟨z, z1, z2, rfl, hz⟩ := a_in x3 0 4 (by omega) (by omega) (by omega) (by omega)
      have e1 : (iI z < (0 : Int32)) ↔ z < 0 := iI_lt (b := 0) z1 z2 (by omega) (by omega)
      have e2 : (iI z < (5 : Int32)) ↔ z < 5 := iI_lt (b := 5) z1 z2 (by omega) (by omega)
      rcases hz with ⟨c1, c2, d1⟩ | ⟨c, d1⟩
      · have hv := (h1 k hk).1
        have hM := mF_of h1 hk
        have hE := hv.2.1
        have hF := hv.2.2.2.1
        rw [d1, hx_b1_some, if_neg one_ne, if_neg (fun q => absurd (e1.mp q) (by omega)), if_pos (e2.mpr (by omega)), hc4 hk, hx_gn (hg4n hk), hx_gn (hg4n hk), hx_gn (hg4n hk), (h1 k hk).2.1, FM_w, hM.2.2.1, hM.2.2.2.1, nI_add]
        have e3 : nI (E k + F k) ≤ (11 : Int32) ↔ E k + F k ≤ 11 := nI_leI (b := 11) (by omega) (by omega)
        by_cases q : E k + F k ≤ 11
        · have hp : 2 ^ (E k + F k + 1) ≤ 2 ^ 12 := Nat.pow_le_pow_right (by decide) (by omega)
          rw [if_pos (e3.mpr q), if_pos (e3.mpr q)]
          simp only [hx_n_eq]
          rw [hx_gn (hg4n hk), shl2_t _ (by omega), h3.1, h3.2.1, iI_nn c1]
          exact kept_loop hk hm (by omega) q fl (2 ^ (E k + F k + 1)) hx_fuel hx_fuel 0 0 σ τ fl st hP (by omega) (by omega) (by omega)
        · rw [if_neg (fun w => q (e3.mp w)), if_neg (fun w => q (e3.mp w))]
          exact ⟨_, _, _, rfl, rfl, hR0⟩
      · rw [d1, hx_b1_some, if_pos rfl]
        by_cases c0 : z < 0
        · rw [if_pos (e1.mpr c0)]; exact ⟨_, _, _, rfl, rfl, hR0⟩
        · rw [if_neg (fun q => c0 (e1.mp q)), if_neg (fun q => absurd (e2.mp q) (by omega))]; exact ⟨_, _, _, rfl, rfl, hR0⟩
    · rw [b1, b2, hx_b1_some, hx_b1_some, if_pos rfl, if_pos rfl]; exact ⟨_, _, _, rfl, rfl, hR0⟩
  · rw [a1, a2, hx_b1_some, hx_b1_some, if_pos rfl, if_pos rfl]; exact ⟨_, _, _, rfl, rfl, hR0⟩
