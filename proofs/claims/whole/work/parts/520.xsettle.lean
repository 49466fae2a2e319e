/-! The class settles a total -/
/-- what taking leaves: whole times 2 to the power, and more -/
def tK (N w fr ρ : Nat) : Prop := N = w * 2 ^ fr + ρ ∧ ρ < 2 ^ fr ∧ (ρ ≠ 0 → 2305843009213693952 ≤ w) ∧ w < 4611686018427387904 ∧ fr < 640 ∧ (0 < w → fr + w.log2 < 640)
theorem z_long0 : f_JL_numberOfLeadingZeros (lN 0) = some (nI 64) := by rfl
theorem x_take {F : Nat → Int64} {y : Nat → Nat} (hF : cD F y) (σ : hx_S) (ng : Int32) (wh : Int64) (pw mo : Int32) {top : Nat} (ht : top < 20) (hz : ∀ j, top < j → j < 20 → y j = 0) (h0 : top = 0 ∨ y top ≠ 0) :
    ∃ w fr ρ : Nat, f_E_take (hx_ws σ ng wh pw mo F) (nI top) = some (hx_ws σ ng (lN w) (iI ((fr : Int) - 320)) (bI (decide (ρ ≠ 0))) F) ∧ tK (sN y 20) w fr ρ := by
  have hN : sN y 20 = sN y (top + 1) := sN_top 20 (by omega) (fun j h1 h2 => hz j (by omega) h2)
  have hlt := sN_lt (x := y) (n := top) (fun j hj => (hF j (by omega)).1)
  have hN2 : sN y (top + 1) = y top * 2 ^ (32 * top) + sN y top := by show 2 ^ (32 * top) * y top + sN y top = _; rw [Nat.mul_comm]
  have hy := hF top ht
  obtain ⟨len, hl1, hl2, hl3, hl4⟩ : ∃ len : Nat, (∃ lz, lz ≤ 64 ∧ f_JL_numberOfLeadingZeros (lN (y top)) = some (nI lz) ∧ len + lz = 32 * top + 64) ∧ len ≤ 32 * top + 32 ∧ (0 < len → 32 * top < len) ∧ (if len = 0 then top = 0 ∧ sN y 20 = 0 else sN y 20 ≠ 0 ∧ (sN y 20).log2 + 1 = len) := by
    by_cases c : y top = 0
    · have ht0 : top = 0 := by omega
      refine ⟨0, ⟨64, by omega, by rw [c]; exact z_long0, by omega⟩, by omega, by omega, ?_⟩
      rw [if_pos rfl, hN, hN2, c, ht0]
      exact ⟨rfl, rfl⟩
    · have h32 : (y top).log2 < 32 := (Nat.log2_lt c).mpr hy.1
      refine ⟨32 * top + 1 + (y top).log2, ⟨63 - (y top).log2, by omega, z_long (by omega) (by omega), by omega⟩, by omega, by omega, ?_⟩
      rw [if_neg (by omega), hN, hN2, fin_log (by omega) hlt]
      have := Nat.mul_pos (show 0 < y top by omega) (Nat.two_pow_pos (32 * top))
      omega
  obtain ⟨lz, hz1, hz2, hz3⟩ := hl1
  obtain ⟨fr, hfr⟩ : ∃ fr, fr = len - 62 := ⟨_, rfl⟩
  have a1 : (32 : Int32) * nI top + (64 : Int32) - nI lz = iI (len : Int) := by
    rw [show (32 : Int32) = iI 32 from rfl, show (64 : Int32) = iI 64 from rfl, nI_i, nI_i, iI_mul, iI_add, iI_sub, show (32 : Int) * (top : Int) + 64 - (lz : Int) = (len : Int) by omega]
  have a2 : (if iI (len : Int) - (62 : Int32) < (0 : Int32) then (0 : Int32) else iI (len : Int) - (62 : Int32)) = nI fr := by
    rw [show (62 : Int32) = iI 62 from rfl, iI_sub]
    have z : (iI ((len : Int) - 62) < (0 : Int32)) = (len < 62) := by rw [show (0 : Int32) = iI 0 from rfl, iI_lt (by omega) (by omega) (by omega) (by omega)]; exact propext ⟨fun q => by omega, fun q => by omega⟩
    simp only [z]
    by_cases c : len < 62
    · rw [if_pos c, hfr, show len - 62 = 0 by omega]; rfl
    · rw [if_neg c, nI_i, show (len : Int) - 62 = (fr : Int) by omega]
  have a3 : nI fr >>> ((5 : Int32) &&& 31) = nI (fr / 32) := pk_shrN (n := fr) (by omega) _ 5 (by decide)
  have a4 : nI fr &&& (31 : Int32) = nI (fr % 32) := pk_andN (n := fr) (by omega) 5 (by decide)
  have hyl := hF (fr / 32) (by omega)
  have hlt2 := sN_lt (x := y) (n := fr / 32) (fun j hj => (hF j (by omega)).1)
  have a5 : y (fr / 32) / 2 ^ (fr % 32) = sN y (fr / 32 + 1) / 2 ^ fr := by
    have z2 : sN y (fr / 32 + 1) = y (fr / 32) * 2 ^ (32 * (fr / 32)) + sN y (fr / 32) := by show 2 ^ (32 * (fr / 32)) * y (fr / 32) + sN y (fr / 32) = _; rw [Nat.mul_comm]
    have z3 := fin_div (w := y (fr / 32)) (P := 32 * (fr / 32)) (d := fr % 32) hlt2
    rw [show 32 * (fr / 32) + fr % 32 = fr by omega] at z3
    rw [z2, z3]
  have a6 : ((lN (y (fr / 32))).toUInt64 >>> ((nI (fr % 32)).toInt64.toUInt64 &&& Int64.toUInt64 63)).toInt64 = lN (y (fr / 32) / 2 ^ (fr % 32)) := wb_shr (by omega) (by omega)
  have r := x_take54 hF σ ng pw mo (top := top) (fr := fr) ht (by omega) (fun i hi => by
    by_cases c : len = 0
    · rw [if_pos c] at hl4; omega
    · have := hl3 (by omega); omega) (top + 1 - (fr / 32 + 1)) hx_fuel (fr / 32 + 1) (by omega) (by omega) (by have : hx_fuel = 5000 := rfl; omega)
  refine ⟨sN y 20 / 2 ^ fr, fr, sN y 20 % 2 ^ fr, ?_, ?_, Nat.mod_lt _ (Nat.two_pow_pos _), ?_, ?_, by omega, ?_⟩
  · rw [f_E_take, (hx_ws_g ..).2.2.2.2]
    simp only [nI_clamp (show top < 2 ^ 31 by omega), g20 ht, if_false, hy.2, hz2, hx_b1_some, hx_n_eq, a1, a2, a3, a4, nI_clamp (show fr / 32 < 2 ^ 31 by omega), g20 (show fr / 32 < 20 by omega), hyl.2, a6, a5, hx_ws_wh, nI_p1]
    rw [hN]
    exact r
  · exact (Nat.div_add_mod' _ _).symm
  · intro hne
    have hfp : 0 < fr := by
      rcases Nat.eq_zero_or_pos fr with c | c
      · rw [c, Nat.pow_zero, Nat.mod_one] at hne; exact absurd rfl hne
      · exact c
    rw [if_neg (by omega)] at hl4
    have h1 : 2 ^ (sN y 20).log2 ≤ sN y 20 := Nat.log2_self_le hl4.1
    rw [Nat.le_div_iff_mul_le (Nat.two_pow_pos _), show (2305843009213693952 : Nat) = 2 ^ 61 from rfl, ← Nat.pow_add, show 61 + fr = (sN y 20).log2 by omega]
    exact h1
  · by_cases c : len = 0
    · rw [if_pos c] at hl4
      rw [hl4.2, Nat.zero_div]; decide
    · rw [if_neg c] at hl4
      have h2 : sN y 20 < 2 ^ ((sN y 20).log2 + 1) := Nat.lt_log2_self
      rw [Nat.div_lt_iff_lt_mul (Nat.two_pow_pos _), show (4611686018427387904 : Nat) = 2 ^ 62 from rfl, ← Nat.pow_add]
      exact Nat.lt_of_lt_of_le h2 (Nat.pow_le_pow_right (by decide) (by omega))
  · intro hw
    have h3 : 2 ^ fr ≤ sN y 20 := by
      rcases Nat.lt_or_ge (sN y 20) (2 ^ fr) with c | c
      · rw [Nat.div_eq_of_lt c] at hw; omega
      · exact c
    have h4 := log2_div h3
    have h5 : sN y 20 < 2 ^ (32 * 20) := sN_lt (x := y) (n := 20) (fun j hj => (hF j hj).1)
    have hp := Nat.two_pow_pos fr
    have h6 := log2_le h5 (by omega)
    omega
theorem x_settle44 {F : Nat → Int64} {y : Nat → Nat} (hF : cD F y) (σ : hx_S) (ng : Int32) (wh : Int64) (pw mo : Int32) : ∀ (t n : Nat), t < 20 → t < n → (∀ j, t < j → j < 20 → y j = 0) →
    ∃ w fr ρ : Nat, f_E_settle_44 n (hx_ws σ ng wh pw mo F) (nI t) = some (hx_ws σ ng (lN w) (iI ((fr : Int) - 320)) (bI (decide (ρ ≠ 0))) F) ∧ tK (sN y 20) w fr ρ := by
  intro t
  induction t with
  | zero =>
    intro n h1 h2 hz
    obtain ⟨n, rfl⟩ : ∃ q, n = q + 1 := ⟨n - 1, by omega⟩
    obtain ⟨w, fr, ρ, e, k⟩ := x_take hF σ ng wh pw mo (top := 0) (by omega) hz (Or.inl rfl)
    refine ⟨w, fr, ρ, ?_, k⟩
    rw [f_E_settle_44, if_pos (by decide), f_E_settle_65, e, hx_b1_some]
  | succ t ih =>
    intro n h1 h2 hz
    obtain ⟨n, rfl⟩ : ∃ q, n = q + 1 := ⟨n - 1, by omega⟩
    have hy := hF (t + 1) h1
    have e0 : ¬ (nI (t + 1) ≤ 0) := by rw [show (0 : Int32) = nI 0 from rfl, nI_leI (by omega) (by omega)]; omega
    have e1 : nI (t + 1) + (-1) = nI t := pk_m1 t
    by_cases c : y (t + 1) = 0
    · obtain ⟨w, fr, ρ, e, k⟩ := ih n (by omega) (by omega) (fun j h3 h4 => by
        by_cases d : j = t + 1
        · rw [d]; exact c
        · exact hz j (by omega) h4)
      refine ⟨w, fr, ρ, ?_, k⟩
      rw [f_E_settle_44, if_neg e0, (hx_ws_g ..).2.2.2.2]
      simp only [nI_clamp (show t + 1 < 2 ^ 31 by omega), g20 h1, if_false, hy.2, c_eq0 (a := y (t + 1)) (by omega), c, if_true, hx_n_eq, e1]
      exact e
    · obtain ⟨w, fr, ρ, e, k⟩ := x_take hF σ ng wh pw mo (top := t + 1) h1 hz (Or.inr c)
      refine ⟨w, fr, ρ, ?_, k⟩
      rw [f_E_settle_44, if_neg e0, (hx_ws_g ..).2.2.2.2]
      simp only [nI_clamp (show t + 1 < 2 ^ 31 by omega), g20 h1, if_false, hy.2, c_eq0 (a := y (t + 1)) (by omega), c]
      rw [f_E_settle_65, e, hx_b1_some]
