/-! The class's finite is sp_fin -/
theorem fin_div {w P d ρ : Nat} (hρ : ρ < 2 ^ P) : (w * 2 ^ P + ρ) / 2 ^ (P + d) = w / 2 ^ d := by
  rw [Nat.pow_add, ← Nat.div_div_eq_div_mul, Nat.add_comm, Nat.add_mul_div_right _ _ (Nat.two_pow_pos _), Nat.div_eq_of_lt hρ, Nat.zero_add]
theorem fin_mod {w P d ρ : Nat} (hρ : ρ < 2 ^ P) : (w * 2 ^ P + ρ) % 2 ^ (P + d) = w % 2 ^ d * 2 ^ P + ρ := by
  have h1 : (w * 2 ^ P + ρ) / 2 ^ P = w := by rw [Nat.add_comm, Nat.add_mul_div_right _ _ (Nat.two_pow_pos _), Nat.div_eq_of_lt hρ, Nat.zero_add]
  rw [Nat.pow_add, Nat.mod_mul, h1, Nat.add_comm (w * 2 ^ P), Nat.add_mul_mod_self_right, Nat.mod_eq_of_lt hρ, Nat.add_comm, Nat.mul_comm]
theorem fin_log {w P ρ : Nat} (h0 : 0 < w) (hρ : ρ < 2 ^ P) : (w * 2 ^ P + ρ).log2 = P + w.log2 := by
  have h1 : 2 ^ w.log2 ≤ w := Nat.log2_self_le (by omega)
  have h2 : w < 2 ^ (w.log2 + 1) := Nat.lt_log2_self
  apply log2_u
  · rw [Nat.add_comm P, Nat.pow_add]
    exact Nat.le_trans (Nat.mul_le_mul_right _ h1) (Nat.le_add_right _ _)
  · have h3 : (w + 1) * 2 ^ P ≤ 2 ^ (w.log2 + 1) * 2 ^ P := Nat.mul_le_mul_right _ h2
    rw [show P + w.log2 + 1 = w.log2 + 1 + P by omega, Nat.pow_add]
    rw [Nat.add_mul, Nat.one_mul] at h3
    omega
theorem fin_half {rest P d ρ : Nat} (h1 : 1 ≤ d) (hρ : ρ < 2 ^ P) :
    (2 ^ (P + d) < 2 * (rest * 2 ^ P + ρ) ↔ 0 < hv3 rest d (decide (ρ ≠ 0))) ∧ (2 ^ (P + d) = 2 * (rest * 2 ^ P + ρ) ↔ hv3 rest d (decide (ρ ≠ 0)) = 0) ∧ (2 ^ (P + d) ≤ 2 * (rest * 2 ^ P + ρ) ↔ 0 ≤ hv3 rest d (decide (ρ ≠ 0))) := by
  have e : 2 ^ (P + d) = 2 * (2 ^ (d - 1) * 2 ^ P) := by
    rw [← Nat.pow_add, show P + d = (d - 1 + P) + 1 by omega, Nat.pow_succ, Nat.mul_comm]
  rw [e]
  unfold hv3
  generalize 2 ^ (d - 1) = h
  generalize 2 ^ P = p at *
  rcases Nat.lt_trichotomy rest h with c | c | c
  · have : (rest + 1) * p ≤ h * p := Nat.mul_le_mul_right _ c
    rw [Nat.add_mul, Nat.one_mul] at this
    rw [if_pos c]
    refine ⟨⟨fun z => ?_, fun z => ?_⟩, ⟨fun z => ?_, fun z => ?_⟩, ⟨fun z => ?_, fun z => ?_⟩⟩ <;> omega
  · subst c
    rw [if_neg (by omega), if_pos rfl]
    by_cases c2 : ρ = 0
    · subst c2
      simp
    · rw [decide_eq_true (show ρ ≠ 0 from c2), if_pos rfl]
      refine ⟨⟨fun z => ?_, fun z => ?_⟩, ⟨fun z => ?_, fun z => ?_⟩, ⟨fun z => ?_, fun z => ?_⟩⟩ <;> omega
  · have : (h + 1) * p ≤ rest * p := Nat.mul_le_mul_right _ c
    rw [Nat.add_mul, Nat.one_mul] at this
    rw [if_neg (by omega), if_neg (by omega)]
    refine ⟨⟨fun z => ?_, fun z => ?_⟩, ⟨fun z => ?_, fun z => ?_⟩, ⟨fun z => ?_, fun z => ?_⟩⟩ <;> omega
theorem fin_sh1 {rest P d ρ : Nat} (hd : 16 ≤ d) (hρ : ρ < 2 ^ P) : (rest * 2 ^ P + ρ) * 65536 / 2 ^ (P + d) = rest / 2 ^ (d - 16) := by
  have e : 2 ^ (P + d) = 2 ^ (P + (d - 16)) * 65536 := by rw [show (65536 : Nat) = 2 ^ 16 from rfl, ← Nat.pow_add]; congr 1; omega
  rw [e, Nat.mul_div_mul_right _ _ (by decide), fin_div hρ]
theorem fin_sh2 {rest P d : Nat} (hd : d ≤ 16) : (rest * 2 ^ P) * 65536 / 2 ^ (P + d) = rest * 2 ^ (16 - d) := by
  have e : (rest * 2 ^ P) * 65536 = rest * 2 ^ (16 - d) * 2 ^ (P + d) := by
    rw [show (65536 : Nat) = 2 ^ 16 from rfl, Nat.mul_assoc, Nat.mul_assoc, ← Nat.pow_add, ← Nat.pow_add]; congr 2; omega
  rw [e, Nat.mul_div_cancel _ (Nat.two_pow_pos _)]
theorem hv3_b (rest d : Nat) (m : Bool) : -1 ≤ hv3 rest d m ∧ hv3 rest d m ≤ 1 := by
  unfold hv3
  split
  · omega
  · split
    · split <;> omega
    · omega
theorem x_share {rest d ρ P : Nat} (hr : rest < 2 ^ d) (hr2 : rest < 4611686018427387904) (h1 : 1 ≤ d) (hd : d < 2000) (hρ : ρ < 2 ^ P) (hz : d < 16 → ρ = 0) : f_D_shifted (lN rest) (nI d - 16) = some (lN ((rest * 2 ^ P + ρ) * 65536 / 2 ^ (P + d))) := by
  by_cases c : 16 ≤ d
  · rw [show nI d - (16 : Int32) = nI (d - 16) from pk_sub (b := 16) c, x_shr hr2 (by omega), fin_sh1 c hρ]
  · have : ρ = 0 := hz (by omega)
    subst this
    have e : nI d - (16 : Int32) = iI (-((16 - d : Nat) : Int)) := by
      rw [show (16 : Int32) = iI 16 from rfl, nI_i, iI_sub]; congr 1; omega
    rw [e, x_shl (by omega) (by omega) (Or.inl (by omega)), Nat.add_zero, fin_sh2 (by omega)]
theorem share_lt {rest d ρ P : Nat} (hr : rest < 2 ^ d) (hρ : ρ < 2 ^ P) : (rest * 2 ^ P + ρ) * 65536 / 2 ^ (P + d) < 65536 := by
  rw [Nat.div_lt_iff_lt_mul (Nat.two_pow_pos _), Nat.mul_comm 65536]
  apply Nat.mul_lt_mul_of_pos_right _ (by decide)
  have h3 : (rest + 1) * 2 ^ P ≤ 2 ^ d * 2 ^ P := Nat.mul_le_mul_right _ hr
  rw [Nat.add_mul, Nat.one_mul] at h3
  rw [Nat.add_comm P, Nat.pow_add]
  omega
theorem x_120 {σ : hx_S} {k e f kd way v d q rest st ρ P : Nat} (h : cF σ k e f kd) (neg : Bool) (hw : way ≤ 5) (hq : q < 4611686018427387904) (hr : rest < 2 ^ d) (hr2 : rest < 4611686018427387904) (h1 : 1 ≤ d) (hd : d < 2000) (hv : v < 1099511627775) (hρ : ρ < 2 ^ P) (hz : d < 16 → ρ = 0) (hst : hx_rd_state σ = lN st) (hs : st < 2147483647) (x fl1 : Int32) (hfl : hx_rd_raised σ ||| x = fl1) :
    f_D_finite_120 σ (bI neg) (bI (decide (ρ ≠ 0))) k (nI way) (nI d) (lN q) (lN rest) (lN v) (hx_rd_raised σ) x = some (nI (sp_pack e f kd neg way fl1 (sp_far way neg q (rest * 2 ^ P + ρ) (2 ^ (P + d)) st).2 (v + if (sp_far way neg q (rest * 2 ^ P + ρ) (2 ^ (P + d)) st).1 then 1 else 0)).1, hx_rs σ (sp_pack e f kd neg way fl1 (sp_far way neg q (rest * 2 ^ P + ρ) (2 ^ (P + d)) st).2 (v + if (sp_far way neg q (rest * 2 ^ P + ρ) (2 ^ (P + d)) st).1 then 1 else 0)).2.1 (lN (sp_pack e f kd neg way fl1 (sp_far way neg q (rest * 2 ^ P + ρ) (2 ^ (P + d)) st).2 (v + if (sp_far way neg q (rest * 2 ^ P + ρ) (2 ^ (P + d)) st).1 then 1 else 0)).2.2)) := by
  have c5 : (nI way = (5 : Int32)) = (way = 5) := wy 5 hw (by decide)
  rw [f_D_finite_120, hx_n_eq, hx_n_eq, hfl, hx_raised_eq]
  simp only [c5]
  by_cases w5 : way = 5
  · subst w5
    rw [if_pos rfl, x_draw (σ := hx_rs σ fl1 (hx_rd_state σ)) (st := st) hst hs, hx_b2_some, x_share hr hr2 h1 hd hρ hz, hx_b1_some]
    have hsl := share_lt hr hρ
    have hdl : st * 48271 % 2147483647 / 16 % 65536 < 65536 := Nat.mod_lt _ (by decide)
    have esp : sp_far 5 neg q (rest * 2 ^ P + ρ) (2 ^ (P + d)) st = (decide (st * 48271 % 2147483647 / 16 % 65536 < (rest * 2 ^ P + ρ) * 65536 / 2 ^ (P + d)), st * 48271 % 2147483647) := rfl
    rw [esp]
    have r := x_185 (v := v) (σ := hx_rs (hx_rs σ fl1 (hx_rd_state σ)) (hx_rd_raised (hx_rs σ fl1 (hx_rd_state σ))) (lN (st * 48271 % 2147483647))) (way := 5) ((h.rs _ _).rs _ _) neg hw hv (st * 48271 % 2147483647) rfl
    generalize (rest * 2 ^ P + ρ) * 65536 / 2 ^ (P + d) = sh at *
    generalize st * 48271 % 2147483647 / 16 % 65536 = dr at *
    simp only [c_ge (a := dr) (b := sh) (by omega) (by omega)]
    by_cases c : sh ≤ dr
    · rw [if_pos c, decide_eq_false (by omega)]
      exact r false
    · rw [if_neg c, decide_eq_true (by omega)]
      exact r true
  · rw [if_neg w5]
    have hh := x_half hr2 h1 hd (decide (ρ ≠ 0))
    have hf := fin_half (rest := rest) h1 hρ
    have hb := hv3_b rest d (decide (ρ ≠ 0))
    have r := x_185 (v := v) (way := way) (h.rs fl1 (hx_rd_state σ)) neg hw hv st hst
    have e1 : lN q &&& (1 : Int64) = lN (q % 2) := wb_a1 (by omega)
    have e2 : (lg_cmp (lN (q % 2)) (1 : Int64) = 0) = (q % 2 = 1) := c_eq (b := 1) (by omega) (by decide)
    have g := fun odd => x_goesFar hw neg odd hb.1 hb.2
    have es : ∀ odd : Bool, odd = decide (q % 2 = 1) → (sp_far way neg q (rest * 2 ^ P + ρ) (2 ^ (P + d)) st) = ((if way = 0 then decide (0 < hv3 rest d (decide (ρ ≠ 0))) || (decide (hv3 rest d (decide (ρ ≠ 0)) = 0) && odd) else if way = 1 then decide (0 ≤ hv3 rest d (decide (ρ ≠ 0))) else if way = 2 then false else if way = 3 then !neg else if way = 4 then neg else false), st) := by
      intro odd ho
      subst ho
      unfold sp_far
      simp only [hf.1, hf.2.1, hf.2.2]
      by_cases w0 : way = 0
      · rw [if_pos w0, if_pos w0]
      · rw [if_neg w0, if_neg w0]
        by_cases w1 : way = 1
        · rw [if_pos w1, if_pos w1]
        · rw [if_neg w1, if_neg w1]
          by_cases w2 : way = 2
          · rw [if_pos w2, if_pos w2]
          · rw [if_neg w2, if_neg w2]
            by_cases w3 : way = 3
            · rw [if_pos w3, if_pos w3]
            · rw [if_neg w3, if_neg w3]
              by_cases w4 : way = 4
              · rw [if_pos w4, if_pos w4]
              · omega
    simp only [e1, e2]
    by_cases co : q % 2 = 1
    · rw [if_pos co, f_D_finite_171, hh, hx_b1_some, show (1 : Int32) = bI true from rfl, g true, hx_b1_some, r, es true (decide_eq_true co).symm]
      rfl
    · rw [if_neg co, f_D_finite_171, hh, hx_b1_some, show (0 : Int32) = bI false from rfl, g false, hx_b1_some, r, es false (decide_eq_false co).symm]
      rfl
