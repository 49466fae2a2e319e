theorem x_98 {σ : hx_S} {k e f kd way v d q rest st ρ P lg : Nat} (h : cF σ k e f kd) (neg : Bool) (hw : way ≤ 5) (hq : q < 4611686018427387904) (hr : rest < 2 ^ d) (hr2 : rest < 4611686018427387904) (h1 : 1 ≤ d) (hd : d < 2000) (hv : v < 1099511627775) (hρ : ρ < 2 ^ P) (hz : d < 16 → ρ = 0) (hst : hx_rd_state σ = lN st) (hs : st < 2147483647) (hlg : lg < 2000) :
    f_D_finite_98 σ (bI neg) (bI (decide (ρ ≠ 0))) k (nI way) (iI ((lg : Int) - 352)) (nI d) (lN q) (lN rest) (lN v) = some (nI (sp_pack e f kd neg way (hx_rd_raised σ ||| (if lg < q_L e then 12 else 8)) (sp_far way neg q (rest * 2 ^ P + ρ) (2 ^ (P + d)) st).2 (v + if (sp_far way neg q (rest * 2 ^ P + ρ) (2 ^ (P + d)) st).1 then 1 else 0)).1, hx_rs σ (sp_pack e f kd neg way (hx_rd_raised σ ||| (if lg < q_L e then 12 else 8)) (sp_far way neg q (rest * 2 ^ P + ρ) (2 ^ (P + d)) st).2 (v + if (sp_far way neg q (rest * 2 ^ P + ρ) (2 ^ (P + d)) st).1 then 1 else 0)).2.1 (lN (sp_pack e f kd neg way (hx_rd_raised σ ||| (if lg < q_L e then 12 else 8)) (sp_far way neg q (rest * 2 ^ P + ρ) (2 ^ (P + d)) st).2 (v + if (sp_far way neg q (rest * 2 ^ P + ρ) (2 ^ (P + d)) st).1 then 1 else 0)).2.2)) := by
  have hL := q_Lb e (by have := h.2.1.2.1; omega) h.2.1.1
  have e2 : (iI ((q_L e : Int) - 352) ≤ iI ((lg : Int) - 352)) = (q_L e ≤ lg) := by rw [iI_le (by omega) (by omega) (by omega) (by omega)]; exact propext ⟨fun z => by omega, fun z => by omega⟩
  simp only [f_D_finite_98, h.2.2, FM_t, e2]
  by_cases c : lg < q_L e
  · rw [if_neg (by omega), if_pos c]
    exact x_120 h neg hw hq hr hr2 h1 hd hv hρ hz hst hs 12 _ rfl
  · rw [if_pos (by omega), if_neg c]
    exact x_120 h neg hw hq hr hr2 h1 hd hv hρ hz hst hs 8 _ rfl
theorem x_finite {σ : hx_S} {k e f kd way w P ρ N st : Nat} (h : cF σ k e f kd) (neg : Bool) (hw : way ≤ 5) (h0 : 0 < w) (hw2 : w < 4611686018427387904) (hρ : ρ < 2 ^ P) (hN : N = w * 2 ^ P + ρ) (hz : ρ ≠ 0 → 2305843009213693952 ≤ w) (hP : P + w.log2 < 800) (hst : hx_rd_state σ = lN st) (hs : st < 2147483647) :
    f_D_finite σ (bI neg) (lN w) (iI ((P : Int) - 352)) (bI (decide (ρ ≠ 0))) k (nI way) = some (nI (sp_fin e f kd neg N way (hx_rd_raised σ) st).1, hx_rs σ (sp_fin e f kd neg N way (hx_rd_raised σ) st).2.1 (lN (sp_fin e f kd neg N way (hx_rd_raised σ) st).2.2)) := by
  have hL := q_Lb e (by have := h.2.1.2.1; omega) h.2.1.1
  have hf := h.2.1.2.2.2.1
  have hlog : N.log2 = P + w.log2 := by rw [hN]; exact fin_log h0 hρ
  have hlw : w.log2 < 62 := (Nat.log2_lt (by omega)).mpr hw2
  obtain ⟨ex, hex⟩ : ∃ ex, ex = sp_ex e N := ⟨_, rfl⟩
  have hex1 : q_L e ≤ ex ∧ N.log2 ≤ ex ∧ ex < 800 := by rw [hex]; unfold sp_ex; split <;> omega
  have hNZ : N ≠ 0 := by
    have : 1 * 2 ^ P ≤ w * 2 ^ P := Nat.mul_le_mul_right _ h0
    have := Nat.two_pow_pos P
    omega
  have hq0 := q_bound (N := N) (ex := ex) (f := f) hex1.2.1 hNZ (by omega)
  have hf1 : 2 ^ (f + 1) ≤ 2 ^ 24 := Nat.pow_le_pow_right (by decide) (by omega)
  have hf2 : 2 ^ f ≤ 2 ^ 23 := Nat.pow_le_pow_right (by decide) (by omega)
  have hvb : (ex - q_L e) * 2 ^ f ≤ 800 * 2 ^ 23 := Nat.mul_le_mul (by omega) hf2
  have e1 : iI ((P : Int) - 352) + (63 : Int32) - nI (63 - w.log2) = iI ((N.log2 : Int) - 352) := by
    rw [show (63 : Int32) = iI 63 from rfl, nI_i, iI_add, iI_sub]; congr 1; omega
  have e2 : (iI ((N.log2 : Int) - 352) < iI ((q_L e : Int) - 352)) = (N.log2 < q_L e) := by rw [iI_lt (by omega) (by omega) (by omega) (by omega)]; exact propext ⟨fun z => by omega, fun z => by omega⟩
  have e3 : (if N.log2 < q_L e then iI ((q_L e : Int) - 352) else iI ((N.log2 : Int) - 352)) - nI f = iI ((ex : Int) - f - 352) := by
    rw [hex, nI_i]; unfold sp_ex
    by_cases c : N.log2 < q_L e
    · rw [if_pos c, if_pos c, iI_sub]; congr 1; omega
    · rw [if_neg c, if_neg c, iI_sub]; congr 1; omega
  have e4 : iI ((ex : Int) - f - 352) - iI ((P : Int) - 352) = iI ((ex : Int) - f - P) := by rw [iI_sub]; congr 1; omega
  have e5 : (iI ((ex : Int) - f - P) ≤ 0) = (ex - f ≤ P) := by rw [show (0 : Int32) = iI 0 from rfl, iI_le (by omega) (by omega) (by omega) (by omega)]; exact propext ⟨fun z => by omega, fun z => by omega⟩
  have e6 : ∀ q : Nat, ((iI ((ex : Int) - f - 352) - iI ((q_L e : Int) - 352 - f)).toInt64 <<< ((nI f).toInt64 &&& 63)) + lN q = lN ((ex - q_L e) * 2 ^ f + q) := by
    intro q
    rw [iI_sub, show (ex : Int) - f - 352 - ((q_L e : Int) - 352 - f) = ((ex - q_L e : Nat) : Int) by omega, ← nI_i, nI_l (by omega), wb_shl _ (by omega), lN_add]
  rw [f_D_finite, z_long (by omega) h0, hx_b1_some, hx_n_eq, e1]
  simp only [hx_n_eq, h.2.2, FM_t, FM_f, e2, e3, e4, e5]
  by_cases c : ex - f ≤ P
  · have hρ0 : ρ = 0 := by
      apply Classical.byContradiction
      intro hc
      have := hz hc
      have h61 : 61 ≤ w.log2 := (Nat.le_log2 (by omega)).mpr this
      omega
    subst hρ0
    have hsh : f_D_shifted (lN w) (iI ((ex : Int) - f - P)) = some (lN (w * 2 ^ (P - (ex - f)))) := by
      by_cases c2 : ex - f = P
      · have r := x_shr (a := w) (d := 0) hw2 (by decide)
        rw [show (ex : Int) - f - P = ((0 : Nat) : Int) by omega, ← nI_i, r, show P - (ex - f) = 0 by omega]
        simp
      · have r := x_shl (a := w) (j := P - (ex - f)) (by omega) (by omega) (Or.inl (by omega))
        rw [show (ex : Int) - f - P = -((P - (ex - f) : Nat) : Int) by omega]; exact r
    rw [hsh, hx_b1_some, if_pos c, f_D_finite_64, hx_n_eq, h.2.2, FM_p, FM_f, e6]
    have hNe : N = w * 2 ^ (P - (ex - f)) * 2 ^ (ex - f) := by
      rw [hN, Nat.add_zero, Nat.mul_assoc, ← Nat.pow_add]; congr 2; omega
    have hNd : N / 2 ^ (ex - f) = w * 2 ^ (P - (ex - f)) := by rw [hNe, Nat.mul_div_cancel _ (Nat.two_pow_pos _)]
    have hNm : N % 2 ^ (ex - f) = 0 := by rw [hNe, Nat.mul_mod_left]
    have r := x_202 (v := (ex - q_L e) * 2 ^ f + N / 2 ^ (ex - f)) h neg hw (by omega) st hst
    rw [if_pos (show lg_cmp (0 : Int64) 0 = 0 by decide), if_pos (show bI (decide ((0 : Nat) ≠ 0)) = 0 by decide), ← hNd, r]
    unfold sp_fin
    rw [← hex, if_pos hNm]
  · obtain ⟨d, hd⟩ : ∃ d, ex - f = P + d := ⟨ex - f - P, by omega⟩
    have hd1 : 1 ≤ d := by omega
    have hdiv : N / 2 ^ (ex - f) = w / 2 ^ d := by rw [hN, hd]; exact fin_div hρ
    have hmod : N % 2 ^ (ex - f) = w % 2 ^ d * 2 ^ P + ρ := by rw [hN, hd]; exact fin_mod hρ
    have hsum : w / 2 ^ d * 2 ^ d + w % 2 ^ d = w := Nat.div_add_mod' w (2 ^ d)
    have hrl : w % 2 ^ d < 2 ^ d := Nat.mod_lt _ (Nat.two_pow_pos _)
    have hrw : w % 2 ^ d ≤ w := Nat.mod_le _ _
    have hz16 : d < 16 → ρ = 0 := by
      intro hdl
      apply Classical.byContradiction
      intro hc
      have := hz hc
      have h61 : 61 ≤ w.log2 := (Nat.le_log2 (by omega)).mpr this
      omega
    have e7 : (ex : Int) - f - P = (d : Int) := by omega
    have sh2 := x_shl (a := w / 2 ^ d) (j := d) (by omega) hd1 (by
      by_cases c3 : d < 64
      · exact Or.inl c3
      · exact Or.inr (Nat.div_eq_of_lt (Nat.lt_of_lt_of_le hw2 (show 4611686018427387904 ≤ 2 ^ d from Nat.pow_le_pow_right (n := 2) (i := 62) (j := d) (by decide) (by omega)))))
    have e8 : lN w - lN (w / 2 ^ d * 2 ^ d) = lN (w % 2 ^ d) := by
      rw [lN_sub (by omega)]; congr 1; omega
    have sh1 : f_D_shifted (lN w) (iI (d : Int)) = some (lN (w / 2 ^ d)) := by rw [← nI_i]; exact x_shr hw2 (by omega)
    rw [e7, sh1, hx_b1_some, if_neg c, iI_neg, sh2, hx_b1_some, e8, f_D_finite_64, hx_n_eq, h.2.2, FM_p, FM_f, e6]
    simp only [c_eq0 (a := w % 2 ^ d) (by omega), bI_0, decide_eq_false_iff_not, Decidable.not_not]
    rw [← hdiv, ← nI_i]
    have r9 := x_98 (v := (ex - q_L e) * 2 ^ f + N / 2 ^ (ex - f)) (q := N / 2 ^ (ex - f)) (lg := N.log2) h neg hw (by omega) hrl (by omega) hd1 (by omega) (by omega) hρ hz16 hst hs (by omega)
    rw [← hmod, ← hd] at r9
    have r2 := x_202 (v := (ex - q_L e) * 2 ^ f + N / 2 ^ (ex - f)) h neg hw (by omega) st hst
    unfold sp_fin
    rw [← hex]
    by_cases cm : w % 2 ^ d = 0
    · rw [if_pos cm]
      by_cases cr : ρ = 0
      · rw [if_pos cr, r2, if_pos (show N % 2 ^ (ex - f) = 0 by rw [hmod, cm, cr, Nat.zero_mul])]
      · rw [if_neg cr, r9, if_neg (show ¬ N % 2 ^ (ex - f) = 0 by rw [hmod]; omega)]
    · have : 1 * 2 ^ P ≤ w % 2 ^ d * 2 ^ P := Nat.mul_le_mul_right _ (by omega)
      have := Nat.two_pow_pos P
      rw [if_neg cm, r9, if_neg (show ¬ N % 2 ^ (ex - f) = 0 by rw [hmod]; omega)]
