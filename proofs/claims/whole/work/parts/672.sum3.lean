theorem v_row (x : Int32) : (f_X_isRow x = some 0 ∨ f_X_isRow x = some 1) ∧ f_M_isIn x.toInt64 0 1 = f_X_isRow x := by
  rcases a_row x with ⟨k, hk, rfl, a1, a2⟩ | ⟨a1, a2⟩
  · exact ⟨Or.inr a1, by rw [a1, a2]⟩
  · exact ⟨Or.inl a1, by rw [a1, a2]⟩
theorem e_row {x : Int32} (h : f_X_isRow x = some 1) : ∃ r, r < 2 ∧ x = nI r ∧ f_M_isIn x.toInt64 0 1 = some 1 := by
  rcases a_row x with ⟨k, hk, rfl, a1, a2⟩ | ⟨a1, a2⟩
  · exact ⟨k, hk, rfl, a2⟩
  · exact absurd (a1.symm.trans h) some01
theorem ix32' (r : Nat) : (32 : Int32) * nI r = nI (32 * r) := by
  rw [show (32 : Int32) = iI 32 from rfl, nI_i r, iI_mul, nI_i]
  rfl
set_option maxHeartbeats 1000000 in
theorem sim_sum {σ : hx_S} {τ : hm_S} (hR : hr_R σ τ) (x1 x2 x3 x4 : Int32) : ∃ r σ1 τ1, f_X_sum σ x1 x2 x3 x4 = some (r, σ1) ∧ f_M_sum τ x1 x2 x3 x4 = some (r, τ1) ∧ hr_R σ1 τ1 := by
  have fu : hx_fuel = 5000 := rfl
  have hR0 := hR
  obtain ⟨E, F, K, n, g, u, fl, st, S, sk, go, h1, h2, h3⟩ := hR
  have hP : hr_P σ τ E F K n g u fl st S sk go := ⟨h1, h2, h3⟩
  obtain ⟨z, z1, z2, rfl, hz⟩ := a_in x2 0 2 (by omega) (by omega) (by omega) (by omega)
  rw [show lI 0 = 0 from rfl, show lI 2 = 2 from rfl] at hz
  have e1 : (iI z < (0 : Int32)) ↔ z < 0 := iI_lt (b := 0) z1 z2 (by omega) (by omega)
  have e2 : ((2 : Int32) < iI z) ↔ 2 < z := iI_lt (a := 2) (by omega) (by omega) z1 z2
  by_cases H : f_X_isRow x1 = some 1 ∧ (0 ≤ z ∧ z ≤ 2) ∧ f_X_isFormat x3 = some 1 ∧ f_X_isWay x4 = some 1
  · obtain ⟨p1, ⟨c1, c2⟩, p2, p3⟩ := H
    have hi : f_M_isIn (iI z).toInt64 0 2 = some 1 := by
      rcases hz with ⟨_, _, b⟩ | ⟨b, _⟩
      · exact b
      · exact absurd b (by omega)
    obtain ⟨r, hr, rfl, r1⟩ := e_row p1
    obtain ⟨m, hm, rfl, m1⟩ := e_form p2
    obtain ⟨w, hw, rfl, w1⟩ := e_way p3
    have hW := h2 r hr
    have hn := hW.1
    have hg := hW.2.1
    have hx : f_X_sum σ (nI r) (iI z) (nI m) (nI w) = if iI z = 0 then hx_b2 (f_X_sumFromLeft σ r m (nI w)) (fun r25 q24 => hx_b1 (f_X_bits r25) (fun r26 => some (r26, q24))) else if iI z = 1 then hx_b2 (f_X_sumAsTree σ r m (nI w)) (fun r23 q22 => (f_X_sum_96 q22 r23)) else hx_b2 (f_X_sumAtOnce σ r m (nI w)) (fun r19 q18 => (f_X_sum_96 q18 r19)) := by
      rw [f_X_sum, p1, hx_b1_some, if_neg one_ne, if_neg (fun q => absurd (e1.mp q) (by omega)), if_neg (fun q => absurd (e2.mp q) (by omega)), p2, hx_b1_some, if_neg one_ne, p3, hx_b1_some, if_neg one_ne, x_rowOf hr, hx_b1_some, if_pos hr, hc4 hm, hx_gn (hg4n hm)]
    have hM : f_M_sum τ (nI r) (iI z) (nI m) (nI w) = if iI z = 2 then hx_b1 (f_M_begin τ) (fun q83 => (f_M_sum_69 hx_fuel q83 (nI r) (nI m) (nI w) (nI (g r)) (nI (n r)) (0 : Int32))) else if nI (n r) = 0 then some ((0 : Int64), τ) else if iI z = 0 then (if (32 : Int32) * nI r < 0 ∨ 64 ≤ ((32 : Int32) * nI r).toNatClampNeg then none else hx_b2 (f_M_turned τ (nI (g r)) (hm_row τ ((32 : Int32) * nI r).toNatClampNeg) (nI m) (nI w)) (fun r67 q66 => (f_M_sum_144 hx_fuel q66 (nI r) (nI m) (nI w) (nI (g r)) (nI (n r)) r67 (1 : Int32)))) else f_M_sum_205 hx_fuel τ (nI r) (nI m) (nI w) (nI (g r)) (nI (n r)) (0 : Int32) := by
      rw [f_M_sum, r1, hx_b1_some, if_neg one_ne, hi, hx_b1_some, if_neg one_ne, m1, hx_b1_some, if_neg one_ne, w1, hx_b1_some, if_neg one_ne, hc2 hr, hx_gn (hg2n hr), hx_n_eq, hx_gn (hg2n hr), hx_n_eq, hW.2.2.2.2.2.1, hW.2.2.2.1]
    rw [hx, hM]
    rcases (show z = 0 ∨ z = 1 ∨ z = 2 by omega) with rfl | rfl | rfl
    · rw [if_pos (show iI 0 = 0 from rfl), if_neg (show ¬ iI 0 = 2 by decide), if_pos (show iI 0 = 0 from rfl), f_X_sumFromLeft, hW.2.2.1]
      by_cases c : n r = 0
      · rw [if_pos (show nI (n r) = 0 by rw [c]; rfl), if_pos (show nI (n r) = 0 by rw [c]; rfl), hx_b2_some, show (0 : Int32) = nI 0 from rfl, x_bits (by omega), hx_b1_some]
        exact ⟨_, _, _, rfl, rfl, hR0⟩
      · have hp := hW.2.2.2.2.2.2 0 (by omega)
        obtain ⟨p, fl1, st1, σ2, τ2, q1, q2, q3, q4⟩ := AB_turned hP hg hm hw hp.1
        obtain ⟨p2, fl2, st2, σ3, τ3, r1', r2, r3, r4⟩ := sum_left hr hm hw (n r - 1) hx_fuel hx_fuel 1 σ2 τ2 fl1 st1 p (hr_N.P hP q4) (by omega) (by omega) (by omega) q1
        rw [if_neg (show ¬ nI (n r) = 0 from nI_ne0 (by omega) (by omega)), if_neg (show ¬ nI (n r) = 0 from nI_ne0 (by omega) (by omega)), hW.2.2.2.2.1, hc4 hg, hx_gn (hg4n hg), hx_gn (show ¬ ((0 : Int32) < 0 ∨ 32 ≤ (0 : Int32).toNatClampNeg) by decide), show (0 : Int32).toNatClampNeg = 0 from rfl, hp.2.1, q2, hx_b2_some, ix32', hcl (show 32 * r < 4096 by omega), hx_gn (hgn (N := 64) (by omega) (by omega)), show 32 * r = 32 * r + 0 from rfl, hp.2.2, q3, hx_b2_some, show (1 : Int32) = nI 1 from rfl, r2, r3, hx_b2_some, x_bits (pw_k h1 hm r1'), hx_b1_some]
        exact ⟨_, _, _, rfl, rfl, (hr_N.P hP (q4.tr r4)).R⟩
    · rw [if_neg (show ¬ iI 1 = 0 by decide), if_pos (show iI 1 = 1 from rfl), if_neg (show ¬ iI 1 = 2 by decide), if_neg (show ¬ iI 1 = 0 by decide), f_X_sumAsTree, hW.2.2.1]
      by_cases c : n r = 0
      · rw [if_pos (show nI (n r) = 0 by rw [c]; rfl), if_pos (show nI (n r) = 0 by rw [c]; rfl), hx_b2_some, f_X_sum_96, show (0 : Int32) = nI 0 from rfl, x_bits (by omega), hx_b1_some]
        exact ⟨_, _, _, rfl, rfl, hR0⟩
      · obtain ⟨p, σ1, τ1, fl1, st1, b1, b2, b3, b4⟩ := tree_fill hr hm hw (by omega) (n r) hx_fuel hx_fuel 0 σ τ fl st hP (fun q hq => absurd hq (Nat.not_lt_zero q)) (by omega) (by omega) (by omega)
        rw [if_neg (show ¬ nI (n r) = 0 from nI_ne0 (by omega) (by omega)), if_neg (show ¬ nI (n r) = 0 from nI_ne0 (by omega) (by omega)), show (0 : Int32) = nI 0 from rfl, b2, b3, hx_b2_some, f_X_sum_96, x_bits (pw_k h1 hm b1), hx_b1_some]
        exact ⟨_, _, _, rfl, rfl, b4.R⟩
    · obtain ⟨s1, b1, b2⟩ := cA_begin σ
      obtain ⟨a1, d1, d2⟩ := rA_begin τ
      obtain ⟨p, fl1, st1, σ2, τ2, q1, q2, q3, q4⟩ := sum_once hP hr hm hw (n r) hx_fuel hx_fuel 0 s1 a1 [] (by omega) (by omega) (by omega) b2 d2 rfl (fun t ht => by cases ht)
      rw [if_neg (show ¬ iI 2 = 0 by decide), if_neg (show ¬ iI 2 = 1 by decide), if_pos (show iI 2 = 2 from rfl), f_X_sumAtOnce, b1, hx_b1_some, d1, hx_b1_some, show (0 : Int32) = nI 0 from rfl, q2, q3, hx_b2_some, f_X_sum_96, x_bits (pw_k h1 hm q1), hx_b1_some]
      exact ⟨_, _, _, rfl, rfl, (hr_N.P hP q4).R⟩
  · refine ⟨-2, σ, τ, ?_, ?_, hR0⟩
    · rw [f_X_sum]
      refine gate (v_row _).1 fun q1 => ?_
      by_cases c1 : z < 0
      · rw [if_pos (e1.mpr c1)]
      · rw [if_neg (fun q => c1 (e1.mp q))]
        by_cases c2 : 2 < z
        · rw [if_pos (e2.mpr c2)]
        · rw [if_neg (fun q => c2 (e2.mp q))]
          exact gate (v_form _).1 fun q3 => gate (v_way _).1 fun q4 => absurd ⟨q1, ⟨by omega, by omega⟩, q3, q4⟩ H
    · rw [f_M_sum]
      refine gate (by rw [(v_row x1).2]; exact (v_row x1).1) fun q0 => gate ?_ fun q1 => gate (vm_form _) fun q2 => gate (vm_way _) fun q3 => absurd ⟨?_, ?_, ?_, ?_⟩ H
      · rcases hz with ⟨_, _, b⟩ | ⟨_, b⟩
        · exact Or.inr b
        · exact Or.inl b
      · rw [← (v_row x1).2]; exact q0
      · rcases hz with ⟨a, b, _⟩ | ⟨_, b⟩
        · exact ⟨a, b⟩
        · exact absurd (b.symm.trans q1) some01
      · rw [← (v_form x3).2]; exact q2
      · rw [← (v_way x4).2]; exact q3
