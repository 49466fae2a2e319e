set_option maxHeartbeats 1000000 in
theorem sim_reckon {σ : hx_S} {τ : hm_S} (hR : hr_R σ τ) (x1 x2 x3 x4 x5 x6 x7 : Int32) : ∃ r σ1 τ1, f_X_reckon σ x1 x2 x3 x4 x5 x6 x7 = some (r, σ1) ∧ f_M_reckon τ x1 x2 x3 x4 x5 x6 x7 = some (r, τ1) ∧ hr_R σ1 τ1 := by
  have hR0 := hR
  obtain ⟨E, F, K, n, g, u, fl, st, S, sk, go, h1, h2, h3⟩ := hR
  obtain ⟨z, z1, z2, rfl, hz⟩ := a_in x1 0 2 (by omega) (by omega) (by omega) (by omega)
  rw [show lI 0 = 0 from rfl, show lI 2 = 2 from rfl] at hz
  have e1 : (iI z < (0 : Int32)) ↔ z < 0 := iI_lt (b := 0) z1 z2 (by omega) (by omega)
  have e2 : ((2 : Int32) < iI z) ↔ 2 < z := iI_lt (a := 2) (by omega) (by omega) z1 z2
  by_cases H : (0 ≤ z ∧ z ≤ 2) ∧ f_X_isPattern σ x2 x3 = some 1 ∧ f_X_isPattern σ x4 x5 = some 1 ∧ f_X_isFormat x6 = some 1 ∧ f_X_isWay x7 = some 1
  · obtain ⟨⟨c1, c2⟩, p1, p2, p3, p4⟩ := H
    have hi : f_M_isIn (iI z).toInt64 0 2 = some 1 := by
      rcases hz with ⟨_, _, b⟩ | ⟨b, _⟩
      · exact b
      · exact absurd b (by omega)
    obtain ⟨k, hk, rfl, k1, a, ha, rfl, k2, k3⟩ := e_pat h1 p1
    obtain ⟨m, hm, rfl, m1, b, hb, rfl, m2, m3⟩ := e_pat h1 p2
    obtain ⟨j, hj, rfl, j1⟩ := e_form p3
    obtain ⟨w, hw, rfl, w1⟩ := e_way p4
    obtain ⟨s1, b1, b2⟩ := cA_begin σ
    obtain ⟨t1', d1, d2⟩ := rA_begin τ
    by_cases cz : z = 2
    · subst cz
      obtain ⟨s2, b3, b4⟩ := cA_prod b2 (by decide) (cF_of h1 hk) (cF_of h1 hm) ha hb
      obtain ⟨t2', d3, d4⟩ := rA_prod d2 (mF_of h1 hk) (mF_of h1 hm) ha hb false
      obtain ⟨p, fl1, st1, σ2, τ2, q1, q2, q3, q4⟩ := AB_end ⟨h1, h2, h3⟩ b4 d4 (tB_l1 (tB_t2 (h1 k hk).1 (h1 m hm).1 a b false)) (by show 1 < 250; omega) hj hw
      refine ⟨lN p, σ2, τ2, ?_, ?_, (hr_N.P ⟨h1, h2, h3⟩ q4).R⟩
      · rw [f_X_reckon, if_neg (fun q => absurd (e1.mp q) (by omega)), if_neg (fun q => absurd (e2.mp q) (by omega)), p1, hx_b1_some, if_neg one_ne, p2, hx_b1_some, if_neg one_ne, p3, hx_b1_some, if_neg one_ne, p4, hx_b1_some, if_neg one_ne, b1, hx_b1_some, if_pos (show iI 2 = 2 from rfl), hc4 hk, hc4 hm, hx_gn (hg4n hk), hx_gn (hg4n hm), b3, hx_b1_some, f_X_reckon_128, hc4 hj, hx_gn (hg4n hj), q2, hx_b2_some, x_bits (pw_k h1 hj q1), hx_b1_some]
      · rw [f_M_reckon, hi, hx_b1_some, if_neg one_ne, k1, hx_b1_some, if_neg one_ne, m1, hx_b1_some, if_neg one_ne, j1, hx_b1_some, if_neg one_ne, w1, hx_b1_some, if_neg one_ne, k2, hx_b1_some, if_neg one_ne, m2, hx_b1_some, if_neg one_ne, d1, hx_b1_some, if_pos (show iI 2 = 2 from rfl), k3 t1' (d2.1.mF (mF_of h1 hk)), hx_b1_some, m3 t1' (d2.1.mF (mF_of h1 hm)), hx_b1_some, show (0 : Int32) = bI false from rfl, d3, hx_b1_some, f_M_reckon_139, q3, hx_b2_some]
    · obtain ⟨s2, b3, b4⟩ := cA_value b2 (by decide) (cF_of h1 hk) ha false
      obtain ⟨s3, b5, b6⟩ := cA_value b4 (by show 1 < 250; omega) (cF_of h1 hm) hb (decide (z = 1))
      obtain ⟨t2', d3, d4⟩ := rA_value d2 (mF_of h1 hk) ha false
      obtain ⟨t3', d5, d6⟩ := rA_value d4 (mF_of h1 hm) hb (decide (z = 1))
      obtain ⟨p, fl1, st1, σ2, τ2, q1, q2, q3, q4⟩ := AB_end ⟨h1, h2, h3⟩ b6 d6 (tB_l2 (tB_t1 (h1 k hk).1 a false) (tB_t1 (h1 m hm).1 b (decide (z = 1)))) (by show 2 < 250; omega) hj hw
      rw [show bI false = 0 from rfl] at b3 d3
      have hn2 : ¬ iI z = 2 := fun q => cz ((iI_eq (b := 2) z1 z2 (by omega) (by omega)).mp q)
      refine ⟨lN p, σ2, τ2, ?_, ?_, (hr_N.P ⟨h1, h2, h3⟩ q4).R⟩
      · rw [f_X_reckon, if_neg (fun q => absurd (e1.mp q) (by omega)), if_neg (fun q => absurd (e2.mp q) (by omega)), p1, hx_b1_some, if_neg one_ne, p2, hx_b1_some, if_neg one_ne, p3, hx_b1_some, if_neg one_ne, p4, hx_b1_some, if_neg one_ne, b1, hx_b1_some, if_neg hn2, hc4 hk, hc4 hm, hx_gn (hg4n hk), b3, hx_b1_some, hx_gn (hg4n hm)]
        have e : (if iI z = 1 then f_X_reckon_125 s2 (nI j) (nI w) m (nI b) 1 else f_X_reckon_125 s2 (nI j) (nI w) m (nI b) 0) = f_X_reckon_125 s2 (nI j) (nI w) m (nI b) (bI (decide (z = 1))) := by
          by_cases c : z = 1
          · rw [if_pos (show iI z = 1 by rw [c]; rfl), bI_t c]
          · rw [if_neg (show ¬ iI z = 1 from fun q => c ((iI_eq (b := 1) z1 z2 (by omega) (by omega)).mp q)), bI_f c]
        rw [e, f_X_reckon_125, b5, hx_b1_some, f_X_reckon_128, hc4 hj, hx_gn (hg4n hj), q2, hx_b2_some, x_bits (pw_k h1 hj q1), hx_b1_some]
      · rw [f_M_reckon, hi, hx_b1_some, if_neg one_ne, k1, hx_b1_some, if_neg one_ne, m1, hx_b1_some, if_neg one_ne, j1, hx_b1_some, if_neg one_ne, w1, hx_b1_some, if_neg one_ne, k2, hx_b1_some, if_neg one_ne, m2, hx_b1_some, if_neg one_ne, d1, hx_b1_some, if_neg hn2, k3 t1' (d2.1.mF (mF_of h1 hk)), hx_b1_some, d3, hx_b1_some, m3 t2' (d4.1.mF (mF_of h1 hm)), hx_b1_some]
        have e : (if iI z = 1 then f_M_reckon_135 t2' (nI j) (nI w) (nI m) (lN b) 1 else f_M_reckon_135 t2' (nI j) (nI w) (nI m) (lN b) 0) = f_M_reckon_135 t2' (nI j) (nI w) (nI m) (lN b) (bI (decide (z = 1))) := by
          by_cases c : z = 1
          · rw [if_pos (show iI z = 1 by rw [c]; rfl), bI_t c]
          · rw [if_neg (show ¬ iI z = 1 from fun q => c ((iI_eq (b := 1) z1 z2 (by omega) (by omega)).mp q)), bI_f c]
        rw [e, f_M_reckon_135, d5, hx_b1_some, f_M_reckon_139, q3, hx_b2_some]
  · refine ⟨-2, σ, τ, ?_, ?_, hR0⟩
    · rw [f_X_reckon]
      by_cases c1 : z < 0
      · rw [if_pos (e1.mpr c1)]
      · rw [if_neg (fun q => c1 (e1.mp q))]
        by_cases c2 : 2 < z
        · rw [if_pos (e2.mpr c2)]
        · rw [if_neg (fun q => c2 (e2.mp q))]
          exact gate (v_pat h1 _ _).1 fun q1 => gate (v_pat h1 _ _).1 fun q2 => gate (v_form _).1 fun q3 => gate (v_way _).1 fun q4 => absurd ⟨⟨by omega, by omega⟩, q1, q2, q3, q4⟩ H
    · rw [f_M_reckon]
      refine gate ?_ fun q0 => gate (vm_form _) fun q1 => gate (vm_form _) fun q2 => gate (vm_form _) fun q3 => gate (vm_way _) fun q4 => gate (vm_pat h1 q1) fun q5 => gate (vm_pat h1 q2) fun q6 => absurd ⟨?_, ?_, ?_, ?_, ?_⟩ H
      · rcases hz with ⟨_, _, b⟩ | ⟨_, b⟩
        · exact Or.inr b
        · exact Or.inl b
      · rcases hz with ⟨a, b, _⟩ | ⟨_, b⟩
        · exact ⟨a, b⟩
        · exact absurd (b.symm.trans q0) some01
      · rw [← (v_pat h1 x2 x3).2 q1]; exact q5
      · rw [← (v_pat h1 x4 x5).2 q2]; exact q6
      · rw [← (v_form x6).2]; exact q3
      · rw [← (v_way x7).2]; exact q4
set_option maxHeartbeats 1000000 in
theorem sim_fused {σ : hx_S} {τ : hm_S} (hR : hr_R σ τ) (x1 x2 x3 x4 x5 x6 : Int32) : ∃ r σ1 τ1, f_X_fused σ x1 x2 x3 x4 x5 x6 = some (r, σ1) ∧ f_M_fused τ x1 x2 x3 x4 x5 x6 = some (r, τ1) ∧ hr_R σ1 τ1 := by
  have hR0 := hR
  obtain ⟨E, F, K, n, g, u, fl, st, S, sk, go, h1, h2, h3⟩ := hR
  by_cases H : f_X_isPattern σ x1 x2 = some 1 ∧ f_X_isPattern σ x1 x3 = some 1 ∧ f_X_isPattern σ x4 x5 = some 1 ∧ f_X_isWay x6 = some 1
  · obtain ⟨p1, p2, p3, p4⟩ := H
    obtain ⟨k, hk, rfl, k1, a, ha, rfl, k2, k3⟩ := e_pat h1 p1
    have hp2 := a_pat h1 hk x3
    rcases hp2 with ⟨b, hb, rfl, m0, m2, m3⟩ | ⟨m0, _⟩
    · obtain ⟨j, hj, rfl, j1, c, hc, rfl, j2, j3⟩ := e_pat h1 p3
      obtain ⟨w, hw, rfl, w1⟩ := e_way p4
      obtain ⟨s1, b1, b2⟩ := cA_begin σ
      obtain ⟨t1', d1, d2⟩ := rA_begin τ
      obtain ⟨s2, b3, b4⟩ := cA_prod b2 (by decide) (cF_of h1 hk) (cF_of h1 hk) ha hb
      obtain ⟨t2', d3, d4⟩ := rA_prod d2 (mF_of h1 hk) (mF_of h1 hk) ha hb false
      obtain ⟨s3, b5, b6⟩ := cA_value b4 (by show 1 < 250; omega) (cF_of h1 hj) hc false
      obtain ⟨t3', d5, d6⟩ := rA_value d4 (mF_of h1 hj) hc false
      obtain ⟨p, fl1, st1, σ2, τ2, q1, q2, q3, q4⟩ := AB_end ⟨h1, h2, h3⟩ b6 d6 (tB_l2 (tB_t2 (h1 k hk).1 (h1 k hk).1 a b false) (tB_t1 (h1 j hj).1 c false)) (by show 2 < 250; omega) hj hw
      rw [show bI false = 0 from rfl] at b5 d3 d5
      refine ⟨lN p, σ2, τ2, ?_, ?_, (hr_N.P ⟨h1, h2, h3⟩ q4).R⟩
      · rw [f_X_fused, p1, hx_b1_some, if_neg one_ne, p2, hx_b1_some, if_neg one_ne, p3, hx_b1_some, if_neg one_ne, p4, hx_b1_some, if_neg one_ne, b1, hx_b1_some, hc4 hk, hc4 hj, hx_gn (hg4n hk), hx_gn (hg4n hk), b3, hx_b1_some, hx_gn (hg4n hj), b5, hx_b1_some, hx_gn (hg4n hj), q2, hx_b2_some, x_bits (pw_k h1 hj q1), hx_b1_some]
      · rw [f_M_fused, k1, hx_b1_some, if_neg one_ne, j1, hx_b1_some, if_neg one_ne, w1, hx_b1_some, if_neg one_ne, k2, hx_b1_some, if_neg one_ne, m2, hx_b1_some, if_neg one_ne, j2, hx_b1_some, if_neg one_ne, d1, hx_b1_some, k3 t1' (d2.1.mF (mF_of h1 hk)), hx_b1_some, m3 t1' (d2.1.mF (mF_of h1 hk)), hx_b1_some, d3, hx_b1_some, j3 t2' (d4.1.mF (mF_of h1 hj)), hx_b1_some, d5, hx_b1_some, q3, hx_b2_some]
    · exact absurd (m0.symm.trans p2) some01
  · refine ⟨-2, σ, τ, ?_, ?_, hR0⟩
    · rw [f_X_fused]
      exact gate (v_pat h1 _ _).1 fun q1 => gate (v_pat h1 _ _).1 fun q2 => gate (v_pat h1 _ _).1 fun q3 => gate (v_way _).1 fun q4 => absurd ⟨q1, q2, q3, q4⟩ H
    · rw [f_M_fused]
      refine gate (vm_form _) fun q1 => gate (vm_form _) fun q2 => gate (vm_way _) fun q3 => gate (vm_pat h1 q1) fun q4 => gate (vm_pat h1 q1) fun q5 => gate (vm_pat h1 q2) fun q6 => absurd ⟨?_, ?_, ?_, ?_⟩ H
      · rw [← (v_pat h1 x1 x2).2 q1]; exact q4
      · rw [← (v_pat h1 x1 x3).2 q1]; exact q5
      · rw [← (v_pat h1 x4 x5).2 q2]; exact q6
      · rw [← (v_way x6).2]; exact q3
