theorem s_eq {e f kd u : Nat} (c : Nat) (hc : c ≤ 4) : (nI (q_sort e f kd u) = nI c) = (q_sort e f kd u = c) := by rw [nI_eq (by rcases q_s4 e f kd u with c | c | c | c | c <;> omega) (by omega)]
theorem x_addProduct (σ : hx_S) {X : hx_Ex} {ts : List hT} (h : cX X ts) (hl : ts.length < 250) {k e f kd u j e2 f2 kd2 u2 : Nat} (hF : cF σ k e f kd) (hG : cF σ j e2 f2 kd2) (hu : u < 2 ^ (e + f + 1)) (hu2 : u2 < 2 ^ (e2 + f2 + 1)) (pl : Nat) (hpl : (pl : Int) = q_pw e f kd u + q_pw e2 f2 kd2 u2 + 352) :
    ∃ Y, f_E_addProduct (hx_xs σ X) k (nI u) j (nI u2) = some (hx_xs σ Y) ∧ cX Y (ts ++ [wT e f kd u e2 f2 kd2 u2 false pl]) := by
  have hv := hF.2.1
  have hw := hG.2.1
  have hqw := q_w hv
  have hqw2 := q_w hw
  have hu3 : u < 4294967296 := by rw [Nat.pow_succ] at hu; omega
  have hu4 : u2 < 4294967296 := by rw [Nat.pow_succ] at hu2; omega
  have hfm : hx_fm (hx_xs σ X) k = FM e f kd := hF.2.2
  have hgm : hx_fm (hx_xs σ X) j = FM e2 f2 kd2 := hG.2.2
  have s4 : (nI (q_sort e f kd u) = (4 : Int32)) = (q_sort e f kd u = 4) := s_eq 4 (by omega)
  have s3 : (nI (q_sort e f kd u) = (3 : Int32)) = (q_sort e f kd u = 3) := s_eq 3 (by omega)
  have s0 : (nI (q_sort e f kd u) = (0 : Int32)) = (q_sort e f kd u = 0) := s_eq 0 (by omega)
  have t4 : (nI (q_sort e2 f2 kd2 u2) = (4 : Int32)) = (q_sort e2 f2 kd2 u2 = 4) := s_eq 4 (by omega)
  have t3 : (nI (q_sort e2 f2 kd2 u2) = (3 : Int32)) = (q_sort e2 f2 kd2 u2 = 3) := s_eq 3 (by omega)
  have t0 : (nI (q_sort e2 f2 kd2 u2) = (0 : Int32)) = (q_sort e2 f2 kd2 u2 = 0) := s_eq 0 (by omega)
  rw [f_E_addProduct, hfm, hgm, x_sortOf hv hu3, hx_b1_some, x_sortOf hw hu4, hx_b1_some, x_isNegative hv hu, hx_b1_some, x_isNegative hw hu2, hx_b1_some, bne_if (decide (2 ^ (e + f) ≤ u)) (decide (2 ^ (e2 + f2) ≤ u2)) (fun x => f_E_addProduct_34 (hx_xs σ X) k (nI u) j (nI u2) (nI (q_sort e f kd u)) (nI (q_sort e2 f2 kd2 u2)) x)]
  rw [f_E_addProduct_34, hfm, hgm]
  simp only [s4, s3, t4, t3, f_E_addProduct_101, s0, t0]
  unfold wT wK
  rw [show ((decide (2 ^ (e + f) ≤ u) != decide (2 ^ (e2 + f2) ≤ u2)) != false) = (decide (2 ^ (e + f) ≤ u) != decide (2 ^ (e2 + f2) ≤ u2)) from Bool.bne_false _]
  obtain ⟨s, hs⟩ : ∃ s, s = q_sort e f kd u := ⟨_, rfl⟩
  obtain ⟨t, ht⟩ : ∃ t, t = q_sort e2 f2 kd2 u2 := ⟨_, rfl⟩
  obtain ⟨b, hb⟩ : ∃ b, b = (decide (2 ^ (e + f) ≤ u) != decide (2 ^ (e2 + f2) ≤ u2)) := ⟨_, rfl⟩
  rw [← hb]
  have nan : ∀ kk, (kk = 2 ∨ kk = 4) → ∃ Y, f_E_addProduct_48 (hx_xs σ X) = some (hx_xs σ Y) ∧ cX Y (ts ++ [(kk, b, q_m e f kd u * q_m e2 f2 kd2 u2, pl)]) := by
    intro kk hk
    obtain ⟨Y, y1, y2⟩ := x_nanT σ h kk hk b (q_m e f kd u * q_m e2 f2 kd2 u2) pl
    exact ⟨Y, by rw [f_E_addProduct_48, hx_n_eq, y1], y2⟩
  have wr : ∃ Y, f_E_addProduct_111 (hx_xs σ X) = some (hx_xs σ Y) ∧ cX Y (ts ++ [(3, b, q_m e f kd u * q_m e2 f2 kd2 u2, pl)]) := by
    obtain ⟨Y, y1, y2⟩ := x_wrT σ h b (q_m e f kd u * q_m e2 f2 kd2 u2) pl
    exact ⟨Y, by rw [f_E_addProduct_111, hx_n_eq, y1], y2⟩
  have nt : ∃ Y, hx_b1 (f_E_noteInfinite (hx_xs σ X) (bI b)) (fun q27 => some q27) = some (hx_xs σ Y) ∧ cX Y (ts ++ [(1, b, q_m e f kd u * q_m e2 f2 kd2 u2, pl)]) := by
    obtain ⟨Y, y1, y2⟩ := x_note σ h b (q_m e f kd u * q_m e2 f2 kd2 u2) pl
    exact ⟨Y, by rw [y1, hx_b1_some], y2⟩
  rw [← hs, ← ht]
  by_cases c4 : s = 4
  · rw [if_pos c4, if_pos (Or.inl c4)]
    exact nan _ (by split <;> omega)
  · rw [if_neg c4]
    by_cases d4 : t = 4
    · rw [if_pos d4, if_pos (Or.inr d4)]
      exact nan _ (by split <;> omega)
    · rw [if_neg d4, if_neg (show ¬ (s = 4 ∨ t = 4) by omega)]
      by_cases c3 : s = 3
      · rw [if_pos c3, if_neg (show ¬ s = 0 by omega)]
        by_cases d0 : t = 0
        · rw [if_pos d0, if_pos (show (s = 3 ∧ t = 0) ∨ (s = 0 ∧ t = 3) by omega)]; exact wr
        · rw [if_neg d0, if_neg (show ¬ ((s = 3 ∧ t = 0) ∨ (s = 0 ∧ t = 3)) by omega), if_pos (Or.inl c3)]; exact nt
      · rw [if_neg c3]
        by_cases d3 : t = 3
        · rw [if_pos d3]
          by_cases c0 : s = 0
          · rw [if_pos c0, if_pos (show (s = 3 ∧ t = 0) ∨ (s = 0 ∧ t = 3) by omega)]; exact wr
          · rw [if_neg c0, if_neg (show ¬ t = 0 by omega), if_neg (show ¬ ((s = 3 ∧ t = 0) ∨ (s = 0 ∧ t = 3)) by omega), if_pos (Or.inr d3)]; exact nt
        · have hs2 : q_sort e f kd u ≤ 2 := by rcases q_s4 e f kd u with c | c | c | c | c <;> omega
          have ht2 : q_sort e2 f2 kd2 u2 ≤ 2 := by rcases q_s4 e2 f2 kd2 u2 with c | c | c | c | c <;> omega
          rw [if_neg d3, if_neg (show ¬ ((s = 3 ∧ t = 0) ∨ (s = 0 ∧ t = 3)) by omega), if_neg (show ¬ (s = 3 ∨ t = 3) by omega), x_wholeOf hv hu3, hx_b1_some, x_wholeOf hw hu4, hx_b1_some, x_powerOf hv hu3, hx_b1_some, x_powerOf hw hu4, hx_b1_some, q_mc_m (kd := kd) hs2, q_mc_m (kd := kd2) ht2, lN_mul, iI_add]
          have hm := q_mb hv u
          have hm2 := q_mb hw u2
          have hb1 := q_pb hv u
          have hb2 := q_pb hw u2
          have hmm : q_m e f kd u * q_m e2 f2 kd2 u2 < 281474976710656 := by
            have : q_m e f kd u * q_m e2 f2 kd2 u2 ≤ 16777215 * 16777215 := Nat.mul_le_mul (by omega) (by omega)
            omega
          obtain ⟨Y, y1, y2⟩ := x_addFinite σ h hl b (m := q_m e f kd u * q_m e2 f2 kd2 u2) (pl := pl) (p := iI (q_pc e f u + q_pc e2 f2 u2)) hmm (fun hne => by
            have g1 : q_sort e f kd u = 1 ∨ q_sort e f kd u = 2 := Classical.byContradiction (fun q => hne (by rw [q_m0 q, Nat.zero_mul]))
            have g2 : q_sort e2 f2 kd2 u2 = 1 ∨ q_sort e2 f2 kd2 u2 = 2 := Classical.byContradiction (fun q => hne (by rw [q_m0 q, Nat.mul_zero]))
            have r1 : q_pw e f kd u = (q_p e f kd u : Int) - 352 := if_pos g1
            have r2 : q_pw e2 f2 kd2 u2 = (q_p e2 f2 kd2 u2 : Int) - 352 := if_pos g2
            exact ⟨by rw [q_pc_p hv g1, q_pc_p hw g2, show q_pw e f kd u + q_pw e2 f2 kd2 u2 = (pl : Int) - 352 by omega], by omega, by omega⟩)
          exact ⟨Y, by rw [y1, hx_b1_some], y2⟩
