/-! product and begin -/
set_option maxHeartbeats 400000 in
theorem m_px1 (fE fF fK rF rM : Nat → Int32) (row limb tree : Nat → Int64) (fl : Int32) (sta : Int64) (sS sk gr te n0 w0 z0 p0 m0 a0 b0 : Int32) (NN s4 t4 : Bool) (K J TN S R : Int32) (U X : Int64) (hs : f_M_sortOf (fE, fF, fK, rF, rM, row, limb, tree, fl, sta, sS, sk, gr, te, bI NN, w0, a0, b0, z0, p0, m0) K U = some S) (ht : f_M_sortOf (fE, fF, fK, rF, rM, row, limb, tree, fl, sta, sS, sk, gr, te, bI NN, w0, a0, b0, z0, p0, m0) J X = some R) (h4 : (S = 4) = (s4 = true)) (g4 : (R = 4) = (t4 = true)) : f_M_product (fE, fF, fK, rF, rM, row, limb, tree, fl, sta, sS, sk, gr, te, bI NN, w0, a0, b0, z0, p0, m0) K U J X TN = f_M_product_43 (fE, fF, fK, rF, rM, row, limb, tree, fl, sta, sS, sk, gr, te, bI NN, w0, a0, b0, z0, p0, m0) K U J X TN S R (bI (NN || (s4 || t4))) := by
  rw [f_M_product, hs, hx_b1_some, ht, hx_b1_some]
  simp only [h4, g4]
  cases NN
  · cases s4
    · cases t4 <;> rfl
    · rfl
  · rfl
set_option maxHeartbeats 400000 in
theorem m_px2 (fE fF fK rF rM : Nat → Int32) (row limb tree : Nat → Int64) (fl : Int32) (sta : Int64) (sS sk gr te n0 w0 z0 p0 m0 a0 b0 : Int32) (nn WW s3 t0 s0 t3 : Bool) (K J TN S R : Int32) (U X : Int64) (h3 : (S = 3) = (s3 = true)) (h0 : (S = 0) = (s0 = true)) (g3 : (R = 3) = (t3 = true)) (g0 : (R = 0) = (t0 = true)) : f_M_product_43 (fE, fF, fK, rF, rM, row, limb, tree, fl, sta, sS, sk, gr, te, n0, bI WW, a0, b0, z0, p0, m0) K U J X TN S R (bI nn) = f_M_product_81 (fE, fF, fK, rF, rM, row, limb, tree, fl, sta, sS, sk, gr, te, bI nn, bI WW, a0, b0, z0, p0, m0) K U J X TN S R (bI (WW || ((s3 && t0) || (s0 && t3)))) := by
  rw [f_M_product_43, if_pos (bI_or nn), hx_n_eq]
  simp only [f_M_product_65, h3, h0, g3, g0]
  cases WW
  · cases s3 <;> cases t0 <;> cases s0 <;> cases t3 <;> rfl
  · rfl
set_option maxHeartbeats 400000 in
theorem m_px3 (fE fF fK rF rM : Nat → Int32) (row limb tree : Nat → Int64) (fl : Int32) (sta : Int64) (sS sk gr te n0 w0 z0 p0 m0 a0 b0 : Int32) (ww b d tn : Bool) (K J S R : Int32) (U X : Int64) (hb : f_M_isBelow (fE, fF, fK, rF, rM, row, limb, tree, fl, sta, sS, sk, gr, te, n0, bI ww, a0, b0, z0, p0, m0) K U = some (bI b)) (hd : f_M_isBelow (fE, fF, fK, rF, rM, row, limb, tree, fl, sta, sS, sk, gr, te, n0, bI ww, a0, b0, z0, p0, m0) J X = some (bI d)) : f_M_product_81 (fE, fF, fK, rF, rM, row, limb, tree, fl, sta, sS, sk, gr, te, n0, w0, a0, b0, z0, p0, m0) K U J X (bI tn) S R (bI ww) = f_M_product_117 (fE, fF, fK, rF, rM, row, limb, tree, fl, sta, sS, sk, gr, te, n0, bI ww, a0, b0, z0, p0, m0) K U J X S R (bI ((b != d) != tn)) := by
  have hb2 : f_M_isBelow (hm_isWrong_s (fE, fF, fK, rF, rM, row, limb, tree, fl, sta, sS, sk, gr, te, n0, w0, a0, b0, z0, p0, m0) (bI ww)) K U = some (bI b) := hb
  have hd2 : f_M_isBelow (hm_isWrong_s (fE, fF, fK, rF, rM, row, limb, tree, fl, sta, sS, sk, gr, te, n0, w0, a0, b0, z0, p0, m0) (bI ww)) J X = some (bI d) := hd
  rw [f_M_product_81, if_pos (bI_or ww), hx_n_eq, hb2, hx_b1_some, hd2, hx_b1_some]
  cases b <;> cases d <;> cases tn <;> rfl
set_option maxHeartbeats 400000 in
theorem m_px4 (σ : hm_S) (s3 t3 : Bool) (bl K J S R P P2 Q : Int32) (U X W W2 : Int64) (hw : f_M_wholeOf σ K U = some W) (hw2 : f_M_wholeOf σ J X = some W2) (hp : f_M_powerOf σ K U = some P) (hp2 : f_M_powerOf σ J X = some P2) (hq : P + P2 = Q) (h3 : (S = 3) = (s3 = true)) (g3 : (R = 3) = (t3 = true)) : f_M_product_117 σ K U J X S R bl = hx_b1 (f_M_term σ bl (bI (s3 || t3)) (W * W2) Q) (fun q35 => some q35) := by
  rw [f_M_product_117]
  simp only [f_M_product_129, f_M_product_134, hw, hw2, hp, hp2, hx_b1_some, hq, h3, g3]
  cases s3
  · cases t3 <;> rfl
  · rfl
def wK (s t : Nat) : Nat := if s = 4 ∨ t = 4 then (if s = 3 ∨ t = 3 then 4 else 2) else if (s = 3 ∧ t = 0) ∨ (s = 0 ∧ t = 3) then 3 else if s = 3 ∨ t = 3 then 1 else 0
def wT (e f kd u e2 f2 kd2 u2 : Nat) (tn : Bool) (pl : Nat) : hT := (wK (q_sort e f kd u) (q_sort e2 f2 kd2 u2), ((decide (2 ^ (e + f) ≤ u) != decide (2 ^ (e2 + f2) ≤ u2)) != tn), q_m e f kd u * q_m e2 f2 kd2 u2, pl)
set_option maxHeartbeats 400000 in
theorem m_product0 {τ : hm_S} {ts : List hT} {k e f kd u j e2 f2 kd2 u2 : Nat} (hF : mF τ k e f kd) (hG : mF τ j e2 f2 kd2) (hA : mA τ ts) (hu : u < 4294967296) (hu2 : u2 < 4294967296) (tn : Bool) (pl : Nat) (hpl : (pl : Int) = q_pw e f kd u + q_pw e2 f2 kd2 u2 + 352) (hb : pl < 676) :
    ∃ τ1, f_M_product τ (nI k) (lN u) (nI j) (lN u2) (bI tn) = some τ1 ∧ ht_st ((decide (2 ^ (e + f) ≤ u) != decide (2 ^ (e2 + f2) ≤ u2)) != tn) (decide (q_sort e f kd u = 3) || decide (q_sort e2 f2 kd2 u2 = 3)) (ht_nan ts || (decide (q_sort e f kd u = 4) || decide (q_sort e2 f2 kd2 u2 = 4))) (ht_wr ts || ((decide (q_sort e f kd u = 3) && decide (q_sort e2 f2 kd2 u2 = 0)) || (decide (q_sort e f kd u = 0) && decide (q_sort e2 f2 kd2 u2 = 3)))) ts (q_m e f kd u * q_m e2 f2 kd2 u2) pl τ τ1 := by
  obtain ⟨fE, fF, fK, rF, rM, row, limb, tree, fl, sta, sS, sk, gr, te, n0, w0, a0, b0, z0, p0, m0⟩ := τ
  obtain ⟨h1, h2, h3, h4, h5, h6, h7, h8, h9⟩ := hA
  have h1 : n0 = bI (ht_nan ts) := h1
  have h2 : w0 = bI (ht_wr ts) := h2
  have h3 : a0 = bI (ht_ab ts) := h3
  have h4 : b0 = bI (ht_be ts) := h4
  have h5 : p0 = bI (ht_pl ts) := h5
  have h6 : m0 = bI (ht_mi ts) := h6
  have h7 : z0 = bI (ht_az ts) := h7
  have h8 : te = nI ts.length := h8
  have h9 : mV limb (tV ts) := h9
  obtain ⟨nn, hnn⟩ : ∃ nn : Bool, nn = (ht_nan ts || (decide (q_sort e f kd u = 4) || decide (q_sort e2 f2 kd2 u2 = 4))) := ⟨_, rfl⟩
  obtain ⟨ww, hww⟩ : ∃ ww : Bool, ww = (ht_wr ts || ((decide (q_sort e f kd u = 3) && decide (q_sort e2 f2 kd2 u2 = 0)) || (decide (q_sort e f kd u = 0) && decide (q_sort e2 f2 kd2 u2 = 3)))) := ⟨_, rfl⟩
  obtain ⟨bl, hbl⟩ : ∃ bl : Bool, bl = ((decide (2 ^ (e + f) ≤ u) != decide (2 ^ (e2 + f2) ≤ u2)) != tn) := ⟨_, rfl⟩
  obtain ⟨τ2, eτ2⟩ : ∃ z : hm_S, z = (fE, fF, fK, rF, rM, row, limb, tree, fl, sta, sS, sk, gr, te, bI nn, bI ww, a0, b0, z0, p0, m0) := ⟨_, rfl⟩
  have hF2 : mF τ2 k e f kd := hF.same ⟨limb, te, bI nn, bI ww, a0, b0, z0, p0, m0, eτ2⟩
  have hG2 : mF τ2 j e2 f2 kd2 := hG.same ⟨limb, te, bI nn, bI ww, a0, b0, z0, p0, m0, eτ2⟩
  have s1 := m_px1 fE fF fK rF rM row limb tree fl sta sS sk gr te n0 w0 z0 p0 m0 a0 b0 (ht_nan ts) (decide (q_sort e f kd u = 4)) (decide (q_sort e2 f2 kd2 u2 = 4)) (nI k) (nI j) (bI tn) (nI (q_sort e f kd u)) (nI (q_sort e2 f2 kd2 u2)) (lN u) (lN u2) (by rw [← h1]; exact m_sortOf hF hu) (by rw [← h1]; exact m_sortOf hG hu2) (by rw [sort_4]; simp) (by rw [sort_4]; simp)
  rw [← h1, ← hnn] at s1
  have s2 := m_px2 fE fF fK rF rM row limb tree fl sta sS sk gr te n0 w0 z0 p0 m0 a0 b0 nn (ht_wr ts) (decide (q_sort e f kd u = 3)) (decide (q_sort e2 f2 kd2 u2 = 0)) (decide (q_sort e f kd u = 0)) (decide (q_sort e2 f2 kd2 u2 = 3)) (nI k) (nI j) (bI tn) (nI (q_sort e f kd u)) (nI (q_sort e2 f2 kd2 u2)) (lN u) (lN u2) (by rw [sort_3]; simp) (by rw [sort_0]; simp) (by rw [sort_3]; simp) (by rw [sort_0]; simp)
  rw [← h2, ← hww] at s2
  have s3 := m_px3 fE fF fK rF rM row limb tree fl sta sS sk gr te (bI nn) w0 z0 p0 m0 a0 b0 ww (decide (2 ^ (e + f) ≤ u)) (decide (2 ^ (e2 + f2) ≤ u2)) tn (nI k) (nI j) (nI (q_sort e f kd u)) (nI (q_sort e2 f2 kd2 u2)) (lN u) (lN u2) (by rw [← eτ2]; exact m_isBelow hF2 hu) (by rw [← eτ2]; exact m_isBelow hG2 hu2)
  rw [← hbl, ← eτ2] at s3
  have hpw : iI (q_pw e f kd u) + iI (q_pw e2 f2 kd2 u2) = iI ((pl : Int) - 352) := by rw [iI_add]; congr 1; omega
  have s4 := m_px4 τ2 (decide (q_sort e f kd u = 3)) (decide (q_sort e2 f2 kd2 u2 = 3)) (bI bl) (nI k) (nI j) (nI (q_sort e f kd u)) (nI (q_sort e2 f2 kd2 u2)) (iI (q_pw e f kd u)) (iI (q_pw e2 f2 kd2 u2)) (iI ((pl : Int) - 352)) (lN u) (lN u2) (lN (q_m e f kd u)) (lN (q_m e2 f2 kd2 u2)) (m_wholeOf hF2 hu) (m_wholeOf hG2 hu2) (m_powerOf hF2 hu) (m_powerOf hG2 hu2) hpw (by rw [sort_3]; simp) (by rw [sort_3]; simp)
  rw [lN_mul] at s4
  have hmm : q_m e f kd u * q_m e2 f2 kd2 u2 < 281474976710656 := by
    have i1 := q_mb hF.2.1 u
    have i2 := q_mb hG.2.1 u2
    calc q_m e f kd u * q_m e2 f2 kd2 u2 ≤ 16777215 * q_m e2 f2 kd2 u2 := Nat.mul_le_mul_right _ (by omega)
      _ ≤ 16777215 * 16777215 := Nat.mul_le_mul_left _ (by omega)
      _ < 281474976710656 := by decide
  obtain ⟨τ1, e1, e2'⟩ := m_tm fE fF fK rF rM row limb tree fl sta sS sk gr te ts h8 h9 bl (decide (q_sort e f kd u = 3) || decide (q_sort e2 f2 kd2 u2 = 3)) nn ww (w := q_m e f kd u * q_m e2 f2 kd2 u2) (place := pl) hmm hb n0 w0
  rw [← h3, ← h4, ← h5, ← h6, ← h7, ← eτ2] at e1
  rw [← h3, ← h4, ← h5, ← h6, ← h7] at e2'
  rw [hbl, hnn, hww] at e2'
  exact ⟨τ1, by rw [s1, s2, s3, s4, e1, hx_b1_some], e2'⟩
theorem m_product {τ : hm_S} {ts : List hT} {k e f kd u j e2 f2 kd2 u2 : Nat} (hF : mF τ k e f kd) (hG : mF τ j e2 f2 kd2) (hA : mA τ ts) (hu : u < 4294967296) (hu2 : u2 < 4294967296) (tn : Bool) (pl : Nat) (hpl : (pl : Int) = q_pw e f kd u + q_pw e2 f2 kd2 u2 + 352) (hb : pl < 676) :
    ∃ τ1, f_M_product τ (nI k) (lN u) (nI j) (lN u2) (bI tn) = some τ1 ∧ hm_same τ τ1 ∧ mA τ1 (ts ++ [wT e f kd u e2 f2 kd2 u2 tn pl]) := by
  obtain ⟨τ1, e1, e3⟩ := m_product0 hF hG hA hu hu2 tn pl hpl hb
  have l1 := sort_le e f kd u
  have l2 := sort_le e2 f2 kd2 u2
  have q1 : ∀ z, ¬ (z = 1 ∨ z = 2) → q_sort e f kd u = z → q_m e f kd u = 0 := fun z hz h => q_m0 (by omega)
  have q2 : ∀ z, ¬ (z = 1 ∨ z = 2) → q_sort e2 f2 kd2 u2 = z → q_m e2 f2 kd2 u2 = 0 := fun z hz h => q_m0 (by omega)
  refine ⟨τ1, e1, mA_app e3 (wT e f kd u e2 f2 kd2 u2 tn pl) rfl ?_ ?_ ?_ rfl rfl ?_ ?_⟩
  all_goals unfold wT wK
  all_goals dsimp only
  all_goals generalize q_sort e f kd u = s at l1 q1 ⊢
  all_goals generalize q_sort e2 f2 kd2 u2 = t at l2 q2 ⊢
  · rcases (show s = 0 ∨ s = 1 ∨ s = 2 ∨ s = 3 ∨ s = 4 by omega) with rfl | rfl | rfl | rfl | rfl <;> rcases (show t = 0 ∨ t = 1 ∨ t = 2 ∨ t = 3 ∨ t = 4 by omega) with rfl | rfl | rfl | rfl | rfl <;> rfl
  · rcases (show s = 0 ∨ s = 1 ∨ s = 2 ∨ s = 3 ∨ s = 4 by omega) with rfl | rfl | rfl | rfl | rfl <;> rcases (show t = 0 ∨ t = 1 ∨ t = 2 ∨ t = 3 ∨ t = 4 by omega) with rfl | rfl | rfl | rfl | rfl <;> rfl
  · rcases (show s = 0 ∨ s = 1 ∨ s = 2 ∨ s = 3 ∨ s = 4 by omega) with rfl | rfl | rfl | rfl | rfl <;> rcases (show t = 0 ∨ t = 1 ∨ t = 2 ∨ t = 3 ∨ t = 4 by omega) with rfl | rfl | rfl | rfl | rfl <;> rfl
  · intro z
    by_cases c : s = 1 ∨ s = 2
    · by_cases d : t = 1 ∨ t = 2
      · exfalso
        apply z
        rw [if_neg (by omega), if_neg (by omega), if_neg (by omega)]
      · rw [q2 t d rfl, Nat.mul_zero]
    · rw [q1 s c rfl, Nat.zero_mul]
  · split
    · split <;> omega
    · split
      · omega
      · split <;> omega
theorem hm_aset_lset (τ : hm_S) (F G : Nat → Int64) (t n w a b z p m : Int32) : hm_aset (hm_lset τ F) G t n w a b z p m = hm_aset τ G t n w a b z p m := rfl
theorem m_begin2 : ∀ (d n k : Nat), k + d = 24 → d < n → ∀ τ : hm_S, ∃ F, f_M_begin_2 n τ (nI k) = some (hm_aset τ F 0 0 0 0 0 1 0 0) ∧ (∀ j, j < k → F j = hm_limb τ j) ∧ ∀ j, k ≤ j → j < 24 → F j = 0 := by
  intro d
  induction d with
  | zero =>
    intro n k hk hn τ
    obtain ⟨n, rfl⟩ : ∃ q, n = q + 1 := ⟨n - 1, by omega⟩
    have hk : k = 24 := by omega
    subst hk
    refine ⟨hm_limb τ, ?_, fun _ _ => rfl, fun j h1 h2 => by omega⟩
    rw [f_M_begin_2, if_pos (by rw [n24 (Nat.le_refl 24)]; exact Nat.le_refl 24)]
    obtain ⟨fE, fF, fK, rF, rM, row, limb, tree, fl, sta, sS, sk, gr, te, n0, w0, a0, b0, z0, p0, m0⟩ := τ
    rfl
  | succ d ih =>
    intro n k hk hn τ
    obtain ⟨n, rfl⟩ : ∃ q, n = q + 1 := ⟨n - 1, by omega⟩
    obtain ⟨F, h1, h2, h3⟩ := ih n (k + 1) (by omega) (by omega) (hm_lset τ (vp_updL (hm_limb τ) k 0))
    have hkc : (nI k).toNatClampNeg = k := nI_clamp (by omega)
    refine ⟨F, ?_, fun j hj => ?_, fun j h4 h5 => ?_⟩
    · rw [f_M_begin_2, if_neg (by rw [n24 (by omega)]; omega)]
      simp only [hkc, g24 (show k < 24 by omega), if_false, hx_n_eq, hm_limb_s_eq, nI_p1]
      rw [h1, hm_aset_lset]
    · rw [h2 j (by omega)]
      show vp_updL (hm_limb τ) k 0 j = _
      exact if_neg (by omega)
    · by_cases c : j = k
      · rw [h2 j (by omega)]
        show vp_updL (hm_limb τ) k 0 j = _
        exact if_pos c
      · exact h3 j (by omega) h5
theorem m_begin (τ : hm_S) : ∃ τ1, f_M_begin τ = some τ1 ∧ hm_same τ τ1 ∧ mA τ1 [] := by
  obtain ⟨F, h1, _, h3⟩ := m_begin2 24 hx_fuel 0 rfl (by have : hx_fuel = 5000 := rfl; omega) τ
  refine ⟨_, h1, ⟨_, _, _, _, _, _, _, _, _, rfl⟩, rfl, rfl, rfl, rfl, rfl, rfl, rfl, rfl, (fun _ => 0), fun j hj => ⟨Int.le_refl 0, (by decide : (0 : Int) < 4294967296), h3 j (Nat.zero_le _) hj⟩, 0, ?_⟩
  rw [sI_0 _ _ (fun _ _ => rfl)]
  show (0 : Int) = 0 + 0 * kQ
  omega
