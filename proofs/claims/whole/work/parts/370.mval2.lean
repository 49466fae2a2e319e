theorem mA_app {bl inf nn ww : Bool} {ts : List hT} {w place : Nat} {τ τ1 : hm_S} (h : ht_st bl inf nn ww ts w place τ τ1) (t : hT) (hb : t.2.1 = bl) (hn : nn = (ht_nan ts || kn t.1)) (hw : ww = (ht_wr ts || t.1 == 3)) (hi : inf = ki t.1) (hm : t.2.2.1 = w) (hp : t.2.2.2 = place) (hk : t.1 ≠ 0 → w = 0) (hk4 : t.1 < 5) : hm_same τ τ1 ∧ mA τ1 (ts ++ [t]) := by
  obtain ⟨h0, h1, h2, h3, h4, h5, h6, h7, h8, h9⟩ := h
  refine ⟨h0, ?_, ?_, ?_, ?_, ?_, ?_, ?_, ?_, ?_⟩
  · rw [h1, hn]; simp [ht_nan, List.any_append]
  · rw [h2, hw]; simp [ht_wr, List.any_append]
  · rw [h3, hi, ← hb]; simp [ht_ab, List.any_append]
  · rw [h4, hi, ← hb]; simp [ht_be, List.any_append]
  · rw [h5, ← hb]; simp [ht_pl, List.any_append]
  · rw [h6, ← hb]; simp [ht_mi, List.any_append]
  · rw [h7, hi, ← hm]; simp [ht_az, List.all_append]
  · rw [h8]; simp
  · rw [tV_app]
    have e : tv t = if inf then 0 else (if bl then -1 else 1) * ((w : Int) * 2 ^ place) := by
      unfold tv
      rw [hb, hm, hp, hi]
      by_cases c : t.1 = 0
      · rw [if_pos c, c]; simp [ki]
      · rw [if_neg c, hk c]
        simp
    rw [e]
    exact h9
def vK (s : Nat) : Nat := if s = 4 then 2 else if s = 3 then 1 else 0
def vT (e f kd u : Nat) (tn : Bool) (pl : Nat) : hT := (vK (q_sort e f kd u), (decide (2 ^ (e + f) ≤ u) != tn), q_m e f kd u, pl)
theorem q_mb {e f kd : Nat} (h : vf e f kd) (u : Nat) : q_m e f kd u < 16777216 := by
  have hp := pw_f h.2.2.2.1
  have hm : u % 2 ^ f < 2 ^ f := Nat.mod_lt _ (Nat.two_pow_pos _)
  unfold q_m
  split
  · omega
  · split <;> omega
theorem q_m0 {e f kd u : Nat} (h : ¬ (q_sort e f kd u = 1 ∨ q_sort e f kd u = 2)) : q_m e f kd u = 0 := by
  unfold q_m
  rw [if_neg (by omega), if_neg (by omega)]
theorem bI_d (p : Prop) [Decidable p] : (if p then (1 : Int32) else 0) = bI (decide p) := by
  by_cases h : p
  · rw [if_pos h, decide_eq_true h]; rfl
  · rw [if_neg h, decide_eq_false h]; rfl
set_option maxHeartbeats 400000 in
theorem m_vx1 (fE fF fK rF rM : Nat → Int32) (row limb tree : Nat → Int64) (fl : Int32) (sta : Int64) (sS sk gr te n0 w0 z0 p0 m0 a0 b0 : Int32) (NN s4 : Bool) (K TN BY S : Int32) (U : Int64) (hs : f_M_sortOf (fE, fF, fK, rF, rM, row, limb, tree, fl, sta, sS, sk, gr, te, bI NN, w0, a0, b0, z0, p0, m0) K U = some S) (h4 : (S = 4) = (s4 = true)) : f_M_value (fE, fF, fK, rF, rM, row, limb, tree, fl, sta, sS, sk, gr, te, bI NN, w0, a0, b0, z0, p0, m0) K U TN BY = f_M_value_27 (fE, fF, fK, rF, rM, row, limb, tree, fl, sta, sS, sk, gr, te, bI NN, w0, a0, b0, z0, p0, m0) K U TN BY S (bI (NN || s4)) := by
  rw [f_M_value, hs, hx_b1_some]
  simp only [h4]
  cases NN
  · cases s4 <;> rfl
  · rfl
set_option maxHeartbeats 400000 in
theorem m_vx2 (fE fF fK rF rM : Nat → Int32) (row limb tree : Nat → Int64) (fl : Int32) (sta : Int64) (sS sk gr te n0 w0 z0 p0 m0 a0 b0 : Int32) (nn b tn : Bool) (K BY S : Int32) (U : Int64) (hb : f_M_isBelow (fE, fF, fK, rF, rM, row, limb, tree, fl, sta, sS, sk, gr, te, bI nn, w0, a0, b0, z0, p0, m0) K U = some (bI b)) : f_M_value_27 (fE, fF, fK, rF, rM, row, limb, tree, fl, sta, sS, sk, gr, te, n0, w0, a0, b0, z0, p0, m0) K U (bI tn) BY S (bI nn) = f_M_value_47 (fE, fF, fK, rF, rM, row, limb, tree, fl, sta, sS, sk, gr, te, bI nn, w0, a0, b0, z0, p0, m0) K U BY S (bI (b != tn)) := by
  have hb2 : f_M_isBelow (hm_hasNan_s (fE, fF, fK, rF, rM, row, limb, tree, fl, sta, sS, sk, gr, te, n0, w0, a0, b0, z0, p0, m0) (bI nn)) K U = some (bI b) := hb
  rw [f_M_value_27, if_pos (bI_or nn), hx_n_eq, hb2, hx_b1_some]
  cases b <;> cases tn <;> rfl
set_option maxHeartbeats 400000 in
theorem m_vx3 (σ : hm_S) (s3 : Bool) (bl K BY S P Q : Int32) (U W : Int64) (hw : f_M_wholeOf σ K U = some W) (hp : f_M_powerOf σ K U = some P) (hq : P + BY = Q) (h3 : (S = 3) = (s3 = true)) : f_M_value_47 σ K U BY S bl = hx_b1 (f_M_term σ bl (bI s3) W Q) (fun q35 => some q35) := by
  rw [f_M_value_47]
  simp only [f_M_value_58, hw, hp, hx_b1_some, hq, h3]
  cases s3 <;> rfl
set_option maxHeartbeats 100000 in
theorem m_value0 {τ : hm_S} {ts : List hT} {k e f kd u : Nat} (hF : mF τ k e f kd) (hA : mA τ ts) (hu : u < 4294967296) (tn : Bool) (by_ : Int) (pl : Nat) (hpl : (pl : Int) = q_pw e f kd u + 352 + by_) (hb : pl < 676) :
    ∃ τ1, f_M_value τ (nI k) (lN u) (bI tn) (iI by_) = some τ1 ∧ ht_st (decide (2 ^ (e + f) ≤ u) != tn) (decide (q_sort e f kd u = 3)) (ht_nan ts || decide (q_sort e f kd u = 4)) (ht_wr ts) ts (q_m e f kd u) pl τ τ1 := by
  obtain ⟨fE, fF, fK, rF, rM, row, limb, tree, fl, sta, sS, sk, gr, te, n0, w0, a0, b0, z0, p0, m0⟩ := τ
  obtain ⟨h1, h2, h3, h4, h5, h6, h7, h8, h9⟩ := hA
  have h1 : n0 = bI (ht_nan ts) := h1
  have h2 : w0 = bI (ht_wr ts) := h2
  have h3 : a0 = bI (ht_ab ts) := h3
  have h4 : b0 = bI (ht_be ts) := h4
  have h5 : p0 = bI (ht_pl ts) := h5
  have h6 : m0 = bI (ht_mi ts) := h6
  have h7 : z0 = bI (ht_az ts) := h7
  have h8 : te = nI ts.length := h8
  have h9 : mV limb (tV ts) := h9
  obtain ⟨nn, hnn⟩ : ∃ nn : Bool, nn = (ht_nan ts || decide (q_sort e f kd u = 4)) := ⟨_, rfl⟩
  obtain ⟨bl, hbl⟩ : ∃ bl : Bool, bl = (decide (2 ^ (e + f) ≤ u) != tn) := ⟨_, rfl⟩
  obtain ⟨τ2, eτ2⟩ : ∃ z : hm_S, z = (fE, fF, fK, rF, rM, row, limb, tree, fl, sta, sS, sk, gr, te, bI nn, w0, a0, b0, z0, p0, m0) := ⟨_, rfl⟩
  have hF2 : mF τ2 k e f kd := hF.same ⟨limb, te, bI nn, w0, a0, b0, z0, p0, m0, eτ2⟩
  have hs : f_M_sortOf (fE, fF, fK, rF, rM, row, limb, tree, fl, sta, sS, sk, gr, te, bI (ht_nan ts), w0, a0, b0, z0, p0, m0) (nI k) (lN u) = some (nI (q_sort e f kd u)) := by rw [← h1]; exact m_sortOf hF hu
  have s1 := m_vx1 fE fF fK rF rM row limb tree fl sta sS sk gr te n0 w0 z0 p0 m0 a0 b0 (ht_nan ts) (decide (q_sort e f kd u = 4)) (nI k) (bI tn) (iI by_) (nI (q_sort e f kd u)) (lN u) hs (by rw [sort_4]; simp)
  rw [← h1, ← hnn] at s1
  have s2 := m_vx2 fE fF fK rF rM row limb tree fl sta sS sk gr te n0 w0 z0 p0 m0 a0 b0 nn (decide (2 ^ (e + f) ≤ u)) tn (nI k) (iI by_) (nI (q_sort e f kd u)) (lN u) (by rw [← eτ2]; exact m_isBelow hF2 hu)
  rw [← hbl, ← eτ2] at s2
  have hpw : iI (q_pw e f kd u) + iI by_ = iI ((pl : Int) - 352) := by rw [iI_add]; congr 1; omega
  have s3 := m_vx3 τ2 (decide (q_sort e f kd u = 3)) (bI bl) (nI k) (iI by_) (nI (q_sort e f kd u)) (iI (q_pw e f kd u)) (iI ((pl : Int) - 352)) (lN u) (lN (q_m e f kd u)) (m_wholeOf hF2 hu) (m_powerOf hF2 hu) hpw (by rw [sort_3]; simp)
  obtain ⟨τ1, e1, e2⟩ := m_tm fE fF fK rF rM row limb tree fl sta sS sk gr te ts h8 h9 bl (decide (q_sort e f kd u = 3)) nn (ht_wr ts) (w := q_m e f kd u) (place := pl) (by have := q_mb hF.2.1 u; omega) hb n0 w0
  rw [← h2, ← h3, ← h4, ← h5, ← h6, ← h7, ← eτ2] at e1
  rw [← h3, ← h4, ← h5, ← h6, ← h7] at e2
  rw [hbl, hnn] at e2
  exact ⟨τ1, by rw [s1, s2, s3, e1, hx_b1_some], e2⟩
set_option maxHeartbeats 100000 in
theorem m_value {τ : hm_S} {ts : List hT} {k e f kd u : Nat} (hF : mF τ k e f kd) (hA : mA τ ts) (hu : u < 4294967296) (tn : Bool) (by_ : Int) (pl : Nat) (hpl : (pl : Int) = q_pw e f kd u + 352 + by_) (hb : pl < 676) :
    ∃ τ1, f_M_value τ (nI k) (lN u) (bI tn) (iI by_) = some τ1 ∧ hm_same τ τ1 ∧ mA τ1 (ts ++ [vT e f kd u tn pl]) := by
  obtain ⟨τ1, e1, e2⟩ := m_value0 hF hA hu tn by_ pl hpl hb
  refine ⟨τ1, e1, mA_app e2 (vT e f kd u tn pl) rfl ?_ ?_ ?_ rfl rfl ?_ ?_⟩
  · unfold vT vK
    by_cases c : q_sort e f kd u = 4
    · simp [c, kn, ki]
    · by_cases d : q_sort e f kd u = 3 <;> simp [c, d, kn, ki]
  · unfold vT vK
    by_cases c : q_sort e f kd u = 4
    · simp [c, kn, ki]
    · by_cases d : q_sort e f kd u = 3 <;> simp [c, d, kn, ki]
  · unfold vT vK
    by_cases c : q_sort e f kd u = 4
    · simp [c, kn, ki]
    · by_cases d : q_sort e f kd u = 3 <;> simp [c, d, kn, ki]
  · intro z
    refine q_m0 (fun q => z ?_)
    unfold vT vK
    rcases q with q | q <;> simp [q]
  · unfold vT vK
    by_cases c : q_sort e f kd u = 4
    · simp [c, kn, ki]
    · by_cases d : q_sort e f kd u = 3 <;> simp [c, d, kn, ki]
