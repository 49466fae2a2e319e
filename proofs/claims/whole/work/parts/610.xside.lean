theorem tB_vT {e f kd u : Nat} (hv : vf e f kd) (tn : Bool) {pl : Nat} (hpl : (pl : Int) = q_pw e f kd u + 352) : tB (vT e f kd u tn pl) := by
  refine ⟨?_, ?_, ?_⟩
  · show vK (q_sort e f kd u) < 5
    unfold vK; split
    · omega
    · split <;> omega
  · show q_m e f kd u < 281474976710656
    have := q_mb hv u; omega
  · intro _ (hne : q_m e f kd u ≠ 0)
    show pl < 608
    have hs : q_sort e f kd u = 1 ∨ q_sort e f kd u = 2 := Classical.byContradiction (fun q => hne (q_m0 q))
    have hq : q_pw e f kd u = (q_p e f kd u : Int) - 352 := if_pos hs
    have hb := q_pb hv u
    omega
theorem tB_wT {e f kd u e2 f2 kd2 u2 : Nat} (hv : vf e f kd) (hw : vf e2 f2 kd2) (tn : Bool) {pl : Nat} (hpl : (pl : Int) = q_pw e f kd u + q_pw e2 f2 kd2 u2 + 352) : tB (wT e f kd u e2 f2 kd2 u2 tn pl) := by
  refine ⟨?_, ?_, ?_⟩
  · show wK (q_sort e f kd u) (q_sort e2 f2 kd2 u2) < 5
    unfold wK; split
    · split <;> omega
    · split
      · omega
      · split <;> omega
  · show q_m e f kd u * q_m e2 f2 kd2 u2 < 281474976710656
    have hm := q_mb hv u
    have hm2 := q_mb hw u2
    have : q_m e f kd u * q_m e2 f2 kd2 u2 ≤ 16777215 * 16777215 := Nat.mul_le_mul (by omega) (by omega)
    omega
  · intro _ (hne : q_m e f kd u * q_m e2 f2 kd2 u2 ≠ 0)
    show pl < 608
    have g1 : q_sort e f kd u = 1 ∨ q_sort e f kd u = 2 := Classical.byContradiction (fun q => hne (by rw [q_m0 q, Nat.zero_mul]))
    have g2 : q_sort e2 f2 kd2 u2 = 1 ∨ q_sort e2 f2 kd2 u2 = 2 := Classical.byContradiction (fun q => hne (by rw [q_m0 q, Nat.mul_zero]))
    have r1 : q_pw e f kd u = (q_p e f kd u : Int) - 352 := if_pos g1
    have r2 : q_pw e2 f2 kd2 u2 = (q_p e2 f2 kd2 u2 : Int) - 352 := if_pos g2
    have hb1 := q_pb hv u
    have hb2 := q_pb hw u2
    omega
def sp_side (ts : List hT) : Int := if (cI false ts || cI true ts) = true then (if cI false ts then 1 else 0) - (if cI true ts then 1 else 0) else if tV ts = 0 then 0 else if tV ts < 0 then -1 else 1
theorem x_side {σ : hx_S} {X : hx_Ex} {ts : List hT} (h : cX X ts) (hB : ∀ t, t ∈ ts → tB t) (hl : ts.length < 250) : ∃ Y, f_E_side (hx_xs σ X) = some (iI (sp_side ts), hx_xs σ Y) := by
  obtain ⟨n, z, pi, mi, ps, ms, c, ng, wh, pw, mo, L⟩ := X
  obtain ⟨h1, h2, h3, h4, h5, h6, h7, h8, h9, h10⟩ := h
  dsimp only at h1 h2 h3 h4 h5 h6 h7 h8 h10
  subst h3 h4 h7 h8
  obtain ⟨b1, b2⟩ := tV_bd hB
  obtain ⟨ng', w, P, ρ, pw', L', s1, s2, s3, s4⟩ := x_settled σ (n := n) (z := z) (pi := bI (cI false ts)) (mi := bI (cI true ts)) (ps := ps) (ms := ms) (show cC ts < 250 by omega) h10 (show (ts.length : Int) ≤ 250 by omega) b1 b2
  unfold sp_side
  cases hi : cI false ts
  · cases hj : cI true ts
    · rw [hi, hj] at s1
      rw [f_E_side, hx_xs_pi, hx_xs_mi, if_pos (show bI false = 0 from rfl), if_pos (show bI false = 0 from rfl), s1, hx_b1_some, hx_xs_wh, hx_xs_ng, if_neg (show ¬ (false || false) = true by decide)]
      simp only [c_eq0 (a := w) (by omega)]
      by_cases v0 : tV ts = 0
      · rw [if_pos (s3.mpr v0), if_pos v0]; exact ⟨_, rfl⟩
      · rw [if_neg (fun q => v0 (s3.mp q)), if_neg v0, (s4 v0).1]
        by_cases v1 : tV ts < 0
        · rw [if_pos v1, decide_eq_true v1, if_neg (by decide)]; exact ⟨_, rfl⟩
        · rw [if_neg v1, decide_eq_false v1, if_pos (show bI false = 0 from rfl)]; exact ⟨_, rfl⟩
    · rw [f_E_side, hx_xs_pi, hx_xs_mi, if_pos (show bI false = 0 from rfl), if_neg (show ¬ bI true = 0 by decide), f_E_side_14, hx_xs_pi, if_pos (show bI false = 0 from rfl), f_E_side_26, hx_xs_mi, if_neg (show ¬ bI true = 0 by decide)]
      exact ⟨_, rfl⟩
  · rw [f_E_side, hx_xs_pi, if_neg (show ¬ bI true = 0 by decide), f_E_side_14, hx_xs_pi, if_neg (show ¬ bI true = 0 by decide), f_E_side_26, hx_xs_mi]
    cases hj : cI true ts
    · rw [if_pos (show bI false = 0 from rfl)]; exact ⟨_, rfl⟩
    · rw [if_neg (show ¬ bI true = 0 by decide)]; exact ⟨_, rfl⟩
