theorem bne_if (a b : Bool) {α : Type} (f : Int32 → α) : (if bI a = bI b then f 0 else f 1) = f (bI (a != b)) := by cases a <;> cases b <;> rfl
theorem x_addValue (σ : hx_S) {X : hx_Ex} {ts : List hT} (h : cX X ts) (hl : ts.length < 250) {k e f kd u : Nat} (hF : cF σ k e f kd) (hu : u < 2 ^ (e + f + 1)) (tn : Bool) (pl : Nat) (hpl : (pl : Int) = q_pw e f kd u + 352) :
    ∃ Y, f_E_addValue (hx_xs σ X) k (nI u) (bI tn) = some (hx_xs σ Y) ∧ cX Y (ts ++ [vT e f kd u tn pl]) := by
  have hv := hF.2.1
  have hqw := q_w hv
  have hu2 : u < 4294967296 := by rw [Nat.pow_succ] at hu; omega
  have hfm : hx_fm (hx_xs σ X) k = FM e f kd := hF.2.2
  have s4 : (nI (q_sort e f kd u) = (4 : Int32)) = (q_sort e f kd u = 4) := by rw [show (4 : Int32) = nI 4 from rfl, nI_eq (by rcases q_s4 e f kd u with c | c | c | c | c <;> omega) (by omega)]
  have s3 : (nI (q_sort e f kd u) = (3 : Int32)) = (q_sort e f kd u = 3) := by rw [show (3 : Int32) = nI 3 from rfl, nI_eq (by rcases q_s4 e f kd u with c | c | c | c | c <;> omega) (by omega)]
  rw [f_E_addValue, hfm, x_sortOf hv hu2, hx_b1_some, x_isNegative hv hu, hx_b1_some, bne_if (decide (2 ^ (e + f) ≤ u)) tn (fun x => f_E_addValue_21 (hx_xs σ X) k (nI u) (nI (q_sort e f kd u)) x)]
  rw [f_E_addValue_21, hfm]
  simp only [s4, s3]
  unfold vT vK
  by_cases c4 : q_sort e f kd u = 4
  · rw [if_pos c4, if_pos c4, hx_n_eq]
    obtain ⟨Y, y1, y2⟩ := x_nanT σ h 2 (Or.inl rfl) (decide (2 ^ (e + f) ≤ u) != tn) (q_m e f kd u) pl
    exact ⟨Y, by rw [y1], y2⟩
  · rw [if_neg c4, if_neg c4]
    by_cases c3 : q_sort e f kd u = 3
    · rw [if_pos c3, if_pos c3]
      obtain ⟨Y, y1, y2⟩ := x_note σ h (decide (2 ^ (e + f) ≤ u) != tn) (q_m e f kd u) pl
      exact ⟨Y, by rw [y1, hx_b1_some], y2⟩
    · rw [if_neg c3, if_neg c3, x_wholeOf hv hu2, hx_b1_some, x_powerOf hv hu2, hx_b1_some, q_mc_m (kd := kd) (by rcases q_s4 e f kd u with c | c | c | c | c <;> omega)]
      have hm := q_mb hv u
      have hb := q_pb hv u
      obtain ⟨Y, y1, y2⟩ := x_addFinite σ h hl (decide (2 ^ (e + f) ≤ u) != tn) (m := q_m e f kd u) (pl := pl) (p := iI (q_pc e f u)) (by omega) (fun hne => by
        have hs : q_sort e f kd u = 1 ∨ q_sort e f kd u = 2 := Classical.byContradiction (fun q => hne (q_m0 q))
        have hq : q_pw e f kd u = (q_p e f kd u : Int) - 352 := if_pos hs
        exact ⟨by rw [q_pc_p hv hs, show q_pw e f kd u = (pl : Int) - 352 by omega], by omega, by omega⟩)
      exact ⟨Y, by rw [y1, hx_b1_some], y2⟩
