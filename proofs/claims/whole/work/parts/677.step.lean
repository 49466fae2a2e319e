def flp (w a : Nat) : Nat := if 2 ^ w ≤ a then a - 2 ^ w else a + 2 ^ w
theorem flp_mod {w a : Nat} : flp w a % 2 ^ w = a % 2 ^ w := by
  unfold flp
  split
  · rename_i h; rw [← Nat.mod_eq_sub_mod h]
  · rw [Nat.add_mod_right]
theorem flp_lt {w a : Nat} (h : a < 2 ^ (w + 1)) : flp w a < 2 ^ (w + 1) := by
  rw [Nat.pow_succ] at *
  unfold flp
  split <;> omega
theorem flp_neg {w a : Nat} (h : a < 2 ^ (w + 1)) : decide (2 ^ w ≤ flp w a) = !decide (2 ^ w ≤ a) := by
  rw [Nat.pow_succ] at h
  unfold flp
  by_cases c : 2 ^ w ≤ a
  · rw [if_pos c, decide_eq_true c, decide_eq_false (by omega)]; rfl
  · rw [if_neg c, decide_eq_false c, decide_eq_true (by omega)]; rfl
theorem q_sort_flp (e f kd a : Nat) : q_sort e f kd (flp (e + f) a) = q_sort e f kd a := by unfold q_sort; rw [flp_mod]
theorem q_m_flp (e f kd a : Nat) : q_m e f kd (flp (e + f) a) = q_m e f kd a := by
  unfold q_m
  rw [q_sort_flp, ← mod_mod (e := e) (f := f) (u := flp (e + f) a), flp_mod, mod_mod]
theorem q_pw_flp (e f kd a : Nat) : q_pw e f kd (flp (e + f) a) = q_pw e f kd a := by
  unfold q_pw q_p
  rw [q_sort_flp, flp_mod]
theorem t2_flp {e f kd a e2 f2 kd2 b : Nat} (ha : a < 2 ^ (e + f + 1)) : t2 e f kd (flp (e + f) a) e2 f2 kd2 b false = t2 e f kd a e2 f2 kd2 b true := by
  unfold t2 wT
  rw [q_sort_flp, q_m_flp, q_pw_flp, flp_neg ha]
  cases decide (2 ^ (e + f) ≤ a) <;> cases decide (2 ^ (e2 + f2) ≤ b) <;> rfl
theorem hr_P.put1 {σ : hx_S} {τ : hm_S} {E F K n g : Nat → Nat} {u : Nat → Nat → Nat} {fl : Int32} {st : Nat} {S : Int} {sk go : Nat} (hP : hr_P σ τ E F K n g u fl st S sk go) {i p : Nat} (hp : p < 2 ^ (E (g 1) + F (g 1) + 1)) : hr_P (hx_pat_s σ 1 i (nI p)) (hm_row_s τ (32 + i) (lN p)) E F K n g (fun r j => if r = 1 ∧ j = i then p else u r j) fl st S sk go := by
  obtain ⟨h1, h2, h3⟩ := hP
  refine ⟨hr_F_of h1 rfl rfl rfl rfl, ?_, hr_G_of h3 rfl rfl rfl rfl rfl rfl rfl⟩
  intro r hr
  have hh := h2 r hr
  have hn := hh.1
  by_cases c : r = 1
  · subst c
    refine ⟨hn, hh.2.1, by rw [hx_size_ps]; exact hh.2.2.1, hh.2.2.2.1, by rw [hx_fmt_ps]; exact hh.2.2.2.2.1, hh.2.2.2.2.2.1, fun j hj => ?_⟩
    rw [hx_pat_ps]
    show (if 1 = 1 ∧ j = i then p else u 1 j) < _ ∧ upd (hx_pat σ 1) i (nI p) j = nI (if 1 = 1 ∧ j = i then p else u 1 j) ∧ vp_updL (hm_row τ) (32 + i) (lN p) (32 * 1 + j) = lN (if 1 = 1 ∧ j = i then p else u 1 j)
    rw [upd, vp_updL]
    by_cases ci : j = i
    · subst ci
      rw [if_pos ⟨rfl, rfl⟩, if_pos rfl, if_pos (by omega)]
      exact ⟨hp, rfl, rfl⟩
    · rw [if_neg (fun w => ci w.2), if_neg ci, if_neg (by omega)]
      exact hh.2.2.2.2.2.2 j hj
  · have hpx : hx_rw (hx_pat_s σ 1 i (nI p)) r = hx_rw σ r := hx_rw_ps _ _ _ _ _ c
    refine ⟨hn, hh.2.1, ?_, hh.2.2.2.1, ?_, hh.2.2.2.2.2.1, fun j hj => ?_⟩
    · show hx_rw_size (hx_rw _ r) = _
      rw [hpx]; exact hh.2.2.1
    · show hx_rw_format (hx_rw _ r) = _
      rw [hpx]; exact hh.2.2.2.2.1
    · show (if r = 1 ∧ j = i then p else u r j) < _ ∧ hx_rw_pats (hx_rw _ r) j = nI (if r = 1 ∧ j = i then p else u r j) ∧ vp_updL (hm_row τ) (32 + i) (lN p) (32 * r + j) = lN (if r = 1 ∧ j = i then p else u r j)
      rw [if_neg (fun w => c w.1), hpx, vp_updL, if_neg (by omega)]
      exact hh.2.2.2.2.2.2 j hj
theorem hr_G_put {σ σ1 : hx_S} {τ τ1 : hm_S} {fl : Int32} {st : Nat} {S S' : Int} {sk sk' go : Nat} (h : hr_G σ τ fl st S sk go) (a : σ1.2.2.2.1 = σ.2.2.2.1) (c1 : hm_flags τ1 = hm_flags τ) (c2 : hm_state τ1 = hm_state τ) (b1 : hx_shift σ1 = iI S') (b2 : hm_scaleS τ1 = iI S') (l1 : -60 ≤ S') (l2 : S' ≤ 60) (d1 : hx_streak σ1 = nI sk') (d2 : hm_streak τ1 = nI sk') (e1 : hx_goal σ1 = hx_goal σ) (e2 : hm_growth τ1 = hm_growth τ) (l3 : sk' < go) : hr_G σ1 τ1 fl st S' sk' go := by
  obtain ⟨g1, g2, g3, g4, g5, g6, g7, g8, g9, g10, g11, g12, g13, g14, g15⟩ := h
  refine ⟨?_, by rw [c1]; exact g2, ?_, by rw [c2]; exact g4, g5, b1, b2, l1, l2, d1, d2, by rw [e1]; exact g12, by rw [e2]; exact g13, l3, g15⟩
  · show σ1.2.2.2.1.1 = _
    rw [a]; exact g1
  · show σ1.2.2.2.1.2 = _
    rw [a]; exact g3
theorem broke {σ : hx_S} {τ : hm_S} {E F K n g : Nat → Nat} {u : Nat → Nat → Nat} (h1 : hr_F σ τ E F K) (h2 : hr_W σ τ E F n g u) (x y : Int32) : ∀ (d N N' i : Nat), i + d = n 0 → d < N → d < N' → (f_X_slopesBroke_15 N σ (g 0) (nI i) = some 0 ∧ f_M_step_21 N' τ x y (nI i) = f_M_step_89 hx_fuel τ x y 0) ∨ (f_X_slopesBroke_15 N σ (g 0) (nI i) = some 1 ∧ f_M_step_21 N' τ x y (nI i) = if hm_scaleS τ ≤ (-60 : Int32) then f_M_step_70 τ (hm_scaleS τ) 0 else f_M_step_70 τ (hm_scaleS τ) 1) := by
  have hW := h2 0 (by omega)
  have hg := hW.2.1
  have hn := hW.1
  have hv := (h1 _ hg).1
  intro d
  induction d with
  | zero =>
    intro N N' i hi hN hN'
    obtain ⟨N, rfl⟩ : ∃ z, N = z + 1 := ⟨N - 1, by omega⟩
    obtain ⟨N', rfl⟩ : ∃ z, N' = z + 1 := ⟨N' - 1, by omega⟩
    refine Or.inl ⟨?_, ?_⟩
    · rw [f_X_slopesBroke_15, hW.2.2.1, if_pos (nI_le (by omega) (by omega))]
    · rw [f_M_step_21, hx_gn g01, cn0, hW.2.2.2.1, if_pos (nI_le (by omega) (by omega))]
  | succ d ih =>
    intro N N' i hi hN hN'
    obtain ⟨N, rfl⟩ : ∃ z, N = z + 1 := ⟨N - 1, by omega⟩
    obtain ⟨N', rfl⟩ : ∃ z, N' = z + 1 := ⟨N' - 1, by omega⟩
    have hp := hW.2.2.2.2.2.2 i (by omega)
    have hu := pw_p hv hp.1
    have e0 : hm_row τ i = lN (u 0 i) := by rw [← hp.2.2, Nat.mul_zero, Nat.zero_add]
    have hsl := sort_le (E (g 0)) (F (g 0)) (K (g 0)) (u 0 i)
    have c1 : nI (q_sort (E (g 0)) (F (g 0)) (K (g 0)) (u 0 i)) < (3 : Int32) ↔ q_sort (E (g 0)) (F (g 0)) (K (g 0)) (u 0 i) < 3 := nI_ltI (b := 3) (by omega) (by omega)
    have c2 : nI (q_sort (E (g 0)) (F (g 0)) (K (g 0)) (u 0 i)) ≤ (2 : Int32) ↔ q_sort (E (g 0)) (F (g 0)) (K (g 0)) (u 0 i) ≤ 2 := nI_leI (b := 2) (by omega) (by omega)
    rw [f_X_slopesBroke_15, hW.2.2.1, if_neg (nI_ge (by omega) (by omega)), hcl (show i < 4096 by omega), hx_gn (hgn (N := 32) (by omega) (by omega)), hp.2.1, (h1 _ hg).2.1, x_sortOf hv hu, hx_b1_some, hx_n_eq, nI_1]
    rw [f_M_step_21, hx_gn g01, cn0, hW.2.2.2.1, if_neg (nI_ge (by omega) (by omega)), hx_gn g01', hcl (show i < 4096 by omega), hx_gn (hgn (N := 64) (by omega) (by omega)), hW.2.2.2.2.2.1, e0, m_sortOf (mF_of h1 hg) hu, hx_b1_some, hx_n_eq, nI_1]
    by_cases c : q_sort (E (g 0)) (F (g 0)) (K (g 0)) (u 0 i) < 3
    · rw [if_pos (c1.mpr c), if_pos (c2.mpr (by omega))]
      exact ih N N' (i + 1) (by omega) (by omega) (by omega)
    · rw [if_neg (fun q => c (c1.mp q)), if_neg (fun q => absurd (c2.mp q) (by omega))]
      exact Or.inr ⟨rfl, rfl⟩
set_option maxHeartbeats 1000000 in
theorem step_one {σ : hx_S} {τ : hm_S} {E F K n g : Nat → Nat} {u : Nat → Nat → Nat} {fl : Int32} {st : Nat} {S : Int} {sk go : Nat} (hP : hr_P σ τ E F K n g u fl st S sk go) {l rt i : Nat} (hl : l = if n 1 < n 0 then n 1 else n 0) (hrt : rt < 2 ^ (E (g 1) + F (g 1) + 1)) (hi : i < l) (N N' : Nat) : ∃ p fl1 st1 σ2 τ2, p < 2 ^ (E (g 1) + F (g 1) + 1) ∧ f_X_step_67 (N + 1) σ (nI rt) (nI l) (nI i) = f_X_step_67 N (hx_pat_s σ2 1 i (nI p)) (nI rt) (nI l) (nI (i + 1)) ∧ f_M_step_89 (N' + 1) τ (nI rt) (nI (g 1)) (nI i) = f_M_step_89 N' (hm_row_s τ2 (32 + i) (lN p)) (nI rt) (nI (g 1)) (nI (i + 1)) ∧ hr_N σ τ σ2 τ2 fl1 st1 := by
  have W0 := hP.2.1 0 (by omega)
  have W1 := hP.2.1 1 (by omega)
  have hn0 := W0.1
  have hn1 := W1.1
  have hg0 := W0.2.1
  have hg1 := W1.2.1
  have hi0 : i < n 0 := by split at hl <;> omega
  have hi1 : i < n 1 := by split at hl <;> omega
  have hp0 := W0.2.2.2.2.2.2 i hi0
  have hp1 := W1.2.2.2.2.2.2 i hi1
  have e0 : hm_row τ i = lN (u 0 i) := by rw [← hp0.2.2, Nat.mul_zero, Nat.zero_add]
  have e1 : hm_row τ (32 + i) = lN (u 1 i) := hp1.2.2
  have hS := hP.2.2
  obtain ⟨_, _, _, _, _, hS1, hS2, hS3, hS4, _⟩ := hS
  have hb := q_pwb (hP.1 _ hg0).1 (u 0 i)
  obtain ⟨p, fl1, st1, σ2, τ0, τ1, τ2, q1, q2, q3, q4, q5, q6, q7⟩ := AB_turn (way := 0) hP hg0 hg1 (by omega) hp0.1 (-S) (q_pw (E (g 0)) (F (g 0)) (K (g 0)) (u 0 i) + 352 + -S).toNat (by omega) (by omega)
  rw [show nI 0 = 0 from rfl] at q2 q5
  have hP2 := hr_N.P hP q7
  have hfl := flp_lt (w := E (g 1) + F (g 1)) hrt
  obtain ⟨s1, b1, b2⟩ := cA_begin σ2
  obtain ⟨a1, d1, d2⟩ := rA_begin τ2
  obtain ⟨s2, b3, b4⟩ := cA_prod b2 (by decide) (cF_of hP2.1 hg1) (cF_of hP2.1 hg1) hfl q1
  obtain ⟨a2, d3, d4⟩ := rA_prod d2 (mF_of hP2.1 hg1) (mF_of hP2.1 hg1) hrt q1 true
  have b4' : cA σ2 s2 [t2 (E (g 1)) (F (g 1)) (K (g 1)) rt (E (g 1)) (F (g 1)) (K (g 1)) p true] := by rw [← t2_flp hrt]; exact b4
  rw [show bI true = 1 from rfl] at d3
  obtain ⟨p2, fl2, st2, σ3, τ3, r1, r2, r3, r4⟩ := AB_end (way := 0) hP2 b4' d4 (tB_l1 (tB_t2 (hP.1 _ hg1).1 (hP.1 _ hg1).1 _ _ _)) (by show 1 < 250; omega) hg1 (by omega)
  rw [show nI 0 = 0 from rfl] at r2 r3
  have hP3 := hr_N.P hP2 r4
  obtain ⟨s5, m1, m2⟩ := x_plus (cF_of hP3.1 hg1) (cF_of hP3.1 hg1) hp1.1 r1 0
  obtain ⟨a5, j1, j2⟩ := rA_begin τ3
  obtain ⟨a6, j3, j4⟩ := rA_value j2 (mF_of hP3.1 hg1) hp1.1 false
  obtain ⟨a7, j5, j6⟩ := rA_value j4 (mF_of hP3.1 hg1) r1 false
  rw [show bI false = 0 from rfl] at j3 j5
  rw [show nI 0 = 0 from rfl] at m2
  obtain ⟨p3, fl3, st3, σ4, τ4, v1, v2, v3, v4⟩ := AB_end (way := 0) hP3 m1 j6 (tB_l2 (tB_t1 (hP.1 _ hg1).1 _ _) (tB_t1 (hP.1 _ hg1).1 _ _)) (by show 2 < 250; omega) hg1 (by omega)
  rw [show nI 0 = 0 from rfl] at v2 v3
  have hto : f_F_turnedOver (hx_fm s1 (g 1)) (nI rt) = some (nI (flp (E (g 1) + F (g 1)) rt)) := by
    have : hx_fm s1 (g 1) = FM (E (g 1)) (F (g 1)) (K (g 1)) := by
      show s1.1 (g 1) = _
      rw [b2.k.1]
      exact (hP2.1 _ hg1).2.1
    rw [this, x_turnedOver (hP.1 _ hg1).1 hrt]
    rfl
  have hst : f_X_stepped σ (nI (u 1 i)) (nI rt) (nI (u 0 i)) = some (nI p3, σ4) := by
    rw [f_X_stepped, W1.2.2.2.2.1, hc4 hg1, hx_gn (hg4n hg1), W0.2.2.2.2.1, hc4 hg0, hx_gn (hg4n hg0), hS1, iI_neg, q2, hx_b2_some, b1, hx_b1_some, hto, hx_b1_some, b3, hx_b1_some, r2, hx_b2_some, m2, v2, hx_b2_some]
  have hpat : f_M_pattern a1 (nI (g 1)) (nI rt) = some (lN rt) := by
    rw [m_pattern (d2.1.mF (mF_of hP2.1 hg1)), uI_nI (pw_p (hP.1 _ hg1).1 hrt), if_pos hrt]
  have hrow5 : hm_row a5 (32 + i) = lN (u 1 i) := by
    rw [j2.1.2.2.2.2.2.1, r4.2.1.2.2.2.2.2.1, q7.2.1.2.2.2.2.2.1]; exact e1
  refine ⟨p3, fl3, st3, σ4, τ4, v1, ?_, ?_, (q7.tr r4).tr v4⟩
  · rw [f_X_step_67, if_neg (nI_ge hi (by split at hl <;> omega)), hcl (show i < 4096 by omega), hx_gn (hgn (N := 32) (by omega) (by omega)), hx_gn (hgn (N := 32) (by omega) (by omega)), hp1.2.1, hp0.2.1, hst, hx_b2_some, hx_gn (hgn (N := 32) (by omega) (by omega)), hx_n_eq, hx_n_eq, nI_1]
  · rw [f_M_step_89, m_shorter hP.2.1, ← hl, hx_b1_some, if_neg (nI_ge hi (by split at hl <;> omega)), q3, hx_b1_some, hx_gn g01, cn0, hcl (show i < 4096 by omega), hx_gn (hgn (N := 64) (by omega) (by omega)), q6.2.2.2.1, q6.2.2.2.2.2.1, q6.2.2.2.2.2.2.2.1, W0.2.2.2.2.2.1, e0, hS2, iI_neg, q4, hx_b1_some, q5, hx_b2_some, d1, hx_b1_some, hpat, hx_b1_some, d3, hx_b1_some, r3, hx_b2_some, j1, hx_b1_some, show (32 : Int32) + nI i = nI (32 + i) from nI_add 32 i, hcl (show 32 + i < 4096 by omega), hx_gn (hgn (N := 64) (by omega) (by omega)), hrow5, j3, hx_b1_some, j5, hx_b1_some, v3, hx_b2_some, hx_gn (hgn (N := 64) (by omega) (by omega)), hx_n_eq, hx_n_eq, nI_1]
