def hr_T (σ : hx_S) (τ : hm_S) (L B : Nat) : Prop := ∀ q, q < L → ∃ t, t < B ∧ hx_tr σ q = nI t ∧ hm_tree τ q = lN t
theorem hr_T.put {σ : hx_S} {τ : hm_S} {L B : Nat} (h : hr_T σ τ L B) (i : Nat) {t : Nat} (ht : t < B) : hr_T (hx_tr_s σ i (nI t)) (hm_tree_s τ i (lN t)) L B := by
  intro q hq
  show ∃ t', t' < B ∧ upd (hx_tr σ) i (nI t) q = nI t' ∧ vp_updL (hm_tree τ) i (lN t) q = lN t'
  rw [upd, vp_updL]
  by_cases c : q = i
  · rw [if_pos c, if_pos c]; exact ⟨t, ht, rfl, rfl⟩
  · rw [if_neg c, if_neg c]; exact h q hq
theorem hr_T.grow {σ : hx_S} {τ : hm_S} {B : Nat} {i : Nat} (h : hr_T σ τ i B) {t : Nat} (ht : t < B) : hr_T (hx_tr_s σ i (nI t)) (hm_tree_s τ i (lN t)) (i + 1) B := by
  intro q hq
  show ∃ t', t' < B ∧ upd (hx_tr σ) i (nI t) q = nI t' ∧ vp_updL (hm_tree τ) i (lN t) q = lN t'
  rw [upd, vp_updL]
  by_cases c : q = i
  · rw [if_pos c, if_pos c]; exact ⟨t, ht, rfl, rfl⟩
  · rw [if_neg c, if_neg c]; exact h q (by omega)
theorem hr_T.N {σ σ1 : hx_S} {τ τ1 : hm_S} {L B : Nat} {f : Int32} {s : Nat} (h : hr_T σ τ L B) (k : hr_N σ τ σ1 τ1 f s) : hr_T σ1 τ1 L B := by
  intro q hq
  obtain ⟨t, h1, h2, h3⟩ := h q hq
  refine ⟨t, h1, ?_, ?_⟩
  · show σ1.2.2.2.2.1 q = _
    rw [k.1.2.2]; exact h2
  · rw [k.2.1.2.2.2.2.2.2.1]; exact h3
theorem hr_P.tr {σ : hx_S} {τ : hm_S} {E F K n g : Nat → Nat} {u : Nat → Nat → Nat} {fl : Int32} {st : Nat} {S : Int} {sk go : Nat} (hP : hr_P σ τ E F K n g u fl st S sk go) (i : Nat) (x : Int32) (y : Int64) : hr_P (hx_tr_s σ i x) (hm_tree_s τ i y) E F K n g u fl st S sk go := by
  refine ⟨hr_F_of hP.1 rfl rfl rfl rfl, hr_W_of hP.2.1 rfl rfl rfl rfl, ?_⟩
  obtain ⟨g1, g2, g3, g4, g5, g6, g7, g8, g9, g10, g11, g12, g13, g14, g15⟩ := hP.2.2
  exact ⟨g1, g2, g3, g4, g5, g6, g7, g8, g9, g10, g11, g12, g13, g14, g15⟩
theorem d2_t : ∀ L, L < 65 → nI L / (2 : Int32) = nI (L / 2) ∧ nI L - nI L / (2 : Int32) * (2 : Int32) = nI (L % 2) := by decide +kernel
set_option maxHeartbeats 1000000 in
theorem tree_level {E F K n g : Nat → Nat} {u : Nat → Nat → Nat} {S : Int} {sk go : Nat} {m w L : Nat} (hm : m < 4) (hw : w ≤ 5) (hL : L ≤ 32) (KK : hm_S → Int32 → Int32 → Int32 → Option (Int64 × hm_S)) : ∀ (d N N' j : Nat) (σ : hx_S) (τ : hm_S) (fl : Int32) (st : Nat), hr_P σ τ E F K n g u fl st S sk go → hr_T σ τ L (2 ^ (E m + F m + 1)) → 2 * j ≤ L → L ≤ 2 * j + d → d < N → d + 1 < N' → ∃ σ1 τ1 fl1 st1, f_X_pairUp_3 N σ (nI L) m (nI w) (nI (2 * j)) = some σ1 ∧ f_M_sum_258 KK N' τ (nI m) (nI w) (nI L) (nI j) (nI (2 * j)) = KK τ1 (nI m) (nI w) (nI ((L + 1) / 2)) ∧ hr_P σ1 τ1 E F K n g u fl1 st1 S sk go ∧ hr_T σ1 τ1 L (2 ^ (E m + F m + 1)) := by
  intro d
  induction d with
  | zero =>
    intro N N' j σ τ fl st hP hT h1 h2 hN hN'
    obtain ⟨N, rfl⟩ : ∃ z, N = z + 1 := ⟨N - 1, by omega⟩
    obtain ⟨N', rfl⟩ : ∃ z, N' = z + 1 := ⟨N' - 1, by omega⟩
    refine ⟨σ, τ, fl, st, ?_, ?_, hP, hT⟩
    · rw [f_X_pairUp_3, nI_1, if_pos (nI_le (by omega) (by omega)), (d2_t L (by omega)).2, if_neg (show ¬ nI (L % 2) = 1 by rw [show L % 2 = 0 by omega]; decide)]
    · rw [f_M_sum_258, if_pos (nI_le (by omega) (by omega)), show (L + 1) / 2 = j by omega]
  | succ d ih =>
    intro N N' j σ τ fl st hP hT h1 h2 hN hN'
    obtain ⟨N, rfl⟩ : ∃ z, N = z + 1 := ⟨N - 1, by omega⟩
    obtain ⟨N', rfl⟩ : ∃ z, N' = z + 1 := ⟨N' - 1, by omega⟩
    rcases (show L = 2 * j ∨ L = 2 * j + 1 ∨ 2 * j + 2 ≤ L by omega) with c | c | c
    · refine ⟨σ, τ, fl, st, ?_, ?_, hP, hT⟩
      · rw [f_X_pairUp_3, nI_1, if_pos (nI_le (by omega) (by omega)), (d2_t L (by omega)).2, if_neg (show ¬ nI (L % 2) = 1 by rw [show L % 2 = 0 by omega]; decide)]
      · rw [f_M_sum_258, if_pos (nI_le (by omega) (by omega)), show (L + 1) / 2 = j by omega]
    · obtain ⟨N', rfl⟩ : ∃ z, N' = z + 1 := ⟨N' - 1, by omega⟩
      obtain ⟨t, ht, e1, e2⟩ := hT (2 * j) (by omega)
      refine ⟨hx_tr_s σ j (nI t), hm_tree_s τ j (lN t), fl, st, ?_, ?_, hP.tr _ _ _, hT.put j ht⟩
      · rw [f_X_pairUp_3, nI_1, if_pos (nI_le (by omega) (by omega)), (d2_t L (by omega)).2, if_pos (show nI (L % 2) = 1 by rw [show L % 2 = 1 by omega]; rfl), (d2_t L (by omega)).1, show nI L - 1 = nI (2 * j) by rw [c]; exact nI_pred _, hcl (show 2 * j < 4096 by omega), hx_gn (hgn (N := 32) (by omega) (by omega)), hx_n_eq, show L / 2 = j by omega, hcl (show j < 4096 by omega), hx_gn (hgn (N := 32) (by omega) (by omega)), hx_n_eq, e1]
      · rw [f_M_sum_258, if_neg (nI_ge (by omega) (by omega)), nI_1, if_pos (nI_le (by omega) (by omega)), hcl (show 2 * j < 4096 by omega), hx_gn (hgn (N := 32) (by omega) (by omega)), hx_n_eq, hcl (show j < 4096 by omega), hx_gn (hgn (N := 32) (by omega) (by omega)), hx_n_eq, e2, f_M_sum_339, hx_n_eq, hx_n_eq, nI_1, show nI (2 * j) + 2 = nI (2 * j + 2) from nI_add (2 * j) 2, f_M_sum_258, if_pos (nI_le (by omega) (by omega)), show (L + 1) / 2 = j + 1 by omega]
    · obtain ⟨t, ht, e1, e2⟩ := hT (2 * j) (by omega)
      obtain ⟨t', ht', e3, e4⟩ := hT (2 * j + 1) (by omega)
      obtain ⟨s1, b1, b2⟩ := x_plus (cF_of hP.1 hm) (cF_of hP.1 hm) ht ht' w
      obtain ⟨a1, d1, d2⟩ := rA_begin τ
      obtain ⟨a2, d3, d4⟩ := rA_value d2 (mF_of hP.1 hm) ht false
      obtain ⟨a3, d5, d6⟩ := rA_value d4 (mF_of hP.1 hm) ht' false
      rw [show bI false = 0 from rfl] at d3 d5
      obtain ⟨p, fl1, st1, σ2, τ2, q1, q2, q3, q4⟩ := AB_end hP b1 d6 (tB_l2 (tB_t1 (hP.1 _ hm).1 _ _) (tB_t1 (hP.1 _ hm).1 _ _)) (by show 2 < 250; omega) hm hw
      obtain ⟨σ3, τ3, fl2, st2, r1, r2, r3, r4⟩ := ih N N' (j + 1) (hx_tr_s σ2 j (nI p)) (hm_tree_s τ2 j (lN p)) fl1 st1 ((hr_N.P hP q4).tr j _ _) ((hT.N q4).put j q1) (by omega) (by omega) (by omega) (by omega)
      have m1 : hm_tree a1 = hm_tree τ := d2.1.2.2.2.2.2.2.1
      have m2 : hm_tree a2 = hm_tree τ := d4.1.2.2.2.2.2.2.1
      refine ⟨σ3, τ3, fl2, st2, ?_, ?_, r3, r4⟩
      · rw [f_X_pairUp_3, nI_1, if_neg (nI_ge (by omega) (by omega)), (d2_t (2 * j) (by omega)).1, hcl (show 2 * j < 4096 by omega), hx_gn (hgn (N := 32) (by omega) (by omega)), hcl (show 2 * j + 1 < 4096 by omega), hx_gn (hgn (N := 32) (by omega) (by omega)), e1, e3, b2, q2, hx_b2_some, show 2 * j / 2 = j by omega, hcl (show j < 4096 by omega), hx_gn (hgn (N := 32) (by omega) (by omega)), hx_n_eq, hx_n_eq, show nI (2 * j) + 2 = nI (2 * (j + 1)) from nI_add (2 * j) 2]
        exact r1
      · rw [f_M_sum_258, if_neg (nI_ge (by omega) (by omega)), nI_1, if_neg (nI_ge (by omega) (by omega)), d1, hx_b1_some, hcl (show 2 * j < 4096 by omega), hx_gn (hgn (N := 32) (by omega) (by omega)), m1, e2, d3, hx_b1_some, hcl (show 2 * j + 1 < 4096 by omega), hx_gn (hgn (N := 32) (by omega) (by omega)), m2, e4, d5, hx_b1_some, q3, hx_b2_some, hcl (show j < 4096 by omega), hx_gn (hgn (N := 32) (by omega) (by omega)), hx_n_eq, f_M_sum_339, hx_n_eq, hx_n_eq, nI_1, show nI (2 * j) + 2 = nI (2 * (j + 1)) from nI_add (2 * j) 2]
        exact r2
theorem tree_up {E F K n g : Nat → Nat} {u : Nat → Nat → Nat} {S : Int} {sk go : Nat} {m w : Nat} (hm : m < 4) (hw : w ≤ 5) : ∀ (d N N' L : Nat) (σ : hx_S) (τ : hm_S) (fl : Int32) (st : Nat), hr_P σ τ E F K n g u fl st S sk go → hr_T σ τ L (2 ^ (E m + F m + 1)) → 1 ≤ L → L ≤ 32 → L ≤ d + 1 → d < N → d < N' → ∃ p σ1 τ1 fl1 st1, p < 2 ^ (E m + F m + 1) ∧ f_X_sumAsTree_66 N σ m (nI w) (nI L) = some (nI p, σ1) ∧ f_M_sum_246 N' τ (nI m) (nI w) (nI L) = some (lN p, τ1) ∧ hr_P σ1 τ1 E F K n g u fl1 st1 S sk go := by
  have fu : hx_fuel = 5000 := rfl
  have g0 : ¬ ((0 : Int32) < 0 ∨ 32 ≤ (0 : Int32).toNatClampNeg) := by decide
  have c0 : (0 : Int32).toNatClampNeg = 0 := rfl
  intro d
  induction d with
  | zero =>
    intro N N' L σ τ fl st hP hT h1 h2 h3 hN hN'
    obtain ⟨N, rfl⟩ : ∃ z, N = z + 1 := ⟨N - 1, by omega⟩
    obtain ⟨N', rfl⟩ : ∃ z, N' = z + 1 := ⟨N' - 1, by omega⟩
    obtain ⟨t, ht, e1, e2⟩ := hT 0 (by omega)
    refine ⟨t, σ, τ, fl, st, ht, ?_, ?_, hP⟩
    · rw [f_X_sumAsTree_66, if_pos (show nI L ≤ 1 from nI_le (b := 1) (by omega) (by omega)), hx_gn g0, c0, e1]
    · rw [f_M_sum_246, if_pos (show nI L ≤ 1 from nI_le (b := 1) (by omega) (by omega)), hx_gn g0, c0, e2]
  | succ d ih =>
    intro N N' L σ τ fl st hP hT h1 h2 h3 hN hN'
    obtain ⟨N, rfl⟩ : ∃ z, N = z + 1 := ⟨N - 1, by omega⟩
    obtain ⟨N', rfl⟩ : ∃ z, N' = z + 1 := ⟨N' - 1, by omega⟩
    by_cases c : L ≤ 1
    · obtain ⟨t, ht, e1, e2⟩ := hT 0 (by omega)
      refine ⟨t, σ, τ, fl, st, ht, ?_, ?_, hP⟩
      · rw [f_X_sumAsTree_66, if_pos (show nI L ≤ 1 from nI_le (b := 1) (by omega) (by omega)), hx_gn g0, c0, e1]
      · rw [f_M_sum_246, if_pos (show nI L ≤ 1 from nI_le (b := 1) (by omega) (by omega)), hx_gn g0, c0, e2]
    · obtain ⟨σ1, τ1, fl1, st1, a1, a2, a3, a4⟩ := tree_level hm hw h2 (f_M_sum_246 N') 32 hx_fuel hx_fuel 0 σ τ fl st hP hT (by omega) (by omega) (by omega) (by omega)
      obtain ⟨p, σ2, τ2, fl2, st2, b1, b2, b3, b4⟩ := ih N N' ((L + 1) / 2) σ1 τ1 fl1 st1 a3 (fun q hq => a4 q (by omega)) (by omega) (by omega) (by omega) (by omega) (by omega)
      refine ⟨p, σ2, τ2, fl2, st2, b1, ?_, ?_, b4⟩
      · rw [f_X_sumAsTree_66, if_neg (show ¬ nI L ≤ 1 from nI_ge (a := 1) (by omega) (by omega)), f_X_pairUp, show (0 : Int32) = nI (2 * 0) from rfl, a1, hx_b1_some, hx_n_eq, nI_1, (d2_t (L + 1) (by omega)).1]
        exact b2
      · rw [f_M_sum_246, if_neg (show ¬ nI L ≤ 1 from nI_ge (a := 1) (by omega) (by omega))]
        exact a2.trans b3
theorem tree_fill {E F K n g : Nat → Nat} {u : Nat → Nat → Nat} {S : Int} {sk go : Nat} {r m w : Nat} (hr : r < 2) (hm : m < 4) (hw : w ≤ 5) (h0 : 1 ≤ n r) : ∀ (d N N' i : Nat) (σ : hx_S) (τ : hm_S) (fl : Int32) (st : Nat), hr_P σ τ E F K n g u fl st S sk go → hr_T σ τ i (2 ^ (E m + F m + 1)) → i + d = n r → d < N → d < N' → ∃ p σ1 τ1 fl1 st1, p < 2 ^ (E m + F m + 1) ∧ f_X_sumAsTree_12 N σ r m (nI w) (nI i) = some (nI p, σ1) ∧ f_M_sum_205 N' τ (nI r) (nI m) (nI w) (nI (g r)) (nI (n r)) (nI i) = some (lN p, τ1) ∧ hr_P σ1 τ1 E F K n g u fl1 st1 S sk go := by
  have fu : hx_fuel = 5000 := rfl
  intro d
  induction d with
  | zero =>
    intro N N' i σ τ fl st hP hT hi hN hN'
    obtain ⟨N, rfl⟩ : ∃ z, N = z + 1 := ⟨N - 1, by omega⟩
    obtain ⟨N', rfl⟩ : ∃ z, N' = z + 1 := ⟨N' - 1, by omega⟩
    have hW := hP.2.1 r hr
    have hn := hW.1
    obtain ⟨p, σ1, τ1, fl1, st1, b1, b2, b3, b4⟩ := tree_up hm hw 32 hx_fuel hx_fuel (n r) σ τ fl st hP (by rw [← hi]; exact hT) h0 hn (by omega) (by omega) (by omega)
    refine ⟨p, σ1, τ1, fl1, st1, b1, ?_, ?_, b4⟩
    · rw [f_X_sumAsTree_12, hW.2.2.1, if_pos (nI_le (by omega) (by omega)), hx_n_eq]; exact b2
    · rw [f_M_sum_205, if_pos (nI_le (by omega) (by omega))]; exact b3
  | succ d ih =>
    intro N N' i σ τ fl st hP hT hi hN hN'
    obtain ⟨N, rfl⟩ : ∃ z, N = z + 1 := ⟨N - 1, by omega⟩
    obtain ⟨N', rfl⟩ : ∃ z, N' = z + 1 := ⟨N' - 1, by omega⟩
    have hW := hP.2.1 r hr
    have hn := hW.1
    have hg := hW.2.1
    have hp := hW.2.2.2.2.2.2 i (by omega)
    obtain ⟨p, fl1, st1, σ2, τ2, q1, q2, q3, q4⟩ := AB_turned hP hg hm hw hp.1
    obtain ⟨p2, σ3, τ3, fl2, st2, b1, b2, b3, b4⟩ := ih N N' (i + 1) (hx_tr_s σ2 i (nI p)) (hm_tree_s τ2 i (lN p)) fl1 st1 ((hr_N.P hP q4).tr i _ _) ((hT.N q4).grow q1) (by omega) (by omega) (by omega)
    refine ⟨p2, σ3, τ3, fl2, st2, b1, ?_, ?_, b4⟩
    · rw [f_X_sumAsTree_12, hW.2.2.1, if_neg (nI_ge (by omega) (by omega)), hW.2.2.2.2.1, hc4 hg, hx_gn (hg4n hg), hcl (show i < 4096 by omega), hx_gn (hgn (N := 32) (by omega) (by omega)), hp.2.1, q2, hx_b2_some, hx_gn (hgn (N := 32) (by omega) (by omega)), hx_n_eq, hx_n_eq, nI_1]
      exact b2
    · rw [f_M_sum_205, if_neg (nI_ge (by omega) (by omega)), ix32, hcl (show 32 * r + i < 4096 by omega), hx_gn (hgn (N := 64) (by omega) (by omega)), hp.2.2, q3, hx_b2_some, hcl (show i < 4096 by omega), hx_gn (hgn (N := 32) (by omega) (by omega)), hx_n_eq, hx_n_eq, nI_1]
      exact b3
