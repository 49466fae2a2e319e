theorem cA.k {σ σ1 : hx_S} {ts : List hT} (h : cA σ σ1 ts) : σ1.1 = σ.1 ∧ σ1.2.1 = σ.2.1 ∧ σ1.2.2.2 = σ.2.2.2 := by
  obtain ⟨X, rfl, _⟩ := h
  exact ⟨rfl, rfl, rfl⟩
theorem cA.W {σ σ1 : hx_S} {τ τ1 : hm_S} {ts : List hT} (h : cA σ σ1 ts) (k : hmk τ1 τ) {E F n g : Nat → Nat} {u : Nat → Nat → Nat} (hW : hr_W σ τ E F n g u) : hr_W σ1 τ1 E F n g u := hr_W_of hW h.k.2.1 k.2.2.2.2.1 k.2.2.2.1 k.2.2.2.2.2.1
theorem tB_app {ts : List hT} {t : hT} (h : ∀ s, s ∈ ts → tB s) (k : tB t) : ∀ s, s ∈ ts ++ [t] → tB s := fun s hs => by
  rcases List.mem_append.mp hs with q | q
  · exact h s q
  · rw [List.mem_singleton.mp q]; exact k
theorem cl32 {i : Nat} (h : i < 4294967296) (h2 : i < 2147483648) : (nI i).toNatClampNeg = i := nI_clamp h2
theorem hcl {i : Nat} (h : i < 4096) : (nI i).toNatClampNeg = i := nI_clamp (by omega)
theorem sum_once {σ : hx_S} {τ : hm_S} {E F K n g : Nat → Nat} {u : Nat → Nat → Nat} {fl : Int32} {st : Nat} {S : Int} {sk go : Nat} (hP : hr_P σ τ E F K n g u fl st S sk go) {r m w : Nat} (hr : r < 2) (hm : m < 4) (hw : w ≤ 5) : ∀ (d N N' i : Nat) (σ1 : hx_S) (τ1 : hm_S) (ts : List hT), i + d = n r → d < N → d < N' → cA σ σ1 ts → rA τ τ1 ts → ts.length = i → (∀ t, t ∈ ts → tB t) → ∃ p fl1 st1 σ2 τ2, p < 2 ^ (E m + F m + 1) ∧ f_X_sumAtOnce_10 N σ1 r m (nI w) (nI i) = some (nI p, σ2) ∧ f_M_sum_69 N' τ1 (nI r) (nI m) (nI w) (nI (g r)) (nI (n r)) (nI i) = some (lN p, τ2) ∧ hr_N σ τ σ2 τ2 fl1 st1 := by
  intro d
  induction d with
  | zero =>
    intro N N' i σ1 τ1 ts hi hN hN' hc hrr hl hB
    obtain ⟨N, rfl⟩ : ∃ z, N = z + 1 := ⟨N - 1, by omega⟩
    obtain ⟨N', rfl⟩ : ∃ z, N' = z + 1 := ⟨N' - 1, by omega⟩
    have hW := (hc.W hrr.1 hP.2.1) r hr
    have hn := hW.1
    obtain ⟨p, fl1, st1, σ2, τ2, q1, q2, q3, q4⟩ := AB_end hP hc hrr hB (by omega) hm hw
    refine ⟨p, fl1, st1, σ2, τ2, q1, ?_, ?_, q4⟩
    · rw [f_X_sumAtOnce_10, hW.2.2.1, if_pos (nI_le (by omega) (by omega)), q2, hx_b2_some]
    · rw [f_M_sum_69, if_pos (nI_le (by omega) (by omega)), q3, hx_b2_some]
  | succ d ih =>
    intro N N' i σ1 τ1 ts hi hN hN' hc hrr hl hB
    obtain ⟨N, rfl⟩ : ∃ z, N = z + 1 := ⟨N - 1, by omega⟩
    obtain ⟨N', rfl⟩ : ∃ z, N' = z + 1 := ⟨N' - 1, by omega⟩
    have hW := (hc.W hrr.1 hP.2.1) r hr
    have hn := hW.1
    have hg := hW.2.1
    have hp := hW.2.2.2.2.2.2 i (by omega)
    obtain ⟨s2, b1, b2⟩ := cA_value hc (by omega) (cF_of hP.1 hg) hp.1 false
    obtain ⟨t2', d1, d2⟩ := rA_value hrr (mF_of hP.1 hg) hp.1 false
    obtain ⟨p, fl1, st1, σ2, τ2, q1, q2, q3, q4⟩ := ih N N' (i + 1) s2 t2' _ (by omega) (by omega) (by omega) b2 d2 (by rw [List.length_append, hl]; rfl) (tB_app hB (tB_t1 (hP.1 _ hg).1 _ _))
    rw [show bI false = 0 from rfl] at b1 d1
    refine ⟨p, fl1, st1, σ2, τ2, q1, ?_, ?_, q4⟩
    · rw [f_X_sumAtOnce_10, hW.2.2.1, if_neg (nI_ge (by omega) (by omega)), hW.2.2.2.2.1, hc4 hg, hx_gn (hg4n hg), hcl (show i < 4096 by omega), hx_gn (hgn (N := 32) (by omega) (by omega)), hp.2.1, b1, hx_b1_some, hx_n_eq, nI_1]
      exact q2
    · rw [f_M_sum_69, if_neg (nI_ge (by omega) (by omega)), ix32, hcl (show 32 * r + i < 4096 by omega), hx_gn (hgn (N := 64) (by omega) (by omega)), hp.2.2, d1, hx_b1_some, hx_n_eq, nI_1]
      exact q3
theorem sum_left {E F K n g : Nat → Nat} {u : Nat → Nat → Nat} {S : Int} {sk go : Nat} {r m w : Nat} (hr : r < 2) (hm : m < 4) (hw : w ≤ 5) : ∀ (d N N' i : Nat) (σ : hx_S) (τ : hm_S) (fl : Int32) (st t : Nat), hr_P σ τ E F K n g u fl st S sk go → i + d = n r → d < N → d < N' → t < 2 ^ (E m + F m + 1) → ∃ p fl1 st1 σ2 τ2, p < 2 ^ (E m + F m + 1) ∧ f_X_sumFromLeft_43 N σ r m (nI w) (g r) (nI t) (nI i) = some (nI p, σ2) ∧ f_M_sum_144 N' τ (nI r) (nI m) (nI w) (nI (g r)) (nI (n r)) (lN t) (nI i) = some (lN p, τ2) ∧ hr_N σ τ σ2 τ2 fl1 st1 := by
  intro d
  induction d with
  | zero =>
    intro N N' i σ τ fl st t hP hi hN hN' ht
    obtain ⟨N, rfl⟩ : ∃ z, N = z + 1 := ⟨N - 1, by omega⟩
    obtain ⟨N', rfl⟩ : ∃ z, N' = z + 1 := ⟨N' - 1, by omega⟩
    have hW := hP.2.1 r hr
    have hn := hW.1
    refine ⟨t, fl, st, σ, τ, ht, ?_, ?_, ⟨rfl, rfl, rfl⟩, hmk.rf τ, Prod.ext hP.2.2.1 hP.2.2.2.2.1, hP.2.2.2.1, hP.2.2.2.2.2.1, hP.2.2.2.2.2.2.1⟩
    · rw [f_X_sumFromLeft_43, hW.2.2.1, if_pos (nI_le (by omega) (by omega))]
    · rw [f_M_sum_144, if_pos (nI_le (by omega) (by omega))]
  | succ d ih =>
    intro N N' i σ τ fl st t hP hi hN hN' ht
    obtain ⟨N, rfl⟩ : ∃ z, N = z + 1 := ⟨N - 1, by omega⟩
    obtain ⟨N', rfl⟩ : ∃ z, N' = z + 1 := ⟨N' - 1, by omega⟩
    have hW := hP.2.1 r hr
    have hn := hW.1
    have hg := hW.2.1
    have hp := hW.2.2.2.2.2.2 i (by omega)
    obtain ⟨s1, b1, b2⟩ := x_plus (cF_of hP.1 hg) (cF_of hP.1 hm) hp.1 ht w
    obtain ⟨a1, d1, d2⟩ := rA_begin τ
    obtain ⟨a2, d3, d4⟩ := rA_value d2 (mF_of hP.1 hm) ht false
    obtain ⟨a3, d5, d6⟩ := rA_value d4 (mF_of hP.1 hg) hp.1 false
    rw [show bI false = 0 from rfl] at d3 d5
    obtain ⟨p, fl1, st1, σ2, τ2, q1, q2, q3, q4⟩ := AB_end hP b1 (rA_swap d6) (tB_l2 (tB_t1 (hP.1 _ hg).1 _ _) (tB_t1 (hP.1 _ hm).1 _ _)) (by show 2 < 250; omega) hm hw
    obtain ⟨p2, fl2, st2, σ3, τ3, r1, r2, r3, r4⟩ := ih N N' (i + 1) σ2 τ2 fl1 st1 p (hr_N.P hP q4) (by omega) (by omega) (by omega) q1
    have hrow : hm_row a2 = hm_row τ := d4.1.2.2.2.2.2.1
    refine ⟨p2, fl2, st2, σ3, τ3, r1, ?_, ?_, q4.tr r4⟩
    · rw [f_X_sumFromLeft_43, hW.2.2.1, if_neg (nI_ge (by omega) (by omega)), hcl (show i < 4096 by omega), hx_gn (hgn (N := 32) (by omega) (by omega)), hp.2.1, b2, q2, hx_b2_some, hx_n_eq, nI_1]
      exact r2
    · rw [f_M_sum_144, if_neg (nI_ge (by omega) (by omega)), d1, hx_b1_some, d3, hx_b1_some, ix32, hcl (show 32 * r + i < 4096 by omega), hx_gn (hgn (N := 64) (by omega) (by omega)), hrow, hp.2.2, d5, hx_b1_some, q3, hx_b2_some, hx_n_eq, nI_1]
      exact r3
