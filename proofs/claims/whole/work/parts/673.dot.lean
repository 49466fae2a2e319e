theorem x_len {σ : hx_S} {τ : hm_S} {E F n g : Nat → Nat} {u : Nat → Nat → Nat} (h : hr_W σ τ E F n g u) : (if hx_size σ 1 < hx_size σ 0 then hx_size σ 1 else hx_size σ 0) = nI (if n 1 < n 0 then n 1 else n 0) := by
  have a := h 0 (by omega)
  have b := h 1 (by omega)
  have a1 := a.1
  have b1 := b.1
  rw [a.2.2.1, b.2.2.1]
  by_cases c : n 1 < n 0
  · rw [if_pos c, if_pos (nI_lt c (by omega))]
  · rw [if_neg c, if_neg (nI_nlt (by omega) (by omega))]
theorem g01 : ¬ ((0 : Int32) < 0 ∨ 2 ≤ (0 : Int32).toNatClampNeg) := by decide
theorem g11 : ¬ ((1 : Int32) < 0 ∨ 2 ≤ (1 : Int32).toNatClampNeg) := by decide
theorem cn0 : (0 : Int32).toNatClampNeg = 0 := rfl
theorem cn1 : (1 : Int32).toNatClampNeg = 1 := rfl
theorem g01' : ¬ ((0 : Int32) < 0 ∨ 2 ≤ 0) := by decide
theorem g11' : ¬ ((1 : Int32) < 0 ∨ 2 ≤ 1) := by decide
theorem m_shorter {σ : hx_S} {τ : hm_S} {E F n g : Nat → Nat} {u : Nat → Nat → Nat} (h : hr_W σ τ E F n g u) : f_M_shorter τ = some (nI (if n 1 < n 0 then n 1 else n 0)) := by
  have a := h 0 (by omega)
  have b := h 1 (by omega)
  have a1 := a.1
  have b1 := b.1
  rw [f_M_shorter, hx_gn g01, hx_gn g11, hx_gn g01, hx_gn g11, cn0, cn1, a.2.2.2.1, b.2.2.2.1]
  by_cases c : n 1 < n 0
  · rw [if_pos c, if_pos (nI_le (by omega) (by omega))]
  · rw [if_neg c]
    by_cases d : n 1 = n 0
    · rw [if_pos (nI_le (by omega) (by omega)), d]
    · rw [if_neg (nI_ge (by omega) (by omega))]
def tP (E F K g : Nat → Nat) (u : Nat → Nat → Nat) (i : Nat) : hT := t2 (E (g 0)) (F (g 0)) (K (g 0)) (u 0 i) (E (g 1)) (F (g 1)) (K (g 1)) (u 1 i) false
theorem tB_tP {σ : hx_S} {τ : hm_S} {E F K n g : Nat → Nat} {u : Nat → Nat → Nat} (h1 : hr_F σ τ E F K) (h2 : hr_W σ τ E F n g u) (i : Nat) : tB (tP E F K g u i) := tB_t2 (h1 _ (h2 0 (by omega)).2.1).1 (h1 _ (h2 1 (by omega)).2.1).1 _ _ _
theorem x_prodAt {σ σ1 : hx_S} {τ : hm_S} {E F K n g : Nat → Nat} {u : Nat → Nat → Nat} (h1 : hr_F σ τ E F K) (h2 : hr_W σ τ E F n g u) {ts : List hT} (h : cA σ σ1 ts) (hl : ts.length < 250) {i : Nat} (hi : i < n 0) (hi' : i < n 1) : ∃ σ2, f_X_addProductAt σ1 (nI i) = some σ2 ∧ cA σ σ2 (ts ++ [tP E F K g u i]) := by
  have hW := h.W (hmk.rf τ) h2
  have a := hW 0 (by omega)
  have b := hW 1 (by omega)
  have a1 := a.1
  have hp := a.2.2.2.2.2.2 i hi
  have hq := b.2.2.2.2.2.2 i hi'
  obtain ⟨σ2, c1, c2⟩ := cA_prod h hl (cF_of h1 a.2.1) (cF_of h1 b.2.1) hp.1 hq.1
  refine ⟨σ2, ?_, c2⟩
  rw [f_X_addProductAt, a.2.2.2.2.1, hc4 a.2.1, hx_gn (hg4n a.2.1), hcl (show i < 4096 by omega), hx_gn (hgn (N := 32) (by omega) (by omega)), b.2.2.2.2.1, hc4 b.2.1, hx_gn (hg4n b.2.1), hx_gn (hgn (N := 32) (by omega) (by omega)), hp.2.1, hq.2.1, c1, hx_b1_some]
theorem m_prodAt {σ : hx_S} {τ τ1 : hm_S} {E F K n g : Nat → Nat} {u : Nat → Nat → Nat} (h1 : hr_F σ τ E F K) (h2 : hr_W σ τ E F n g u) {ts : List hT} (h : rA τ τ1 ts) {i : Nat} (hi : i < n 0) (hi' : i < n 1) : ∃ τ2, f_M_product τ1 (hm_rF τ1 0) (hm_row τ1 i) (hm_rF τ1 1) (hm_row τ1 (32 + i)) (0 : Int32) = some τ2 ∧ rA τ τ2 (ts ++ [tP E F K g u i]) := by
  have a := h2 0 (by omega)
  have b := h2 1 (by omega)
  have hp := a.2.2.2.2.2.2 i hi
  have hq := b.2.2.2.2.2.2 i hi'
  obtain ⟨τ2, c1, c2⟩ := rA_prod h (mF_of h1 a.2.1) (mF_of h1 b.2.1) hp.1 hq.1 false
  refine ⟨τ2, ?_, c2⟩
  have e0 : hm_row τ i = lN (u 0 i) := by rw [← hp.2.2, Nat.mul_zero, Nat.zero_add]
  have e1 : hm_row τ (32 + i) = lN (u 1 i) := hq.2.2
  rw [h.1.2.2.2.1, h.1.2.2.2.2.2.1, a.2.2.2.2.2.1, b.2.2.2.2.2.1, e0, e1]
  exact c1
theorem dot_once {σ : hx_S} {τ : hm_S} {E F K n g : Nat → Nat} {u : Nat → Nat → Nat} {fl : Int32} {st : Nat} {S : Int} {sk go : Nat} (hP : hr_P σ τ E F K n g u fl st S sk go) {m w l : Nat} (hm : m < 4) (hw : w ≤ 5) (hl0 : l ≤ n 0) (hl1 : l ≤ n 1) : ∀ (d N N' i : Nat) (σ1 : hx_S) (τ1 : hm_S) (ts : List hT), i + d = l → d < N → d < N' → cA σ σ1 ts → rA τ τ1 ts → ts.length = i → (∀ t, t ∈ ts → tB t) → ∃ p fl1 st1 σ2 τ2, p < 2 ^ (E m + F m + 1) ∧ f_X_productsAtOnce_28 N σ1 m (nI w) (nI l) (nI i) = some (nI p, σ2) ∧ f_M_dot_55 N' τ1 (nI m) (nI w) (nI l) (nI i) = some (lN p, τ2) ∧ hr_N σ τ σ2 τ2 fl1 st1 := by
  have hn0 := (hP.2.1 0 (by omega)).1
  intro d
  induction d with
  | zero =>
    intro N N' i σ1 τ1 ts hi hN hN' hc hrr hl hB
    obtain ⟨N, rfl⟩ : ∃ z, N = z + 1 := ⟨N - 1, by omega⟩
    obtain ⟨N', rfl⟩ : ∃ z, N' = z + 1 := ⟨N' - 1, by omega⟩
    obtain ⟨p, fl1, st1, σ2, τ2, q1, q2, q3, q4⟩ := AB_end hP hc hrr hB (by omega) hm hw
    refine ⟨p, fl1, st1, σ2, τ2, q1, ?_, ?_, q4⟩
    · rw [f_X_productsAtOnce_28, if_pos (nI_le (by omega) (by omega)), q2, hx_b2_some]
    · rw [f_M_dot_55, if_pos (nI_le (by omega) (by omega)), q3, hx_b2_some]
  | succ d ih =>
    intro N N' i σ1 τ1 ts hi hN hN' hc hrr hl hB
    obtain ⟨N, rfl⟩ : ∃ z, N = z + 1 := ⟨N - 1, by omega⟩
    obtain ⟨N', rfl⟩ : ∃ z, N' = z + 1 := ⟨N' - 1, by omega⟩
    obtain ⟨s2, b1, b2⟩ := x_prodAt hP.1 hP.2.1 hc (by omega) (show i < n 0 by omega) (show i < n 1 by omega)
    obtain ⟨t2', d1, d2⟩ := m_prodAt hP.1 hP.2.1 hrr (show i < n 0 by omega) (show i < n 1 by omega)
    obtain ⟨p, fl1, st1, σ2, τ2, q1, q2, q3, q4⟩ := ih N N' (i + 1) s2 t2' _ (by omega) (by omega) (by omega) b2 d2 (by rw [List.length_append, hl]; rfl) (tB_app hB (tB_tP hP.1 hP.2.1 i))
    refine ⟨p, fl1, st1, σ2, τ2, q1, ?_, ?_, q4⟩
    · rw [f_X_productsAtOnce_28, if_neg (nI_ge (by omega) (by omega)), b1, hx_b1_some, hx_n_eq, nI_1]
      exact q2
    · rw [f_M_dot_55, if_neg (nI_ge (by omega) (by omega)), hx_gn g01, hcl (show i < 4096 by omega), hx_gn (hgn (N := 64) (by omega) (by omega)), hx_gn g11, show (32 : Int32) + nI i = nI (32 + i) from nI_add 32 i, hcl (show 32 + i < 4096 by omega), hx_gn (hgn (N := 64) (by omega) (by omega)), cn0, cn1, d1, hx_b1_some, hx_n_eq, nI_1]
      exact q3
set_option maxHeartbeats 1000000 in
theorem dot_one {E F K n g : Nat → Nat} {u : Nat → Nat → Nat} {S : Int} {sk go : Nat} {a m w l c : Nat} (ha : a < 4) (hm : m < 4) (hw : w ≤ 5) (hl0 : l ≤ n 0) (hl1 : l ≤ n 1) (hl : l ≤ 32) (hc : c ≤ 32) {σ : hx_S} {τ : hm_S} {fl : Int32} {st : Nat} (hP : hr_P σ τ E F K n g u fl st S sk go) {pc i fr : Nat} (hpc : pc < 2 ^ (E a + F a + 1)) (hi : i < l) (hf : fr ≤ i) (hfc : i < fr + c) : ∃ p fl1 st1 σ2 τ2, p < 2 ^ (E a + F a + 1) ∧ (∀ N tot : Nat, f_X_productsInPieces_31 (N + 1) σ (nI c) a m (nI w) (nI l) (nI tot) (nI pc) (nI (i - fr)) (nI i) = if i + 1 = fr + c ∨ i + 1 = l then f_X_productsInPieces_96 (f_X_productsInPieces_31 N) σ2 (nI c) a m (nI w) (nI l) (nI tot) (nI p) (nI i) else f_X_productsInPieces_31 N σ2 (nI c) a m (nI w) (nI l) (nI tot) (nI p) (nI (i + 1 - fr)) (nI (i + 1))) ∧ (∀ (KM : hm_S → Int32 → Int32 → Int32 → Int32 → Int32 → Int64 → Int32 → Option (Int64 × hm_S)) (N' tot : Nat), f_M_dot_130 KM (N' + 1) τ (nI c) (nI a) (nI m) (nI w) (nI l) (lN tot) (nI fr) (lN pc) (nI i) = f_M_dot_130 KM N' τ2 (nI c) (nI a) (nI m) (nI w) (nI l) (lN tot) (nI fr) (lN p) (nI (i + 1))) ∧ hr_N σ τ σ2 τ2 fl1 st1 := by
  obtain ⟨s1, b1, b2⟩ := cA_begin σ
  obtain ⟨a1, d1, d2⟩ := rA_begin τ
  obtain ⟨s2, b3, b4⟩ := cA_value b2 (by decide) (cF_of hP.1 ha) hpc false
  obtain ⟨a2, d3, d4⟩ := rA_value d2 (mF_of hP.1 ha) hpc false
  rw [show bI false = 0 from rfl] at b3 d3
  obtain ⟨s3, b5, b6⟩ := x_prodAt hP.1 hP.2.1 b4 (by show 1 < 250; omega) (show i < n 0 by omega) (show i < n 1 by omega)
  obtain ⟨a3, d5, d6⟩ := m_prodAt hP.1 hP.2.1 d4 (show i < n 0 by omega) (show i < n 1 by omega)
  obtain ⟨p, fl1, st1, σ2, τ2, q1, q2, q3, q4⟩ := AB_end hP b6 d6 (tB_l2 (tB_t1 (hP.1 _ ha).1 _ _) (tB_tP hP.1 hP.2.1 i)) (by show 2 < 250; omega) ha hw
  refine ⟨p, fl1, st1, σ2, τ2, q1, ?_, ?_, q4⟩
  · intro N tot
    rw [f_X_productsInPieces_31, if_neg (nI_ge (by omega) (by omega)), b1, hx_b1_some, b3, hx_b1_some, b5, hx_b1_some, q2, hx_b2_some, hx_n_eq, nI_1, show nI l - (1 : Int32) = nI (l - 1) from pk_sub (b := 1) (by omega)]
    by_cases c1 : i + 1 = fr + c
    · rw [if_pos (show nI (i - fr + 1) = nI c by rw [show i - fr + 1 = c by omega]), if_pos (Or.inl c1)]
    · rw [if_neg (fun q => c1 (by have := (nI_eq (by omega) (by omega)).mp q; omega))]
      by_cases c2 : i + 1 = l
      · rw [if_pos (show nI i = nI (l - 1) by rw [show l - 1 = i by omega]), if_pos (Or.inr c2)]
      · rw [if_neg (fun q => c2 (by have := (nI_eq (by omega) (by omega)).mp q; omega)), if_neg (by omega), f_X_productsInPieces_116, hx_n_eq, nI_1, show i - fr + 1 = i + 1 - fr by omega]
  · intro KM N' tot
    rw [f_M_dot_130, if_neg (nI_ge (by omega) (by omega)), nI_add, if_neg (nI_ge (by omega) (by omega)), d1, hx_b1_some, d3, hx_b1_some, hx_gn g01, hcl (show i < 4096 by omega), hx_gn (hgn (N := 64) (by omega) (by omega)), hx_gn g11, show (32 : Int32) + nI i = nI (32 + i) from nI_add 32 i, hcl (show 32 + i < 4096 by omega), hx_gn (hgn (N := 64) (by omega) (by omega)), cn0, cn1, d5, hx_b1_some, q3, hx_b2_some, hx_n_eq, nI_1]
theorem dot_close {E F K n g : Nat → Nat} {u : Nat → Nat → Nat} {S : Int} {sk go : Nat} {a m w : Nat} (ha : a < 4) (hm : m < 4) (hw : w ≤ 5) {σ : hx_S} {τ : hm_S} {fl : Int32} {st : Nat} (hP : hr_P σ τ E F K n g u fl st S sk go) {pc tot : Nat} (hpc : pc < 2 ^ (E a + F a + 1)) (htot : tot < 2 ^ (E m + F m + 1)) (l c : Nat) : ∃ p fl1 st1 σ2 τ2, p < 2 ^ (E m + F m + 1) ∧ (∀ (KX : hx_S → Int32 → Nat → Nat → Int32 → Int32 → Int32 → Int32 → Int32 → Int32 → Option (Int32 × hx_S)) (i : Nat), f_X_productsInPieces_96 KX σ (nI c) a m (nI w) (nI l) (nI tot) (nI pc) (nI i) = KX σ2 (nI c) a m (nI w) (nI l) (nI p) (0 : Int32) (0 : Int32) (nI (i + 1))) ∧ (∀ (KM : hm_S → Int32 → Int32 → Int32 → Int32 → Int32 → Int64 → Int32 → Option (Int64 × hm_S)) (fr : Nat), f_M_dot_208 KM τ (nI c) (nI a) (nI m) (nI w) (nI l) (lN tot) (nI fr) (lN pc) = KM τ2 (nI c) (nI a) (nI m) (nI w) (nI l) (lN p) (nI (fr + c))) ∧ hr_N σ τ σ2 τ2 fl1 st1 := by
  obtain ⟨s1, b1, b2⟩ := x_plus (cF_of hP.1 ha) (cF_of hP.1 hm) hpc htot w
  obtain ⟨a1, d1, d2⟩ := rA_begin τ
  obtain ⟨a2, d3, d4⟩ := rA_value d2 (mF_of hP.1 hm) htot false
  obtain ⟨a3, d5, d6⟩ := rA_value d4 (mF_of hP.1 ha) hpc false
  rw [show bI false = 0 from rfl] at d3 d5
  obtain ⟨p, fl1, st1, σ2, τ2, q1, q2, q3, q4⟩ := AB_end hP b1 (rA_swap d6) (tB_l2 (tB_t1 (hP.1 _ ha).1 _ _) (tB_t1 (hP.1 _ hm).1 _ _)) (by show 2 < 250; omega) hm hw
  refine ⟨p, fl1, st1, σ2, τ2, q1, ?_, ?_, q4⟩
  · intro KX i
    rw [f_X_productsInPieces_96, b2, q2, hx_b2_some, f_X_productsInPieces_116, hx_n_eq, nI_1]
  · intro KM fr
    rw [f_M_dot_208, d1, hx_b1_some, d3, hx_b1_some, d5, hx_b1_some, q3, hx_b2_some, hx_n_eq, nI_add]
set_option maxHeartbeats 1000000 in
theorem dot_run {E F K n g : Nat → Nat} {u : Nat → Nat → Nat} {S : Int} {sk go : Nat} {a m w l c : Nat} (ha : a < 4) (hm : m < 4) (hw : w ≤ 5) (hl0 : l ≤ n 0) (hl1 : l ≤ n 1) (hl : l ≤ 32) (hc : c ≤ 32) (hc1 : 1 ≤ c) : ∀ (d N N1 N2 i fr : Nat) (σ : hx_S) (τ : hm_S) (fl : Int32) (st tot pc : Nat), hr_P σ τ E F K n g u fl st S sk go → tot < 2 ^ (E m + F m + 1) → pc < 2 ^ (E a + F a + 1) → i + d + 1 = l → fr ≤ i → i < fr + c → d + 1 < N → d < N1 → d + 1 < N2 → ∃ p fl1 st1 σ2 τ2, p < 2 ^ (E m + F m + 1) ∧ f_X_productsInPieces_31 N σ (nI c) a m (nI w) (nI l) (nI tot) (nI pc) (nI (i - fr)) (nI i) = some (nI p, σ2) ∧ f_M_dot_130 (f_M_dot_116 N1) N2 τ (nI c) (nI a) (nI m) (nI w) (nI l) (lN tot) (nI fr) (lN pc) (nI i) = some (lN p, τ2) ∧ hr_N σ τ σ2 τ2 fl1 st1 := by
  have fu : hx_fuel = 5000 := rfl
  intro d
  induction d with
  | zero =>
    intro N N1 N2 i fr σ τ fl st tot pc hP ht hpc hi hf hfc hN hN1 hN2
    obtain ⟨N, rfl⟩ : ∃ z, N = z + 1 + 1 := ⟨N - 2, by omega⟩
    obtain ⟨N1, rfl⟩ : ∃ z, N1 = z + 1 := ⟨N1 - 1, by omega⟩
    obtain ⟨N2, rfl⟩ : ∃ z, N2 = z + 1 + 1 := ⟨N2 - 2, by omega⟩
    obtain ⟨p, fl1, st1, σ2, τ2, q1, q2, q3, q4⟩ := dot_one ha hm hw hl0 hl1 hl hc hP hpc (show i < l by omega) hf hfc
    obtain ⟨p2, fl2, st2, σ3, τ3, r1, r2, r3, r4⟩ := dot_close ha hm hw (hr_N.P hP q4) q1 ht l c
    refine ⟨p2, fl2, st2, σ3, τ3, r1, ?_, ?_, q4.tr r4⟩
    · rw [q2, if_pos (Or.inr (by omega)), r2, f_X_productsInPieces_31, if_pos (nI_le (by omega) (by omega))]
    · rw [q3, f_M_dot_130, if_pos (nI_le (by omega) (by omega)), r3, f_M_dot_116, if_pos (nI_le (by omega) (by omega))]
  | succ d ih =>
    intro N N1 N2 i fr σ τ fl st tot pc hP ht hpc hi hf hfc hN hN1 hN2
    obtain ⟨N, rfl⟩ : ∃ z, N = z + 1 := ⟨N - 1, by omega⟩
    obtain ⟨N1, rfl⟩ : ∃ z, N1 = z + 1 := ⟨N1 - 1, by omega⟩
    obtain ⟨N2, rfl⟩ : ∃ z, N2 = z + 1 + 1 := ⟨N2 - 2, by omega⟩
    obtain ⟨p, fl1, st1, σ2, τ2, q1, q2, q3, q4⟩ := dot_one ha hm hw hl0 hl1 hl hc hP hpc (show i < l by omega) hf hfc
    by_cases cc : i + 1 = fr + c
    · obtain ⟨p2, fl2, st2, σ3, τ3, r1, r2, r3, r4⟩ := dot_close ha hm hw (hr_N.P hP q4) q1 ht l c
      obtain ⟨p3, fl3, st3, σ4, τ4, s1, s2, s3, s4⟩ := ih N N1 hx_fuel (i + 1) (i + 1) σ3 τ3 fl2 st2 p2 0 (hr_N.P (hr_N.P hP q4) r4) r1 (Nat.two_pow_pos _) (by omega) (by omega) (by omega) (by omega) (by omega) (by omega)
      rw [Nat.sub_self] at s2
      refine ⟨p3, fl3, st3, σ4, τ4, s1, ?_, ?_, q4.tr (r4.tr s4)⟩
      · rw [q2, if_pos (Or.inl cc), r2, show (0 : Int32) = nI 0 from rfl]
        exact s2
      · rw [q3, f_M_dot_130, if_neg (nI_ge (by omega) (by omega)), nI_add, if_pos (nI_le (by omega) (by omega)), r3, f_M_dot_116, if_neg (nI_ge (by omega) (by omega)), show (0 : Int64) = lN 0 from rfl, ← cc]
        exact s3
    · obtain ⟨p3, fl3, st3, σ4, τ4, s1, s2, s3, s4⟩ := ih N (N1 + 1) (N2 + 1) (i + 1) fr σ2 τ2 fl1 st1 tot p (hr_N.P hP q4) ht q1 (by omega) (by omega) (by omega) (by omega) (by omega) (by omega)
      refine ⟨p3, fl3, st3, σ4, τ4, s1, ?_, ?_, q4.tr s4⟩
      · rw [q2, if_neg (by omega)]
        exact s2
      · rw [q3]
        exact s3
theorem dot_pieces {E F K n g : Nat → Nat} {u : Nat → Nat → Nat} {S : Int} {sk go : Nat} {a m w l c : Nat} (ha : a < 4) (hm : m < 4) (hw : w ≤ 5) (hl0 : l ≤ n 0) (hl1 : l ≤ n 1) (hl : l ≤ 32) (hc : c ≤ 32) (hc1 : 1 ≤ c) {σ : hx_S} {τ : hm_S} {fl : Int32} {st : Nat} (hP : hr_P σ τ E F K n g u fl st S sk go) {N N' : Nat} (hN : 33 < N) (hN' : 33 < N') : ∃ p fl1 st1 σ2 τ2, p < 2 ^ (E m + F m + 1) ∧ f_X_productsInPieces_31 N σ (nI c) a m (nI w) (nI l) (nI 0) (nI 0) (nI 0) (nI 0) = some (nI p, σ2) ∧ f_M_dot_116 N' τ (nI c) (nI a) (nI m) (nI w) (nI l) (lN 0) (nI 0) = some (lN p, τ2) ∧ hr_N σ τ σ2 τ2 fl1 st1 := by
  have fu : hx_fuel = 5000 := rfl
  obtain ⟨N', rfl⟩ : ∃ z, N' = z + 1 := ⟨N' - 1, by omega⟩
  by_cases c0 : l = 0
  · obtain ⟨N, rfl⟩ : ∃ z, N = z + 1 := ⟨N - 1, by omega⟩
    refine ⟨0, fl, st, σ, τ, Nat.two_pow_pos _, ?_, ?_, ⟨rfl, rfl, rfl⟩, hmk.rf τ, Prod.ext hP.2.2.1 hP.2.2.2.2.1, hP.2.2.2.1, hP.2.2.2.2.2.1, hP.2.2.2.2.2.2.1⟩
    · rw [f_X_productsInPieces_31, if_pos (nI_le (by omega) (by omega))]
    · rw [f_M_dot_116, if_pos (nI_le (by omega) (by omega))]
  · obtain ⟨p, fl1, st1, σ2, τ2, q1, q2, q3, q4⟩ := dot_run ha hm hw hl0 hl1 hl hc hc1 (l - 1) N N' hx_fuel 0 0 σ τ fl st 0 0 hP (Nat.two_pow_pos _) (Nat.two_pow_pos _) (by omega) (by omega) (by omega) (by omega) (by omega) (by omega)
    refine ⟨p, fl1, st1, σ2, τ2, q1, ?_, ?_, q4⟩
    · exact q2
    · rw [f_M_dot_116, if_neg (nI_ge (by omega) (by omega))]
      exact q3
set_option maxHeartbeats 1000000 in
theorem sim_dot {σ : hx_S} {τ : hm_S} (hR : hr_R σ τ) (x1 x2 x3 x4 : Int32) : ∃ r σ1 τ1, f_X_dot σ x1 x2 x3 x4 = some (r, σ1) ∧ f_M_dot τ x1 x2 x3 x4 = some (r, τ1) ∧ hr_R σ1 τ1 := by
  have fu : hx_fuel = 5000 := rfl
  have hR0 := hR
  obtain ⟨E, F, K, n, g, u, fl, st, S, sk, go, h1, h2, h3⟩ := hR
  have hP : hr_P σ τ E F K n g u fl st S sk go := ⟨h1, h2, h3⟩
  obtain ⟨z, z1, z2, rfl, hz⟩ := a_in x1 0 32 (by omega) (by omega) (by omega) (by omega)
  rw [show lI 0 = 0 from rfl, show lI 32 = 32 from rfl] at hz
  have e1 : (iI z < (0 : Int32)) ↔ z < 0 := iI_lt (b := 0) z1 z2 (by omega) (by omega)
  have e2 : ((32 : Int32) < iI z) ↔ 32 < z := iI_lt (a := 32) (by omega) (by omega) z1 z2
  by_cases H : (0 ≤ z ∧ z ≤ 32) ∧ f_X_isFormat x2 = some 1 ∧ f_X_isFormat x3 = some 1 ∧ f_X_isWay x4 = some 1
  · obtain ⟨⟨c1, c2⟩, p1, p2, p3⟩ := H
    have hi : f_M_isIn (iI z).toInt64 0 32 = some 1 := by
      rcases hz with ⟨_, _, b⟩ | ⟨b, _⟩
      · exact b
      · exact absurd b (by omega)
    obtain ⟨a, ha, rfl, a1⟩ := e_form p1
    obtain ⟨m, hm, rfl, m1⟩ := e_form p2
    obtain ⟨w, hw, rfl, w1⟩ := e_way p3
    have hn0 := (h2 0 (by omega)).1
    have hn1 := (h2 1 (by omega)).1
    have hl0 : (if n 1 < n 0 then n 1 else n 0) ≤ n 0 := by split <;> omega
    have hl1 : (if n 1 < n 0 then n 1 else n 0) ≤ n 1 := by split <;> omega
    have hlen := x_len h2
    have hsh := m_shorter h2
    revert hlen hsh hl0 hl1
    generalize (if n 1 < n 0 then n 1 else n 0) = l
    intro hl0 hl1 hlen hsh
    have hx : f_X_dot σ (iI z) (nI a) (nI m) (nI w) = if iI z = 0 then hx_b2 (f_X_productsAtOnce σ m (nI w)) (fun r21 q20 => hx_b1 (f_X_bits r21) (fun r22 => some (r22, q20))) else hx_b2 (f_X_productsInPieces σ (iI z) a m (nI w)) (fun r17 q16 => hx_b1 (f_X_bits r17) (fun r18 => some (r18, q16))) := by
      rw [f_X_dot, if_neg (fun q => absurd (e1.mp q) (by omega)), if_neg (fun q => absurd (e2.mp q) (by omega)), p1, hx_b1_some, if_neg one_ne, p2, hx_b1_some, if_neg one_ne, p3, hx_b1_some, if_neg one_ne, hc4 hm, hc4 ha, hx_gn (hg4n hm), hx_gn (hg4n ha), hx_gn (hg4n hm)]
    have hM : f_M_dot τ (iI z) (nI a) (nI m) (nI w) = if iI z = 0 then hx_b1 (f_M_begin τ) (fun q58 => (f_M_dot_55 hx_fuel q58 (nI m) (nI w) (nI l) (0 : Int32))) else f_M_dot_116 hx_fuel τ (iI z) (nI a) (nI m) (nI w) (nI l) (0 : Int64) (0 : Int32) := by
      rw [f_M_dot, hi, hx_b1_some, if_neg one_ne, a1, hx_b1_some, if_neg one_ne, m1, hx_b1_some, if_neg one_ne, w1, hx_b1_some, if_neg one_ne, hsh, hx_b1_some]
    rw [hx, hM]
    by_cases cz : z = 0
    · subst cz
      obtain ⟨s1, b1, b2⟩ := cA_begin σ
      obtain ⟨a1', d1, d2⟩ := rA_begin τ
      obtain ⟨p, fl1, st1, σ2, τ2, q1, q2, q3, q4⟩ := dot_once hP hm hw hl0 hl1 l hx_fuel hx_fuel 0 s1 a1' [] (by omega) (by omega) (by omega) b2 d2 rfl (fun t ht => by cases ht)
      rw [if_pos (show iI 0 = 0 from rfl), if_pos (show iI 0 = 0 from rfl), f_X_productsAtOnce, hlen, hx_n_eq, b1, hx_b1_some, d1, hx_b1_some, show (0 : Int32) = nI 0 from rfl, q2, q3, hx_b2_some, x_bits (pw_k h1 hm q1), hx_b1_some]
      exact ⟨_, _, _, rfl, rfl, (hr_N.P hP q4).R⟩
    · obtain ⟨p, fl1, st1, σ2, τ2, q1, q2, q3, q4⟩ := dot_pieces (c := z.toNat) ha hm hw hl0 hl1 (by omega) (by omega) (by omega) hP (show 33 < hx_fuel by omega) (show 33 < hx_fuel by omega)
      have hnz : ¬ iI z = 0 := fun q => cz ((iI_eq (b := 0) z1 z2 (by omega) (by omega)).mp q)
      rw [if_neg hnz, if_neg hnz, f_X_productsInPieces, hlen, hx_n_eq, iI_nn c1, show (0 : Int32) = nI 0 from rfl, show (0 : Int64) = lN 0 from rfl, q2, q3, hx_b2_some, x_bits (pw_k h1 hm q1), hx_b1_some]
      exact ⟨_, _, _, rfl, rfl, (hr_N.P hP q4).R⟩
  · refine ⟨-2, σ, τ, ?_, ?_, hR0⟩
    · rw [f_X_dot]
      by_cases c1 : z < 0
      · rw [if_pos (e1.mpr c1)]
      · rw [if_neg (fun q => c1 (e1.mp q))]
        by_cases c2 : 32 < z
        · rw [if_pos (e2.mpr c2)]
        · rw [if_neg (fun q => c2 (e2.mp q))]
          exact gate (v_form _).1 fun q2 => gate (v_form _).1 fun q3 => gate (v_way _).1 fun q4 => absurd ⟨⟨by omega, by omega⟩, q2, q3, q4⟩ H
    · rw [f_M_dot]
      refine gate ?_ fun q1 => gate (vm_form _) fun q2 => gate (vm_form _) fun q3 => gate (vm_way _) fun q4 => absurd ⟨?_, ?_, ?_, ?_⟩ H
      · rcases hz with ⟨_, _, b⟩ | ⟨_, b⟩
        · exact Or.inr b
        · exact Or.inl b
      · rcases hz with ⟨a, b, _⟩ | ⟨_, b⟩
        · exact ⟨a, b⟩
        · exact absurd (b.symm.trans q1) some01
      · rw [← (v_form x2).2]; exact q2
      · rw [← (v_form x3).2]; exact q3
      · rw [← (v_way x4).2]; exact q4
