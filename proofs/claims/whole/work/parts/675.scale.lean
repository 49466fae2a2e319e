/-! The block's exponent -/
def q_t (e f v : Nat) : Int := q_pc e f v + ((q_mc e f v).log2 : Int)
theorem c_le {a b : Nat} (ha : a < 9223372036854775808) (hb : b < 9223372036854775808) : lg_cmp (lN a) (lN b) ≤ 0 ↔ a ≤ b := by
  have h := lgc_gt (a := (a : Int)) (b := (b : Int)) (by omega) (by omega) (by omega) (by omega)
  rw [← lN_i2, ← lN_i2] at h
  rw [← Int32.not_lt, h]
  omega
theorem q_mcb {e f kd : Nat} (h : vf e f kd) (u : Nat) : q_mc e f u < 16777216 := by
  have h1 := pw_f h.2.2.2.1
  have h2 : u % 2 ^ f < 2 ^ f := Nat.mod_lt _ (Nat.two_pow_pos f)
  unfold q_mc
  split <;> omega
theorem q_pcb {e f kd : Nat} (h : vf e f kd) {u : Nat} : -149 ≤ q_pc e f u ∧ q_pc e f u ≤ 400 := by
  have h1 := q_Lb e (by have := h.2.1; omega) h.1
  have h2 := h.2.2.2.1
  have h3 : u % 2 ^ (e + f) / 2 ^ f < 2 ^ e := by
    rw [Nat.div_lt_iff_lt_mul (Nat.two_pow_pos f), ← Nat.pow_add]
    exact Nat.mod_lt _ (Nat.two_pow_pos _)
  have h4 : 2 ^ e ≤ 2 ^ 8 := Nat.pow_le_pow_right (by decide) h.2.1
  unfold q_pc
  split <;> omega
theorem x_topOf {e f kd v : Nat} (h : vf e f kd) (hv : v < 4294967296) (h0 : 0 < q_mc e f v) : f_F_topOf (FM e f kd) (nI v) = some (iI (q_t e f v)) := by
  have hm := q_mcb h v
  have hl : (q_mc e f v).log2 < 24 := (Nat.log2_lt (by omega)).mpr (by omega)
  rw [f_F_topOf, x_powerOf h hv, hx_b1_some, x_wholeOf h hv, hx_b1_some, z_long (by omega) h0, hx_b1_some, show (63 : Int32) = iI 63 from rfl, iI_add, nI_i, iI_sub, q_t]
  rw [show q_pc e f v + 63 - ((63 - (q_mc e f v).log2 : Nat) : Int) = q_pc e f v + ((q_mc e f v).log2 : Int) by omega]
theorem m_pb16 (τ : hm_S) : ∀ (N m : Nat) (p : Int), 0 < m → m < 16777216 → m.log2 < N → f_M_powerBelow_16 N τ (lN m) (iI p) = some (iI (p + (m.log2 : Int))) := by
  intro N
  induction N with
  | zero => intro m p _ _ h; exact absurd h (Nat.not_lt_zero _)
  | succ N ih =>
    intro m p h0 h1 h2
    have hc : lg_cmp (lN m) (1 : Int64) ≤ 0 ↔ m ≤ 1 := c_le (b := 1) (by omega) (by omega)
    rw [f_M_powerBelow_16]
    by_cases c : m ≤ 1
    · rw [if_pos (hc.mpr c), show m = 1 by omega]
      rw [show Nat.log2 1 = 0 from by decide]
      rw [show p + ((0 : Nat) : Int) = p by omega]
    · have hd := log2_div (x := m) (k := 1) (by omega)
      rw [if_neg (fun q => c (hc.mp q)), show (1 : Int32) = nI 1 from rfl, l_shr (show m < 2 ^ 62 by omega) (by omega), hx_n_eq, hx_n_eq, show iI p + nI 1 = iI (p + 1) from iI_add p 1]
      rw [ih (m / 2 ^ 1) (p + 1) (by omega) (by omega) (by omega)]
      have e3 : p + 1 + ((Nat.log2 (m / 2 ^ 1) : Nat) : Int) = p + ((Nat.log2 m : Nat) : Int) := by omega
      rw [e3]
theorem q_mc_pos {e f kd u : Nat} (h : q_sort e f kd u = 1 ∨ q_sort e f kd u = 2) : 0 < q_mc e f u := by
  have h1 := Nat.two_pow_pos f
  rcases h with h | h
  · have hz : u % 2 ^ (e + f) / 2 ^ f = 0 ∧ u % 2 ^ (e + f) ≠ 0 := by
      unfold q_sort at h
      split at h
      · omega
      · rename_i h3
        split at h
        · split at h
          · rename_i h4; exact ⟨h4, h3⟩
          · omega
        · split at h <;> omega
    unfold q_mc
    rw [if_pos hz.1, ← mod_mod (e := e) (f := f) (u := u)]
    have := (Nat.div_eq_zero_iff_lt h1).mp hz.1
    rw [Nat.mod_eq_of_lt this]
    omega
  · have := sort2_pos h
    unfold q_mc
    rw [if_neg (by omega)]
    omega
theorem m_powerBelow {τ : hm_S} {k e f kd u : Nat} (hF : mF τ k e f kd) (hu : u < 4294967296) (hs : q_sort e f kd u = 1 ∨ q_sort e f kd u = 2) : f_M_powerBelow τ (nI k) (lN u) = some (iI (q_t e f u)) := by
  have h0 := q_mc_pos hs
  have hb := q_mcb hF.2.1 u
  have fu : hx_fuel = 5000 := rfl
  have hl : (q_mc e f u).log2 < 24 := (Nat.log2_lt (by omega)).mpr (by omega)
  rw [f_M_powerBelow, m_wholeOf hF hu, hx_b1_some, m_powerOf hF hu, hx_b1_some, ← q_mc_m (e := e) (f := f) (kd := kd) (u := u) (by omega), m_pb16 τ _ _ _ h0 hb (by omega), ← q_pc_p hF.2.1 hs, q_t]
theorem q_t_mod (e f u : Nat) : q_t e f (u % 2 ^ (e + f)) = q_t e f u := by
  unfold q_t q_pc q_mc
  rw [Nat.mod_mod, mod_mod]
theorem q_t_mono {e f v w : Nat} (hv : 0 < q_mc e f v) (hw : 0 < q_mc e f w) (hv2 : v < 2 ^ (e + f)) (hw2 : w < 2 ^ (e + f)) (h : v ≤ w) : q_t e f v ≤ q_t e f w := by
  have hf := Nat.two_pow_pos f
  have hd : v / 2 ^ f ≤ w / 2 ^ f := Nat.div_le_div_right h
  have nl : ∀ x, x % 2 ^ f < 2 ^ f := fun x => Nat.mod_lt _ hf
  have top : ∀ x, x < 2 ^ (e + f) → 0 < x / 2 ^ f → (q_mc e f x).log2 = f := by
    intro x hx h0
    have := nl x
    unfold q_mc
    rw [Nat.mod_eq_of_lt hx, if_neg (by omega)]
    exact log2_u (by omega) (by rw [Nat.pow_succ]; omega)
  have low : ∀ x, x < 2 ^ (e + f) → x / 2 ^ f = 0 → q_mc e f x = x := by
    intro x hx h0
    unfold q_mc
    rw [Nat.mod_eq_of_lt hx, if_pos h0, Nat.mod_eq_of_lt ((Nat.div_eq_zero_iff_lt hf).mp h0)]
  by_cases cv : v / 2 ^ f = 0
  · have ev := low v hv2 cv
    have lv : v.log2 < f := (Nat.log2_lt (by omega)).mpr ((Nat.div_eq_zero_iff_lt hf).mp cv)
    by_cases cw : w / 2 ^ f = 0
    · have ew := low w hw2 cw
      have lw : v.log2 ≤ w.log2 := by
        rw [Nat.le_log2 (by omega)]
        exact Nat.le_trans (Nat.log2_self_le (by omega)) h
      unfold q_t
      rw [ev, ew]
      unfold q_pc
      rw [Nat.mod_eq_of_lt hv2, Nat.mod_eq_of_lt hw2, cv, cw]
      omega
    · have pw' : 0 < w / 2 ^ f := Nat.pos_of_ne_zero cw
      have tw := top w hw2 pw'
      unfold q_t
      rw [ev, tw]
      unfold q_pc
      rw [Nat.mod_eq_of_lt hv2, Nat.mod_eq_of_lt hw2, cv, if_pos (by omega), if_neg (Nat.not_lt.mpr pw')]
      clear tw cw hd
      generalize w / 2 ^ f = B at *
      omega
  · have pv : 0 < v / 2 ^ f := Nat.pos_of_ne_zero cv
    have pw' : 0 < w / 2 ^ f := Nat.lt_of_lt_of_le pv hd
    have tv' := top v hv2 pv
    have tw := top w hw2 pw'
    unfold q_t
    rw [tv', tw]
    unfold q_pc
    rw [Nat.mod_eq_of_lt hv2, Nat.mod_eq_of_lt hw2, if_neg (Nat.not_lt.mpr pv), if_neg (Nat.not_lt.mpr pw')]
    clear tv' tw cv
    generalize w / 2 ^ f = B at *
    generalize v / 2 ^ f = A at *
    omega
def q_tb (e f kd : Nat) : Bool := decide (0 ≤ q_t e f (q_lim e f kd - 1)) && decide (q_t e f (q_lim e f kd - 1) ≤ 128)
theorem q_tab5 : ∀ e, e < 9 → ∀ f, f < 24 → ∀ kd, kd < 3 → 2 ≤ e → 1 ≤ f → q_tb e f kd = true := by decide +kernel
theorem q_limt {e f kd : Nat} (h : vf e f kd) : 0 ≤ q_t e f (q_lim e f kd - 1) ∧ q_t e f (q_lim e f kd - 1) ≤ 128 := by
  have q := q_tab5 e (by have := h.2.1; omega) f (by have := h.2.2.2.1; omega) kd (by have := h.2.2.2.2; omega) h.1 h.2.2.1
  unfold q_tb at q
  rw [Bool.and_eq_true] at q
  exact ⟨of_decide_eq_true q.1, of_decide_eq_true q.2⟩
theorem q_sort_lim {e f kd : Nat} (h : vf e f kd) : q_sort e f kd (q_lim e f kd - 1) = 2 := by
  obtain ⟨q1, q2, q3, q4, q5⟩ := q_limlt h
  have hf := Nat.two_pow_pos f
  unfold q_sort
  rw [Nat.mod_eq_of_lt (show q_lim e f kd - 1 < 2 ^ (e + f) by omega), if_neg (by omega), if_pos (by omega), if_neg]
  intro q
  have := (Nat.div_eq_zero_iff_lt hf).mp q
  omega
theorem q_sort_fin {e f kd v : Nat} (hv : v < q_lim e f kd) (hw : v < 2 ^ (e + f)) (h0 : v ≠ 0) : q_sort e f kd v = 1 ∨ q_sort e f kd v = 2 := by
  unfold q_sort
  rw [Nat.mod_eq_of_lt hw, if_neg h0, if_pos hv]
  split
  · exact Or.inl rfl
  · exact Or.inr rfl
theorem q_sort_mod (e f kd u : Nat) : q_sort e f kd (u % 2 ^ (e + f)) = q_sort e f kd u := by
  unfold q_sort
  rw [Nat.mod_mod]
theorem q_sort_le2 {e f kd u : Nat} (h : q_sort e f kd u ≤ 2) (hv : vf e f kd) : u % 2 ^ (e + f) < q_lim e f kd ∧ (q_sort e f kd u = 0 ↔ u % 2 ^ (e + f) = 0) := by
  have q2 := (q_limlt hv).2.1
  unfold q_sort at *
  by_cases c : u % 2 ^ (e + f) = 0
  · rw [if_pos c]; exact ⟨by omega, by omega⟩
  · rw [if_neg c] at h ⊢
    by_cases d : u % 2 ^ (e + f) < q_lim e f kd
    · rw [if_pos d]
      refine ⟨d, ?_⟩
      split <;> omega
    · rw [if_neg d] at h
      split at h <;> omega
def scV (e f kd e2 f2 kd2 G : Nat) : Int := if G = 0 then 0 else q_t e f G - q_t e2 f2 (q_lim e2 f2 kd2 - 1)
set_option maxHeartbeats 1000000 in
theorem scale_loop {σ : hx_S} {τ : hm_S} {E F K n g : Nat → Nat} {u : Nat → Nat → Nat} (h1 : hr_F σ τ E F K) (h2 : hr_W σ τ E F n g u) {k : Nat} (hk : k < 4) : ∀ (d N N' i G : Nat), i + d = n 0 → d < N → d < N' → G < q_lim (E (g 0)) (F (g 0)) (K (g 0)) → (∀ j, j < i → q_sort (E (g 0)) (F (g 0)) (K (g 0)) (u 0 j) ≤ 2 → u 0 j % 2 ^ (E (g 0) + F (g 0)) ≤ G) → ∃ G', G' < q_lim (E (g 0)) (F (g 0)) (K (g 0)) ∧ (∀ j, j < n 0 → q_sort (E (g 0)) (F (g 0)) (K (g 0)) (u 0 j) ≤ 2 → u 0 j % 2 ^ (E (g 0) + F (g 0)) ≤ G') ∧ f_X_blockScale_18 N σ k (g 0) (nI G) (nI i) = some (iI (scV (E (g 0)) (F (g 0)) (K (g 0)) (E k) (F k) (K k) G')) ∧ f_M_scaleOf_7 N' τ (nI k) (bI (decide (G ≠ 0))) (iI (if G = 0 then 0 else q_t (E (g 0)) (F (g 0)) G)) (nI i) = some (iI (scV (E (g 0)) (F (g 0)) (K (g 0)) (E k) (F k) (K k) G')) := by
  have hW := h2 0 (by omega)
  have hg := hW.2.1
  have hn := hW.1
  have hv := (h1 _ hg).1
  have hv2 := (h1 _ hk).1
  have hM := mF_of h1 hg
  have hM2 := mF_of h1 hk
  have hw := q_w hv
  have hw2 := q_w hv2
  obtain ⟨l1, l2, l3, l4, l5⟩ := q_limlt hv
  obtain ⟨r1, r2, r3, r4, r5⟩ := q_limlt hv2
  intro d
  induction d with
  | zero =>
    intro N N' i G hi hN hN' hG hall
    obtain ⟨N, rfl⟩ : ∃ z, N = z + 1 := ⟨N - 1, by omega⟩
    obtain ⟨N', rfl⟩ : ∃ z, N' = z + 1 := ⟨N' - 1, by omega⟩
    refine ⟨G, hG, fun j hj => hall j (by omega), ?_, ?_⟩
    · rw [f_X_blockScale_18, hW.2.2.1, if_pos (nI_le (by omega) (by omega)), scV]
      by_cases c : G = 0
      · rw [if_pos c, if_pos (show nI G = 0 by rw [c]; rfl)]; rfl
      · have hs := q_sort_fin hG (by omega) c
        rw [if_neg c, if_neg (show ¬ nI G = 0 by rw [n0 (by omega)]; exact c), (h1 _ hg).2.1, (h1 _ hk).2.1, x_topOf hv (by omega) (q_mc_pos hs), hx_b1_some, FM_l, lim_m1 hv2, x_topOf hv2 (by omega) (q_mc_pos (Or.inr (q_sort_lim hv2))), hx_b1_some, iI_sub]
    · rw [f_M_scaleOf_7, hx_gn g01, cn0, hW.2.2.2.1, if_pos (nI_le (by omega) (by omega)), scV]
      by_cases c : G = 0
      · subst c
        rw [bI_f (by omega), if_pos rfl]; rfl
      · rw [bI_t c, if_neg one_ne, m_limit hM2, hx_b1_some, lN_m1 r2, m_powerBelow hM2 (by omega) (Or.inr (q_sort_lim hv2)), hx_b1_some, if_neg c, if_neg c, iI_sub]
  | succ d ih =>
    intro N N' i G hi hN hN' hG hall
    obtain ⟨N, rfl⟩ : ∃ z, N = z + 1 := ⟨N - 1, by omega⟩
    obtain ⟨N', rfl⟩ : ∃ z, N' = z + 1 := ⟨N' - 1, by omega⟩
    have hp := hW.2.2.2.2.2.2 i (by omega)
    have hu := pw_p hv hp.1
    have e0 : hm_row τ i = lN (u 0 i) := by rw [← hp.2.2, Nat.mul_zero, Nat.zero_add]
    have hsl := sort_le (E (g 0)) (F (g 0)) (K (g 0)) (u 0 i)
    have hX : f_X_blockScale_18 (N + 1) σ k (g 0) (nI G) (nI i) = if (3 : Int32) ≤ nI (q_sort (E (g 0)) (F (g 0)) (K (g 0)) (u 0 i)) then f_X_blockScale_18 N σ k (g 0) (nI G) (nI (i + 1)) else f_X_blockScale_18 N σ k (g 0) (nI (if G < u 0 i % 2 ^ (E (g 0) + F (g 0)) then u 0 i % 2 ^ (E (g 0) + F (g 0)) else G)) (nI (i + 1)) := by
      have hmod : u 0 i % 2 ^ (E (g 0) + F (g 0)) < 2147483648 := q_rest hv _
      have hmx : (if nI G < nI (u 0 i % 2 ^ (E (g 0) + F (g 0))) then nI (u 0 i % 2 ^ (E (g 0) + F (g 0))) else nI G) = nI (if G < u 0 i % 2 ^ (E (g 0) + F (g 0)) then u 0 i % 2 ^ (E (g 0) + F (g 0)) else G) := by
        by_cases c : G < u 0 i % 2 ^ (E (g 0) + F (g 0))
        · rw [if_pos c, if_pos (nI_lt c (by omega))]
        · rw [if_neg c, if_neg (nI_nlt (by omega) (by omega))]
      rw [f_X_blockScale_18, hW.2.2.1, if_neg (nI_ge (by omega) (by omega)), hcl (show i < 4096 by omega), hx_gn (hgn (N := 32) (by omega) (by omega)), hx_n_eq, hp.2.1, (h1 _ hg).2.1, x_sortOf hv hu, hx_b1_some, x_unsigned hv, hx_b1_some, hx_n_eq, uI_nI hu, hmx, f_X_blockScale_63, hx_n_eq, f_X_blockScale_63, hx_n_eq, nI_1]
    have h3 : (3 : Int32) ≤ nI (q_sort (E (g 0)) (F (g 0)) (K (g 0)) (u 0 i)) ↔ 3 ≤ q_sort (E (g 0)) (F (g 0)) (K (g 0)) (u 0 i) := nI_leI (a := 3) (by omega) (by omega)
    have hY : ∀ x3 x4 : Int32, f_M_scaleOf_7 (N' + 1) τ (nI k) x3 x4 (nI i) = if q_sort (E (g 0)) (F (g 0)) (K (g 0)) (u 0 i) = 1 ∨ q_sort (E (g 0)) (F (g 0)) (K (g 0)) (u 0 i) = 2 then f_M_scaleOf_49 (f_M_scaleOf_7 N') τ (nI k) x3 x4 (nI i) else f_M_scaleOf_7 N' τ (nI k) x3 x4 (nI (i + 1)) := by
      intro x3 x4
      rw [f_M_scaleOf_7, hx_gn g01, cn0, hW.2.2.2.1, if_neg (nI_ge (by omega) (by omega)), hx_gn g01', hcl (show i < 4096 by omega), hx_gn (hgn (N := 64) (by omega) (by omega)), hW.2.2.2.2.2.1, e0, m_sortOf hM hu, hx_b1_some]
      by_cases s1 : q_sort (E (g 0)) (F (g 0)) (K (g 0)) (u 0 i) = 1
      · rw [if_pos (show nI (q_sort (E (g 0)) (F (g 0)) (K (g 0)) (u 0 i)) = 1 by rw [s1]; rfl), if_pos (Or.inl s1)]
      · rw [if_neg (show ¬ nI (q_sort (E (g 0)) (F (g 0)) (K (g 0)) (u 0 i)) = 1 by rw [sort_1]; exact s1)]
        by_cases s2 : q_sort (E (g 0)) (F (g 0)) (K (g 0)) (u 0 i) = 2
        · rw [if_pos (show nI (q_sort (E (g 0)) (F (g 0)) (K (g 0)) (u 0 i)) = 2 by rw [s2]; rfl), if_pos (Or.inr s2)]
        · rw [if_neg (show ¬ nI (q_sort (E (g 0)) (F (g 0)) (K (g 0)) (u 0 i)) = 2 by rw [sort_2]; exact s2), if_neg (by omega), f_M_scaleOf_87, hx_n_eq, nI_1]
    rw [hX, hY]
    by_cases c3 : 3 ≤ q_sort (E (g 0)) (F (g 0)) (K (g 0)) (u 0 i)
    · rw [if_pos (h3.mpr c3), if_neg (by omega)]
      refine ih N N' (i + 1) G (by omega) (by omega) (by omega) hG (fun j hj hs => ?_)
      by_cases cj : j = i
      · rw [cj] at hs; omega
      · exact hall j (by omega) hs
    · rw [if_neg (fun q => c3 (h3.mp q))]
      obtain ⟨f1, f2⟩ := q_sort_le2 (u := u 0 i) (show q_sort (E (g 0)) (F (g 0)) (K (g 0)) (u 0 i) ≤ 2 by omega) hv
      have hall' : ∀ G1, G ≤ G1 → u 0 i % 2 ^ (E (g 0) + F (g 0)) ≤ G1 → ∀ j, j < i + 1 → q_sort (E (g 0)) (F (g 0)) (K (g 0)) (u 0 j) ≤ 2 → u 0 j % 2 ^ (E (g 0) + F (g 0)) ≤ G1 := fun G1 q1 q2 j hj hs => by
        by_cases cj : j = i
        · rw [cj]; exact q2
        · exact Nat.le_trans (hall j (by omega) hs) q1
      by_cases c0 : q_sort (E (g 0)) (F (g 0)) (K (g 0)) (u 0 i) = 0
      · have hz := f2.mp c0
        rw [if_neg (show ¬ (q_sort (E (g 0)) (F (g 0)) (K (g 0)) (u 0 i) = 1 ∨ q_sort (E (g 0)) (F (g 0)) (K (g 0)) (u 0 i) = 2) by omega), if_neg (show ¬ G < u 0 i % 2 ^ (E (g 0) + F (g 0)) by omega)]
        exact ih N N' (i + 1) G (by omega) (by omega) (by omega) hG (hall' G (Nat.le_refl _) (by omega))
      · have hs : q_sort (E (g 0)) (F (g 0)) (K (g 0)) (u 0 i) = 1 ∨ q_sort (E (g 0)) (F (g 0)) (K (g 0)) (u 0 i) = 2 := by omega
        have hnz : u 0 i % 2 ^ (E (g 0) + F (g 0)) ≠ 0 := fun q => c0 (f2.mpr q)
        have hmv : 0 < q_mc (E (g 0)) (F (g 0)) (u 0 i % 2 ^ (E (g 0) + F (g 0))) := q_mc_pos (kd := K (g 0)) (by rw [q_sort_mod]; exact hs)
        have htb : ∀ v, -149 ≤ q_t (E (g 0)) (F (g 0)) v ∧ q_t (E (g 0)) (F (g 0)) v ≤ 1000 := fun v => by
          have a1 := q_pcb hv (u := v)
          have a2 := q_mcb hv v
          have a3 : (q_mc (E (g 0)) (F (g 0)) v).log2 < 24 := by
            by_cases z : q_mc (E (g 0)) (F (g 0)) v = 0
            · rw [z]; decide
            · exact (Nat.log2_lt z).mpr (by omega)
          unfold q_t
          omega
        rw [if_pos hs, f_M_scaleOf_49, hx_gn g01, hcl (show i < 4096 by omega), hx_gn (hgn (N := 64) (by omega) (by omega)), cn0, hW.2.2.2.2.2.1, e0, m_powerBelow hM hu hs, hx_b1_some, ← q_t_mod]
        have h84 : ∀ y : Int32, f_M_scaleOf_84 (f_M_scaleOf_7 N') τ (nI k) (nI i) y = f_M_scaleOf_7 N' τ (nI k) 1 y (nI (i + 1)) := fun y => by
          rw [f_M_scaleOf_84, f_M_scaleOf_87, hx_n_eq, nI_1]
        have h78 : ∀ y : Int32, f_M_scaleOf_78 (f_M_scaleOf_7 N') τ (nI k) (nI i) y = f_M_scaleOf_7 N' τ (nI k) 1 y (nI (i + 1)) := fun y => by
          rw [f_M_scaleOf_78, h84]
        rw [h84, h78]
        by_cases cG : G = 0
        · have := ih N N' (i + 1) (u 0 i % 2 ^ (E (g 0) + F (g 0))) (by omega) (by omega) (by omega) f1 (hall' _ (by omega) (Nat.le_refl _))
          rw [if_neg hnz, bI_t hnz] at this
          rw [bI_f (by omega), if_pos rfl, if_pos (show G < u 0 i % 2 ^ (E (g 0) + F (g 0)) by omega)]
          exact this
        · have hmG : 0 < q_mc (E (g 0)) (F (g 0)) G := q_mc_pos (kd := K (g 0)) (q_sort_fin hG (by omega) cG)
          rw [bI_t cG, if_neg one_ne, if_neg cG]
          have b1 := htb G
          have b2 := htb (u 0 i % 2 ^ (E (g 0) + F (g 0)))
          have hle := iI_le (a := q_t (E (g 0)) (F (g 0)) (u 0 i % 2 ^ (E (g 0) + F (g 0)))) (b := q_t (E (g 0)) (F (g 0)) G) (by omega) (by omega) (by omega) (by omega)
          by_cases cl : G < u 0 i % 2 ^ (E (g 0) + F (g 0))
          · have hmono := q_t_mono hmG hmv (by omega) (by omega) (Nat.le_of_lt cl)
            have := ih N N' (i + 1) (u 0 i % 2 ^ (E (g 0) + F (g 0))) (by omega) (by omega) (by omega) f1 (hall' _ (by omega) (Nat.le_refl _))
            rw [if_neg hnz, bI_t hnz] at this
            rw [if_pos cl]
            by_cases ce : q_t (E (g 0)) (F (g 0)) (u 0 i % 2 ^ (E (g 0) + F (g 0))) ≤ q_t (E (g 0)) (F (g 0)) G
            · rw [if_pos (hle.mpr ce), show q_t (E (g 0)) (F (g 0)) G = q_t (E (g 0)) (F (g 0)) (u 0 i % 2 ^ (E (g 0) + F (g 0))) by omega]
              exact this
            · rw [if_neg (fun q => ce (hle.mp q))]
              exact this
          · have hmono := q_t_mono hmv hmG (by omega) (by omega) (by omega)
            have := ih N N' (i + 1) G (by omega) (by omega) (by omega) hG (hall' G (Nat.le_refl _) (by omega))
            rw [if_neg cG, bI_t cG] at this
            rw [if_neg cl, if_pos (hle.mpr hmono)]
            exact this
