/-! Both machines, one beside the other: sums begun, terms added, ended -/
theorem sp_sg_le (e f : Nat) (b : Bool) : sp_sg e f b ≤ 2 ^ (e + f) := by have := Nat.two_pow_pos (e + f); unfold sp_sg; split <;> omega
theorem sp_pack_lt {e f kd : Nat} (hv : vf e f kd) (neg : Bool) (way : Nat) (fl : Int32) (st v : Nat) : (sp_pack e f kd neg way fl st v).1 < 2 ^ (e + f + 1) ∧ (sp_pack e f kd neg way fl st v).2.2 = st := by
  obtain ⟨q1, q2, q3, q4, q5⟩ := q_limlt hv
  have s := sp_sg_le e f neg
  rw [Nat.pow_succ]
  unfold sp_pack
  by_cases c : v < q_lim e f kd
  · rw [if_pos c]; exact ⟨by show v + _ < _; omega, rfl⟩
  · rw [if_neg c]
    refine ⟨?_, rfl⟩
    show sp_over e f kd neg way < _
    unfold sp_over
    split
    · omega
    · split <;> omega
theorem sp_far_st {way : Nat} {neg : Bool} {q r P st : Nat} (hs : st < 2147483647) : (sp_far way neg q r P st).2 < 2147483647 := by
  unfold sp_far
  split
  · exact hs
  · split
    · exact hs
    · split
      · exact hs
      · split
        · exact hs
        · split
          · exact hs
          · exact Nat.mod_lt _ (by decide)
theorem sp_end_lt {e f kd : Nat} (hv : vf e f kd) (ts : List hT) (way : Nat) (fl : Int32) {st : Nat} (hs : st < 2147483647) : (sp_end e f kd ts way fl st).1 < 2 ^ (e + f + 1) ∧ (sp_end e f kd ts way fl st).2.2 < 2147483647 := by
  obtain ⟨q1, q2, q3, q4, q5⟩ := q_limlt hv
  have s1 := sp_sg_le e f (ht_be ts)
  have hp : 2 ^ (e + f + 1) = 2 ^ (e + f) * 2 := Nat.pow_succ ..
  unfold sp_end
  split
  · exact ⟨by show q_nan e f kd < _; omega, hs⟩
  · split
    · exact ⟨by show q_nan e f kd < _; omega, hs⟩
    · split
      · refine ⟨?_, hs⟩
        show (if kd = 0 then _ else _) < _
        split
        · omega
        · split <;> omega
      · split
        · refine ⟨?_, hs⟩
          have := sp_sg_le e f (if ht_az ts && (ht_pl ts != ht_mi ts) then ht_mi ts else decide (0 < ts.length) && decide (way = 4))
          show sp_sg e f _ < _
          have := Nat.two_pow_pos (e + f)
          omega
        · unfold sp_fin
          split
          · exact ⟨(sp_pack_lt hv _ _ _ _ _).1, by rw [(sp_pack_lt hv _ _ _ _ _).2]; exact hs⟩
          · exact ⟨(sp_pack_lt hv _ _ _ _ _).1, by rw [(sp_pack_lt hv _ _ _ _ _).2]; exact sp_far_st hs⟩
def hr_P (σ : hx_S) (τ : hm_S) (E F K n g : Nat → Nat) (u : Nat → Nat → Nat) (fl : Int32) (st : Nat) (S : Int) (sk go : Nat) : Prop := hr_F σ τ E F K ∧ hr_W σ τ E F n g u ∧ hr_G σ τ fl st S sk go
theorem hr_P.R {σ : hx_S} {τ : hm_S} {E F K n g : Nat → Nat} {u : Nat → Nat → Nat} {fl : Int32} {st : Nat} {S : Int} {sk go : Nat} (h : hr_P σ τ E F K n g u fl st S sk go) : hr_R σ τ := ⟨E, F, K, n, g, u, fl, st, S, sk, go, h.1, h.2.1, h.2.2⟩
def hxk (σ1 σ : hx_S) : Prop := σ1.1 = σ.1 ∧ σ1.2.1 = σ.2.1 ∧ σ1.2.2.2.2 = σ.2.2.2.2
def hmk (τ1 τ : hm_S) : Prop := hm_fE τ1 = hm_fE τ ∧ hm_fF τ1 = hm_fF τ ∧ hm_fK τ1 = hm_fK τ ∧ hm_rF τ1 = hm_rF τ ∧ hm_rM τ1 = hm_rM τ ∧ hm_row τ1 = hm_row τ ∧ hm_tree τ1 = hm_tree τ ∧ hm_scaleS τ1 = hm_scaleS τ ∧ hm_streak τ1 = hm_streak τ ∧ hm_growth τ1 = hm_growth τ
theorem hmk.rf (τ : hm_S) : hmk τ τ := ⟨rfl, rfl, rfl, rfl, rfl, rfl, rfl, rfl, rfl, rfl⟩
theorem hmk.tr {τ τ1 τ2 : hm_S} (h : hmk τ2 τ1) (k : hmk τ1 τ) : hmk τ2 τ := ⟨h.1.trans k.1, h.2.1.trans k.2.1, h.2.2.1.trans k.2.2.1, h.2.2.2.1.trans k.2.2.2.1, h.2.2.2.2.1.trans k.2.2.2.2.1, h.2.2.2.2.2.1.trans k.2.2.2.2.2.1, h.2.2.2.2.2.2.1.trans k.2.2.2.2.2.2.1, h.2.2.2.2.2.2.2.1.trans k.2.2.2.2.2.2.2.1, h.2.2.2.2.2.2.2.2.1.trans k.2.2.2.2.2.2.2.2.1, h.2.2.2.2.2.2.2.2.2.trans k.2.2.2.2.2.2.2.2.2⟩
theorem hmk.of {τ τ1 : hm_S} (h : hm_same τ τ1) : hmk τ1 τ ∧ hm_flags τ1 = hm_flags τ ∧ hm_state τ1 = hm_state τ := by
  obtain ⟨F, t, n, w, a, b, z, p, m, rfl⟩ := h
  exact ⟨⟨rfl, rfl, rfl, rfl, rfl, rfl, rfl, rfl, rfl, rfl⟩, rfl, rfl⟩
theorem hmk.fs (τ : hm_S) (F : Nat → Int64) (a : Int32) (b : Int64) : hmk (hm_fs (hm_lset τ F) a b) τ := ⟨rfl, rfl, rfl, rfl, rfl, rfl, rfl, rfl, rfl, rfl⟩
theorem hmk.mF {τ τ1 : hm_S} (h : hmk τ1 τ) {k e f kd : Nat} (g : mF τ k e f kd) : mF τ1 k e f kd := ⟨g.1, g.2.1, by rw [h.1]; exact g.2.2.1, by rw [h.2.1]; exact g.2.2.2.1, by rw [h.2.2.1]; exact g.2.2.2.2⟩
def hr_N (σ : hx_S) (τ : hm_S) (σ1 : hx_S) (τ1 : hm_S) (fl1 : Int32) (st1 : Nat) : Prop := hxk σ1 σ ∧ hmk τ1 τ ∧ σ1.2.2.2.1 = (fl1, lN st1) ∧ hm_flags τ1 = fl1 ∧ hm_state τ1 = lN st1 ∧ st1 < 2147483647
theorem hr_N.tr {σ σ1 σ2 : hx_S} {τ τ1 τ2 : hm_S} {f1 f2 : Int32} {s1 s2 : Nat} (h : hr_N σ τ σ1 τ1 f1 s1) (k : hr_N σ1 τ1 σ2 τ2 f2 s2) : hr_N σ τ σ2 τ2 f2 s2 := ⟨⟨k.1.1.trans h.1.1, k.1.2.1.trans h.1.2.1, k.1.2.2.trans h.1.2.2⟩, hmk.tr k.2.1 h.2.1, k.2.2⟩
theorem hr_N.P {σ σ1 : hx_S} {τ τ1 : hm_S} {E F K n g : Nat → Nat} {u : Nat → Nat → Nat} {fl f1 : Int32} {st s1 : Nat} {S : Int} {sk go : Nat} (h : hr_P σ τ E F K n g u fl st S sk go) (k : hr_N σ τ σ1 τ1 f1 s1) : hr_P σ1 τ1 E F K n g u f1 s1 S sk go := by
  obtain ⟨h1, h2, g1, g2, g3, g4, g5, g6, g7, g8, g9, g10, g11, g12, g13, g14, g15⟩ := h
  obtain ⟨⟨x1, x2, x3⟩, ⟨m1, m2, m3, m4, m5, m6, m7, m8, m9, m10⟩, k1, k2, k3, k4⟩ := k
  refine ⟨hr_F_of h1 x1 m1 m2 m3, hr_W_of h2 x2 m5 m4 m6, ?_, k2, ?_, k3, k4, ?_, by rw [m8]; exact g7, g8, g9, ?_, by rw [m9]; exact g11, ?_, by rw [m10]; exact g13, g14, g15⟩
  · show σ1.2.2.2.1.1 = _
    rw [k1]
  · show σ1.2.2.2.1.2 = _
    rw [k1]
  · show σ1.2.2.2.2.2.1 = _
    rw [x3]; exact g6
  · show σ1.2.2.2.2.2.2.1 = _
    rw [x3]; exact g10
  · show σ1.2.2.2.2.2.2.2 = _
    rw [x3]; exact g12
def t1 (e f kd u : Nat) (tn : Bool) : hT := vT e f kd u tn (q_pw e f kd u + 352).toNat
def t2 (e f kd u e2 f2 kd2 u2 : Nat) (tn : Bool) : hT := wT e f kd u e2 f2 kd2 u2 tn (q_pw e f kd u + q_pw e2 f2 kd2 u2 + 352).toNat
theorem q_pwb {e f kd : Nat} (h : vf e f kd) (u : Nat) : -149 ≤ q_pw e f kd u ∧ q_pw e f kd u ≤ 127 := by
  have := q_pb h u
  unfold q_pw
  split <;> omega
theorem tB_t1 {e f kd : Nat} (h : vf e f kd) (u : Nat) (tn : Bool) : tB (t1 e f kd u tn) := tB_vT h tn (by have := q_pwb h u; omega)
theorem tB_t2 {e f kd e2 f2 kd2 : Nat} (h : vf e f kd) (h2 : vf e2 f2 kd2) (u u2 : Nat) (tn : Bool) : tB (t2 e f kd u e2 f2 kd2 u2 tn) := tB_wT h h2 tn (by have := q_pwb h u; have := q_pwb h2 u2; omega)
def cA (σ σ1 : hx_S) (ts : List hT) : Prop := ∃ X, σ1 = hx_xs σ X ∧ cX X ts
def rA (τ τ1 : hm_S) (ts : List hT) : Prop := hmk τ1 τ ∧ hm_flags τ1 = hm_flags τ ∧ hm_state τ1 = hm_state τ ∧ mA τ1 ts
theorem cA_begin (σ : hx_S) : ∃ σ1, f_E_begin σ = some σ1 ∧ cA σ σ1 [] := by
  obtain ⟨Y, h1, h2⟩ := x_begin σ
  exact ⟨_, h1, Y, rfl, h2⟩
theorem rA_begin (τ : hm_S) : ∃ τ1, f_M_begin τ = some τ1 ∧ rA τ τ1 [] := by
  obtain ⟨τ1, h1, h2, h3⟩ := m_begin τ
  exact ⟨τ1, h1, (hmk.of h2).1, (hmk.of h2).2.1, (hmk.of h2).2.2, h3⟩
theorem cA_value {σ σ1 : hx_S} {ts : List hT} (h : cA σ σ1 ts) (hl : ts.length < 250) {k e f kd u : Nat} (hF : cF σ k e f kd) (hu : u < 2 ^ (e + f + 1)) (tn : Bool) : ∃ σ2, f_E_addValue σ1 k (nI u) (bI tn) = some σ2 ∧ cA σ σ2 (ts ++ [t1 e f kd u tn]) := by
  obtain ⟨X, rfl, hX⟩ := h
  have := q_pwb hF.2.1 u
  obtain ⟨Y, h1, h2⟩ := x_addValue σ hX hl hF hu tn (q_pw e f kd u + 352).toNat (by omega)
  exact ⟨_, h1, Y, rfl, h2⟩
theorem cA_prod {σ σ1 : hx_S} {ts : List hT} (h : cA σ σ1 ts) (hl : ts.length < 250) {k e f kd u j e2 f2 kd2 u2 : Nat} (hF : cF σ k e f kd) (hG : cF σ j e2 f2 kd2) (hu : u < 2 ^ (e + f + 1)) (hu2 : u2 < 2 ^ (e2 + f2 + 1)) : ∃ σ2, f_E_addProduct σ1 k (nI u) j (nI u2) = some σ2 ∧ cA σ σ2 (ts ++ [t2 e f kd u e2 f2 kd2 u2 false]) := by
  obtain ⟨X, rfl, hX⟩ := h
  have := q_pwb hF.2.1 u
  have := q_pwb hG.2.1 u2
  obtain ⟨Y, h1, h2⟩ := x_addProduct σ hX hl hF hG hu hu2 (q_pw e f kd u + q_pw e2 f2 kd2 u2 + 352).toNat (by omega)
  exact ⟨_, h1, Y, rfl, h2⟩
theorem rA_val {τ τ1 : hm_S} {ts : List hT} (h : rA τ τ1 ts) {k e f kd u : Nat} (hF : mF τ k e f kd) (hu : u < 2 ^ (e + f + 1)) (tn : Bool) (by_ : Int) (pl : Nat) (hpl : (pl : Int) = q_pw e f kd u + 352 + by_) (hb : pl < 676) : ∃ τ2, f_M_value τ1 (nI k) (lN u) (bI tn) (iI by_) = some τ2 ∧ rA τ τ2 (ts ++ [vT e f kd u tn pl]) := by
  obtain ⟨a, b, c, d⟩ := h
  obtain ⟨τ2, h1, h2, h3⟩ := m_value (a.mF hF) d (pw_p hF.2.1 hu) tn by_ pl hpl hb
  have k := hmk.of h2
  exact ⟨τ2, h1, k.1.tr a, k.2.1.trans b, k.2.2.trans c, h3⟩
theorem rA_value {τ τ1 : hm_S} {ts : List hT} (h : rA τ τ1 ts) {k e f kd u : Nat} (hF : mF τ k e f kd) (hu : u < 2 ^ (e + f + 1)) (tn : Bool) : ∃ τ2, f_M_value τ1 (nI k) (lN u) (bI tn) (0 : Int32) = some τ2 ∧ rA τ τ2 (ts ++ [t1 e f kd u tn]) := by
  have := q_pwb hF.2.1 u
  exact rA_val h hF hu tn 0 _ (by omega) (by omega)
theorem rA_prod {τ τ1 : hm_S} {ts : List hT} (h : rA τ τ1 ts) {k e f kd u j e2 f2 kd2 u2 : Nat} (hF : mF τ k e f kd) (hG : mF τ j e2 f2 kd2) (hu : u < 2 ^ (e + f + 1)) (hu2 : u2 < 2 ^ (e2 + f2 + 1)) (tn : Bool) : ∃ τ2, f_M_product τ1 (nI k) (lN u) (nI j) (lN u2) (bI tn) = some τ2 ∧ rA τ τ2 (ts ++ [t2 e f kd u e2 f2 kd2 u2 tn]) := by
  obtain ⟨a, b, c, d⟩ := h
  have := q_pwb hF.2.1 u
  have := q_pwb hG.2.1 u2
  obtain ⟨τ2, h1, h2, h3⟩ := m_product (a.mF hF) (a.mF hG) d (pw_p hF.2.1 hu) (pw_p hG.2.1 hu2) tn (q_pw e f kd u + q_pw e2 f2 kd2 u2 + 352).toNat (by omega) (by omega)
  have k := hmk.of h2
  exact ⟨τ2, h1, k.1.tr a, k.2.1.trans b, k.2.2.trans c, h3⟩
theorem any2 (p : hT → Bool) (a b : hT) : [a, b].any p = [b, a].any p := by
  show (p a || (p b || false)) = (p b || (p a || false))
  cases p a <;> cases p b <;> rfl
theorem all2 (p : hT → Bool) (a b : hT) : [a, b].all p = [b, a].all p := by
  show (p a && (p b && true)) = (p b && (p a && true))
  cases p a <;> cases p b <;> rfl
theorem rA_swap {τ τ1 : hm_S} {a b : hT} (h : rA τ τ1 [a, b]) : rA τ τ1 [b, a] := by
  obtain ⟨h1, h2, h3, a1, a2, a3, a4, a5, a6, a7, a8, a9⟩ := h
  refine ⟨h1, h2, h3, ?_, ?_, ?_, ?_, ?_, ?_, ?_, a8, ?_⟩
  · rw [a1]; exact congrArg bI (any2 _ a b)
  · rw [a2]; exact congrArg bI (any2 _ a b)
  · rw [a3]; exact congrArg bI (any2 _ a b)
  · rw [a4]; exact congrArg bI (any2 _ a b)
  · rw [a5]; exact congrArg bI (any2 _ a b)
  · rw [a6]; exact congrArg bI (any2 _ a b)
  · rw [a7]; exact congrArg bI (all2 _ a b)
  · have : tV [b, a] = tV [a, b] := by
      show 0 + tv b + tv a = 0 + tv a + tv b
      omega
    rw [this]; exact a9
theorem tV_767 {ts : List hT} (hB : ∀ t, t ∈ ts → tB t) (hl : ts.length < 250) : -(2 ^ 767) < tV ts ∧ tV ts < 2 ^ 767 := by
  have h := tV_bd hB
  have h0 : 0 < kT := by decide +kernel
  have h1 : 250 * kT < 2 ^ 767 := by decide +kernel
  have h2 : (ts.length : Int) * kT ≤ 250 * kT := Int.mul_le_mul_of_nonneg_right (by omega) (by omega)
  revert h h0 h1 h2
  generalize (2 : Int) ^ 767 = Q
  generalize (ts.length : Int) * kT = A
  generalize tV ts = B
  intros
  constructor <;> omega
theorem AB_end {σ σ1 : hx_S} {τ τ1 : hm_S} {E F K n g : Nat → Nat} {u : Nat → Nat → Nat} {fl : Int32} {st : Nat} {S : Int} {sk go : Nat} (hP : hr_P σ τ E F K n g u fl st S sk go) {ts : List hT} (h : cA σ σ1 ts) (h' : rA τ τ1 ts) (hB : ∀ t, t ∈ ts → tB t) (hl : ts.length < 250) {k way : Nat} (hk : k < 4) (hw : way ≤ 5) : ∃ p fl1 st1 σ2 τ2, p < 2 ^ (E k + F k + 1) ∧ f_D_rounded σ1 k (nI way) = some (nI p, σ2) ∧ f_M_end τ1 (nI k) (nI way) = some (lN p, τ2) ∧ hr_N σ τ σ2 τ2 fl1 st1 := by
  obtain ⟨p1, p2, p3⟩ := hP
  obtain ⟨g1, g2, g3, g4, g5, _⟩ := p3
  obtain ⟨X, rfl, hX⟩ := h
  obtain ⟨m1, m2, m3, m4⟩ := h'
  obtain ⟨Y, y1⟩ := x_rounded (way := way) hX hB hl (cF_of p1 hk) hw g3 g5
  obtain ⟨v1, v2⟩ := tV_767 hB hl
  obtain ⟨G, z1⟩ := m_end (way := way) (m1.mF (mF_of p1 hk)) m4 hw (m3.trans g4) g5 (by omega) v1 v2
  rw [g1] at y1
  rw [m2, g2] at z1
  have hL := sp_end_lt (p1 k hk).1 ts way fl g5
  refine ⟨_, _, _, _, _, hL.1, y1, z1, ⟨rfl, rfl, rfl⟩, (hmk.fs _ _ _ _).tr m1, rfl, rfl, rfl, hL.2⟩
theorem pwI_le {a b : Nat} (h : a ≤ b) : (2 : Int) ^ a ≤ 2 ^ b := by
  have h := Int.ofNat_le.mpr (Nat.pow_le_pow_right (n := 2) (by decide) h)
  rw [Int.natCast_pow, Int.natCast_pow] at h
  exact h
theorem tV_one {e f kd a : Nat} {b : Bool} {pl : Nat} (hv : vf e f kd) (hb : pl < 676) : -(2 ^ 767) < tV [vT e f kd a b pl] ∧ tV [vT e f kd a b pl] < 2 ^ 767 := by
  have e1 : tV [vT e f kd a b pl] = tv (vT e f kd a b pl) := by show 0 + _ = _; omega
  have hm : q_m e f kd a < 16777216 := by
    have h1 := pw_f hv.2.2.2.1
    have h2 : a % 2 ^ f < 2 ^ f := Nat.mod_lt _ (Nat.two_pow_pos f)
    unfold q_m
    split
    · omega
    · split <;> omega
  have hp : (2 : Int) ^ pl ≤ 2 ^ 676 := by
    exact pwI_le (by omega)
  have h0 : (0 : Int) ≤ 2 ^ pl := Int.pow_nonneg (by decide)
  have h1 : (q_m e f kd a : Int) * 2 ^ pl ≤ 16777216 * 2 ^ 676 := Int.mul_le_mul (by omega) hp h0 (by decide)
  have h2 : 0 ≤ (q_m e f kd a : Int) * 2 ^ pl := Int.mul_nonneg (by omega) h0
  have h3 : (16777216 : Int) * 2 ^ 676 < 2 ^ 767 := by decide +kernel
  rw [e1]
  unfold tv vT
  revert h1 h2 h3
  show _ → _ → _ → _ < (if _ then (if _ then (-1 : Int) else 1) * ((q_m e f kd a : Int) * 2 ^ pl) else 0) ∧ (if _ then (if _ then (-1 : Int) else 1) * ((q_m e f kd a : Int) * 2 ^ pl) else 0) < _
  generalize (2 : Int) ^ 767 = Q
  generalize (16777216 : Int) * 2 ^ 676 = Q2
  generalize (q_m e f kd a : Int) * 2 ^ pl = A
  intro k1 k2 k3
  have key : ∀ s : Int, s = -1 ∨ s = 1 → -Q < s * A ∧ s * A < Q := by
    intro s hs
    rcases hs with rfl | rfl
    · rw [Int.neg_mul, Int.one_mul]; constructor <;> omega
    · rw [Int.one_mul]; constructor <;> omega
  split
  · exact key _ (by split <;> simp)
  · constructor <;> omega
theorem AB_turn {σ : hx_S} {τ : hm_S} {E F K n g : Nat → Nat} {u : Nat → Nat → Nat} {fl : Int32} {st : Nat} {S : Int} {sk go : Nat} (hP : hr_P σ τ E F K n g u fl st S sk go) {k k2 way a : Nat} (hk : k < 4) (hk2 : k2 < 4) (hw : way ≤ 5) (ha : a < 2 ^ (E k + F k + 1)) (by_ : Int) (pl : Nat) (hpl : (pl : Int) = q_pw (E k) (F k) (K k) a + 352 + by_) (hb : pl < 676) : ∃ p fl1 st1 σ2 τ0 τ1 τ2, p < 2 ^ (E k2 + F k2 + 1) ∧ f_D_turned σ k (nI a) (iI by_) k2 (nI way) = some (nI p, σ2) ∧ f_M_begin τ = some τ0 ∧ f_M_value τ0 (nI k) (lN a) 0 (iI by_) = some τ1 ∧ f_M_end τ1 (nI k2) (nI way) = some (lN p, τ2) ∧ hmk τ0 τ ∧ hr_N σ τ σ2 τ2 fl1 st1 := by
  obtain ⟨p1, p2, p3⟩ := hP
  obtain ⟨g1, g2, g3, g4, g5, _⟩ := p3
  obtain ⟨τ0, b1, b2⟩ := rA_begin τ
  obtain ⟨τ1, c1, c2⟩ := rA_val b2 (mF_of p1 hk) ha false by_ pl hpl hb
  obtain ⟨m1, m2, m3, m4⟩ := c2
  have y1 := x_turned (way := way) (cF_of p1 hk) (cF_of p1 hk2) hw ha by_ pl hpl hb g3 g5
  have hV : -(2 ^ 767) < tV [vT (E k) (F k) (K k) a false pl] ∧ tV [vT (E k) (F k) (K k) a false pl] < 2 ^ 767 := tV_one (p1 k hk).1 hb
  obtain ⟨G, z1⟩ := m_end (way := way) (m1.mF (mF_of p1 hk2)) m4 hw (m3.trans g4) g5 (by show 1 < 2147483648; omega) hV.1 hV.2
  rw [g1] at y1
  rw [m2, g2] at z1
  have hL := sp_end_lt (p1 k2 hk2).1 [vT (E k) (F k) (K k) a false pl] way fl g5
  exact ⟨_, _, _, _, τ0, τ1, _, hL.1, y1, b1, c1, z1, b2.1, ⟨rfl, rfl, rfl⟩, (hmk.fs _ _ _ _).tr m1, rfl, rfl, rfl, hL.2⟩
theorem AB_turned {σ : hx_S} {τ : hm_S} {E F K n g : Nat → Nat} {u : Nat → Nat → Nat} {fl : Int32} {st : Nat} {S : Int} {sk go : Nat} (hP : hr_P σ τ E F K n g u fl st S sk go) {k k2 way a : Nat} (hk : k < 4) (hk2 : k2 < 4) (hw : way ≤ 5) (ha : a < 2 ^ (E k + F k + 1)) : ∃ p fl1 st1 σ2 τ2, p < 2 ^ (E k2 + F k2 + 1) ∧ f_D_turned σ k (nI a) 0 k2 (nI way) = some (nI p, σ2) ∧ f_M_turned τ (nI k) (lN a) (nI k2) (nI way) = some (lN p, τ2) ∧ hr_N σ τ σ2 τ2 fl1 st1 := by
  have := q_pwb (hP.1 k hk).1 a
  obtain ⟨p, fl1, st1, σ2, τ0, τ1, τ2, h1, h2, h3, h4, h5, _, h6⟩ := AB_turn hP hk hk2 hw ha 0 (q_pw (E k) (F k) (K k) a + 352).toNat (by omega) (by omega)
  refine ⟨p, fl1, st1, σ2, τ2, h1, h2, ?_, h6⟩
  rw [f_M_turned, h3, hx_b1_some]
  rw [show iI 0 = 0 from rfl] at h4
  rw [h4, hx_b1_some, h5]
  rfl
theorem x_plus {σ : hx_S} {k e f kd u k2 e2 f2 kd2 u2 : Nat} (hF : cF σ k e f kd) (hG : cF σ k2 e2 f2 kd2) (hu : u < 2 ^ (e + f + 1)) (hu2 : u2 < 2 ^ (e2 + f2 + 1)) (way : Nat) : ∃ σ1, cA σ σ1 [t1 e f kd u false, t1 e2 f2 kd2 u2 false] ∧ f_X_plus σ k (nI u) k2 (nI u2) (nI way) = f_D_rounded σ1 k2 (nI way) := by
  obtain ⟨s1, b1, b2⟩ := cA_begin σ
  obtain ⟨s2, c1, c2⟩ := cA_value b2 (by decide) hF hu false
  obtain ⟨s3, d1, d2⟩ := cA_value c2 (by show 1 < 250; omega) hG hu2 false
  refine ⟨s3, d2, ?_⟩
  rw [show bI false = 0 from rfl] at c1 d1
  rw [f_X_plus, b1, hx_b1_some, c1, hx_b1_some, d1, hx_b1_some]
  cases f_D_rounded s3 k2 (nI way) with
  | none => rfl
  | some v => rfl
theorem tB_11 {e f kd e2 f2 kd2 : Nat} (h : vf e f kd) (h2 : vf e2 f2 kd2) (u u2 : Nat) (a b : Bool) : ∀ t, t ∈ [t1 e f kd u a, t1 e2 f2 kd2 u2 b] → tB t := fun t ht => by
  rcases List.mem_cons.mp ht with rfl | ht
  · exact tB_t1 h u a
  · rcases List.mem_cons.mp ht with rfl | ht
    · exact tB_t1 h2 u2 b
    · cases ht
