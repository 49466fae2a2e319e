/-! The relation between the two states -/
def hr_F (σ : hx_S) (τ : hm_S) (E F K : Nat → Nat) : Prop := ∀ k, k < 4 → vf (E k) (F k) (K k) ∧ hx_fm σ k = FM (E k) (F k) (K k) ∧ hm_fE τ k = nI (E k) ∧ hm_fF τ k = nI (F k) ∧ hm_fK τ k = nI (K k)
def hr_W (σ : hx_S) (τ : hm_S) (E F n g : Nat → Nat) (u : Nat → Nat → Nat) : Prop := ∀ r, r < 2 → n r ≤ 32 ∧ g r < 4 ∧ hx_size σ r = nI (n r) ∧ hm_rM τ r = nI (n r) ∧ hx_format σ r = nI (g r) ∧ hm_rF τ r = nI (g r) ∧ ∀ i, i < n r → u r i < 2 ^ (E (g r) + F (g r) + 1) ∧ hx_pat σ r i = nI (u r i) ∧ hm_row τ (32 * r + i) = lN (u r i)
def hr_G (σ : hx_S) (τ : hm_S) (fl : Int32) (st : Nat) (S : Int) (sk go : Nat) : Prop := hx_rd_raised σ = fl ∧ hm_flags τ = fl ∧ hx_rd_state σ = lN st ∧ hm_state τ = lN st ∧ st < 2147483647 ∧ hx_shift σ = iI S ∧ hm_scaleS τ = iI S ∧ -60 ≤ S ∧ S ≤ 60 ∧ hx_streak σ = nI sk ∧ hm_streak τ = nI sk ∧ hx_goal σ = nI go ∧ hm_growth τ = nI go ∧ sk < go ∧ go ≤ 100
def hr_R (σ : hx_S) (τ : hm_S) : Prop := ∃ E F K n g u fl st S sk go, hr_F σ τ E F K ∧ hr_W σ τ E F n g u ∧ hr_G σ τ fl st S sk go
theorem cF_of {σ : hx_S} {τ : hm_S} {E F K : Nat → Nat} (h : hr_F σ τ E F K) {k : Nat} (hk : k < 4) : cF σ k (E k) (F k) (K k) := ⟨hk, (h k hk).1, (h k hk).2.1⟩
theorem mF_of {σ : hx_S} {τ : hm_S} {E F K : Nat → Nat} (h : hr_F σ τ E F K) {k : Nat} (hk : k < 4) : mF τ k (E k) (F k) (K k) := ⟨hk, (h k hk).1, (h k hk).2.2.1, (h k hk).2.2.2.1, (h k hk).2.2.2.2⟩
theorem sim_flags {σ : hx_S} {τ : hm_S} (hR : hr_R σ τ) : ∃ r σ1 τ1, f_X_flags σ = some (r, σ1) ∧ f_M_flags τ = some (r, τ1) ∧ hr_R σ1 τ1 := by
  obtain ⟨E, F, K, n, g, u, fl, st, S, sk, go, h1, h2, h3⟩ := hR
  obtain ⟨g1, g2, g3⟩ := h3
  refine ⟨fl, hx_rd_raised_s σ 0, hm_flags_s τ 0, ?_, ?_, E, F, K, n, g, u, 0, st, S, sk, go, h1, h2, rfl, rfl, g3⟩
  · rw [f_X_flags, hx_n_eq, hx_n_eq, g1]
  · rw [f_M_flags, hx_n_eq, hx_n_eq, g2]
