theorem set_c {k : Nat} (hk : k < 4) (τ : hm_S) (a b c : Int32) : f_M_set τ (nI k) a b c = some (hm_fK_s (hm_fF_s (hm_fE_s τ k a) k b) k c) := by
  rw [f_M_set, hc4 hk, hx_gn (hg4n hk), hx_n_eq, hx_gn (hg4n hk), hx_n_eq, hx_gn (hg4n hk), hx_n_eq]
def iE (k : Nat) : Nat := if k = 0 then 5 else if k = 1 then 8 else if k = 2 then 8 else 4
def iF (k : Nat) : Nat := if k = 0 then 10 else if k = 1 then 7 else if k = 2 then 23 else 3
def iK (k : Nat) : Nat := if k = 3 then 1 else 0
def iG (k : Nat) : Nat := if k = 0 then 0 else 2
theorem init_fm : ∀ k, k < 4 → fmL (hx_fm hx_init k) = fmL (FM (iE k) (iF k) (iK k)) := by decide +kernel
theorem init_vf : ∀ k, k < 4 → 2 ≤ iE k ∧ iE k ≤ 8 ∧ 1 ≤ iF k ∧ iF k ≤ 23 ∧ iK k ≤ 2 := by decide
def m_i4 (τ : hm_S) (k : Nat) (a b c : Int32) : hm_S := hm_fK_s (hm_fF_s (hm_fE_s τ k a) k b) k c
theorem sim_init : ∃ τ0, f_M_init hm_zero = some τ0 ∧ hr_R hx_init τ0 := by
  refine ⟨hm_growth_s (hm_state_s (hm_rF_s (m_i4 (m_i4 (m_i4 (m_i4 hm_zero 0 5 10 0) 1 8 7 0) 2 8 23 0) 3 4 3 1) 1 2) 1) 3, ?_, iE, iF, iK, fun _ => 0, iG, fun _ _ => 0, 0, 1, 0, 0, 3, ?_, ?_, ?_⟩
  · have s0 := set_c (k := 0) (by omega) hm_zero 5 10 0
    have s1 := fun τ => set_c (k := 1) (by omega) τ 8 7 0
    have s2 := fun τ => set_c (k := 2) (by omega) τ 8 23 0
    have s3 := fun τ => set_c (k := 3) (by omega) τ 4 3 1
    rw [show nI 0 = 0 from rfl] at s0
    rw [f_M_init, s0, hx_b1_some]
    rw [show (1 : Int32) = nI 1 from rfl] at *
    rw [s1, hx_b1_some]
    rw [show (2 : Int32) = nI 2 from rfl] at *
    rw [s2, hx_b1_some]
    rw [show (3 : Int32) = nI 3 from rfl] at *
    rw [s3, hx_b1_some, show (nI 1).toNatClampNeg = 1 from rfl, hx_gn (hgn (N := 2) (by omega) (by omega))]
    simp only [hx_n_eq]
    rfl
  · intro k hk
    refine ⟨init_vf k hk, fmL_inj (init_fm k hk), ?_⟩
    match k, hk with
    | 0, _ => exact ⟨rfl, rfl, rfl⟩
    | 1, _ => exact ⟨rfl, rfl, rfl⟩
    | 2, _ => exact ⟨rfl, rfl, rfl⟩
    | 3, _ => exact ⟨rfl, rfl, rfl⟩
  · intro r hr
    match r, hr with
    | 0, _ => exact ⟨by decide, by decide, rfl, rfl, rfl, rfl, fun i hi => absurd hi (Nat.not_lt_zero i)⟩
    | 1, _ => exact ⟨by decide, by decide, rfl, rfl, rfl, rfl, fun i hi => absurd hi (Nat.not_lt_zero i)⟩
  · exact ⟨rfl, rfl, rfl, rfl, by omega, rfl, rfl, by omega, by omega, rfl, rfl, rfl, rfl, by omega, by omega⟩
