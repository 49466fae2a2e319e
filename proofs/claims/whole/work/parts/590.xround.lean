theorem kT_kP {n V S : Int} (hn : n ≤ 250) (h1 : -(n * kT) ≤ V) (h2 : V ≤ n * kT) (hS : S * 4294967296 = V) : -kP < S ∧ S < kP := by
  have e : kP * 4294967296 = 65536 * kT := by unfold kP kT; decide +kernel
  have hk : 0 < kT := Int.pow_pos (by decide)
  have h3 : n * kT ≤ 250 * kT := Int.mul_le_mul_of_nonneg_right hn (by omega)
  generalize n * kT = z at *
  omega
theorem natAbs_32 {S V : Int} (h : S * 4294967296 = V) : V.natAbs = S.natAbs * 2 ^ 32 := by rw [← h, Int.natAbs_mul]; rfl
/-- the number part of rounded: what settle leaves -/
theorem x_settled (σ : hx_S) {n z pi mi ps ms : Int32} {c : Nat} (hc : c < 250) {ng : Int32} {wh : Int64} {pw : Int32} {L : Nat → Int64} {V : Int} (h : cV c ng wh pw L V) {len : Int} (hl : len ≤ 250) (hV1 : -(len * kT) ≤ V) (hV2 : V ≤ len * kT) :
    ∃ (ng' : Int32) (w P ρ : Nat) (pw' : Int32) (L' : Nat → Int64), f_E_settle (hx_xs σ (n, z, pi, mi, ps, ms, nI c, ng, wh, pw, 0, L)) = some (hx_xs σ (n, z, pi, mi, ps, ms, nI c, ng', lN w, pw', bI (decide (ρ ≠ 0)), L')) ∧ w < 4611686018427387904 ∧ (w = 0 ↔ V = 0) ∧ (V ≠ 0 → ng' = bI (decide (V < 0)) ∧ pw' = iI ((P : Int) - 352) ∧ ρ < 2 ^ P ∧ V.natAbs = w * 2 ^ P + ρ ∧ (ρ ≠ 0 → 2305843009213693952 ≤ w) ∧ P + w.log2 < 800) := by
  by_cases c2 : 2 ≤ c
  · obtain ⟨x, x1, x2⟩ := h.2.2 c2
    have hb := kT_kP hl hV1 hV2 x2
    obtain ⟨w, fr, ρ, G, s1, s2, s3, s4, s5, s6, s7⟩ := x_settle (σ := hx_xs σ (n, z, pi, mi, ps, ms, nI c, ng, wh, pw, 0, L)) (x := x) (c := c) rfl c2 (by omega) (x1.mono (by omega)) hb.1 hb.2
    have hd : decide (ρ * 2 ^ 32 ≠ 0) = decide (ρ ≠ 0) := by
      by_cases q : ρ = 0
      · subst q; rfl
      · rw [decide_eq_true (show ρ ≠ 0 from q), decide_eq_true (by omega)]
    have hlt : (sI x 20 < 0) = (V < 0) := propext ⟨fun q => by omega, fun q => by omega⟩
    refine ⟨bI (decide (sI x 20 < 0)), w, fr + 32, ρ * 2 ^ 32, iI ((fr : Int) - 320), G, ?_, s5, ?_, fun hV => ⟨?_, ?_, ?_, ?_, ?_, ?_⟩⟩
    · rw [s1, hd]; rfl
    · constructor
      · intro q
        subst q
        have : ρ = 0 := Classical.byContradiction (fun r => by have := s4 r; omega)
        rw [this, Nat.zero_mul] at s2
        omega
      · intro q
        have : (sI x 20).natAbs = 0 := by omega
        rw [this] at s2
        rcases Nat.eq_zero_or_pos w with r | r
        · exact r
        · have := Nat.mul_pos r (Nat.two_pow_pos fr); omega
    · simp only [hlt]
    · rw [show ((fr : Int) - 320) = (((fr + 32 : Nat) : Int) - 352) by omega]
    · rw [Nat.pow_add]; exact Nat.mul_lt_mul_of_pos_right s3 (by decide)
    · rw [natAbs_32 x2, s2, Nat.add_mul, Nat.mul_assoc, ← Nat.pow_add]
    · intro q; exact s4 (by intro r; rw [r] at q; exact q rfl)
    · rcases Nat.eq_zero_or_pos w with r | r
      · subst r
        have : Nat.log2 0 = 0 := by decide
        omega
      · have := s7 r; omega
  · have hs : f_E_settle (hx_xs σ (n, z, pi, mi, ps, ms, nI c, ng, wh, pw, 0, L)) = some (hx_xs σ (n, z, pi, mi, ps, ms, nI c, ng, wh, pw, 0, L)) := by
      rw [f_E_settle, hx_xs_c, if_neg (by rw [show (2 : Int32) = nI 2 from rfl, nI_leI (by omega) (by omega)]; exact c2)]
    by_cases c0 : c = 0
    · obtain ⟨h1, h2⟩ := h.1 c0
      subst h1
      exact ⟨ng, 0, 0, 0, pw, L, hs, by decide, ⟨fun _ => h2, fun _ => rfl⟩, fun q => absurd h2 q⟩
    · obtain ⟨b, m, pl, g1, g2, g3, g4, g5, g6, g7, g8⟩ := h.2.1 (by omega)
      subst g1 g2 g5
      have hp : 0 < m * 2 ^ pl := Nat.mul_pos g3 (Nat.two_pow_pos _)
      have hcst : V = (if b then -1 else 1) * ((m * 2 ^ pl : Nat) : Int) := by rw [g8, Int.natCast_mul, Int.natCast_pow]; rfl
      have hl2 : m.log2 < 48 := (Nat.log2_lt (by omega)).mpr g4
      generalize hz : m * 2 ^ pl = zz at hp hcst
      refine ⟨bI b, m, pl, 0, iI ((pl : Int) - 352), L, hs, by omega, ?_, fun _ => ⟨?_, rfl, Nat.two_pow_pos _, ?_, fun q => absurd rfl q, by omega⟩⟩
      · cases b
        · rw [if_neg Bool.false_ne_true] at hcst; omega
        · rw [if_pos rfl] at hcst; omega
      · cases b
        · rw [if_neg Bool.false_ne_true] at hcst; rw [decide_eq_false (by omega)]
        · rw [if_pos rfl] at hcst; rw [decide_eq_true (by omega)]
      · rw [hz, Nat.add_zero]
        cases b
        · rw [if_neg Bool.false_ne_true] at hcst; omega
        · rw [if_pos rfl] at hcst; omega
