/-! The class's Exact holds a row of terms -/
def hx_xs (σ : hx_S) (X : hx_Ex) : hx_S := (σ.1, σ.2.1, X, σ.2.2.2)
theorem hx_xs_self (σ : hx_S) : hx_xs σ σ.2.2.1 = σ := rfl
theorem hx_xs_xs (σ : hx_S) (X Y : hx_Ex) : hx_xs (hx_xs σ X) Y = hx_xs σ Y := rfl
theorem hx_xs_ll (σ : hx_S) (n z pi mi ps ms c ng : Int32) (wh : Int64) (pw mo : Int32) (L G : Nat → Int64) : hx_ex_limbs_all (hx_xs σ (n, z, pi, mi, ps, ms, c, ng, wh, pw, mo, L)) G = hx_xs σ (n, z, pi, mi, ps, ms, c, ng, wh, pw, mo, G) := rfl
theorem hx_xs_cs (σ : hx_S) (n z pi mi ps ms c ng : Int32) (wh : Int64) (pw mo : Int32) (L : Nat → Int64) (x : Int32) : hx_ex_nonzero_s (hx_xs σ (n, z, pi, mi, ps, ms, c, ng, wh, pw, mo, L)) x = hx_xs σ (n, z, pi, mi, ps, ms, x, ng, wh, pw, mo, L) := rfl
theorem hx_xs_ngs (σ : hx_S) (n z pi mi ps ms c ng : Int32) (wh : Int64) (pw mo : Int32) (L : Nat → Int64) (x : Int32) : hx_ex_negative_s (hx_xs σ (n, z, pi, mi, ps, ms, c, ng, wh, pw, mo, L)) x = hx_xs σ (n, z, pi, mi, ps, ms, c, x, wh, pw, mo, L) := rfl
theorem hx_xs_whs (σ : hx_S) (n z pi mi ps ms c ng : Int32) (wh : Int64) (pw mo : Int32) (L : Nat → Int64) (x : Int64) : hx_ex_whole_s (hx_xs σ (n, z, pi, mi, ps, ms, c, ng, wh, pw, mo, L)) x = hx_xs σ (n, z, pi, mi, ps, ms, c, ng, x, pw, mo, L) := rfl
theorem hx_xs_pws (σ : hx_S) (n z pi mi ps ms c ng : Int32) (wh : Int64) (pw mo : Int32) (L : Nat → Int64) (x : Int32) : hx_ex_power_s (hx_xs σ (n, z, pi, mi, ps, ms, c, ng, wh, pw, mo, L)) x = hx_xs σ (n, z, pi, mi, ps, ms, c, ng, wh, x, mo, L) := rfl
theorem hx_xs_c (σ : hx_S) (n z pi mi ps ms c ng : Int32) (wh : Int64) (pw mo : Int32) (L : Nat → Int64) : hx_ex_nonzero (hx_xs σ (n, z, pi, mi, ps, ms, c, ng, wh, pw, mo, L)) = c := rfl
theorem hx_xs_ng (σ : hx_S) (n z pi mi ps ms c ng : Int32) (wh : Int64) (pw mo : Int32) (L : Nat → Int64) : hx_ex_negative (hx_xs σ (n, z, pi, mi, ps, ms, c, ng, wh, pw, mo, L)) = ng := rfl
theorem hx_xs_wh (σ : hx_S) (n z pi mi ps ms c ng : Int32) (wh : Int64) (pw mo : Int32) (L : Nat → Int64) : hx_ex_whole (hx_xs σ (n, z, pi, mi, ps, ms, c, ng, wh, pw, mo, L)) = wh := rfl
theorem hx_xs_pw (σ : hx_S) (n z pi mi ps ms c ng : Int32) (wh : Int64) (pw mo : Int32) (L : Nat → Int64) : hx_ex_power (hx_xs σ (n, z, pi, mi, ps, ms, c, ng, wh, pw, mo, L)) = pw := rfl
theorem hx_xs_l (σ : hx_S) (n z pi mi ps ms c ng : Int32) (wh : Int64) (pw mo : Int32) (L : Nat → Int64) : hx_ex_limbs (hx_xs σ (n, z, pi, mi, ps, ms, c, ng, wh, pw, mo, L)) = L := rfl
def sgm (b : Bool) (m pl : Nat) : Int := (if b then -1 else 1) * ((m : Int) * 2 ^ pl)
/-- the number part: so many terms that are not 0, their total -/
def cV (c : Nat) (ng : Int32) (wh : Int64) (pw : Int32) (L : Nat → Int64) (V : Int) : Prop :=
  (c = 0 → wh = 0 ∧ V = 0) ∧ (c = 1 → ∃ (b : Bool) (m pl : Nat), ng = bI b ∧ wh = lN m ∧ 0 < m ∧ m < 281474976710656 ∧ pw = iI ((pl : Int) - 352) ∧ 32 ≤ pl ∧ pl < 608 ∧ V = sgm b m pl) ∧ (2 ≤ c → ∃ x : Nat → Int, cH L x ((c : Int) * 4294967296) ∧ sI x 20 * 4294967296 = V)
theorem sgm_32 (b : Bool) (m : Nat) {pl : Nat} (h : 32 ≤ pl) : (if b then -1 else 1) * ((m : Int) * 2 ^ (pl - 32)) * 4294967296 = sgm b m pl := by
  unfold sgm
  have : (2 : Int) ^ pl = 2 ^ (pl - 32) * 4294967296 := by rw [show (4294967296 : Int) = 2 ^ 32 from rfl, ← Int.pow_add, show pl - 32 + 32 = pl by omega]
  rw [this, Int.mul_assoc, Int.mul_assoc]
theorem x_af17 (σ : hx_S) (n z pi mi ps ms : Int32) {c : Nat} (hc : c < 250) {ng : Int32} {wh : Int64} {pw : Int32} {L : Nat → Int64} {V : Int} (h : cV c ng wh pw L V) (b : Bool) {m pl : Nat} {p : Int32} (hm : m < 281474976710656) (hp : m ≠ 0 → p = iI ((pl : Int) - 352) ∧ 32 ≤ pl ∧ pl < 608) :
    ∃ ng' wh' pw' L', f_E_addFinite_17 (hx_xs σ (n, z, pi, mi, ps, ms, nI c, ng, wh, pw, 0, L)) (bI b) (lN m) p = some (hx_xs σ (n, z, pi, mi, ps, ms, nI (c + if m ≠ 0 then 1 else 0), ng', wh', pw', 0, L')) ∧ cV (c + if m ≠ 0 then 1 else 0) ng' wh' pw' L' (V + sgm b m pl) := by
  by_cases m0 : m = 0
  · subst m0
    refine ⟨ng, wh, pw, L, ?_, ?_⟩
    · rw [f_E_addFinite_17, if_pos (show lg_cmp (lN 0) (0 : Int64) = 0 by decide), if_neg (by decide)]; rfl
    · have : sgm b 0 pl = 0 := by unfold sgm; simp
      rw [if_neg (by decide), this, Int.add_zero]; exact h
  · obtain ⟨q1, q2, q3⟩ := hp m0
    subst q1
    have e0 : ¬ (lg_cmp (lN m) (0 : Int64) = 0) := by rw [c_eq0 (a := m) (by omega)]; exact m0
    have e1 : nI c + (1 : Int32) = nI (c + 1) := nI_p1 c
    rw [if_pos m0]
    have c1 : (nI (c + 1) = (1 : Int32)) = (c = 0) := by rw [show (1 : Int32) = nI 1 from rfl, nI_eq (by omega) (by omega)]; exact propext ⟨fun q => by omega, fun q => by omega⟩
    have c2 : (nI (c + 1) = (2 : Int32)) = (c = 1) := by rw [show (2 : Int32) = nI 2 from rfl, nI_eq (by omega) (by omega)]; exact propext ⟨fun q => by omega, fun q => by omega⟩
    rw [f_E_addFinite_17, if_neg e0, hx_xs_c, hx_n_eq, e1, hx_n_eq, hx_xs_cs, hx_xs_c]
    simp only [c1, c2]
    by_cases z0 : c = 0
    · rw [if_pos z0, if_pos (bI_or b), hx_n_eq, hx_xs_ngs, hx_n_eq, hx_xs_whs, hx_n_eq, hx_xs_pws]
      refine ⟨_, _, _, _, rfl, ?_⟩
      refine ⟨fun q => by omega, fun _ => ⟨b, m, pl, rfl, rfl, by omega, hm, rfl, q2, q3, ?_⟩, fun q => by omega⟩
      rw [(h.1 z0).2, Int.zero_add]
    · rw [if_neg z0]
      by_cases z1 : c = 1
      · rw [if_pos z1]
        obtain ⟨b1, m1, pl1, g1, g2, g3, g4, g5, g6, g7, g8⟩ := h.2.1 z1
        obtain ⟨G, f1, f2⟩ := x_fill L
        rw [hx_xs_l, f1, hx_b1_some, hx_n_eq, hx_xs_ll, hx_xs_ng, hx_xs_wh, hx_xs_pw, g1, g2, g5]
        obtain ⟨F, y, s1, s2, s3⟩ := x_spread (σ := hx_xs σ (n, z, pi, mi, ps, ms, nI (c + 1), bI b1, lN m1, iI ((pl1 : Int) - 352), 0, G)) f2 (by omega) (by omega) b1 g4 g6 g7
        rw [s1, hx_b1_some, hx_xs_ll]
        obtain ⟨F2, y2, t1, t2, t3⟩ := x_spread (σ := hx_xs σ (n, z, pi, mi, ps, ms, nI (c + 1), bI b1, lN m1, iI ((pl1 : Int) - 352), 0, F)) s2 (by omega) (by omega) b hm q2 q3
        rw [f_E_addFinite_91, t1, hx_b1_some, hx_xs_ll]
        refine ⟨_, _, _, _, rfl, fun q => by omega, fun q => by omega, fun _ => ⟨y2, t2.mono (by omega), ?_⟩⟩
        rw [t3, s3, sI_0 _ _ (fun _ _ => rfl), Int.zero_add, Int.add_mul, sgm_32 b1 m1 g6, sgm_32 b m q2, g8]
      · rw [if_neg z1]
        obtain ⟨x, x1, x2⟩ := h.2.2 (by omega)
        obtain ⟨F2, y2, t1, t2, t3⟩ := x_spread (σ := hx_xs σ (n, z, pi, mi, ps, ms, nI (c + 1), ng, wh, pw, 0, L)) x1 (by omega) (by omega) b hm q2 q3
        rw [f_E_addFinite_91, t1, hx_b1_some, hx_xs_ll]
        refine ⟨_, _, _, _, rfl, fun q => by omega, fun q => by omega, fun _ => ⟨y2, t2.mono (by omega), ?_⟩⟩
        rw [t3, Int.add_mul, sgm_32 b m q2, x2]
