theorem bec_v (v w : hx_Fm) (x1 x2 x3 : Int32) : f_F_become v x1 x2 x3 = f_F_become w x1 x2 x3 := by
  by_cases c : x3 = 0
  · simp only [f_F_become, f_F_become_53, f_F_become_74, hx_n_eq, if_pos c]; rfl
  · simp only [f_F_become, f_F_become_53, f_F_become_74, hx_n_eq, if_neg c]; rfl
def fmL (v : hx_Fm) : List Int32 := [v.1, v.2.1, v.2.2.1, v.2.2.2.1, v.2.2.2.2.1, v.2.2.2.2.2.1, v.2.2.2.2.2.2.1, v.2.2.2.2.2.2.2]
theorem fmL_inj {v w : hx_Fm} (h : fmL v = fmL w) : v = w := by
  obtain ⟨a, b, c, d, e, f, g, i⟩ := v
  obtain ⟨a', b', c', d', e', f', g', i'⟩ := w
  simp only [fmL, List.cons.injEq, and_true] at h
  obtain ⟨rfl, rfl, rfl, rfl, rfl, rfl, rfl, rfl⟩ := h
  rfl
def bec_b (e f kd : Nat) : Bool := ((f_F_become (0, 0, 0, 0, 0, 0, 0, 0) (nI e) (nI f) (nI kd)).map fmL).getD [] == fmL (FM e f kd)
theorem bec_t : ∀ e, e < 9 → ∀ f, f < 24 → ∀ kd, kd < 3 → 2 ≤ e → 1 ≤ f → bec_b e f kd = true := by decide +kernel
theorem x_become {e f kd : Nat} (h : vf e f kd) (v : hx_Fm) : f_F_become v (nI e) (nI f) (nI kd) = some (FM e f kd) := by
  obtain ⟨h1, h2, h3, h4, h5⟩ := h
  rw [bec_v v (0, 0, 0, 0, 0, 0, 0, 0)]
  have h := eq_of_beq (bec_t e (by omega) f (by omega) kd (by omega) h1 h3)
  cases hq : f_F_become (0, 0, 0, 0, 0, 0, 0, 0) (nI e) (nI f) (nI kd) with
  | none => rw [hq] at h; exact absurd (congrArg List.length h) (by simp [fmL])
  | some v => rw [hq] at h; exact congrArg some (fmL_inj h)
theorem x_uses {σ : hx_S} {τ : hm_S} {E F n g : Nat → Nat} {u : Nat → Nat → Nat} (h : hr_W σ τ E F n g u) {r : Nat} (hr : r < 2) {k : Nat} (hk : k < 4) : f_R_uses (hx_rw σ r) (nI k) = some (if 0 < n r ∧ g r = k then 1 else 0) := by
  have hs : hx_rw_size (hx_rw σ r) = nI (n r) := (h r hr).2.2.1
  have hf : hx_rw_format (hx_rw σ r) = nI (g r) := (h r hr).2.2.2.2.1
  have hn := (h r hr).1
  have hg := (h r hr).2.1
  rw [f_R_uses, hs, hf]
  by_cases c : 0 < n r
  · rw [if_neg (show ¬ nI (n r) ≤ 0 from nI_nle c (by omega))]
    by_cases d : g r = k
    · rw [if_pos (by rw [d]), if_pos ⟨c, d⟩]
    · rw [if_neg (fun q => d ((nI_eq (by omega) (by omega)).mp q)), if_neg (fun q => d q.2)]
  · rw [if_pos (show nI (n r) ≤ 0 by rw [show n r = 0 by omega]; decide), if_neg (fun q => c q.1)]
theorem hr_G_of {σ σ1 : hx_S} {τ τ1 : hm_S} {fl : Int32} {st : Nat} {S : Int} {sk go : Nat} (h : hr_G σ τ fl st S sk go) (a : σ1.2.2.2.1 = σ.2.2.2.1) (b : σ1.2.2.2.2.2 = σ.2.2.2.2.2) (c1 : hm_flags τ1 = hm_flags τ) (c2 : hm_state τ1 = hm_state τ) (c3 : hm_scaleS τ1 = hm_scaleS τ) (c4 : hm_streak τ1 = hm_streak τ) (c5 : hm_growth τ1 = hm_growth τ) : hr_G σ1 τ1 fl st S sk go := by
  obtain ⟨g1, g2, g3, g4, g5, g6, g7, g8, g9, g10, g11, g12, g13, g14, g15⟩ := h
  refine ⟨?_, by rw [c1]; exact g2, ?_, by rw [c2]; exact g4, g5, ?_, by rw [c3]; exact g7, g8, g9, ?_, by rw [c4]; exact g11, ?_, by rw [c5]; exact g13, g14, g15⟩
  · show σ1.2.2.2.1.1 = _
    rw [a]; exact g1
  · show σ1.2.2.2.1.2 = _
    rw [a]; exact g3
  · show σ1.2.2.2.2.2.1 = _
    rw [b]; exact g6
  · show σ1.2.2.2.2.2.2.1 = _
    rw [b]; exact g10
  · show σ1.2.2.2.2.2.2.2 = _
    rw [b]; exact g12
set_option maxHeartbeats 2000000 in
theorem sim_format {σ : hx_S} {τ : hm_S} (hR : hr_R σ τ) (x1 x2 x3 x4 : Int32) : ∃ r σ1 τ1, f_X_format σ x1 x2 x3 x4 = some (r, σ1) ∧ f_M_format τ x1 x2 x3 x4 = some (r, τ1) ∧ hr_R σ1 τ1 := by
  have hR0 := hR
  obtain ⟨E, F, K, n, g, u, fl, st, S, sk, go, h1, h2, h3⟩ := hR
  rw [f_X_format, f_M_format, show (2 : Int64) = lI 2 from rfl, show (8 : Int64) = lI 8 from rfl, show (1 : Int64) = lI 1 from rfl, show (23 : Int64) = lI 23 from rfl, show (0 : Int64) = lI 0 from rfl]
  rcases a_form x1 with ⟨k, hk, rfl, a1, a2⟩ | ⟨a1, a2⟩
  · rw [a1, a2, hx_b1_some, hx_b1_some, if_neg one_ne, if_neg one_ne]
    obtain ⟨e, y1, y2, rfl, hy⟩ := a_in x2 2 8 (by omega) (by omega) (by omega) (by omega)
    obtain ⟨f, z1, z2, rfl, hz⟩ := a_in x3 1 23 (by omega) (by omega) (by omega) (by omega)
    obtain ⟨d, w1, w2, rfl, hw⟩ := a_in x4 0 2 (by omega) (by omega) (by omega) (by omega)
    have e1 : (iI e < (2 : Int32)) ↔ e < 2 := iI_lt (b := 2) y1 y2 (by omega) (by omega)
    have e2 : ((8 : Int32) < iI e) ↔ 8 < e := iI_lt (a := 8) (by omega) (by omega) y1 y2
    have e3 : (iI f < (1 : Int32)) ↔ f < 1 := iI_lt (b := 1) z1 z2 (by omega) (by omega)
    have e4 : ((23 : Int32) < iI f) ↔ 23 < f := iI_lt (a := 23) (by omega) (by omega) z1 z2
    have e5 : (iI d < (0 : Int32)) ↔ d < 0 := iI_lt (b := 0) w1 w2 (by omega) (by omega)
    have e6 : (iI d < (3 : Int32)) ↔ d < 3 := iI_lt (b := 3) w1 w2 (by omega) (by omega)
    rcases hy with ⟨y3, y4, b1⟩ | ⟨y3, b1⟩
    · rw [b1, hx_b1_some, if_neg one_ne, if_neg (fun q => absurd (e1.mp q) (by omega)), if_neg (fun q => absurd (e2.mp q) (by omega))]
      rcases hz with ⟨z3, z4, b2⟩ | ⟨z3, b2⟩
      · rw [b2, hx_b1_some, if_neg one_ne, if_neg (fun q => absurd (e3.mp q) (by omega)), if_neg (fun q => absurd (e4.mp q) (by omega))]
        rcases hw with ⟨w3, w4, b3⟩ | ⟨w3, b3⟩
        · have hr0 := h2 0 (by omega)
          have hr1 := h2 1 (by omega)
          rw [b3, hx_b1_some, if_neg one_ne, if_neg (fun q => absurd (e5.mp q) (by omega)), if_pos (e6.mpr (by omega)), x_uses h2 (r := 0) (by omega) hk, hx_b1_some, x_uses h2 (r := 1) (by omega) hk, hx_b1_some, hx_gn (show ¬ ((0 : Int32) < 0 ∨ 2 ≤ (0 : Int32).toNatClampNeg) by decide), hx_gn (show ¬ ((0 : Int32) < 0 ∨ 2 ≤ (0 : Int32).toNatClampNeg) by decide), show (0 : Int32).toNatClampNeg = 0 from rfl, hr0.2.2.2.2.2.1, hr0.2.2.2.1]
          by_cases c0 : 0 < n 0 ∧ g 0 = k
          · rw [if_pos c0, if_neg one_ne, if_pos (show nI (g 0) = nI k by rw [c0.2]), if_pos (show 0 < nI (n 0) from (nI_ltI (a := 0) (by omega) (by omega)).mpr c0.1)]
            exact ⟨_, _, _, rfl, rfl, hR0⟩
          · rw [if_neg c0, if_pos rfl]
            have hc : (if nI (g 0) = nI k then if 0 < nI (n 0) then some (-2, τ) else f_M_format_65 τ (nI k) (iI e) (iI f) (iI d) else f_M_format_65 τ (nI k) (iI e) (iI f) (iI d)) = f_M_format_65 τ (nI k) (iI e) (iI f) (iI d) := by
              by_cases q : nI (g 0) = nI k
              · rw [if_pos q, if_neg (show ¬ 0 < nI (n 0) from fun w => c0 ⟨(nI_ltI (a := 0) (by omega) (by omega)).mp w, (nI_eq (by omega) (by omega)).mp q⟩)]
              · rw [if_neg q]
            rw [hc, f_M_format_65, hx_gn (show ¬ ((1 : Int32) < 0 ∨ 2 ≤ (1 : Int32).toNatClampNeg) by decide), hx_gn (show ¬ ((1 : Int32) < 0 ∨ 2 ≤ (1 : Int32).toNatClampNeg) by decide), show (1 : Int32).toNatClampNeg = 1 from rfl, hr1.2.2.2.2.2.1, hr1.2.2.2.1]
            by_cases c1 : 0 < n 1 ∧ g 1 = k
            · rw [if_pos c1, if_neg one_ne, if_pos (show nI (g 1) = nI k by rw [c1.2]), if_neg (show ¬ nI (n 1) ≤ 0 from nI_nle c1.1 (by omega))]
              exact ⟨_, _, _, rfl, rfl, hR0⟩
            · rw [if_neg c1, if_pos rfl]
              have hc1 : (if nI (g 1) = nI k then if nI (n 1) ≤ 0 then f_M_format_87 τ (nI k) (iI e) (iI f) (iI d) else some (-2, τ) else f_M_format_87 τ (nI k) (iI e) (iI f) (iI d)) = f_M_format_87 τ (nI k) (iI e) (iI f) (iI d) := by
                by_cases q : nI (g 1) = nI k
                · have h0 : ¬ 0 < n 1 := fun w => c1 ⟨w, (nI_eq (by omega) (by omega)).mp q⟩
                  rw [if_pos q, if_pos (show nI (n 1) ≤ 0 by rw [show n 1 = 0 by omega]; decide)]
                · rw [if_neg q]
              have hv : vf e.toNat f.toNat d.toNat := ⟨by omega, by omega, by omega, by omega, by omega⟩
              rw [hc1, f_M_format_87, f_M_set, hc4 hk, hx_gn (hg4n hk), hx_n_eq, hx_gn (hg4n hk), hx_n_eq, hx_gn (hg4n hk), hx_n_eq, hx_gn (hg4n hk), hx_b1_some, iI_nn (show 0 ≤ e by omega), iI_nn (show 0 ≤ f by omega), iI_nn w3, x_become hv, hx_b1_some, hx_n_eq]
              refine ⟨_, _, _, rfl, rfl, fun q => if q = k then e.toNat else E q, fun q => if q = k then f.toNat else F q, fun q => if q = k then d.toNat else K q, n, g, u, fl, st, S, sk, go, ?_, ?_, ?_⟩
              · intro q hq
                have hh := h1 q hq
                show vf (if q = k then _ else _) (if q = k then _ else _) (if q = k then _ else _) ∧ (if q = k then FM e.toNat f.toNat d.toNat else hx_fm σ q) = FM (if q = k then _ else _) (if q = k then _ else _) (if q = k then _ else _) ∧ upd (hm_fE τ) k (nI e.toNat) q = nI (if q = k then _ else _) ∧ upd (hm_fF τ) k (nI f.toNat) q = nI (if q = k then _ else _) ∧ upd (hm_fK τ) k (nI d.toNat) q = nI (if q = k then _ else _)
                simp only [upd]
                by_cases c : q = k
                · simp only [if_pos c]; refine ⟨hv, ?_, ?_, ?_, ?_⟩ <;> trivial
                · simp only [if_neg c]; exact hh
              · have hW : hr_W (hx_fm_s σ k (FM e.toNat f.toNat d.toNat)) (hm_fK_s (hm_fF_s (hm_fE_s τ k (nI e.toNat)) k (nI f.toNat)) k (nI d.toNat)) E F n g u := hr_W_of h2 rfl rfl rfl rfl
                intro r hr
                have hh := hW r hr
                refine ⟨hh.1, hh.2.1, hh.2.2.1, hh.2.2.2.1, hh.2.2.2.2.1, hh.2.2.2.2.2.1, fun i hi => ⟨?_, (hh.2.2.2.2.2.2 i hi).2⟩⟩
                have hne : ¬ g r = k := fun w => by
                  have : r = 0 ∨ r = 1 := by omega
                  rcases this with rfl | rfl
                  · exact c0 ⟨by omega, w⟩
                  · exact c1 ⟨by omega, w⟩
                simp only [if_neg hne]
                exact (hh.2.2.2.2.2.2 i hi).1
              · exact hr_G_of h3 rfl rfl rfl rfl rfl rfl rfl
        · rw [b3, hx_b1_some, if_pos rfl]
          by_cases c : d < 0
          · rw [if_pos (e5.mpr c)]; exact ⟨_, _, _, rfl, rfl, hR0⟩
          · rw [if_neg (fun q => c (e5.mp q)), if_neg (fun q => absurd (e6.mp q) (by omega))]; exact ⟨_, _, _, rfl, rfl, hR0⟩
      · rw [b2, hx_b1_some, if_pos rfl]
        by_cases c : f < 1
        · rw [if_pos (e3.mpr c)]; exact ⟨_, _, _, rfl, rfl, hR0⟩
        · rw [if_neg (fun q => c (e3.mp q)), if_pos (e4.mpr (by omega))]; exact ⟨_, _, _, rfl, rfl, hR0⟩
    · rw [b1, hx_b1_some, if_pos rfl]
      by_cases c : e < 2
      · rw [if_pos (e1.mpr c)]; exact ⟨_, _, _, rfl, rfl, hR0⟩
      · rw [if_neg (fun q => c (e1.mp q)), if_pos (e2.mpr (by omega))]; exact ⟨_, _, _, rfl, rfl, hR0⟩
  · rw [a1, a2, hx_b1_some, hx_b1_some, if_pos rfl, if_pos rfl]; exact ⟨_, _, _, rfl, rfl, hR0⟩
