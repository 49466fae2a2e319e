theorem hx_xs_n (σ : hx_S) (n z pi mi ps ms c ng : Int32) (wh : Int64) (pw mo : Int32) (L : Nat → Int64) : hx_ex_hasNan (hx_xs σ (n, z, pi, mi, ps, ms, c, ng, wh, pw, mo, L)) = n := rfl
theorem hx_xs_z (σ : hx_S) (n z pi mi ps ms c ng : Int32) (wh : Int64) (pw mo : Int32) (L : Nat → Int64) : hx_ex_zeroTimesInfinite (hx_xs σ (n, z, pi, mi, ps, ms, c, ng, wh, pw, mo, L)) = z := rfl
theorem hx_xs_pi (σ : hx_S) (n z pi mi ps ms c ng : Int32) (wh : Int64) (pw mo : Int32) (L : Nat → Int64) : hx_ex_plusInfinite (hx_xs σ (n, z, pi, mi, ps, ms, c, ng, wh, pw, mo, L)) = pi := rfl
theorem hx_xs_mi (σ : hx_S) (n z pi mi ps ms c ng : Int32) (wh : Int64) (pw mo : Int32) (L : Nat → Int64) : hx_ex_minusInfinite (hx_xs σ (n, z, pi, mi, ps, ms, c, ng, wh, pw, mo, L)) = mi := rfl
theorem hx_xs_ps (σ : hx_S) (n z pi mi ps ms c ng : Int32) (wh : Int64) (pw mo : Int32) (L : Nat → Int64) : hx_ex_plusSeen (hx_xs σ (n, z, pi, mi, ps, ms, c, ng, wh, pw, mo, L)) = ps := rfl
theorem hx_xs_ms (σ : hx_S) (n z pi mi ps ms c ng : Int32) (wh : Int64) (pw mo : Int32) (L : Nat → Int64) : hx_ex_minusSeen (hx_xs σ (n, z, pi, mi, ps, ms, c, ng, wh, pw, mo, L)) = ms := rfl
theorem hx_xs_mo (σ : hx_S) (n z pi mi ps ms c ng : Int32) (wh : Int64) (pw mo : Int32) (L : Nat → Int64) : hx_ex_more (hx_xs σ (n, z, pi, mi, ps, ms, c, ng, wh, pw, mo, L)) = mo := rfl
theorem x_zneg (σ : hx_S) (n z pi mi : Int32) (P M : Bool) {c way len : Nat} (hc : c < 250) (hw : way ≤ 5) (hlen : c ≤ len) (hPM : 0 < len → P = true ∨ M = true) (hlP : P = true → 0 < len) (ng : Int32) (wh : Int64) (pw mo : Int32) (L : Nat → Int64) :
    f_E_zeroIsNegative (hx_xs σ (n, z, pi, mi, bI P, bI M, nI c, ng, wh, pw, mo, L)) (nI way) = some (bI (if decide (c = 0) && (P != M) then M else decide (0 < len) && decide (way = 4))) := by
  have c0 : (nI c = (0 : Int32)) = (c = 0) := n0 (by omega)
  have w4 : ∀ b : Bool, b = true → f_E_zeroIsNegative_26 (hx_xs σ (n, z, pi, mi, bI P, bI M, nI c, ng, wh, pw, mo, L)) (nI way) = some (bI (b && decide (way = 4))) := by
    intro b hb
    subst hb
    rw [f_E_zeroIsNegative_26]
    simp only [wy4 hw]
    by_cases q : way = 4
    · rw [if_pos q, decide_eq_true q]; rfl
    · rw [if_neg q, decide_eq_false q]; rfl
  rw [f_E_zeroIsNegative, hx_xs_c, hx_xs_ps, hx_xs_ms]
  simp only [c0]
  by_cases q : c = 0
  · rw [if_pos q, decide_eq_true q]
    cases P
    · rw [if_pos (show bI false = 0 from rfl), if_pos (bI_or M)]
      cases M
      · by_cases l0 : 0 < len
        · rcases hPM l0 with q | q <;> exact absurd q Bool.false_ne_true
        · rw [decide_eq_false l0]; rfl
      · rfl
    · rw [if_neg (show ¬ bI true = 0 by decide)]
      have hl := hlP rfl
      cases M
      · rfl
      · rw [if_neg (show ¬ bI true = 0 by decide)]
        exact w4 (decide (0 < len)) (decide_eq_true hl)
  · rw [if_neg q, decide_eq_false q]
    exact w4 (decide (0 < len)) (decide_eq_true (by omega))
theorem seen_len : ∀ {ts : List hT} (b : Bool), cS b ts = true → 0 < ts.length
  | [], b, h => absurd h Bool.false_ne_true
  | t :: ts, b, _ => by rw [List.length_cons]; omega
theorem len_seen {ts : List hT} (h1 : ht_pl ts = cS false ts) (h2 : ht_mi ts = cS true ts) (h : 0 < ts.length) : cS false ts = true ∨ cS true ts = true := by
  rw [← h1, ← h2]
  cases ts with
  | nil => exact absurd h (by decide)
  | cons t ts =>
    obtain ⟨k, b, m, pl⟩ := t
    cases b
    · exact Or.inl rfl
    · exact Or.inr rfl
theorem x_rounded48 {σ : hx_S} {ts : List hT} (hB : ∀ t, t ∈ ts → tB t) (hl : ts.length < 250) (hn : ht_nan ts = false) (hz : ht_wr ts = false) (hi : cI false ts = false) (hj : cI true ts = false) {k e f kd way st : Nat} (hF : cF σ k e f kd) (hw : way ≤ 5) (hst : hx_rd_state σ = lN st) (hs : st < 2147483647) {ng : Int32} {wh : Int64} {pw : Int32} {L : Nat → Int64} (hcl : cC ts ≤ ts.length) (hV : cV (cC ts) ng wh pw L (tV ts)) (n z : Int32) :
    ∃ Y, f_D_rounded_48 (hx_xs σ (n, z, bI false, bI false, bI (cS false ts), bI (cS true ts), nI (cC ts), ng, wh, pw, 0, L)) k (nI way) = some (nI (sp_end e f kd ts way (hx_rd_raised σ) st).1, hx_rs (hx_xs σ Y) (sp_end e f kd ts way (hx_rd_raised σ) st).2.1 (lN (sp_end e f kd ts way (hx_rd_raised σ) st).2.2)) := by
  obtain ⟨i1, i2⟩ := ht_inf hB hn hz
  obtain ⟨p1, p2, p3⟩ := ht_num hB hn hz hi hj
  obtain ⟨b1, b2⟩ := tV_bd hB
  obtain ⟨ng', w, P, ρ, pw', L', s1, s2, s3, s4⟩ := x_settled σ (n := n) (z := z) (pi := bI false) (mi := bI false) (ps := bI (cS false ts)) (ms := bI (cS true ts)) (show cC ts < 250 by omega) hV (show (ts.length : Int) ≤ 250 by omega) b1 b2
  rw [f_D_rounded_48, hx_xs_pi, hx_xs_mi, if_pos (show bI false = 0 from rfl), if_pos (show bI false = 0 from rfl), s1, hx_b1_some, hx_xs_wh, hx_xs_ng, hx_xs_pw, hx_xs_mo]
  simp only [c_eq0 (a := w) (by omega)]
  unfold sp_end
  rw [hn, if_neg Bool.false_ne_true, hz, i1, i2, hi, hj, if_neg (show ¬ (false || (false && false)) = true by decide), if_neg (show ¬ (false || false) = true by decide)]
  by_cases v0 : tV ts = 0
  · rw [if_pos (s3.mpr v0), if_pos v0, x_zneg σ n z (bI false) (bI false) (cS false ts) (cS true ts) (show cC ts < 250 by omega) hw hcl (len_seen p1 p2) (seen_len false), hx_b1_some, p1, p2, p3]
    have hfm : hx_fm (hx_xs σ (n, z, bI false, bI false, bI (cS false ts), bI (cS true ts), nI (cC ts), ng', lN w, pw', bI (decide (ρ ≠ 0)), L')) k = FM e f kd := hF.2.2
    have e0 := x_signed hF.2.1 (if (decide (cC ts = 0) && (cS false ts != cS true ts)) = true then cS true ts else decide (0 < ts.length) && decide (way = 4)) (v := 0) (Nat.two_pow_pos _)
    rw [hfm, show (0 : Int32) = nI 0 from rfl, e0, hx_b1_some, Nat.zero_add]
    refine ⟨(n, z, bI false, bI false, bI (cS false ts), bI (cS true ts), nI (cC ts), ng', lN w, pw', bI (decide (ρ ≠ 0)), L'), ?_⟩
    rw [← hst]
    rfl
  · rw [if_neg (fun q => v0 (s3.mp q)), if_neg v0]
    obtain ⟨g1, g2, g3, g4, g5, g6⟩ := s4 v0
    subst g1 g2
    have hw0 : 0 < w := Nat.pos_of_ne_zero (fun q => v0 (s3.mp q))
    have r := x_finite (σ := hx_xs σ (n, z, bI false, bI false, bI (cS false ts), bI (cS true ts), nI (cC ts), bI (decide (tV ts < 0)), lN w, iI ((P : Int) - 352), bI (decide (ρ ≠ 0)), L')) (k := k) (e := e) (f := f) (kd := kd) hF (decide (tV ts < 0)) hw hw0 s2 g3 g4 g5 g6 hst hs
    rw [r, hx_b2_some]
    exact ⟨_, rfl⟩
theorem x_rounded {σ : hx_S} {X : hx_Ex} {ts : List hT} (h : cX X ts) (hB : ∀ t, t ∈ ts → tB t) (hl : ts.length < 250) {k e f kd way st : Nat} (hF : cF σ k e f kd) (hw : way ≤ 5) (hst : hx_rd_state σ = lN st) (hs : st < 2147483647) :
    ∃ Y, f_D_rounded (hx_xs σ X) k (nI way) = some (nI (sp_end e f kd ts way (hx_rd_raised σ) st).1, hx_rs (hx_xs σ Y) (sp_end e f kd ts way (hx_rd_raised σ) st).2.1 (lN (sp_end e f kd ts way (hx_rd_raised σ) st).2.2)) := by
  have hself : ∀ Z, hx_rs (hx_xs σ Z) (hx_rd_raised σ) (lN st) = hx_xs σ Z := fun Z => by rw [← hst]; rfl
  obtain ⟨n, z, pi, mi, ps, ms, c, ng, wh, pw, mo, L⟩ := X
  obtain ⟨h1, h2, h3, h4, h5, h6, h7, h8, h9, h10⟩ := h
  dsimp only at h1 h2 h3 h4 h5 h6 h7 h8 h10
  subst h1 h2 h3 h4 h5 h6 h7 h8
  rw [f_D_rounded, hx_xs_n, hx_xs_z, hx_xs_pi, hx_xs_mi]
  cases hn : ht_nan ts
  · rw [if_pos (show bI false = 0 from rfl)]
    have e33 : ∀ Z, f_D_rounded_33 (hx_xs σ Z) k = some (nI (q_nan e f kd), hx_rs (hx_xs σ Z) (hx_rd_raised σ ||| 1) (lN st)) := by
      intro Z
      have hfm : hx_fm (hx_rd_raised_s (hx_xs σ Z) (hx_rd_raised (hx_xs σ Z) ||| 1)) k = FM e f kd := hF.2.2
      rw [f_D_rounded_33, hx_n_eq, hx_n_eq, hfm, FM_n, hx_raised_eq, ← hst]; rfl
    cases hz : ht_wr ts
    · rw [if_pos (show bI false = 0 from rfl)]
      obtain ⟨i1, i2⟩ := ht_inf hB hn hz
      have e62 : ∀ Z b, hx_ex_minusInfinite (hx_xs σ Z) = bI b → f_D_rounded_62 (hx_xs σ Z) k = some (nI (if kd = 0 then q_lim e f kd + sp_sg e f b else if kd = 1 then q_lim e f kd - 1 + sp_sg e f b else q_nan e f kd), hx_xs σ Z) := by
        intro Z b hb
        have hF2 : cF (hx_xs σ Z) k e f kd := hF
        rw [f_D_rounded_62, hb, x_infinite hF2 b, hx_b1_some]
      cases hi : cI false ts
      · rw [if_pos (show bI false = 0 from rfl)]
        cases hj : cI true ts
        · exact x_rounded48 hB hl hn hz hi hj hF hw hst hs h9 h10 (bI false) (bI false)
        · rw [f_D_rounded_48, hx_xs_pi, hx_xs_mi, if_pos (show bI false = 0 from rfl), if_neg (show ¬ bI true = 0 by decide), e62 _ true rfl]
          unfold sp_end
          rw [hn, if_neg Bool.false_ne_true, hz, i1, i2, hi, hj, if_neg (show ¬ (false || (false && true)) = true by decide), if_pos (show (false || true) = true from rfl)]
          exact ⟨_, by rw [hself]⟩
      · rw [if_neg (show ¬ bI true = 0 by decide)]
        cases hj : cI true ts
        · rw [if_pos (show bI false = 0 from rfl), f_D_rounded_48, hx_xs_pi, if_neg (show ¬ bI true = 0 by decide), e62 _ false rfl]
          unfold sp_end
          rw [hn, if_neg Bool.false_ne_true, hz, i1, i2, hi, hj, if_neg (show ¬ (false || (true && false)) = true by decide), if_pos (show (true || false) = true from rfl)]
          exact ⟨_, by rw [hself]⟩
        · rw [if_neg (show ¬ bI true = 0 by decide), e33]
          unfold sp_end
          rw [hn, if_neg Bool.false_ne_true, hz, i1, i2, hi, hj, if_pos (show (false || (true && true)) = true from rfl)]
          exact ⟨_, rfl⟩
    · rw [if_neg (show ¬ bI true = 0 by decide), e33]
      unfold sp_end
      rw [hn, if_neg Bool.false_ne_true, hz, Bool.true_or, if_pos rfl]
      exact ⟨_, rfl⟩
  · rw [if_neg (show ¬ bI true = 0 by decide)]
    have hfm : ∀ Z, hx_fm (hx_xs σ Z) k = FM e f kd := fun Z => hF.2.2
    unfold sp_end
    rw [hn, if_pos rfl, hfm, FM_n]
    exact ⟨_, by rw [hself]⟩
