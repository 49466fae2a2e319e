def cI (b : Bool) (ts : List hT) : Bool := ts.any (fun t => t.1 == 1 && (t.2.1 == b))
def cS (b : Bool) (ts : List hT) : Bool := ts.any (fun t => t.1 == 0 && (t.2.1 == b))
def cC (ts : List hT) : Nat := ts.foldl (fun a t => a + if t.1 = 0 ∧ t.2.2.1 ≠ 0 then 1 else 0) 0
theorem cC_app (ts : List hT) (t : hT) : cC (ts ++ [t]) = cC ts + if t.1 = 0 ∧ t.2.2.1 ≠ 0 then 1 else 0 := by unfold cC; rw [List.foldl_append]; rfl
theorem cI_app (b : Bool) (ts : List hT) (t : hT) : cI b (ts ++ [t]) = (cI b ts || (t.1 == 1 && (t.2.1 == b))) := by simp [cI, List.any_append]
theorem cS_app (b : Bool) (ts : List hT) (t : hT) : cS b (ts ++ [t]) = (cS b ts || (t.1 == 0 && (t.2.1 == b))) := by simp [cS, List.any_append]
theorem nan_app (ts : List hT) (t : hT) : ht_nan (ts ++ [t]) = (ht_nan ts || kn t.1) := by simp [ht_nan, List.any_append]
theorem wr_app (ts : List hT) (t : hT) : ht_wr (ts ++ [t]) = (ht_wr ts || t.1 == 3) := by simp [ht_wr, List.any_append]
def cX (X : hx_Ex) (ts : List hT) : Prop := X.1 = bI (ht_nan ts) ∧ X.2.1 = bI (ht_wr ts) ∧ X.2.2.1 = bI (cI false ts) ∧ X.2.2.2.1 = bI (cI true ts) ∧ X.2.2.2.2.1 = bI (cS false ts) ∧ X.2.2.2.2.2.1 = bI (cS true ts) ∧ X.2.2.2.2.2.2.1 = nI (cC ts) ∧ X.2.2.2.2.2.2.2.2.2.2.1 = 0 ∧ cC ts ≤ ts.length ∧ cV (cC ts) X.2.2.2.2.2.2.2.1 X.2.2.2.2.2.2.2.2.1 X.2.2.2.2.2.2.2.2.2.1 X.2.2.2.2.2.2.2.2.2.2.2 (tV ts)
theorem x_begin (σ : hx_S) : ∃ Y, f_E_begin σ = some (hx_xs σ Y) ∧ cX Y [] := ⟨(0, 0, 0, 0, 0, 0, 0, 0, 0, 0, 0, hx_ex_limbs σ), rfl, rfl, rfl, rfl, rfl, rfl, rfl, rfl, rfl, Nat.le_refl 0, fun _ => ⟨rfl, rfl⟩, fun q => by have : cC [] = 0 := rfl; omega, fun q => by have : cC [] = 0 := rfl; omega⟩
theorem x_addFinite (σ : hx_S) {X : hx_Ex} {ts : List hT} (h : cX X ts) (hl : ts.length < 250) (b : Bool) {m pl : Nat} {p : Int32} (hm : m < 281474976710656) (hp : m ≠ 0 → p = iI ((pl : Int) - 352) ∧ 32 ≤ pl ∧ pl < 608) :
    ∃ Y, f_E_addFinite (hx_xs σ X) (bI b) (lN m) p = some (hx_xs σ Y) ∧ cX Y (ts ++ [(0, b, m, pl)]) := by
  obtain ⟨n, z, pi, mi, ps, ms, c, ng, wh, pw, mo, L⟩ := X
  obtain ⟨h1, h2, h3, h4, h5, h6, h7, h8, h9, h10⟩ := h
  dsimp only at h1 h2 h3 h4 h5 h6 h7 h8 h10
  subst h1 h2 h3 h4 h5 h6 h7 h8
  have ec : cC (ts ++ [(0, b, m, pl)]) = cC ts + if m ≠ 0 then 1 else 0 := by
    rw [cC_app]; simp
  have ev : tV (ts ++ [(0, b, m, pl)]) = tV ts + sgm b m pl := by rw [tV_app]; rfl
  have el : cC ts + (if m ≠ 0 then 1 else 0) ≤ (ts ++ [((0 : Nat), b, m, pl)]).length := by
    rw [List.length_append, List.length_singleton]; split <;> omega
  have n1 : ht_nan (ts ++ [(0, b, m, pl)]) = ht_nan ts := by rw [nan_app]; exact Bool.or_false _
  have n2 : ht_wr (ts ++ [(0, b, m, pl)]) = ht_wr ts := by rw [wr_app]; exact Bool.or_false _
  have n3 : ∀ s, cI s (ts ++ [(0, b, m, pl)]) = cI s ts := fun s => by rw [cI_app]; exact Bool.or_false _
  cases b
  · obtain ⟨ng', wh', pw', L', r1, r2⟩ := x_af17 σ (bI (ht_nan ts)) (bI (ht_wr ts)) (bI (cI false ts)) (bI (cI true ts)) 1 (bI (cS true ts)) (show cC ts < 250 by omega) h10 false hm hp
    refine ⟨(bI (ht_nan ts), bI (ht_wr ts), bI (cI false ts), bI (cI true ts), 1, bI (cS true ts), nI (cC ts + if m ≠ 0 then 1 else 0), ng', wh', pw', 0, L'), ?_, ?_, ?_, ?_, ?_, ?_, ?_, ?_, ?_, ?_, ?_⟩
    · rw [f_E_addFinite, if_pos (show bI false = 0 from rfl)]; exact r1
    · rw [n1]
    · rw [n2]
    · rw [n3]
    · rw [n3]
    · rw [cS_app]; show (1 : Int32) = bI (cS false ts || true); rw [Bool.or_true]; rfl
    · rw [cS_app]; show bI (cS true ts) = bI (cS true ts || false); rw [Bool.or_false]
    · rw [ec]
    · rfl
    · rw [ec]; exact el
    · rw [ec, ev]; exact r2
  · obtain ⟨ng', wh', pw', L', r1, r2⟩ := x_af17 σ (bI (ht_nan ts)) (bI (ht_wr ts)) (bI (cI false ts)) (bI (cI true ts)) (bI (cS false ts)) 1 (show cC ts < 250 by omega) h10 true hm hp
    refine ⟨(bI (ht_nan ts), bI (ht_wr ts), bI (cI false ts), bI (cI true ts), bI (cS false ts), 1, nI (cC ts + if m ≠ 0 then 1 else 0), ng', wh', pw', 0, L'), ?_, ?_, ?_, ?_, ?_, ?_, ?_, ?_, ?_, ?_, ?_⟩
    · rw [f_E_addFinite, if_neg (show ¬ bI true = 0 by decide)]; exact r1
    · rw [n1]
    · rw [n2]
    · rw [n3]
    · rw [n3]
    · rw [cS_app]; show bI (cS false ts) = bI (cS false ts || false); rw [Bool.or_false]
    · rw [cS_app]; show (1 : Int32) = bI (cS true ts || true); rw [Bool.or_true]; rfl
    · rw [ec]
    · rfl
    · rw [ec]; exact el
    · rw [ec, ev]; exact r2
/-- a term that is no number: only a flag changes -/
theorem cX_flag {n z pi mi ps ms c ng : Int32} {wh : Int64} {pw mo : Int32} {L : Nat → Int64} {ts : List hT} (h : cX (n, z, pi, mi, ps, ms, c, ng, wh, pw, mo, L) ts) (t : hT) (hk : t.1 ≠ 0) (n' z' pi' mi' : Int32) (h1 : n' = bI (ht_nan ts || kn t.1)) (h2 : z' = bI (ht_wr ts || t.1 == 3)) (h3 : pi' = bI (cI false ts || (t.1 == 1 && (t.2.1 == false)))) (h4 : mi' = bI (cI true ts || (t.1 == 1 && (t.2.1 == true)))) : cX (n', z', pi', mi', ps, ms, c, ng, wh, pw, mo, L) (ts ++ [t]) := by
  obtain ⟨_, _, _, _, g5, g6, g7, g8, g9, g10⟩ := h
  have ec : cC (ts ++ [t]) = cC ts := by rw [cC_app, if_neg (fun q => hk q.1)]; rfl
  have ev : tV (ts ++ [t]) = tV ts := by rw [tV_app]; unfold tv; rw [if_neg hk, Int.add_zero]
  have es : ∀ s, cS s (ts ++ [t]) = cS s ts := fun s => by rw [cS_app, show (t.1 == 0) = false from beq_eq_false_iff_ne.mpr hk, Bool.false_and, Bool.or_false]
  refine ⟨?_, ?_, ?_, ?_, ?_, ?_, ?_, g8, ?_, ?_⟩
  · rw [nan_app]; exact h1
  · rw [wr_app]; exact h2
  · rw [cI_app]; exact h3
  · rw [cI_app]; exact h4
  · rw [es]; exact g5
  · rw [es]; exact g6
  · rw [ec]; exact g7
  · rw [ec, List.length_append]; omega
  · rw [ec, ev]; exact g10
theorem x_note (σ : hx_S) {X : hx_Ex} {ts : List hT} (h : cX X ts) (b : Bool) (m pl : Nat) : ∃ Y, f_E_noteInfinite (hx_xs σ X) (bI b) = some (hx_xs σ Y) ∧ cX Y (ts ++ [(1, b, m, pl)]) := by
  obtain ⟨n, z, pi, mi, ps, ms, c, ng, wh, pw, mo, L⟩ := X
  obtain ⟨h1, h2, h3, h4, _⟩ := id h
  dsimp only at h1 h2 h3 h4
  cases b
  · refine ⟨(n, z, 1, mi, ps, ms, c, ng, wh, pw, mo, L), ?_, cX_flag h _ (show (1 : Nat) ≠ 0 by decide) _ _ _ _ ?_ ?_ ?_ ?_⟩
    · rw [f_E_noteInfinite, if_pos (show bI false = 0 from rfl)]; rfl
    · rw [h1]; show _ = bI (_ || false); rw [Bool.or_false]
    · rw [h2]; show _ = bI (_ || false); rw [Bool.or_false]
    · show _ = bI (_ || true); rw [Bool.or_true]; rfl
    · rw [h4]; show _ = bI (_ || false); rw [Bool.or_false]
  · refine ⟨(n, z, pi, 1, ps, ms, c, ng, wh, pw, mo, L), ?_, cX_flag h _ (show (1 : Nat) ≠ 0 by decide) _ _ _ _ ?_ ?_ ?_ ?_⟩
    · rw [f_E_noteInfinite, if_neg (show ¬ bI true = 0 by decide)]; rfl
    · rw [h1]; show _ = bI (_ || false); rw [Bool.or_false]
    · rw [h2]; show _ = bI (_ || false); rw [Bool.or_false]
    · rw [h3]; show _ = bI (_ || false); rw [Bool.or_false]
    · show _ = bI (_ || true); rw [Bool.or_true]; rfl
theorem x_nanT (σ : hx_S) {X : hx_Ex} {ts : List hT} (h : cX X ts) (k : Nat) (hk : k = 2 ∨ k = 4) (b : Bool) (m pl : Nat) : ∃ Y, hx_ex_hasNan_s (hx_xs σ X) 1 = hx_xs σ Y ∧ cX Y (ts ++ [(k, b, m, pl)]) := by
  obtain ⟨n, z, pi, mi, ps, ms, c, ng, wh, pw, mo, L⟩ := X
  obtain ⟨h1, h2, h3, h4, _⟩ := id h
  dsimp only at h1 h2 h3 h4
  refine ⟨(1, z, pi, mi, ps, ms, c, ng, wh, pw, mo, L), rfl, cX_flag h _ (show k ≠ 0 by omega) _ _ _ _ ?_ ?_ ?_ ?_⟩
  · rcases hk with rfl | rfl <;> (show _ = bI (_ || true); rw [Bool.or_true]; rfl)
  · rw [h2]; rcases hk with rfl | rfl <;> (show _ = bI (_ || false); rw [Bool.or_false])
  · rw [h3]; rcases hk with rfl | rfl <;> (show _ = bI (_ || false); rw [Bool.or_false])
  · rw [h4]; rcases hk with rfl | rfl <;> (show _ = bI (_ || false); rw [Bool.or_false])
theorem x_wrT (σ : hx_S) {X : hx_Ex} {ts : List hT} (h : cX X ts) (b : Bool) (m pl : Nat) : ∃ Y, hx_ex_zeroTimesInfinite_s (hx_xs σ X) 1 = hx_xs σ Y ∧ cX Y (ts ++ [(3, b, m, pl)]) := by
  obtain ⟨n, z, pi, mi, ps, ms, c, ng, wh, pw, mo, L⟩ := X
  obtain ⟨h1, h2, h3, h4, _⟩ := id h
  dsimp only at h1 h2 h3 h4
  refine ⟨(n, 1, pi, mi, ps, ms, c, ng, wh, pw, mo, L), rfl, cX_flag h _ (show (3 : Nat) ≠ 0 by decide) _ _ _ _ ?_ ?_ ?_ ?_⟩
  · rw [h1]; show _ = bI (_ || false); rw [Bool.or_false]
  · show _ = bI (_ || true); rw [Bool.or_true]; rfl
  · rw [h3]; show _ = bI (_ || false); rw [Bool.or_false]
  · rw [h4]; show _ = bI (_ || false); rw [Bool.or_false]
