/-! Terms: kind (0 a number, 1 infinite, 2 no number, 3 zero times infinite), below, whole number, place -/
abbrev hT : Type := Nat × Bool × Nat × Nat
/-- 4: no number, one of its factors infinite -/
def kn (k : Nat) : Bool := k == 2 || k == 4
def ki (k : Nat) : Bool := k == 1 || (k == 3 || k == 4)
def ht_nan (ts : List hT) : Bool := ts.any (fun t => kn t.1)
def ht_wr (ts : List hT) : Bool := ts.any (fun t => t.1 == 3)
def ht_ab (ts : List hT) : Bool := ts.any (fun t => ki t.1 && !t.2.1)
def ht_be (ts : List hT) : Bool := ts.any (fun t => ki t.1 && t.2.1)
def ht_pl (ts : List hT) : Bool := ts.any (fun t => !t.2.1)
def ht_mi (ts : List hT) : Bool := ts.any (fun t => t.2.1)
def ht_az (ts : List hT) : Bool := ts.all (fun t => !ki t.1 && decide (t.2.2.1 = 0))
def tv (t : hT) : Int := if t.1 = 0 then (if t.2.1 then -1 else 1) * ((t.2.2.1 : Int) * 2 ^ t.2.2.2) else 0
def tV (ts : List hT) : Int := ts.foldl (fun a t => a + tv t) 0
theorem tV_app (ts : List hT) (t : hT) : tV (ts ++ [t]) = tV ts + tv t := by unfold tV; rw [List.foldl_append]; rfl
def mA (τ : hm_S) (ts : List hT) : Prop := hm_hasNan τ = bI (ht_nan ts) ∧ hm_isWrong τ = bI (ht_wr ts) ∧ hm_hasAbove τ = bI (ht_ab ts) ∧ hm_hasBelow τ = bI (ht_be ts) ∧ hm_hasPlus τ = bI (ht_pl ts) ∧ hm_hasMinus τ = bI (ht_mi ts) ∧ hm_allZero τ = bI (ht_az ts) ∧ hm_terms τ = nI ts.length ∧ mV (hm_limb τ) (tV ts)
/-- what a sum of terms leaves as it is -/
def hm_same (τ τ1 : hm_S) : Prop := ∃ F t n w a b z p m, τ1 = hm_aset τ F t n w a b z p m
theorem hm_same.trans {a b c : hm_S} (h1 : hm_same a b) (h2 : hm_same b c) : hm_same a c := by
  obtain ⟨F, t, n, w, x, y, z, p, m, rfl⟩ := h1
  obtain ⟨F, t, n, w, x, y, z, p, m, rfl⟩ := h2
  exact ⟨F, t, n, w, x, y, z, p, m, rfl⟩
theorem hm_same.rf (a : hm_S) : hm_same a a := ⟨_, _, _, _, _, _, _, _, _, rfl⟩
theorem mF.same {τ τ1 : hm_S} {k e f kd : Nat} (h : mF τ k e f kd) (hs : hm_same τ τ1) : mF τ1 k e f kd := by
  obtain ⟨F, t, n, w, x, y, z, p, m, rfl⟩ := hs
  exact h
set_option maxHeartbeats 400000 in
theorem m_tx_a (fE fF fK rF rM : Nat → Int32) (row limb tree : Nat → Int64) (fl : Int32) (sta : Int64) (sS sk gr te n0 w0 z0 p0 m0 a0 b0 : Int32) (P M bl : Bool) (inf X : Int32) (Y : Int64) : f_M_term (fE, fF, fK, rF, rM, row, limb, tree, fl, sta, sS, sk, gr, te, n0, w0, a0, b0, z0, bI P, bI M) (bI bl) inf Y X = f_M_term_47 (fE, fF, fK, rF, rM, row, limb, tree, fl, sta, sS, sk, gr, te + 1, n0, w0, a0, b0, z0, bI (P || !bl), bI M) (bI bl) inf Y X (bI (M || bl)) := by
  cases P <;> cases M <;> cases bl <;> rfl
theorem m_tx_inf (fE fF fK rF rM : Nat → Int32) (row limb tree : Nat → Int64) (fl : Int32) (sta : Int64) (sS sk gr te n0 w0 z0 p0 m0 a0 b0 : Int32) (A B bl mm : Bool) (X : Int32) (Y : Int64) : f_M_term_47 (fE, fF, fK, rF, rM, row, limb, tree, fl, sta, sS, sk, gr, te, n0, w0, bI A, bI B, z0, p0, m0) (bI bl) (bI true) Y X (bI mm) = some (fE, fF, fK, rF, rM, row, limb, tree, fl, sta, sS, sk, gr, te, n0, w0, bI (A || !bl), bI (B || bl), 0, p0, bI mm) := by
  cases A <;> cases B <;> cases bl <;> cases mm <;> rfl
theorem m_tx_fin (fE fF fK rF rM : Nat → Int32) (row limb tree : Nat → Int64) (fl : Int32) (sta : Int64) (sS sk gr te n0 w0 z0 p0 m0 a0 b0 : Int32) {V : Int} (hV : mV limb V) (bl mm Z : Bool) {w place : Nat} (hw : w < 281474976710656) (hp : place < 676) :
    ∃ F, f_M_term_47 (fE, fF, fK, rF, rM, row, limb, tree, fl, sta, sS, sk, gr, te, n0, w0, a0, b0, bI Z, p0, m0) (bI bl) (bI false) (lN w) (iI ((place : Int) - 352)) (bI mm) = some (fE, fF, fK, rF, rM, row, F, tree, fl, sta, sS, sk, gr, te, n0, w0, a0, b0, bI (Z && decide (w = 0)), p0, bI mm) ∧ mV F (V + (if bl then -1 else 1) * ((w : Int) * 2 ^ place)) := by
  have e1 : iI ((place : Int) - 352) - (-352 : Int32) = nI place := by
    rw [show (-352 : Int32) = iI (-352) from rfl, iI_sub, nI_i]; congr 1; omega
  have e0 : (bI false = 0) = True := eq_true rfl
  have e2 : (bI mm = 0 ∨ bI mm = 1) = True := eq_true (bI_or mm)
  simp only [f_M_term_47, e0, e1, e2, if_true, hx_n_eq, c_eq0 (a := w) (by omega)]
  by_cases c : w = 0
  · refine ⟨limb, ?_, ?_⟩
    · rw [if_pos c, decide_eq_true c, Bool.and_true]; rfl
    · rw [c]; simpa using hV
  · obtain ⟨F, h1, h2⟩ := m_put2 (τ := (fE, fF, fK, rF, rM, row, limb, tree, fl, sta, sS, sk, gr, te, n0, w0, a0, b0, 0, p0, bI mm)) hV bl hw hp
    refine ⟨F, ?_, h2⟩
    have h1 : hx_b1 (f_M_put (fE, fF, fK, rF, rM, row, limb, tree, fl, sta, sS, sk, gr, te, n0, w0, a0, b0, 0, p0, bI mm) (lN w &&& (16777215 : Int64)) (nI place) (bI bl)) (fun q34 => hx_b1 (f_M_put q34 (lN w >>> ((24 : Int32).toInt64 &&& 63)) (nI place + (24 : Int32)) (bI bl)) (fun q35 => some q35)) = some (fE, fF, fK, rF, rM, row, F, tree, fl, sta, sS, sk, gr, te, n0, w0, a0, b0, 0, p0, bI mm) := h1
    rw [if_neg c, decide_eq_false c, Bool.and_false]
    exact h1
def ht_st (bl inf nn ww : Bool) (ts : List hT) (w place : Nat) (τ τ1 : hm_S) : Prop := hm_same τ τ1 ∧ hm_hasNan τ1 = bI nn ∧ hm_isWrong τ1 = bI ww ∧ hm_hasAbove τ1 = bI (ht_ab ts || (inf && !bl)) ∧ hm_hasBelow τ1 = bI (ht_be ts || (inf && bl)) ∧ hm_hasPlus τ1 = bI (ht_pl ts || !bl) ∧ hm_hasMinus τ1 = bI (ht_mi ts || bl) ∧ hm_allZero τ1 = bI (ht_az ts && (!inf && decide (w = 0))) ∧ hm_terms τ1 = nI (ts.length + 1) ∧ mV (hm_limb τ1) (tV ts + if inf then 0 else (if bl then -1 else 1) * ((w : Int) * 2 ^ place))
set_option maxHeartbeats 400000 in
theorem m_tm (fE fF fK rF rM : Nat → Int32) (row limb tree : Nat → Int64) (fl : Int32) (sta : Int64) (sS sk gr te : Int32) (ts : List hT) (hte : te = nI ts.length) (hV : mV limb (tV ts)) (bl inf nn ww : Bool) {w place : Nat} (hw : w < 281474976710656) (hp : place < 676) (n0 w0 : Int32) :
    ∃ τ1, f_M_term (fE, fF, fK, rF, rM, row, limb, tree, fl, sta, sS, sk, gr, te, bI nn, bI ww, bI (ht_ab ts), bI (ht_be ts), bI (ht_az ts), bI (ht_pl ts), bI (ht_mi ts)) (bI bl) (bI inf) (lN w) (iI ((place : Int) - 352)) = some τ1 ∧ ht_st bl inf nn ww ts w place (fE, fF, fK, rF, rM, row, limb, tree, fl, sta, sS, sk, gr, te, n0, w0, bI (ht_ab ts), bI (ht_be ts), bI (ht_az ts), bI (ht_pl ts), bI (ht_mi ts)) τ1 := by
  have e1 := m_tx_a fE fF fK rF rM row limb tree fl sta sS sk gr te (bI nn) (bI ww) (bI (ht_az ts)) 0 0 (bI (ht_ab ts)) (bI (ht_be ts)) (ht_pl ts) (ht_mi ts) bl (bI inf) (iI ((place : Int) - 352)) (lN w)
  have ht : te + 1 = nI (ts.length + 1) := by rw [hte, nI_p1]
  generalize te + 1 = te1 at e1 ht
  generalize hAB : ht_ab ts = AB at e1 ⊢
  generalize hBE : ht_be ts = BE at e1 ⊢
  generalize hAZ : ht_az ts = AZ at e1 ⊢
  generalize hPL : ht_pl ts = PL at e1 ⊢
  generalize hMI : ht_mi ts = MI at e1 ⊢
  cases inf with
  | true =>
    have e2 := m_tx_inf fE fF fK rF rM row limb tree fl sta sS sk gr te1 (bI nn) (bI ww) (bI AZ) (bI (PL || !bl)) (bI MI) 0 0 AB BE bl (MI || bl) (iI ((place : Int) - 352)) (lN w)
    refine ⟨_, e1.trans e2, ?_⟩
    unfold ht_st
    rw [hAB, hBE, hAZ, hPL, hMI]
    refine ⟨⟨limb, te1, bI nn, bI ww, bI (AB || !bl), bI (BE || bl), 0, bI (PL || !bl), bI (MI || bl), rfl⟩, rfl, rfl, ?_, ?_, rfl, rfl, ?_, ht, ?_⟩
    · rw [Bool.true_and]; rfl
    · rw [Bool.true_and]; rfl
    · rw [Bool.not_true, Bool.false_and, Bool.and_false]; rfl
    · rw [if_pos rfl, Int.add_zero]; exact hV
  | false =>
    obtain ⟨F, e2, e3⟩ := m_tx_fin fE fF fK rF rM row limb tree fl sta sS sk gr te1 (bI nn) (bI ww) 0 (bI (PL || !bl)) (bI MI) (bI AB) (bI BE) hV bl (MI || bl) AZ hw hp
    refine ⟨_, e1.trans e2, ?_⟩
    unfold ht_st
    rw [hAB, hBE, hAZ, hPL, hMI]
    refine ⟨⟨F, te1, bI nn, bI ww, bI AB, bI BE, bI (AZ && decide (w = 0)), bI (PL || !bl), bI (MI || bl), rfl⟩, rfl, rfl, ?_, ?_, rfl, rfl, ?_, ht, ?_⟩
    · rw [Bool.false_and, Bool.or_false]; rfl
    · rw [Bool.false_and, Bool.or_false]; rfl
    · rw [Bool.not_false, Bool.true_and]; rfl
    · rw [if_neg Bool.false_ne_true]; exact e3
