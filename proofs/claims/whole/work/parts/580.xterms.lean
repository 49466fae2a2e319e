/-! rows of terms -/
def tB (t : hT) : Prop := t.1 < 5 ∧ t.2.2.1 < 281474976710656 ∧ (t.1 = 0 → t.2.2.1 ≠ 0 → t.2.2.2 < 608)
theorem fold_add {g : hT → Nat} : ∀ (ts : List hT) (a : Nat), ts.foldl (fun a t => a + g t) a = a + ts.foldl (fun a t => a + g t) 0
  | [], a => rfl
  | t :: ts, a => by
    show ts.foldl (fun a t => a + g t) (a + g t) = a + ts.foldl (fun a t => a + g t) (0 + g t)
    rw [fold_add ts (a + g t), fold_add ts (0 + g t)]; omega
theorem fold_addI {g : hT → Int} : ∀ (ts : List hT) (a : Int), ts.foldl (fun a t => a + g t) a = a + ts.foldl (fun a t => a + g t) 0
  | [], a => by show a = a + 0; omega
  | t :: ts, a => by
    show ts.foldl (fun a t => a + g t) (a + g t) = a + ts.foldl (fun a t => a + g t) (0 + g t)
    rw [fold_addI ts (a + g t), fold_addI ts (0 + g t)]; omega
theorem cC_cons (t : hT) (ts : List hT) : cC (t :: ts) = (if t.1 = 0 ∧ t.2.2.1 ≠ 0 then 1 else 0) + cC ts := by
  show ts.foldl (fun a t => a + if t.1 = 0 ∧ t.2.2.1 ≠ 0 then 1 else 0) (0 + if t.1 = 0 ∧ t.2.2.1 ≠ 0 then 1 else 0) = _
  rw [fold_add (g := fun t => if t.1 = 0 ∧ t.2.2.1 ≠ 0 then 1 else 0), Nat.zero_add]; rfl
theorem tV_cons (t : hT) (ts : List hT) : tV (t :: ts) = tv t + tV ts := by
  show ts.foldl (fun a t => a + tv t) (0 + tv t) = _
  rw [fold_addI (g := tv), Int.zero_add]; rfl
def kT : Int := 2 ^ 656
theorem tv_bd {t : hT} (h : tB t) : -kT ≤ tv t ∧ tv t ≤ kT := by
  obtain ⟨k, b, m, pl⟩ := t
  obtain ⟨_, h2, h3⟩ := h
  dsimp only at h2 h3
  have hk : (0 : Int) ≤ kT := Int.pow_nonneg (by decide)
  by_cases c : k = 0
  · have : (m : Int) * 2 ^ pl ≤ kT ∧ 0 ≤ (m : Int) * 2 ^ pl := by
      by_cases m0 : m = 0
      · subst m0; simp; exact hk
      · have hp := h3 c m0
        have e1 : (m : Int) * 2 ^ pl = ((m * 2 ^ pl : Nat) : Int) := by rw [Int.natCast_mul, Int.natCast_pow]; rfl
        have e2 : kT = ((2 ^ 48 * 2 ^ 608 : Nat) : Int) := by unfold kT; rw [← Nat.pow_add, Int.natCast_pow]; rfl
        have e3 : m * 2 ^ pl ≤ 2 ^ 48 * 2 ^ 608 := Nat.mul_le_mul (by omega) (Nat.pow_le_pow_right (by decide) (by omega))
        rw [e1, e2]
        exact ⟨Int.ofNat_le.mpr e3, Int.natCast_nonneg _⟩
    unfold tv
    dsimp only
    rw [if_pos c]
    generalize (m : Int) * 2 ^ pl = v at *
    cases b
    · rw [if_neg Bool.false_ne_true]; omega
    · rw [if_pos rfl]; omega
  · unfold tv
    dsimp only
    rw [if_neg c]; omega
theorem tV_bd : ∀ {ts : List hT}, (∀ t, t ∈ ts → tB t) → -((ts.length : Int) * kT) ≤ tV ts ∧ tV ts ≤ (ts.length : Int) * kT
  | [], _ => by show -((0 : Int) * kT) ≤ 0 ∧ (0 : Int) ≤ 0 * kT; rw [Int.zero_mul]; omega
  | t :: ts, h => by
    have h1 := tv_bd (h t (List.mem_cons_self ..))
    have h2 := tV_bd (ts := ts) (fun s hs => h s (List.mem_cons_of_mem _ hs))
    rw [tV_cons, List.length_cons, Int.natCast_add, Int.add_mul]
    show -((ts.length : Int) * kT + 1 * kT) ≤ _ ∧ _ ≤ (ts.length : Int) * kT + 1 * kT
    rw [Int.one_mul]
    generalize (ts.length : Int) * kT = z at *
    omega
theorem ht_inf : ∀ {ts : List hT}, (∀ t, t ∈ ts → tB t) → ht_nan ts = false → ht_wr ts = false → ht_ab ts = cI false ts ∧ ht_be ts = cI true ts
  | [], _, _, _ => ⟨rfl, rfl⟩
  | (k, b, m, pl) :: ts, h, hn, hw => by
    have h1 : k < 5 := (h (k, b, m, pl) (List.mem_cons_self ..)).1
    have n1 : (kn k || ht_nan ts) = false := hn
    have w1 : ((k == 3) || ht_wr ts) = false := hw
    rw [Bool.or_eq_false_iff] at n1 w1
    obtain ⟨i1, i2⟩ := ht_inf (ts := ts) (fun s hs => h s (List.mem_cons_of_mem _ hs)) n1.2 w1.2
    show (((ki k && !b) || ht_ab ts) = ((k == 1 && (b == false)) || cI false ts)) ∧ (((ki k && b) || ht_be ts) = ((k == 1 && (b == true)) || cI true ts))
    rw [i1, i2]
    have n2 := n1.1
    have w2 := w1.1
    rcases (show k = 0 ∨ k = 1 ∨ k = 2 ∨ k = 3 ∨ k = 4 by omega) with rfl | rfl | rfl | rfl | rfl
    · exact ⟨rfl, rfl⟩
    · cases b <;> exact ⟨rfl, rfl⟩
    · exact absurd n2 (by decide)
    · exact absurd w2 (by decide)
    · exact absurd n2 (by decide)
theorem ht_num : ∀ {ts : List hT}, (∀ t, t ∈ ts → tB t) → ht_nan ts = false → ht_wr ts = false → cI false ts = false → cI true ts = false → ht_pl ts = cS false ts ∧ ht_mi ts = cS true ts ∧ ht_az ts = decide (cC ts = 0)
  | [], _, _, _, _, _ => ⟨rfl, rfl, rfl⟩
  | (k, b, m, pl) :: ts, h, hn, hw, ha, hb => by
    have h1 : k < 5 := (h (k, b, m, pl) (List.mem_cons_self ..)).1
    have n1 : (kn k || ht_nan ts) = false := hn
    have w1 : ((k == 3) || ht_wr ts) = false := hw
    have a1 : ((k == 1 && (b == false)) || cI false ts) = false := ha
    have b1 : ((k == 1 && (b == true)) || cI true ts) = false := hb
    rw [Bool.or_eq_false_iff] at n1 w1 a1 b1
    obtain ⟨i1, i2, i3⟩ := ht_num (ts := ts) (fun s hs => h s (List.mem_cons_of_mem _ hs)) n1.2 w1.2 a1.2 b1.2
    have hk : k = 0 := by
      have n2 := n1.1
      have w2 := w1.1
      have a2 := a1.1
      have b2 := b1.1
      rcases (show k = 0 ∨ k = 1 ∨ k = 2 ∨ k = 3 ∨ k = 4 by omega) with rfl | rfl | rfl | rfl | rfl
      · rfl
      · cases b
        · exact absurd a2 (by decide)
        · exact absurd b2 (by decide)
      · exact absurd n2 (by decide)
      · exact absurd w2 (by decide)
      · exact absurd n2 (by decide)
    subst hk
    rw [cC_cons]
    show ((!b || ht_pl ts) = ((0 == 0 && (b == false)) || cS false ts)) ∧ ((b || ht_mi ts) = ((0 == 0 && (b == true)) || cS true ts)) ∧ ((!ki 0 && decide (m = 0)) && ht_az ts) = _
    rw [i1, i2, i3]
    refine ⟨by cases b <;> rfl, by cases b <;> rfl, ?_⟩
    show (true && decide (m = 0) && decide (cC ts = 0)) = decide ((if 0 = 0 ∧ m ≠ 0 then 1 else 0) + cC ts = 0)
    by_cases c : m = 0
    · subst c; simp
    · rw [if_pos ⟨rfl, c⟩, decide_eq_false c]; simp
