theorem pw_k {σ : hx_S} {τ : hm_S} {E F K : Nat → Nat} (h : hr_F σ τ E F K) {k p : Nat} (hk : k < 4) (hp : p < 2 ^ (E k + F k + 1)) : p < 4294967296 := pw_p (h k hk).1 hp
theorem sim_turn {σ : hx_S} {τ : hm_S} (hR : hr_R σ τ) (x1 x2 x3 x4 : Int32) : ∃ r σ1 τ1, f_X_turn σ x1 x2 x3 x4 = some (r, σ1) ∧ f_M_turn τ x1 x2 x3 x4 = some (r, τ1) ∧ hr_R σ1 τ1 := by
  have hR0 := hR
  obtain ⟨E, F, K, n, g, u, fl, st, S, sk, go, h1, h2, h3⟩ := hR
  have bad : ∀ (a : f_X_turn σ x1 x2 x3 x4 = some (-2, σ)) (b : f_M_turn τ x1 x2 x3 x4 = some (-2, τ)), ∃ r σ1 τ1, f_X_turn σ x1 x2 x3 x4 = some (r, σ1) ∧ f_M_turn τ x1 x2 x3 x4 = some (r, τ1) ∧ hr_R σ1 τ1 := fun a b => ⟨_, _, _, a, b, hR0⟩
  rcases a_form x1 with ⟨k, hk, rfl, a1, a2⟩ | ⟨a1, a2⟩
  · rcases a_form x3 with ⟨m, hm, rfl, b1, b2⟩ | ⟨b1, b2⟩
    · rcases a_way x4 with ⟨w, hw, rfl, c1, c2⟩ | ⟨c1, c2⟩
      · rcases a_pat h1 hk x2 with ⟨a, ha, rfl, p1, p2, p3⟩ | ⟨p1, p2⟩
        · obtain ⟨p, fl1, st1, σ2, τ2, q1, q2, q3, q4⟩ := AB_turned ⟨h1, h2, h3⟩ hk hm hw ha
          refine ⟨lN p, σ2, τ2, ?_, ?_, (hr_N.P ⟨h1, h2, h3⟩ q4).R⟩
          · rw [f_X_turn, p1, hx_b1_some, if_neg one_ne, b1, hx_b1_some, if_neg one_ne, c1, hx_b1_some, if_neg one_ne, hc4 hk, hc4 hm, hx_gn (hg4n hk), hx_gn (hg4n hm), q2, hx_b2_some, x_bits (pw_k h1 hm q1), hx_b1_some]
          · rw [f_M_turn, a2, hx_b1_some, if_neg one_ne, b2, hx_b1_some, if_neg one_ne, c2, hx_b1_some, if_neg one_ne, p2, hx_b1_some, if_neg one_ne, p3 τ (mF_of h1 hk), hx_b1_some, q3, hx_b2_some]
        · exact bad (by rw [f_X_turn, p1, hx_b1_some, if_pos rfl]) (by rw [f_M_turn, a2, hx_b1_some, if_neg one_ne, b2, hx_b1_some, if_neg one_ne, c2, hx_b1_some, if_neg one_ne, p2, hx_b1_some, if_pos rfl])
      · refine bad ?_ (by rw [f_M_turn, a2, hx_b1_some, if_neg one_ne, b2, hx_b1_some, if_neg one_ne, c2, hx_b1_some, if_pos rfl])
        rcases a_pat h1 hk x2 with ⟨a, ha, rfl, p1, p2, p3⟩ | ⟨p1, p2⟩
        · rw [f_X_turn, p1, hx_b1_some, if_neg one_ne, b1, hx_b1_some, if_neg one_ne, c1, hx_b1_some, if_pos rfl]
        · rw [f_X_turn, p1, hx_b1_some, if_pos rfl]
    · refine bad ?_ (by rw [f_M_turn, a2, hx_b1_some, if_neg one_ne, b2, hx_b1_some, if_pos rfl])
      rcases a_pat h1 hk x2 with ⟨a, ha, rfl, p1, p2, p3⟩ | ⟨p1, p2⟩
      · rw [f_X_turn, p1, hx_b1_some, if_neg one_ne, b1, hx_b1_some, if_pos rfl]
      · rw [f_X_turn, p1, hx_b1_some, if_pos rfl]
  · exact bad (by rw [f_X_turn, x_isPat0 a1, hx_b1_some, if_pos rfl]) (by rw [f_M_turn, a2, hx_b1_some, if_pos rfl])
/-- a format and a pattern of it, or what both sides say else -/
theorem a_fp {σ : hx_S} {τ : hm_S} {E F K : Nat → Nat} (h : hr_F σ τ E F K) (x a : Int32) : (∃ k, k < 4 ∧ x = nI k ∧ f_M_isFormat x = some 1 ∧ ((∃ u, u < 2 ^ (E k + F k + 1) ∧ a = nI u ∧ f_X_isPattern σ x a = some 1 ∧ f_M_isPattern τ x a = some 1 ∧ ∀ τ1, mF τ1 k (E k) (F k) (K k) → f_M_pattern τ1 x a = some (lN u)) ∨ (f_X_isPattern σ x a = some 0 ∧ f_M_isPattern τ x a = some 0))) ∨ (f_X_isPattern σ x a = some 0 ∧ f_M_isFormat x = some 0) := by
  rcases a_form x with ⟨k, hk, rfl, a1, a2⟩ | ⟨a1, a2⟩
  · exact Or.inl ⟨k, hk, rfl, a2, a_pat h hk a⟩
  · exact Or.inr ⟨x_isPat0 a1, a2⟩
theorem gate {β : Type} {A : Option Int32} {bad k : Option β} (hA : A = some 0 ∨ A = some 1) (h : A = some 1 → k = bad) : hx_b1 A (fun r => if r = 0 then bad else k) = bad := by
  rcases hA with e | e
  · rw [e, hx_b1_some, if_pos rfl]
  · rw [e, hx_b1_some, if_neg one_ne]; exact h e
theorem v_form (x : Int32) : (f_X_isFormat x = some 0 ∨ f_X_isFormat x = some 1) ∧ f_M_isFormat x = f_X_isFormat x := by
  rcases a_form x with ⟨k, hk, rfl, a1, a2⟩ | ⟨a1, a2⟩
  · exact ⟨Or.inr a1, by rw [a1, a2]⟩
  · exact ⟨Or.inl a1, by rw [a1, a2]⟩
theorem vm_form (x : Int32) : f_M_isFormat x = some 0 ∨ f_M_isFormat x = some 1 := by rw [(v_form x).2]; exact (v_form x).1
theorem v_way (x : Int32) : (f_X_isWay x = some 0 ∨ f_X_isWay x = some 1) ∧ f_M_isWay x = f_X_isWay x := by
  rcases a_way x with ⟨k, hk, rfl, a1, a2⟩ | ⟨a1, a2⟩
  · exact ⟨Or.inr a1, by rw [a1, a2]⟩
  · exact ⟨Or.inl a1, by rw [a1, a2]⟩
theorem vm_way (x : Int32) : f_M_isWay x = some 0 ∨ f_M_isWay x = some 1 := by rw [(v_way x).2]; exact (v_way x).1
theorem some01 : ¬ (some (0 : Int32) = some 1) := by decide
theorem e_form {x : Int32} (h : f_X_isFormat x = some 1) : ∃ k, k < 4 ∧ x = nI k ∧ f_M_isFormat x = some 1 := by
  rcases a_form x with ⟨k, hk, rfl, a1, a2⟩ | ⟨a1, a2⟩
  · exact ⟨k, hk, rfl, a2⟩
  · exact absurd (a1.symm.trans h) some01
theorem e_way {x : Int32} (h : f_X_isWay x = some 1) : ∃ w, w ≤ 5 ∧ x = nI w ∧ f_M_isWay x = some 1 := by
  rcases a_way x with ⟨k, hk, rfl, a1, a2⟩ | ⟨a1, a2⟩
  · exact ⟨k, hk, rfl, a2⟩
  · exact absurd (a1.symm.trans h) some01
theorem e_pat {σ : hx_S} {τ : hm_S} {E F K : Nat → Nat} (h : hr_F σ τ E F K) {x a : Int32} (hx : f_X_isPattern σ x a = some 1) : ∃ k, k < 4 ∧ x = nI k ∧ f_M_isFormat x = some 1 ∧ ∃ u, u < 2 ^ (E k + F k + 1) ∧ a = nI u ∧ f_M_isPattern τ x a = some 1 ∧ ∀ τ1, mF τ1 k (E k) (F k) (K k) → f_M_pattern τ1 x a = some (lN u) := by
  rcases a_fp h x a with ⟨k, hk, rfl, a2, ⟨v, v1, v2, v3, v4, v5⟩ | ⟨v3, v4⟩⟩ | ⟨a1, a2⟩
  · exact ⟨k, hk, rfl, a2, v, v1, v2, v4, v5⟩
  · exact absurd (v3.symm.trans hx) some01
  · exact absurd (a1.symm.trans hx) some01
theorem v_pat {σ : hx_S} {τ : hm_S} {E F K : Nat → Nat} (h : hr_F σ τ E F K) (x a : Int32) : (f_X_isPattern σ x a = some 0 ∨ f_X_isPattern σ x a = some 1) ∧ (f_M_isFormat x = some 1 → f_M_isPattern τ x a = f_X_isPattern σ x a) := by
  rcases a_fp h x a with ⟨k, hk, rfl, a2, ⟨v, v1, v2, v3, v4, v5⟩ | ⟨v3, v4⟩⟩ | ⟨a1, a2⟩
  · exact ⟨Or.inr v3, fun _ => by rw [v3, v4]⟩
  · exact ⟨Or.inl v3, fun _ => by rw [v3, v4]⟩
  · exact ⟨Or.inl a1, fun q => absurd (a2.symm.trans q) some01⟩
theorem vm_pat {σ : hx_S} {τ : hm_S} {E F K : Nat → Nat} (h : hr_F σ τ E F K) {x a : Int32} (q : f_M_isFormat x = some 1) : f_M_isPattern τ x a = some 0 ∨ f_M_isPattern τ x a = some 1 := by rw [(v_pat h x a).2 q]; exact (v_pat h x a).1
theorem tB_l1 {t : hT} (h : tB t) : ∀ s, s ∈ [t] → tB s := fun s hs => by rw [List.mem_singleton.mp hs]; exact h
theorem tB_l2 {t s : hT} (h : tB t) (k : tB s) : ∀ r, r ∈ [t, s] → tB r := fun r hr => by
  rcases List.mem_cons.mp hr with rfl | hr
  · exact h
  · rw [List.mem_singleton.mp hr]; exact k
