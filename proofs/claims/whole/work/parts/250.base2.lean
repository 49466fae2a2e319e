/-! Two systems side by side: a call of one leaves the other -/
theorem hx_app_l {D : va_G} {cl : List vw_C} {w0 wr : va_W} {H : Heap} (h : va_P D cl (w0 ++ wr) H) : va_P D cl w0 H := fun k q hk => h k q (by
  rw [List.getElem?_append_left (List.getElem?_eq_some_iff.mp hk).1]; exact hk)
theorem hx_app_r {D : va_G} {cl : List vw_C} {w0 wr : va_W} {H : Heap} (h : va_P D cl (w0 ++ wr) H) : va_P D cl wr H := fun k q hk => h (w0.length + k) q (by
  rw [List.getElem?_append_right (Nat.le_add_right _ _), Nat.add_sub_cancel_left]; exact hk)
theorem hx_in_l {w0 wr : va_W} {k : Nat} {q : Nat × va_E} (hk : w0[k]? = some q) : (w0 ++ wr)[k]? = some q := by
  rw [List.getElem?_append_left (List.getElem?_eq_some_iff.mp hk).1]; exact hk
theorem hx_in_r {w0 wr : va_W} {k : Nat} {q : Nat × va_E} (hk : wr[k]? = some q) : (w0 ++ wr)[w0.length + k]? = some q := by
  rw [List.getElem?_append_right (Nat.le_add_right _ _), Nat.add_sub_cancel_left]; exact hk
theorem hx_D_l {A : Nat → Prop} {w0 wr : va_W} (h : va_D A (w0 ++ wr)) : va_D A w0 := ⟨fun i j p q hi hj e => h.1 i j p q (hx_in_l hi) (hx_in_l hj) e, fun k q hk => h.2 k q (hx_in_l hk)⟩
theorem hx_D_r {A : Nat → Prop} {w0 wr : va_W} (h : va_D A (w0 ++ wr)) : va_D A wr := ⟨fun i j p q hi hj e => Nat.add_left_cancel (h.1 _ _ p q (hx_in_r hi) (hx_in_r hj) e), fun k q hk => h.2 _ q (hx_in_r hk)⟩
theorem hx_D_x {A : Nat → Prop} {w0 wr : va_W} (h : va_D A (w0 ++ wr)) : ∀ (i j : Nat) (p q : Nat × va_E), w0[i]? = some p → wr[j]? = some q → p.1 ≠ q.1 := by
  intro i j p q hi hj e
  have h1 := h.1 _ _ p q (hx_in_l hi) (hx_in_r hj) e
  have h2 : i < w0.length := (List.getElem?_eq_some_iff.mp hi).1
  omega
theorem hx_swapP {D : va_G} {cl : List vw_C} {w0 wr : va_W} {H : Heap} (h : va_P D cl (w0 ++ wr) H) : va_P D cl (wr ++ w0) H := (hx_app_r h).app (hx_app_l h)
theorem hx_swapD {A : Nat → Prop} {w0 wr : va_W} (h : va_D A (w0 ++ wr)) : va_D A (wr ++ w0) := va_D.app (hx_D_r h) (hx_D_l h) (fun i j p q hi hj e => hx_D_x h j i q p hj hi e.symm)
theorem hx_joinA {D : va_G} {A : Nat → Prop} {w0 w1 wr : va_W} {H H1 : Heap} (hP : va_P D vwCl (w0 ++ wr) H) (hD : va_D A (w0 ++ wr)) (hk1 : ∀ q : Nat, q < H.size → ¬ va_A w0 H.size q → H1[q]? = H[q]?) (hF : ∀ q, va_A w0 H.size q → A q) (hP1 : va_P D vwCl w1 H1) (hD1 : va_D (va_A w0 H.size) w1) : va_P D vwCl (w1 ++ wr) H1 ∧ va_D A (w1 ++ wr) := by
  have hout : ∀ (k : Nat) (q : Nat × va_E), wr[k]? = some q → q.1 < H.size ∧ ¬ va_A w0 H.size q.1 := by
    intro k q hk
    have hlt := (hx_app_r hP k q hk).lt
    refine ⟨hlt, ?_⟩
    rintro (⟨k2, x, hk2⟩ | hq)
    · exact hx_D_x hD k2 k (q.1, x) q hk2 hk rfl
    · omega
  refine ⟨hP1.app (fun k q hk => (hx_app_r hP k q hk).kept (hk1 q.1 (hout k q hk).1 (hout k q hk).2)), va_D.app (hD1.weaken (fun _ _ _ h => hF _ h)) (hx_D_r hD) (fun i j p q hi hj e => ?_)⟩
  exact (hout j q hj).2 (e ▸ hD1.2 i p hi)
section HXL
variable {p : Program} {l : Launch} {e : Env} {R : Room} {s : State} {m : MethodId} {args : Array Value} {below : List Frame} {meth : Method} {c : Code} {H : Heap} {locs : List Loc} {cells slots : Nat} {Q : State → Prop}
variable {pc : Nat} {ls : Array Slot} {rest st0 : List Value} {a : Array Value} {A : Nat → Prop} {H0 : Heap} {D : va_G} {tys : List (ClassId × FieldType)} {w0 w1 wr : va_W}
theorem hx_wiA {r0 : Int32} (hr : va_Run p l e R s m args below meth c H locs cells slots 0 0 (F0 m pc ls st0) rest (hx_Qi D tys (va_A w0 H.size) r0 w1 a) (va_A w0 H.size)) (hP : va_P D vwCl (w0 ++ wr) H) (hD : va_D A (w0 ++ wr)) (hS : va_S A H0 H locs) (hA : ∀ q, H0.size ≤ q → A q)
    (kk : ∀ (H1 : Heap) (locs1 : List Loc), va_P D vwCl (w1 ++ wr) H1 → va_D A (w1 ++ wr) → va_S A H0 H1 locs1 → W p l e R s m args below meth c H1 locs1 cells slots Q (F0 m (pc + 3) ls (.int r0 :: rest))) : W p l e R s m args below meth c H locs cells slots Q (F0 m pc ls st0) := by
  have hF := hx_free (hx_D_l hD) hS hA
  refine va_calli hr hS (fun q _ h => hF q h) hF (fun r u t H1 locs1 ht hvm hw hB hz1 hk1 hS1 => ?_)
  obtain ⟨hP1, hK1, hD1⟩ := hB
  rw [ht] at hP1
  rw [hw]
  obtain ⟨hP2, hD2⟩ := hx_joinA hP hD hk1 hF hP1 hD1
  exact kk H1 locs1 hP2 hD2 hS1
theorem hx_wjA {r0 : Int64} (hr : va_Run p l e R s m args below meth c H locs cells slots 0 0 (F0 m pc ls st0) rest (hx_Qj D tys (va_A w0 H.size) r0 w1 a) (va_A w0 H.size)) (hP : va_P D vwCl (w0 ++ wr) H) (hD : va_D A (w0 ++ wr)) (hS : va_S A H0 H locs) (hA : ∀ q, H0.size ≤ q → A q)
    (kk : ∀ (H1 : Heap) (locs1 : List Loc), va_P D vwCl (w1 ++ wr) H1 → va_D A (w1 ++ wr) → va_S A H0 H1 locs1 → W p l e R s m args below meth c H1 locs1 cells slots Q (F0 m (pc + 3) ls (.long r0 :: rest))) : W p l e R s m args below meth c H locs cells slots Q (F0 m pc ls st0) := by
  have hF := hx_free (hx_D_l hD) hS hA
  refine va_calll hr hS (fun q _ h => hF q h) hF (fun r u t H1 locs1 ht hvm hw hB hz1 hk1 hS1 => ?_)
  obtain ⟨hP1, hK1, hD1⟩ := hB
  rw [ht] at hP1
  rw [hw]
  obtain ⟨hP2, hD2⟩ := hx_joinA hP hD hk1 hF hP1 hD1
  exact kk H1 locs1 hP2 hD2 hS1
end HXL
