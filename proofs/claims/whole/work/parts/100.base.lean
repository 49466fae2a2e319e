/-! What the pure functions are made of -/
def hx_n {α β : Type} (e : α) (k : α → Option β) : Option β := k e
theorem hx_ns {α β : Type} {x e : α} {k : α → Option β} {r : β} (hx : x = e) (h : hx_n e k = some r) : k x = some r := by rw [hx]; exact h
def hx_b1 {α β : Type} (o : Option α) (k : α → Option β) : Option β := match o with
  | none => none
  | some a => k a
theorem hx_b1s {α β : Type} {o : Option α} {k : α → Option β} {r : β} (h : hx_b1 o k = some r) : ∃ a, o = some a ∧ k a = some r := by
  cases o with
  | none => cases h
  | some a => exact ⟨a, rfl, h⟩
def hx_b2 {α γ β : Type} (o : Option (α × γ)) (k : α → γ → Option β) : Option β := match o with
  | none => none
  | some q => k q.1 q.2
theorem hx_b2s {α γ β : Type} {o : Option (α × γ)} {k : α → γ → Option β} {r : β} (h : hx_b2 o k = some r) : ∃ a q, o = some (a, q) ∧ k a q = some r := by
  cases o with
  | none => cases h
  | some a => exact ⟨a.1, a.2, rfl, h⟩
theorem hx_ip {c : Prop} {inst : Decidable c} {β : Type} {a b : Option β} {r : β} (hc : c) (h : (if c then a else b) = some r) : a = some r := by rw [if_pos hc] at h; exact h
theorem hx_in {c : Prop} {inst : Decidable c} {β : Type} {a b : Option β} {r : β} (hc : ¬ c) (h : (if c then a else b) = some r) : b = some r := by rw [if_neg hc] at h; exact h
theorem hx_gs {c : Prop} {inst : Decidable c} {β : Type} {a : Option β} {r : β} (h : (if c then none else a) = some r) : ¬ c ∧ a = some r := by
  by_cases hc : c
  · rw [if_pos hc] at h; cases h
  · rw [if_neg hc] at h; exact ⟨hc, h⟩
theorem hx_gt {c : Prop} {inst : Decidable c} {β : Type} {a : Option β} {r : β} (h : (if c then a else none) = some r) : c ∧ a = some r := by
  by_cases hc : c
  · rw [if_pos hc] at h; exact ⟨hc, h⟩
  · rw [if_neg hc] at h; cases h
theorem hx_lt {i : Int32} {n : Nat} (h : ¬ (i < 0 ∨ n ≤ i.toNatClampNeg)) : i.toNatClampNeg < n := Nat.not_le.mp (fun q => h (Or.inr q))
theorem hx_nb {v : Int32} (h : v = 0 ∨ v = 1) : narrow .boolean (.int v) = .int v := by rcases h with rfl | rfl <;> rfl
theorem hx_fb {v : Int32} (h : v = 0 ∨ v = 1) : fits .boolean (.int v) = true := by rcases h with rfl | rfl <;> rfl
def hx_fuel : Nat := 5000
theorem hx_up {ws : List Cond} {c : Cond} (h : ∀ w ∈ ws, w ∈ hx_tb) : ∀ w ∈ ws, w ∈ c :: hx_tb := fun w hw => List.mem_cons_of_mem _ (h w hw)
/-! Contracts: a reader answers and changes nothing; a writer turns a world into another -/
def hx_Q (v : Value) : Array Value → State → Outcome → State → Prop := fun _ st o t => o = .returned (some v) ∧ t.heap = st.heap
abbrev hx_R (l : Launch) (D : va_G) (tys : List (ClassId × FieldType)) (ws : va_W) (y : MethodName) (w : List Cond) (rm : Room) (av : List Value) (v : Value) : Prop :=
  Met l y w rm (va_Pc av (fun U => va_P D vwCl ws U.heap ∧ va_K D vwCl tys U)) (hx_Q v) 0 0 (fun _ => False)
abbrev hx_B (D : va_G) (tys : List (ClassId × FieldType)) (A : Nat → Prop) (w1 : va_W) (_ : Unit) (t : State) : Prop := va_P D vwCl w1 t.heap ∧ va_K D vwCl tys t ∧ va_D A w1
abbrev hx_Qi (D : va_G) (tys : List (ClassId × FieldType)) (A : Nat → Prop) (r0 : Int32) (w1 : va_W) : Array Value → State → Outcome → State → Prop := va_Qi (fun r (_ : Unit) => r = r0) (hx_B D tys A w1) A
abbrev hx_Qj (D : va_G) (tys : List (ClassId × FieldType)) (A : Nat → Prop) (r0 : Int64) (w1 : va_W) : Array Value → State → Outcome → State → Prop := va_Ql (fun r (_ : Unit) => r = r0) (hx_B D tys A w1) A
abbrev hx_Qv (D : va_G) (tys : List (ClassId × FieldType)) (A : Nat → Prop) (w1 : va_W) : Array Value → State → Outcome → State → Prop := va_Qv (fun (_ : Unit) => True) (hx_B D tys A w1) A
abbrev hx_Pw (D : va_G) (tys : List (ClassId × FieldType)) (av : List Value) (sz : Nat) (w0 : va_W) : Array Value → State → Prop := va_Pc av (fun U => U.heap.size = sz ∧ va_P D vwCl w0 U.heap ∧ va_K D vwCl tys U ∧ va_D (fun _ => True) w0)
abbrev hx_Wi (l : Launch) (D : va_G) (tys : List (ClassId × FieldType)) (y : MethodName) (w : List Cond) (rm : Room) (av : List Value) (sz : Nat) (w0 : va_W) (r0 : Int32) (w1 : va_W) : Prop :=
  Met l y w rm (hx_Pw D tys av sz w0) (hx_Qi D tys (va_A w0 sz) r0 w1) 0 0 (va_A w0 sz)
abbrev hx_Wj (l : Launch) (D : va_G) (tys : List (ClassId × FieldType)) (y : MethodName) (w : List Cond) (rm : Room) (av : List Value) (sz : Nat) (w0 : va_W) (r0 : Int64) (w1 : va_W) : Prop :=
  Met l y w rm (hx_Pw D tys av sz w0) (hx_Qj D tys (va_A w0 sz) r0 w1) 0 0 (va_A w0 sz)
abbrev hx_Wv (l : Launch) (D : va_G) (tys : List (ClassId × FieldType)) (y : MethodName) (w : List Cond) (rm : Room) (av : List Value) (sz : Nat) (w0 : va_W) (w1 : va_W) : Prop :=
  Met l y w rm (hx_Pw D tys av sz w0) (hx_Qv D tys (va_A w0 sz) w1) 0 0 (va_A w0 sz)
/-! How a method ends -/
theorem hx_endi {D : va_G} {tys : List (ClassId × FieldType)} {A : Nat → Prop} {S : Type} {wf : S → va_W} {r r0 : Int32} {u u0 : S} {H : Heap} {s t : State} {locs : List Loc} {args : Array Value} (h : some (r, u) = some (r0, u0)) (ht : t.heap = H) (hW : s.WarmedH t.vm)
    (hP : va_P D vwCl (wf u) H) (hK : va_K D vwCl tys s) (hD : va_D A (wf u)) (hS : va_S A s.heap H locs) : hx_Qi D tys A r0 (wf u0) args s (.returned (some (.int r))) t := by
  cases h
  exact ⟨⟨r, (), rfl, rfl, by rw [ht]; exact hP, va_K.moved hW.alike hK, hD⟩, hS.F ht⟩
theorem hx_endj {D : va_G} {tys : List (ClassId × FieldType)} {A : Nat → Prop} {S : Type} {wf : S → va_W} {r r0 : Int64} {u u0 : S} {H : Heap} {s t : State} {locs : List Loc} {args : Array Value} (h : some (r, u) = some (r0, u0)) (ht : t.heap = H) (hW : s.WarmedH t.vm)
    (hP : va_P D vwCl (wf u) H) (hK : va_K D vwCl tys s) (hD : va_D A (wf u)) (hS : va_S A s.heap H locs) : hx_Qj D tys A r0 (wf u0) args s (.returned (some (.long r))) t := by
  cases h
  exact ⟨⟨r, (), rfl, rfl, by rw [ht]; exact hP, va_K.moved hW.alike hK, hD⟩, hS.F ht⟩
theorem hx_endv {D : va_G} {tys : List (ClassId × FieldType)} {A : Nat → Prop} {S : Type} {wf : S → va_W} {u u0 : S} {H : Heap} {s t : State} {locs : List Loc} {args : Array Value} (h : some u = some u0) (ht : t.heap = H) (hW : s.WarmedH t.vm)
    (hP : va_P D vwCl (wf u) H) (hK : va_K D vwCl tys s) (hD : va_D A (wf u)) (hS : va_S A s.heap H locs) : hx_Qv D tys A (wf u0) args s (.returned none) t := by
  cases h
  exact ⟨⟨(), rfl, trivial, by rw [ht]; exact hP, va_K.moved hW.alike hK, hD⟩, hS.F ht⟩
/-! What holds before a call -/
theorem hx_nil {D : va_G} {H : Heap} : va_P D vwCl [] H := fun k q h => by simp at h
theorem hx_one {D : va_G} {cl : List vw_C} {ws : va_W} {q0 : Nat} {x : Nat × va_E} {H : Heap} (hP : va_P D cl ws H) (he : ws[q0]? = some x) : va_P D cl [x] H := by
  intro k q hk
  match k, hk with
  | 0, hk => cases hk; exact hP q0 _ he
  | k + 1, hk => simp at hk
theorem hx_D1 {x : Nat × va_E} : va_D (fun _ => True) [x] := by
  refine ⟨fun i j a b hi hj _ => ?_, fun _ _ _ => trivial⟩
  match i, j, hi, hj with
  | 0, 0, _, _ => rfl
  | i + 1, _, hi, _ => simp at hi
  | 0, j + 1, _, hj => simp at hj
abbrev hx_recv (s : State) (H : Heap) (C : String) (b : Addr) : Prop := ∃ cellB : Cell, H[b]? = some cellB ∧ cellB.vm.isStatics = false ∧ s.vm.findClass C = some cellB.cls
theorem hx_bR {D : va_G} {tys : List (ClassId × FieldType)} {ws : va_W} {av : List Value} : FrameBlind (va_Pc av (fun U => va_P D vwCl ws U.heap ∧ va_K D vwCl tys U)) := fun a U g mk q => by
  obtain ⟨q0, qP, qK⟩ := q
  exact ⟨q0, qP, va_K.moved (u := U) (U := U.calling g mk a) (Vm.Alike.refl U.vm) qK⟩
theorem hx_bW {D : va_G} {tys : List (ClassId × FieldType)} {w0 : va_W} {av : List Value} {sz : Nat} : FrameBlind (hx_Pw D tys av sz w0) := fun a U g mk q => by
  obtain ⟨q0, q1, qP, qK, qD⟩ := q
  exact ⟨q0, q1, qP, va_K.moved (u := U) (U := U.calling g mk a) (Vm.Alike.refl U.vm) qK, qD⟩
theorem hx_preS {D : va_G} {tys : List (ClassId × FieldType)} {ws : va_W} {s : State} {H : Heap} {As : List Value} (hP : va_P D vwCl ws H) (hK : va_K D vwCl tys s) : PreS s H (va_Pc As (fun U => va_P D vwCl ws U.heap ∧ va_K D vwCl tys U)) As :=
  ⟨hx_bR, fun U hU hW => ⟨rfl, by rw [hU]; exact hP, va_K.moved hW.alike hK⟩⟩
theorem hx_preV {D : va_G} {tys : List (ClassId × FieldType)} {ws : va_W} {s : State} {H : Heap} {C : String} {b : Addr} {As : List Value} (hrv : hx_recv s H C b) (hP : va_P D vwCl ws H) (hK : va_K D vwCl tys s) : PreV s H C b (va_Pc (.ref b :: As) (fun U => va_P D vwCl ws U.heap ∧ va_K D vwCl tys U)) As :=
  ⟨hx_bR, hrv, fun U hU hW => ⟨rfl, by rw [hU]; exact hP, va_K.moved hW.alike hK⟩⟩
theorem hx_preSw {D : va_G} {tys : List (ClassId × FieldType)} {w0 : va_W} {s : State} {H : Heap} {A : Nat → Prop} {As : List Value} (hP : va_P D vwCl w0 H) (hK : va_K D vwCl tys s) (hD : va_D A w0) : PreS s H (hx_Pw D tys As H.size w0) As :=
  ⟨hx_bW, fun U hU hW => ⟨rfl, by rw [hU], by rw [hU]; exact hP, va_K.moved hW.alike hK, hD.weaken (fun _ _ _ _ => trivial)⟩⟩
theorem hx_preVw {D : va_G} {tys : List (ClassId × FieldType)} {w0 : va_W} {s : State} {H : Heap} {C : String} {b : Addr} {A : Nat → Prop} {As : List Value} (hrv : hx_recv s H C b) (hP : va_P D vwCl w0 H) (hK : va_K D vwCl tys s) (hD : va_D A w0) : PreV s H C b (hx_Pw D tys (.ref b :: As) H.size w0) As :=
  ⟨hx_bW, hrv, fun U hU hW => ⟨rfl, by rw [hU], by rw [hU]; exact hP, va_K.moved hW.alike hK, hD.weaken (fun _ _ _ _ => trivial)⟩⟩
theorem hx_preSw1 {D : va_G} {tys : List (ClassId × FieldType)} {ws : va_W} {q0 : Nat} {x : Nat × va_E} {s : State} {H : Heap} {As : List Value} (hP : va_P D vwCl ws H) (hK : va_K D vwCl tys s) (he : ws[q0]? = some x) : PreS s H (hx_Pw D tys As H.size [x]) As :=
  ⟨hx_bW, fun U hU hW => ⟨rfl, by rw [hU], by rw [hU]; exact hx_one hP he, va_K.moved hW.alike hK, hx_D1⟩⟩
theorem hx_preVw1 {D : va_G} {tys : List (ClassId × FieldType)} {ws : va_W} {q0 : Nat} {x : Nat × va_E} {s : State} {H : Heap} {C : String} {b : Addr} {As : List Value} (hrv : hx_recv s H C b) (hP : va_P D vwCl ws H) (hK : va_K D vwCl tys s) (he : ws[q0]? = some x) : PreV s H C b (hx_Pw D tys (.ref b :: As) H.size [x]) As :=
  ⟨hx_bW, hrv, fun U hU hW => ⟨rfl, by rw [hU], by rw [hU]; exact hx_one hP he, va_K.moved hW.alike hK, hx_D1⟩⟩
/-! Calls -/
section HXC
variable {p : Program} {l : Launch} {e : Env} {R : Room} {s : State} {m : MethodId} {args : Array Value} {below : List Frame} {meth : Method} {c : Code} {H : Heap} {locs : List Loc} {cells slots : Nat} {Q : State → Prop}
variable {pc : Nat} {ls : Array Slot} {rest st0 : List Value} {a : Array Value} {A : Nat → Prop} {H0 : Heap} {D : va_G} {tys : List (ClassId × FieldType)} {w0 w1 : va_W}
theorem hx_rd {v : Value} (hr : va_Run p l e R s m args below meth c H locs cells slots 0 0 (F0 m pc ls st0) rest (hx_Q v a) (fun _ => False)) (kk : W p l e R s m args below meth c H locs cells slots Q (F0 m (pc + 3) ls (v :: rest))) : W p l e R s m args below meth c H locs cells slots Q (F0 m pc ls st0) := by
  intro T hT X
  obtain ⟨v', st₀, t, T', L, h0, X', hL, e1, e2, ⟨hv, hh⟩, st⟩ := hr T hT X
  cases hv
  obtain ⟨t2, a1, b1⟩ := kk T' (by rw [e1, hh, h0]) (Stand.forget X' (fun q h => (hL q h).elim))
  exact ⟨t2, st t2 a1, b1⟩
theorem hx_free (hD : va_D A w0) (hS : va_S A H0 H locs) (hA : ∀ q, H0.size ≤ q → A q) : ∀ q, va_A w0 H.size q → A q := by
  intro q hq
  rcases hq with ⟨k, x, hk⟩ | hq
  · exact hD.2 k _ hk
  · exact hA q (Nat.le_trans hS.1 hq)
theorem hx_wi {r0 : Int32} (hr : va_Run p l e R s m args below meth c H locs cells slots 0 0 (F0 m pc ls st0) rest (hx_Qi D tys (va_A w0 H.size) r0 w1 a) (va_A w0 H.size)) (hD : va_D A w0) (hS : va_S A H0 H locs) (hA : ∀ q, H0.size ≤ q → A q)
    (kk : ∀ (H1 : Heap) (locs1 : List Loc), va_P D vwCl w1 H1 → va_D A w1 → va_S A H0 H1 locs1 → W p l e R s m args below meth c H1 locs1 cells slots Q (F0 m (pc + 3) ls (.int r0 :: rest))) : W p l e R s m args below meth c H locs cells slots Q (F0 m pc ls st0) := by
  have hF := hx_free hD hS hA
  refine va_calli hr hS (fun q _ h => hF q h) hF (fun r u t H1 locs1 ht hvm hw hB hz1 hk1 hS1 => ?_)
  obtain ⟨hP1, hK1, hD1⟩ := hB
  rw [ht] at hP1
  rw [hw]
  exact kk H1 locs1 hP1 (hD1.weaken (fun _ _ _ h => hF _ h)) hS1
theorem hx_wj {r0 : Int64} (hr : va_Run p l e R s m args below meth c H locs cells slots 0 0 (F0 m pc ls st0) rest (hx_Qj D tys (va_A w0 H.size) r0 w1 a) (va_A w0 H.size)) (hD : va_D A w0) (hS : va_S A H0 H locs) (hA : ∀ q, H0.size ≤ q → A q)
    (kk : ∀ (H1 : Heap) (locs1 : List Loc), va_P D vwCl w1 H1 → va_D A w1 → va_S A H0 H1 locs1 → W p l e R s m args below meth c H1 locs1 cells slots Q (F0 m (pc + 3) ls (.long r0 :: rest))) : W p l e R s m args below meth c H locs cells slots Q (F0 m pc ls st0) := by
  have hF := hx_free hD hS hA
  refine va_calll hr hS (fun q _ h => hF q h) hF (fun r u t H1 locs1 ht hvm hw hB hz1 hk1 hS1 => ?_)
  obtain ⟨hP1, hK1, hD1⟩ := hB
  rw [ht] at hP1
  rw [hw]
  exact kk H1 locs1 hP1 (hD1.weaken (fun _ _ _ h => hF _ h)) hS1
theorem hx_wv (hr : va_Run p l e R s m args below meth c H locs cells slots 0 0 (F0 m pc ls st0) rest (hx_Qv D tys (va_A w0 H.size) w1 a) (va_A w0 H.size)) (hD : va_D A w0) (hS : va_S A H0 H locs) (hA : ∀ q, H0.size ≤ q → A q)
    (kk : ∀ (H1 : Heap) (locs1 : List Loc), va_P D vwCl w1 H1 → va_D A w1 → va_S A H0 H1 locs1 → W p l e R s m args below meth c H1 locs1 cells slots Q (F0 m (pc + 3) ls rest)) : W p l e R s m args below meth c H locs cells slots Q (F0 m pc ls st0) := by
  have hF := hx_free hD hS hA
  refine va_callv hr hS (fun q _ h => hF q h) hF (fun u t H1 locs1 ht hvm hw hB hz1 hk1 hS1 => ?_)
  obtain ⟨hP1, hK1, hD1⟩ := hB
  rw [ht] at hP1
  exact kk H1 locs1 hP1 (hD1.weaken (fun _ _ _ h => hF _ h)) hS1
/-- a call that turns ONE cell of the world into another -/
theorem hx_wv1 {ws : va_W} {q0 b : Nat} {x0 x1 : va_E} (hr : va_Run p l e R s m args below meth c H locs cells slots 0 0 (F0 m pc ls st0) rest (hx_Qv D tys (va_A [(b, x0)] H.size) [(b, x1)] a) (va_A [(b, x0)] H.size)) (hP : va_P D vwCl ws H) (he : ws[q0]? = some (b, x0)) (hD : va_D A ws) (hS : va_S A H0 H locs) (hA : ∀ q, H0.size ≤ q → A q)
    (kk : ∀ (H1 : Heap) (locs1 : List Loc), va_P D vwCl (ws.set q0 (b, x1)) H1 → va_D A (ws.set q0 (b, x1)) → va_S A H0 H1 locs1 → W p l e R s m args below meth c H1 locs1 cells slots Q (F0 m (pc + 3) ls rest)) : W p l e R s m args below meth c H locs cells slots Q (F0 m pc ls st0) := by
  have hF : ∀ q, va_A [(b, x0)] H.size q → A q := by
    intro q hq
    rcases hq with ⟨k, x, hk⟩ | hq
    · match k, hk with
      | 0, hk => cases hk; exact hD.2 q0 _ he
      | k + 1, hk => simp at hk
    · exact hA q (Nat.le_trans hS.1 hq)
  refine va_callv hr hS (fun q _ h => hF q h) hF (fun u t H1 locs1 ht hvm hw hB hz1 hk1 hS1 => ?_)
  obtain ⟨hP1, hK1, hD1⟩ := hB
  rw [ht] at hP1
  refine kk H1 locs1 ?_ (hD.set he) hS1
  intro k q hk
  by_cases hkq : k = q0
  · subst hkq
    have hlt : k < ws.length := (List.getElem?_eq_some_iff.mp he).1
    rw [List.getElem?_set_self hlt] at hk
    cases hk
    exact hP1 0 _ rfl
  · rw [List.getElem?_set_ne (fun z => hkq z.symm)] at hk
    have hat := hP k q hk
    refine hat.kept (hk1 q.1 hat.lt ?_)
    rintro (⟨k2, x, hk2⟩ | hq)
    · match k2, hk2 with
      | 0, hk2 =>
        have e0 : q.1 = b := by cases hk2; rfl
        exact hkq (hD.1 k q0 q (b, x0) hk he e0)
      | k2 + 1, hk2 => simp at hk2
    · exact absurd hat.lt (Nat.not_lt.mpr hq)
end HXC
