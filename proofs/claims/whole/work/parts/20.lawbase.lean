/-! the law: two worlds side by side -/
theorem P_left {D : va_G} {cl : List vw_C} {w v : va_W} {H : Heap} (hP : va_P D cl (w ++ v) H) : va_P D cl w H := fun k q hk => hP k q (by rw [List.getElem?_append_left (List.getElem?_eq_some_iff.mp hk).1]; exact hk)
theorem P_right {D : va_G} {cl : List vw_C} {w v : va_W} {H : Heap} (hP : va_P D cl (w ++ v) H) : va_P D cl v H := fun k q hk => hP (w.length + k) q (by rw [List.getElem?_append_right (Nat.le_add_right _ _), Nat.add_sub_cancel_left]; exact hk)
theorem in_left {w v : va_W} {k : Nat} {q : Nat × va_E} (h : w[k]? = some q) : (w ++ v)[k]? = some q := by rw [List.getElem?_append_left (List.getElem?_eq_some_iff.mp h).1]; exact h
theorem in_right {w v : va_W} {k : Nat} {q : Nat × va_E} (h : v[k]? = some q) : (w ++ v)[w.length + k]? = some q := by rw [List.getElem?_append_right (Nat.le_add_right _ _), Nat.add_sub_cancel_left]; exact h
theorem D_left {A : Nat → Prop} {w v : va_W} (hD : va_D A (w ++ v)) : va_D A w := ⟨fun i j p q hi hj e => hD.1 i j p q (in_left hi) (in_left hj) e, fun k q hk => hD.2 k q (in_left hk)⟩
theorem D_right {A : Nat → Prop} {w v : va_W} (hD : va_D A (w ++ v)) : va_D A v := ⟨fun i j p q hi hj e => Nat.add_left_cancel (hD.1 _ _ p q (in_right hi) (in_right hj) e), fun k q hk => hD.2 _ q (in_right hk)⟩
theorem D_apart {A : Nat → Prop} {w v : va_W} (hD : va_D A (w ++ v)) {i j : Nat} {p q : Nat × va_E} (hi : w[i]? = some p) (hj : v[j]? = some q) : p.1 ≠ q.1 := fun e => by
  have h1 := hD.1 _ _ p q (in_left hi) (in_right hj) e
  have h2 := (List.getElem?_eq_some_iff.mp hi).1
  omega
theorem fr_l {D : va_G} {cl : List vw_C} {A0 : Nat → Prop} {w w' v : va_W} {H H1 : Heap} (hP : va_P D cl (w ++ v) H) (hD : va_D A0 (w ++ v)) (hF : ∀ q, va_A w H.size q → A0 q) (hk : ∀ q : Nat, q < H.size → ¬ va_A w H.size q → H1[q]? = H[q]?) (hP1 : va_P D cl w' H1) (hD1 : va_D (va_A w H.size) w') : va_P D cl (w' ++ v) H1 ∧ va_D A0 (w' ++ v) := by
  have hlt : ∀ (k : Nat) (q : Nat × va_E), v[k]? = some q → q.1 < H.size := fun k q h => (P_right hP k q h).lt
  have hno : ∀ (k : Nat) (q : Nat × va_E), v[k]? = some q → ¬ va_A w H.size q.1 := fun k q h z => by
    rcases z with ⟨k2, e2, h2⟩ | h2
    · exact D_apart hD h2 h rfl
    · have := hlt k q h; omega
  refine ⟨va_P.app hP1 ((P_right hP).kept (fun k q h => hk q.1 (hlt k q h) (hno k q h))), va_D.app (hD1.weaken (fun _ _ _ h => hF _ h)) (D_right hD) (fun i j p q hi hj e => ?_)⟩
  exact hno j q hj (e ▸ hD1.2 i p hi)
theorem fr_r {D : va_G} {cl : List vw_C} {A0 : Nat → Prop} {w w' v : va_W} {H H1 : Heap} (hP : va_P D cl (v ++ w) H) (hD : va_D A0 (v ++ w)) (hF : ∀ q, va_A w H.size q → A0 q) (hk : ∀ q : Nat, q < H.size → ¬ va_A w H.size q → H1[q]? = H[q]?) (hP1 : va_P D cl w' H1) (hD1 : va_D (va_A w H.size) w') : va_P D cl (v ++ w') H1 ∧ va_D A0 (v ++ w') := by
  have hlt : ∀ (k : Nat) (q : Nat × va_E), v[k]? = some q → q.1 < H.size := fun k q h => (P_left hP k q h).lt
  have hno : ∀ (k : Nat) (q : Nat × va_E), v[k]? = some q → ¬ va_A w H.size q.1 := fun k q h z => by
    rcases z with ⟨k2, e2, h2⟩ | h2
    · exact D_apart hD h h2 rfl
    · have := hlt k q h; omega
  refine ⟨va_P.app ((P_left hP).kept (fun k q h => hk q.1 (hlt k q h) (hno k q h))) hP1, va_D.app (D_left hD) (hD1.weaken (fun _ _ _ h => hF _ h)) (fun i j p q hi hj e => ?_)⟩
  exact hno i p hi (e ▸ hD1.2 j q hj)
theorem lg_cmp_self (r : Int64) : lg_cmp r r = 0 := by simp [lg_cmp]
theorem sc_in {i L : Nat} (j : Nat) {k : Int32} (hi : i + 6 ≤ L) (hj : j < 6 ∧ nI j = k) (hL : L ≤ 384) : vp_in (nI i + k) L := by
  obtain ⟨h1, rfl⟩ := hj
  rw [nI_add]
  exact vp_in_nI (by omega) (by omega)
def LX (p : Program) (s : State) (m : MethodId) (c : Code) (b L : Nat) (xs : Nat → Int32) (D : va_G) (cI cO : ClassId) : Prop :=
  p.tables.exec = Jvm.exec ∧ c.code = cL_law ∧ c.maxLocals = 4 ∧ s.vm.findClass RL = some m.cls ∧ (∀ w ∈ wsL_law, w.before #[Value.ref b] s = true) ∧ va_X b L xs s s.heap ∧ b < s.heap.size ∧ va_K D vwCl (TY cI cO) s ∧ NS s
section BL
variable {p : Program} {l : Launch} {e : Env} {R : Room} {s : State} {m : MethodId} {args : Array Value} {below : List Frame} {meth : Method} {c : Code} {H : Heap} {locs : List Loc} {cells slots : Nat} {Q : State → Prop}
variable {pc : Nat} {ls : Array Slot} {rest st0 : List Value} {a : Array Value} {A0 : Nat → Prop} {H0 : Heap} {D : va_G} {cI cO : ClassId} {w w' v : va_W}
theorem bl_i {r : Int32} (hr : va_Run p l e R s m args below meth c H locs cells slots 0 0 (F0 m pc ls st0) rest (va_Qi (fun x (_ : Unit) => x = r) (fun _ t => Bout D cI cO (va_A w H.size) w' t) (va_A w H.size) a) (va_A w H.size)) (hS : va_S A0 H0 H locs) (hP : va_P D vwCl (w ++ v) H) (hD : va_D A0 (w ++ v)) (hA : ∀ q, H0.size ≤ q → A0 q)
    (kk : ∀ (H1 : Heap) (locs1 : List Loc), va_P D vwCl (w' ++ v) H1 → va_D A0 (w' ++ v) → va_S A0 H0 H1 locs1 → W p l e R s m args below meth c H1 locs1 cells slots Q (F0 m (pc + 3) ls (.int r :: rest))) : W p l e R s m args below meth c H locs cells slots Q (F0 m pc ls st0) := by
  have hF := free_all (D_left hD) hS hA
  refine va_calli hr hS (fun q _ h => hF q h) hF (fun r1 u t H1 locs1 ht hvm hw hB hz1 hk1 hS1 => ?_)
  subst hw
  obtain ⟨h1, h2⟩ := fr_l hP hD hF hk1 (by rw [← ht]; exact hB.1) hB.2.2
  exact kk H1 locs1 h1 h2 hS1
theorem bl_l {r : Int64} (hr : va_Run p l e R s m args below meth c H locs cells slots 0 0 (F0 m pc ls st0) rest (va_Ql (fun x (_ : Unit) => x = r) (fun _ t => Bout D cI cO (va_A w H.size) w' t) (va_A w H.size) a) (va_A w H.size)) (hS : va_S A0 H0 H locs) (hP : va_P D vwCl (w ++ v) H) (hD : va_D A0 (w ++ v)) (hA : ∀ q, H0.size ≤ q → A0 q)
    (kk : ∀ (H1 : Heap) (locs1 : List Loc), va_P D vwCl (w' ++ v) H1 → va_D A0 (w' ++ v) → va_S A0 H0 H1 locs1 → W p l e R s m args below meth c H1 locs1 cells slots Q (F0 m (pc + 3) ls (.long r :: rest))) : W p l e R s m args below meth c H locs cells slots Q (F0 m pc ls st0) := by
  have hF := free_all (D_left hD) hS hA
  refine va_calll hr hS (fun q _ h => hF q h) hF (fun r1 u t H1 locs1 ht hvm hw hB hz1 hk1 hS1 => ?_)
  subst hw
  obtain ⟨h1, h2⟩ := fr_l hP hD hF hk1 (by rw [← ht]; exact hB.1) hB.2.2
  exact kk H1 locs1 h1 h2 hS1
theorem br_i {r : Int32} (hr : va_Run p l e R s m args below meth c H locs cells slots 0 0 (F0 m pc ls st0) rest (va_Qi (fun x (_ : Unit) => x = r) (fun _ t => Bout D cI cO (va_A w H.size) w' t) (va_A w H.size) a) (va_A w H.size)) (hS : va_S A0 H0 H locs) (hP : va_P D vwCl (v ++ w) H) (hD : va_D A0 (v ++ w)) (hA : ∀ q, H0.size ≤ q → A0 q)
    (kk : ∀ (H1 : Heap) (locs1 : List Loc), va_P D vwCl (v ++ w') H1 → va_D A0 (v ++ w') → va_S A0 H0 H1 locs1 → W p l e R s m args below meth c H1 locs1 cells slots Q (F0 m (pc + 3) ls (.int r :: rest))) : W p l e R s m args below meth c H locs cells slots Q (F0 m pc ls st0) := by
  have hF := free_all (D_right hD) hS hA
  refine va_calli hr hS (fun q _ h => hF q h) hF (fun r1 u t H1 locs1 ht hvm hw hB hz1 hk1 hS1 => ?_)
  subst hw
  obtain ⟨h1, h2⟩ := fr_r hP hD hF hk1 (by rw [← ht]; exact hB.1) hB.2.2
  exact kk H1 locs1 h1 h2 hS1
theorem br_l {r : Int64} (hr : va_Run p l e R s m args below meth c H locs cells slots 0 0 (F0 m pc ls st0) rest (va_Ql (fun x (_ : Unit) => x = r) (fun _ t => Bout D cI cO (va_A w H.size) w' t) (va_A w H.size) a) (va_A w H.size)) (hS : va_S A0 H0 H locs) (hP : va_P D vwCl (v ++ w) H) (hD : va_D A0 (v ++ w)) (hA : ∀ q, H0.size ≤ q → A0 q)
    (kk : ∀ (H1 : Heap) (locs1 : List Loc), va_P D vwCl (v ++ w') H1 → va_D A0 (v ++ w') → va_S A0 H0 H1 locs1 → W p l e R s m args below meth c H1 locs1 cells slots Q (F0 m (pc + 3) ls (.long r :: rest))) : W p l e R s m args below meth c H locs cells slots Q (F0 m pc ls st0) := by
  have hF := free_all (D_right hD) hS hA
  refine va_calll hr hS (fun q _ h => hF q h) hF (fun r1 u t H1 locs1 ht hvm hw hB hz1 hk1 hS1 => ?_)
  subst hw
  obtain ⟨h1, h2⟩ := fr_r hP hD hF hk1 (by rw [← ht]; exact hB.1) hB.2.2
  exact kk H1 locs1 h1 h2 hS1
end BL
theorem sc_gt {i L : Nat} (hL : L ≤ 384) (hi : i ≤ 390) : (Int32.ofNat L - 6 < nI i) ↔ L < i + 6 := by
  have h6 : (6 : Int32) = nI 6 := by decide
  have e1 : (Int32.ofNat L - 6 : Int32).toInt = (L : Int) - 6 := by
    rw [h6]
    exact pk_sub_toInt (a := L) (b := 6) (by omega) (by decide)
  rw [Int32.lt_iff_toInt_lt, e1, nI_toInt (by omega)]
  omega
