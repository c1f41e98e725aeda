/-! the state of a side: whole numbers by their places, rows by their places -/
abbrev St : Type := (Nat → Int32) × (Nat → Nat → Int32)
def gI (st : St) (k : Nat) : Int32 := st.1 k
def gA (st : St) (a : Nat) (i : Int32) : Int32 := st.2 a i.toNatClampNeg
def sI (st : St) (k : Nat) (v : Int32) : St := (upd st.1 k v, st.2)
def sA (st : St) (a : Nat) (i v : Int32) : St := (st.1, va_up st.2 a (upd (st.2 a) i.toNatClampNeg v))
def sC (st : St) (a b : Nat) (sp dp n : Int32) : St := (st.1, va_up st.2 b (va_cpy (st.2 a) (st.2 b) sp.toNatClampNeg dp.toNatClampNeg n.toNatClampNeg))
/-! partial programs: none where the machine would throw or the count of turns is spent -/
def ck {α : Type} (i : Int32) (n : Nat) (x : Option α) : Option α := if i < 0 ∨ n ≤ i.toNatClampNeg then none else x
def nz {α : Type} (y : Int32) (x : Option α) : Option α := if y = 0 then none else x
def nzl {α : Type} (y : Int64) (x : Option α) : Option α := if y = 0 then none else x
def cc5 {α : Type} (sp dp n : Int32) (n0 n1 : Nat) (x : Option α) : Option α := if (sp < 0 ∨ dp < 0 ∨ n < 0) ∨ (n0 < sp.toNatClampNeg + n.toNatClampNeg ∨ n1 < dp.toNatClampNeg + n.toNatClampNeg) then none else x
def b1 {α β : Type} (x : Option α) (k : α → Option β) : Option β := match x with
  | none => none
  | some v => k v
def b2 {α β : Type} (x : Option (α × St)) (k : α → St → Option β) : Option β := match x with
  | none => none
  | some v => k v.1 v.2
theorem ck_some {α : Type} {i : Int32} {n : Nat} {x : Option α} {y : α} (h : ck i n x = some y) : vp_in i n ∧ x = some y := by
  unfold ck at h
  by_cases c : i < 0 ∨ n ≤ i.toNatClampNeg
  · rw [if_pos c] at h; cases h
  · rw [if_neg c] at h; exact ⟨c, h⟩
theorem nz_some {α : Type} {i : Int32} {x : Option α} {y : α} (h : nz i x = some y) : ¬ i = 0 ∧ x = some y := by
  unfold nz at h
  by_cases c : i = 0
  · rw [if_pos c] at h; cases h
  · rw [if_neg c] at h; exact ⟨c, h⟩
theorem nzl_some {α : Type} {i : Int64} {x : Option α} {y : α} (h : nzl i x = some y) : ¬ i = 0 ∧ x = some y := by
  unfold nzl at h
  by_cases c : i = 0
  · rw [if_pos c] at h; cases h
  · rw [if_neg c] at h; exact ⟨c, h⟩
theorem cc5_some {α : Type} {sp dp n : Int32} {n0 n1 : Nat} {x : Option α} {y : α} (h : cc5 sp dp n n0 n1 x = some y) : (¬ sp < 0 ∧ ¬ dp < 0 ∧ ¬ n < 0 ∧ sp.toNatClampNeg + n.toNatClampNeg ≤ n0 ∧ dp.toNatClampNeg + n.toNatClampNeg ≤ n1) ∧ x = some y := by
  unfold cc5 at h
  by_cases c : (sp < 0 ∨ dp < 0 ∨ n < 0) ∨ (n0 < sp.toNatClampNeg + n.toNatClampNeg ∨ n1 < dp.toNatClampNeg + n.toNatClampNeg)
  · rw [if_pos c] at h; cases h
  · rw [if_neg c] at h
    refine ⟨⟨fun z => c (Or.inl (Or.inl z)), fun z => c (Or.inl (Or.inr (Or.inl z))), fun z => c (Or.inl (Or.inr (Or.inr z))), ?_, ?_⟩, h⟩
    · exact Nat.le_of_not_lt (fun z => c (Or.inr (Or.inl z)))
    · exact Nat.le_of_not_lt (fun z => c (Or.inr (Or.inr z)))
theorem b1_some {α β : Type} {x : Option α} {k : α → Option β} {y : β} (h : b1 x k = some y) : ∃ v, x = some v ∧ k v = some y := by
  cases x with
  | none => cases h
  | some v => exact ⟨v, rfl, h⟩
theorem b2_some {α β : Type} {x : Option (α × St)} {k : α → St → Option β} {y : β} (h : b2 x k = some y) : ∃ v s, x = some (v, s) ∧ k v s = some y := by
  cases x with
  | none => cases h
  | some v => exact ⟨v.1, v.2, rfl, h⟩
/-! the worlds -/
abbrev TY (cI cO : ClassId) : List (ClassId × FieldType) := [(cI, .int), (cO, .object "BellNames$Sheet")]
abbrev ia (cI : ClassId) (n : Nat) (f : Nat → Int32) : va_E := .inl (cI, n, .inl f)
def BW (cI cO : ClassId) (ad : Nat → Nat) (st : St) : va_W := [
  (ad 0, .inr (5, [.ref (ad 1), .ref (ad 10), .ref (ad 15), .ref (ad 19), .ref (ad 22), .int (gI st 0), .int (gI st 1)])),
  (ad 1, .inl (cO, 4, .inr (.inr (.inr (.inr (fun k => some (ad (2 + k)))))))),
  (ad 2, .inr (3, [.ref (ad 6), .int (gI st 10), .int (gI st 14)])),
  (ad 3, .inr (3, [.ref (ad 7), .int (gI st 11), .int (gI st 15)])),
  (ad 4, .inr (3, [.ref (ad 8), .int (gI st 12), .int (gI st 16)])),
  (ad 5, .inr (3, [.ref (ad 9), .int (gI st 13), .int (gI st 17)])),
  (ad 6, ia cI 60 (st.2 10)), (ad 7, ia cI 60 (st.2 11)), (ad 8, ia cI 60 (st.2 12)), (ad 9, ia cI 60 (st.2 13)),
  (ad 10, .inr (1, [.ref (ad 11), .ref (ad 12), .ref (ad 13), .ref (ad 14), .int (gI st 2), .int (gI st 3), .int (gI st 4)])),
  (ad 11, ia cI 5 (st.2 0)), (ad 12, ia cI 5 (st.2 1)), (ad 13, ia cI 5 (st.2 2)), (ad 14, ia cI 5 (st.2 3)),
  (ad 15, .inr (2, [.ref (ad 16), .ref (ad 17), .ref (ad 18), .int (gI st 5)])),
  (ad 16, ia cI 8 (st.2 4)), (ad 17, ia cI 8 (st.2 5)), (ad 18, ia cI 8 (st.2 6)),
  (ad 19, .inr (0, [.ref (ad 20), .ref (ad 21), .int (gI st 6)])),
  (ad 20, ia cI 5 (st.2 7)), (ad 21, ia cI 5 (st.2 8)),
  (ad 22, .inr (4, [.ref (ad 23), .int (gI st 7), .int (gI st 8)])),
  (ad 23, ia cI 5 (st.2 9))]
def MW (cI : ClassId) (ad : Nat → Nat) (st : St) : va_W := [
  (ad 0, .inr (6, [.int (gI st 0), .int (gI st 1), .ref (ad 1), .ref (ad 2), .ref (ad 3), .int (gI st 5), .int (gI st 6), .int (gI st 7), .ref (ad 4), .ref (ad 5), .ref (ad 6), .ref (ad 7), .int (gI st 12), .int (gI st 13), .int (gI st 14), .int (gI st 15), .ref (ad 8), .ref (ad 9), .ref (ad 10), .ref (ad 11), .ref (ad 12), .int (gI st 21), .ref (ad 13), .ref (ad 14), .int (gI st 24), .ref (ad 15), .ref (ad 16), .ref (ad 17)])),
  (ad 1, ia cI 4 (st.2 2)), (ad 2, ia cI 4 (st.2 3)), (ad 3, ia cI 240 (st.2 4)),
  (ad 4, ia cI 5 (st.2 8)), (ad 5, ia cI 5 (st.2 9)), (ad 6, ia cI 5 (st.2 10)), (ad 7, ia cI 5 (st.2 11)),
  (ad 8, ia cI 5 (st.2 16)), (ad 9, ia cI 5 (st.2 17)), (ad 10, ia cI 5 (st.2 18)), (ad 11, ia cI 5 (st.2 19)),
  (ad 12, ia cI 5 (st.2 20)), (ad 13, ia cI 5 (st.2 22)), (ad 14, ia cI 5 (st.2 23)),
  (ad 15, ia cI 8 (st.2 25)), (ad 16, ia cI 8 (st.2 26)), (ad 17, ia cI 8 (st.2 27))]
theorem BW_sheet (cI cO : ClassId) (ad : Nat → Nat) (st : St) {k : Nat} (hk : k < 4) : (BW cI cO ad st)[2 + k]? = some (ad (2 + k), .inr (3, [.ref (ad (6 + k)), .int (gI st (10 + k)), .int (gI st (14 + k))])) := by
  match k, hk with
  | 0, _ => rfl
  | 1, _ => rfl
  | 2, _ => rfl
  | 3, _ => rfl
theorem BW_row (cI cO : ClassId) (ad : Nat → Nat) (st : St) {k : Nat} (hk : k < 4) : (BW cI cO ad st)[6 + k]? = some (ad (6 + k), ia cI 60 (st.2 (10 + k))) := by
  match k, hk with
  | 0, _ => rfl
  | 1, _ => rfl
  | 2, _ => rfl
  | 3, _ => rfl
theorem BW_setLane (cI cO : ClassId) (ad : Nat → Nat) (st : St) {k : Nat} (hk : k < 4) (v : Int32) : (BW cI cO ad st).set (2 + k) (ad (2 + k), .inr (3, ([.ref (ad (6 + k)), .int (gI st (10 + k)), .int (gI st (14 + k))] : List Value).set 1 (.int v))) = BW cI cO ad (sI st (10 + k) v) := by
  match k, hk with
  | 0, _ => rfl
  | 1, _ => rfl
  | 2, _ => rfl
  | 3, _ => rfl
theorem BW_setSize (cI cO : ClassId) (ad : Nat → Nat) (st : St) {k : Nat} (hk : k < 4) (v : Int32) : (BW cI cO ad st).set (2 + k) (ad (2 + k), .inr (3, ([.ref (ad (6 + k)), .int (gI st (10 + k)), .int (gI st (14 + k))] : List Value).set 2 (.int v))) = BW cI cO ad (sI st (14 + k) v) := by
  match k, hk with
  | 0, _ => rfl
  | 1, _ => rfl
  | 2, _ => rfl
  | 3, _ => rfl
theorem BW_setRow (cI cO : ClassId) (ad : Nat → Nat) (st : St) {k : Nat} (hk : k < 4) (f : Nat → Int32) : (BW cI cO ad st).set (6 + k) (ad (6 + k), ia cI 60 f) = BW cI cO ad (st.1, va_up st.2 (10 + k) f) := by
  match k, hk with
  | 0, _ => rfl
  | 1, _ => rfl
  | 2, _ => rfl
  | 3, _ => rfl
/-! nest mates' links: known at every entry -/
def NS (U : State) : Prop :=
  va_Nw (.methodLinkNest "BellNames" 19 yX1_init "BellNames") U ∧ va_Nw (.methodLinkNest "BellNames" 26 yX2_init "BellNames") U ∧ va_Nw (.methodLinkNest "BellNames" 33 yX0_init "BellNames") U ∧ va_Nw (.methodLinkNest "BellNames" 40 yX5_init "BellNames") U ∧ va_Nw (.methodLinkNest "BellNames" 52 yX3_init "BellNames") U ∧
  va_Nw (.methodLinkNest "BellNames$Text" 21 yX6_isBelow "BellNames") U ∧ va_Nw (.methodLinkNest "BellNames$Herd" 34 yX6_isBelow "BellNames") U ∧ va_Nw (.methodLinkNest "BellNames$Herd" 55 yX6_soundOf "BellNames") U ∧ va_Nw (.methodLinkNest "BellNames$Walk" 40 yX6_isBelow "BellNames") U ∧ va_Nw (.methodLinkNest "BellNames$Readings" 33 yX6_soundOf "BellNames") U ∧ va_AO "BellNames$Sheet" U
theorem NS.warm {s U : State} (hW : s.WarmedH U.vm) (h : NS s) : NS U := by
  obtain ⟨h1, h2, h3, h4, h5, h6, h7, h8, h9, h10, h11⟩ := h
  exact ⟨h1.warmM hW, h2.warmM hW, h3.warmM hW, h4.warmM hW, h5.warmM hW, h6.warmM hW, h7.warmM hW, h8.warmM hW, h9.warmM hW, h10.warmM hW, h11.moved hW.alike⟩
theorem NS.same {u U : State} (e : u.vm = U.vm) (h : NS u) : NS U := by
  obtain ⟨h1, h2, h3, h4, h5, h6, h7, h8, h9, h10, h11⟩ := h
  exact ⟨h1.same rfl e, h2.same rfl e, h3.same rfl e, h4.same rfl e, h5.same rfl e, h6.same rfl e, h7.same rfl e, h8.same rfl e, h9.same rfl e, h10.same rfl e, h11.moved (e ▸ Vm.Alike.refl u.vm)⟩
/-! contracts: what goes in, what comes out -/
def Bin (D : va_G) (cI cO : ClassId) (w : va_W) (sz : Nat) (U : State) : Prop := U.heap.size = sz ∧ va_P D vwCl w U.heap ∧ va_K D vwCl (TY cI cO) U ∧ va_D (fun _ => True) w ∧ NS U
def Bout (D : va_G) (cI cO : ClassId) (A : Nat → Prop) (w : va_W) (t : State) : Prop := va_P D vwCl w t.heap ∧ va_K D vwCl (TY cI cO) t ∧ va_D A w
def CI (l : Launch) (y : MethodName) (wsM : List Cond) (rm : Room) (D : va_G) (cI cO : ClassId) (av : List Value) (w w' : va_W) (sz : Nat) (r : Int32) : Prop :=
  Met l y wsM rm (va_Pc av (Bin D cI cO w sz)) (va_Qi (fun x (_ : Unit) => x = r) (fun _ t => Bout D cI cO (va_A w sz) w' t) (va_A w sz)) 0 0 (va_A w sz)
def CZ (l : Launch) (y : MethodName) (wsM : List Cond) (rm : Room) (D : va_G) (cI cO : ClassId) (av : List Value) (w w' : va_W) (sz : Nat) (r : Int32) : Prop :=
  Met l y wsM rm (va_Pc av (Bin D cI cO w sz)) (va_Qi (fun x (_ : Unit) => x = r ∧ narrow .boolean (.int r) = .int r) (fun _ t => Bout D cI cO (va_A w sz) w' t) (va_A w sz)) 0 0 (va_A w sz)
def CL (l : Launch) (y : MethodName) (wsM : List Cond) (rm : Room) (D : va_G) (cI cO : ClassId) (av : List Value) (w w' : va_W) (sz : Nat) (r : Int64) : Prop :=
  Met l y wsM rm (va_Pc av (Bin D cI cO w sz)) (va_Ql (fun x (_ : Unit) => x = r) (fun _ t => Bout D cI cO (va_A w sz) w' t) (va_A w sz)) 0 0 (va_A w sz)
def CV (l : Launch) (y : MethodName) (wsM : List Cond) (rm : Room) (D : va_G) (cI cO : ClassId) (av : List Value) (w w' : va_W) (sz : Nat) : Prop :=
  Met l y wsM rm (va_Pc av (Bin D cI cO w sz)) (va_Qv (fun (_ : Unit) => True) (fun _ t => Bout D cI cO (va_A w sz) w' t) (va_A w sz)) 0 0 (va_A w sz)
theorem bl_pre {av : List Value} {D : va_G} {cI cO : ClassId} {w : va_W} {sz : Nat} : FrameBlind (va_Pc av (Bin D cI cO w sz)) := fun a U g mk q => by
  obtain ⟨q0, q1, qP, qK, qD, qN⟩ := q
  exact ⟨q0, q1, qP, va_K.moved (u := U) (U := U.calling g mk a) (Vm.Alike.refl U.vm) qK, qD, qN.same rfl⟩
theorem preS {s : State} {H : Heap} {D : va_G} {cI cO : ClassId} {w : va_W} {A : Nat → Prop} {As : List Value} (hK : va_K D vwCl (TY cI cO) s) (hN : NS s) (hP : va_P D vwCl w H) (hD : va_D A w) : PreS s H (va_Pc As (Bin D cI cO w H.size)) As :=
  ⟨bl_pre, fun U hU hW => ⟨rfl, by rw [hU], by rw [hU]; exact hP, va_K.moved hW.alike hK, hD.weaken (fun _ _ _ _ => trivial), hN.warm hW⟩⟩
theorem preV {s : State} {H : Heap} {D : va_G} {cI cO : ClassId} {w : va_W} {A : Nat → Prop} {As : List Value} {C : String} {b : Addr} (hK : va_K D vwCl (TY cI cO) s) (hN : NS s) (hP : va_P D vwCl w H) (hD : va_D A w) (hrv : ∃ cellB : Cell, H[b]? = some cellB ∧ cellB.vm.isStatics = false ∧ s.vm.findClass C = some cellB.cls) : PreV s H C b (va_Pc (.ref b :: As) (Bin D cI cO w H.size)) As :=
  ⟨bl_pre, hrv, fun U hU hW => ⟨rfl, by rw [hU], by rw [hU]; exact hP, va_K.moved hW.alike hK, hD.weaken (fun _ _ _ _ => trivial), hN.warm hW⟩⟩
theorem free_all {A0 : Nat → Prop} {w : va_W} {H0 H : Heap} {locs : List Loc} (hD : va_D A0 w) (hS : va_S A0 H0 H locs) (hA : ∀ q, H0.size ≤ q → A0 q) : ∀ q, va_A w H.size q → A0 q := by
  intro q h
  rcases h with ⟨k, e, h⟩ | h
  · exact hD.2 k _ h
  · exact hA q (Nat.le_trans hS.1 h)
section BC
variable {p : Program} {l : Launch} {e : Env} {R : Room} {s : State} {m : MethodId} {args : Array Value} {below : List Frame} {meth : Method} {c : Code} {H : Heap} {locs : List Loc} {cells slots : Nat} {Q : State → Prop}
variable {pc : Nat} {ls : Array Slot} {rest st0 : List Value} {a : Array Value} {A0 : Nat → Prop} {H0 : Heap} {D : va_G} {cI cO : ClassId} {w w' : va_W}
theorem bc_i {r : Int32} (hr : va_Run p l e R s m args below meth c H locs cells slots 0 0 (F0 m pc ls st0) rest (va_Qi (fun x (_ : Unit) => x = r) (fun _ t => Bout D cI cO (va_A w H.size) w' t) (va_A w H.size) a) (va_A w H.size)) (hS : va_S A0 H0 H locs) (hD : va_D A0 w) (hA : ∀ q, H0.size ≤ q → A0 q)
    (kk : ∀ (H1 : Heap) (locs1 : List Loc), va_P D vwCl w' H1 → va_D A0 w' → va_S A0 H0 H1 locs1 → W p l e R s m args below meth c H1 locs1 cells slots Q (F0 m (pc + 3) ls (.int r :: rest))) : W p l e R s m args below meth c H locs cells slots Q (F0 m pc ls st0) := by
  have hF := free_all hD hS hA
  refine va_calli hr hS (fun q _ h => hF q h) hF (fun r1 u t H1 locs1 ht hvm hw hB hz1 hk1 hS1 => ?_)
  subst hw
  exact kk H1 locs1 (by rw [← ht]; exact hB.1) (hB.2.2.weaken (fun _ _ _ h => hF _ h)) hS1
theorem bc_z {r : Int32} (hr : va_Run p l e R s m args below meth c H locs cells slots 0 0 (F0 m pc ls st0) rest (va_Qi (fun x (_ : Unit) => x = r ∧ narrow .boolean (.int r) = .int r) (fun _ t => Bout D cI cO (va_A w H.size) w' t) (va_A w H.size) a) (va_A w H.size)) (hS : va_S A0 H0 H locs) (hD : va_D A0 w) (hA : ∀ q, H0.size ≤ q → A0 q)
    (kk : ∀ (H1 : Heap) (locs1 : List Loc), va_P D vwCl w' H1 → va_D A0 w' → va_S A0 H0 H1 locs1 → narrow .boolean (.int r) = .int r → W p l e R s m args below meth c H1 locs1 cells slots Q (F0 m (pc + 3) ls (.int r :: rest))) : W p l e R s m args below meth c H locs cells slots Q (F0 m pc ls st0) := by
  have hF := free_all hD hS hA
  refine va_calli hr hS (fun q _ h => hF q h) hF (fun r1 u t H1 locs1 ht hvm hw hB hz1 hk1 hS1 => ?_)
  obtain ⟨hw, hn⟩ := hw
  subst hw
  exact kk H1 locs1 (by rw [← ht]; exact hB.1) (hB.2.2.weaken (fun _ _ _ h => hF _ h)) hS1 hn
theorem bc_l {r : Int64} (hr : va_Run p l e R s m args below meth c H locs cells slots 0 0 (F0 m pc ls st0) rest (va_Ql (fun x (_ : Unit) => x = r) (fun _ t => Bout D cI cO (va_A w H.size) w' t) (va_A w H.size) a) (va_A w H.size)) (hS : va_S A0 H0 H locs) (hD : va_D A0 w) (hA : ∀ q, H0.size ≤ q → A0 q)
    (kk : ∀ (H1 : Heap) (locs1 : List Loc), va_P D vwCl w' H1 → va_D A0 w' → va_S A0 H0 H1 locs1 → W p l e R s m args below meth c H1 locs1 cells slots Q (F0 m (pc + 3) ls (.long r :: rest))) : W p l e R s m args below meth c H locs cells slots Q (F0 m pc ls st0) := by
  have hF := free_all hD hS hA
  refine va_calll hr hS (fun q _ h => hF q h) hF (fun r1 u t H1 locs1 ht hvm hw hB hz1 hk1 hS1 => ?_)
  subst hw
  exact kk H1 locs1 (by rw [← ht]; exact hB.1) (hB.2.2.weaken (fun _ _ _ h => hF _ h)) hS1
theorem bc_v (hr : va_Run p l e R s m args below meth c H locs cells slots 0 0 (F0 m pc ls st0) rest (va_Qv (fun (_ : Unit) => True) (fun _ t => Bout D cI cO (va_A w H.size) w' t) (va_A w H.size) a) (va_A w H.size)) (hS : va_S A0 H0 H locs) (hD : va_D A0 w) (hA : ∀ q, H0.size ≤ q → A0 q)
    (kk : ∀ (H1 : Heap) (locs1 : List Loc), va_P D vwCl w' H1 → va_D A0 w' → va_S A0 H0 H1 locs1 → W p l e R s m args below meth c H1 locs1 cells slots Q (F0 m (pc + 3) ls rest)) : W p l e R s m args below meth c H locs cells slots Q (F0 m pc ls st0) := by
  have hF := free_all hD hS hA
  refine va_callv hr hS (fun q _ h => hF q h) hF (fun u t H1 locs1 ht hvm hw hB hz1 hk1 hS1 => ?_)
  exact kk H1 locs1 (by rw [← ht]; exact hB.1) (hB.2.2.weaken (fun _ _ _ h => hF _ h)) hS1
/-! rows over a world -/
variable {cc : ByteArray}
theorem bw_get (hx : p.tables.exec = Jvm.exec) (hb : c.code = cc) {own C : String} {T : u_T} {N ci index : Nat} {Ts : List Cond} (hts : ∀ w ∈ Ts, w.before args s = true) (hin : ∀ w ∈ u_ws C T N, w ∈ Ts) (hown : s.vm.findClass own = some m.cls) (hK : va_K D vwCl (TY cI cO) s) (hP : va_P D vwCl w H) (q0 : Nat) {ar : Nat} {fs : List Value} (he : w[q0]? = some (ar, .inr (ci, fs))) (hc : vwCl[ci]? = some (C, T, N)) (k : Nat) (hk : k < N) (hlink : (Cond.fieldLink own index (T k).1 (T k).2.1 (T k).2.2.1).before args s = true) {v : Value} (hv : fs[k]? = some v) (hdg : decode cc pc = .ok (.getfield index, 3))
    (kk : W p l e R s m args below meth c H locs cells slots Q (F0 m (pc + 3) ls (v :: rest))) : W p l e R s m args below meth c H locs cells slots Q (F0 m pc ls (.ref ar :: rest)) :=
  va_get hx hb hts hin hown hK hP q0 he hc k hk hlink (fun _ h9 => h9) hv hdg kk
theorem bw_put (hx : p.tables.exec = Jvm.exec) (hb : c.code = cc) {own C : String} {T : u_T} {N ci index : Nat} {Ts : List Cond} (hts : ∀ w ∈ Ts, w.before args s = true) (hin : ∀ w ∈ u_ws C T N, w ∈ Ts) (ty0 : Nat → FieldType) (hty : ∀ k, k < N → parseFieldDescriptor (T k).2.2.1 = some (ty0 k)) (hnm : ∀ a, a < N → ∀ b, b < N → a ≠ b → (T a).2.1 ≠ (T b).2.1) (hown : s.vm.findClass own = some m.cls) (hK : va_K D vwCl (TY cI cO) s) (hP : va_P D vwCl w H) (hD : va_D A0 w) (hS : va_S A0 H0 H locs) (q0 : Nat) {ar : Nat} {fs : List Value} (he : w[q0]? = some (ar, .inr (ci, fs))) (hc : vwCl[ci]? = some (C, T, N)) (k : Nat) (hk : k < N) (hlink : (Cond.fieldLink own index (T k).1 (T k).2.1 (T k).2.2.1).before args s = true) (hfin : (T k).2.2.2 = false) {x : Int32} (hd : ty0 k = .int) (hl : k < fs.length) (hw : w.set q0 (ar, .inr (ci, fs.set k (.int x))) = w')
    (hdg : decode cc pc = .ok (.putfield index, 3)) (kk : ∀ (H1 : Heap) (locs1 : List Loc), va_P D vwCl w' H1 → va_D A0 w' → va_S A0 H0 H1 locs1 → W p l e R s m args below meth c H1 locs1 cells slots Q (F0 m (pc + 3) ls rest)) : W p l e R s m args below meth c H locs cells slots Q (F0 m pc ls (.int x :: .ref ar :: rest)) := by
  subst hw
  exact va_put (ty := .int) hx hb hts hin ty0 hty hnm hown hK hP hD hS q0 he hc k hk hlink (fun _ h9 => h9) hfin (by rw [hty k hk, hd]) rfl rfl hl hdg kk
theorem bw_ald (hx : p.tables.exec = Jvm.exec) (hb : c.code = cc) (hK : va_K D vwCl (TY cI cO) s) (hP : va_P D vwCl w H) (q0 : Nat) {ar n : Nat} {f : Nat → Int32} (ha : w[q0]? = some (ar, ia cI n f)) {i v : Int32} (hin : vp_in i n) (hv : f i.toNatClampNeg = v) (hdg : decode cc pc = .ok (.iaload, 1))
    (kk : W p l e R s m args below meth c H locs cells slots Q (F0 m (pc + 1) ls (.int v :: rest))) : W p l e R s m args below meth c H locs cells slots Q (F0 m pc ls (.int i :: .ref ar :: rest)) := by
  subst hv
  exact va_iald hx hb hK hP q0 0 ha rfl hin hdg kk
theorem bw_ast (hx : p.tables.exec = Jvm.exec) (hb : c.code = cc) (hK : va_K D vwCl (TY cI cO) s) (hP : va_P D vwCl w H) (hD : va_D A0 w) (hS : va_S A0 H0 H locs) (q0 : Nat) {ar n : Nat} {f : Nat → Int32} (ha : w[q0]? = some (ar, ia cI n f)) {i x : Int32} (hin : vp_in i n) (hw : w.set q0 (ar, ia cI n (upd f i.toNatClampNeg x)) = w') (hdg : decode cc pc = .ok (.iastore, 1))
    (kk : ∀ (H1 : Heap) (locs1 : List Loc), va_P D vwCl w' H1 → va_D A0 w' → va_S A0 H0 H1 locs1 → W p l e R s m args below meth c H1 locs1 cells slots Q (F0 m (pc + 1) ls rest)) : W p l e R s m args below meth c H locs cells slots Q (F0 m pc ls (.int x :: .int i :: .ref ar :: rest)) := by
  subst hw
  exact va_iast hx hb hK hP hD hS q0 0 ha rfl hin hdg kk
end BC
