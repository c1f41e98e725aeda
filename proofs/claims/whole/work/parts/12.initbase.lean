/-! constructors: the base -/
def CN (l : Launch) (y : MethodName) (wsM : List Cond) (rm : Room) (D : va_G) (cI cO : ClassId) (h0 : Nat) (w : va_W) (Wf : (Nat → Nat) → va_W) (sz mc ms : Nat) : Prop :=
  Met l y wsM rm (va_Pc [.ref h0] (Bin D cI cO w sz)) (va_Qv (fun (_ : Nat → Nat) => True) (fun u t => Bout D cI cO (va_A w sz) (Wf u) t) (va_A w sz)) mc ms (va_A w sz)
theorem mk_n {l : Launch} {y : MethodName} {wsM wsM' : List Cond} {rm : Room} {D : va_G} {cI cO : ClassId} {h0 : Nat} {w : va_W} {Wf : (Nat → Nat) → va_W} {sz mc ms : Nat} {cc : ByteArray} {maxL : Nat} {own : String}
    (hw : wsM = Cond.code y cc maxL none :: wsM') (hy : plainName y.cls = true) (ho : y.cls = own) (hnm : y.name = "<init>") (hlen : (lg_sl [Value.ref h0]).length ≤ maxL)
    (body : ∀ (p : Program) (e : Env) (s : State) (m : MethodId) (args : Array Value) (below : List Frame) (meth : Method) (c : Code) (A : Nat → Prop) (Q : State → Prop) (ls : Array Slot), p.tables.exec = Jvm.exec → c.code = cc → c.maxLocals = maxL → s.vm.findClass own = some m.cls → (∀ w ∈ wsM, w.before args s = true) → va_K D vwCl (TY cI cO) s → NS s → (∀ q, s.heap.size ≤ q → A q) → meth.name = "<init>" →
      (∀ (H : Heap) (locs : List Loc) (pc : Nat) (ls : Array Slot) (u : Nat → Nat), decode cc pc = .ok (.return_, 1) → va_P D vwCl (Wf u) H → va_D A (Wf u) → va_S A s.heap H locs → W p l e rm s m args below meth c H locs mc ms Q (F0 m pc ls [])) →
      va_P D vwCl w s.heap → va_D A w → va_S A s.heap s.heap [] → lv_has ls maxL (lv_args 0 [Value.ref h0]) → W p l e rm s m args below meth c s.heap [] 0 0 Q (F0 m 0 ls [])) :
    CN l y wsM rm D cI cO h0 w Wf sz mc ms := by
  refine Met.ofW (cc := cc) (maxL := maxL) (ret := none) hy hw ?_
  intro p e s m args below meth c s₁ B hml hv
  obtain ⟨rfl, hsz, hP, hK, hD0, hN⟩ := hv
  have hx := B.exec
  have hb := B.bytes
  have hr := B.returns
  have hts := atoms_spec (ws := wsM) B.pre
  have hown : s.vm.findClass own = some m.cls := ho ▸ findClass_of_methodNamed B.named
  have hlocks := B.notSynchronized
  have hin : meth.name = "<init>" := (name_of_methodNamed B.named B.method).1.trans hnm
  subst hsz
  have hD := hD0.self (sz := s.heap.size)
  have hl := lv_entry [Value.ref h0] (n := maxL) hlen
  rw [lg_entry_eq]
  refine body p e s m _ below meth c (va_A w s.heap.size) _ _ hx hb hml hown hts hK hN (fun q h => Or.inr h) hin ?_ hP hD va_S.rf hl
  intro H locs pc ls u hd hP hD hS
  exact W.vret hx hb hr (fun t ht hW => ⟨⟨u, rfl, trivial, by rw [ht]; exact hP, va_K.moved hW.alike hK, hD⟩, hS.F ht⟩) hS.2.2 hd
section BN
variable {p : Program} {l : Launch} {e : Env} {R : Room} {s : State} {m : MethodId} {args : Array Value} {below : List Frame} {meth : Method} {c : Code} {H : Heap} {locs : List Loc} {cells slots : Nat} {Q : State → Prop}
variable {pc : Nat} {ls : Array Slot} {rest : List Value} {A0 : Nat → Prop} {H0 : Heap} {D : va_G} {cI cO : ClassId} {w : va_W} {cc : ByteArray}
theorem bw_newa (hx : p.tables.exec = Jvm.exec) (hb : c.code = cc) (harr : (Cond.arrayClass .int).before args s = true) (hK : va_K D vwCl (TY cI cO) s) (hP : va_P D vwCl w H) (hD : va_D A0 w) (hS : va_S A0 H0 H locs) (hA : ∀ q, H0.size ≤ q → A0 q)
    {n : Int32} {N' : Nat} (hn : ¬ n < 0) (hN : n.toNatClampNeg = N') (hbytes : N' * 4 ≤ 536870912) (hcells : cells + 1 ≤ R.cells) (hslots : slots + N' ≤ R.slots) (hdg : decode cc pc = .ok (.newarray .int, 2))
    (kk : ∀ (q : Nat) (H1 : Heap), va_P D vwCl (w ++ [(q, ia cI N' (fun _ => 0))]) H1 → va_D A0 (w ++ [(q, ia cI N' (fun _ => 0))]) → va_S A0 H0 H1 locs → W p l e R s m args below meth c H1 locs (cells + 1) (slots + N') Q (F0 m (pc + 2) ls (.ref q :: rest))) : W p l e R s m args below meth c H locs cells slots Q (F0 m pc ls (.int n :: rest)) := by
  refine va_newa (atype := .int) (ty := .int) (a0 := (N', .inl (fun _ => 0))) hx hb harr rfl hK hP hD hS hA (fun cA => rfl) hn hN hbytes hcells hslots hdg (fun q cA H1 hK1 hP1 hD1 hS1 => ?_)
  have h1 : s.vm.findClass ("[" ++ FieldType.int.toString) = some cA := (hK1.2 2 (cA, .int) rfl).2
  have h2 : s.vm.findClass ("[" ++ FieldType.int.toString) = some cI := (hK.2 0 (cI, .int) rfl).2
  have e1 : cA = cI := Option.some.inj (h1.symm.trans h2)
  subst e1
  exact kk q H1 hP1 hD1 hS1
theorem bw_newq (hx : p.tables.exec = Jvm.exec) (hb : c.code = cc) {own : String} {index : Nat} (hown : s.vm.findClass own = some m.cls) (hclink : (Cond.classLink own index "BellNames$Sheet").before args s = true) (hover : va_AO "BellNames$Sheet" s) (hK : va_K D vwCl (TY cI cO) s) (hP : va_P D vwCl w H) (hD : va_D A0 w) (hS : va_S A0 H0 H locs) (hA : ∀ q, H0.size ≤ q → A0 q)
    {n : Int32} {N' : Nat} (hn : ¬ n < 0) (hN : n.toNatClampNeg = N') (hbytes : N' * 4 ≤ 536870912) (hcells : cells + 1 ≤ R.cells) (hslots : slots + N' ≤ R.slots) (hdg : decode cc pc = .ok (.anewarray index, 3))
    (kk : ∀ (q : Nat) (H1 : Heap), va_P D vwCl (w ++ [(q, .inl (cO, N', .inr (.inr (.inr (.inr (fun _ => none))))))]) H1 → va_D A0 (w ++ [(q, .inl (cO, N', .inr (.inr (.inr (.inr (fun _ => none))))))]) → va_S A0 H0 H1 locs → W p l e R s m args below meth c H1 locs (cells + 1) (slots + N') Q (F0 m (pc + 3) ls (.ref q :: rest))) : W p l e R s m args below meth c H locs cells slots Q (F0 m pc ls (.int n :: rest)) := by
  refine va_newq hx hb hown hclink hover hK hP hD hS hA hn hN hbytes hcells hslots hdg (fun q cA H1 hK1 hP1 hD1 hS1 => ?_)
  obtain ⟨-, -, -, -, -, h1⟩ : va_RA s cA (.object "BellNames$Sheet") := (hK1.2 2 (cA, .object "BellNames$Sheet") rfl).2
  obtain ⟨-, -, -, -, -, h2⟩ : va_RA s cO (.object "BellNames$Sheet") := (hK.2 1 (cO, .object "BellNames$Sheet") rfl).2
  have e1 : cA = cO := Option.some.inj (h1.symm.trans h2)
  subst e1
  exact kk q H1 hP1 hD1 hS1
end BN
theorem ra_swap {D : va_G} {cO : ClassId} {w : va_W} {H : Heap} (hP : va_P D vwCl w H) (p : Nat) {a n : Nat} {f : Nat → Option Nat} (hp : w[p]? = some (a, .inl (cO, n, .inr (.inr (.inr (.inr f)))))) {g : Nat → Option Nat} (hfg : ∀ j, j < n → f j = g j) : va_P D vwCl (w.set p (a, .inl (cO, n, .inr (.inr (.inr (.inr g)))))) H := by
  intro k q hk
  have hlt : p < w.length := (List.getElem?_eq_some_iff.mp hp).1
  by_cases h : p = k
  · subst h
    rw [List.getElem?_set_self hlt] at hk
    cases hk
    show H[a]? = some (vp_cell cO (n, .inr (.inr (.inr (.inr g)))))
    have h1 : H[a]? = some (vp_cell cO (n, .inr (.inr (.inr (.inr f))))) := hP p _ hp
    have h2 : (fun j : Fin n => va_rf (f j.val)) = (fun j : Fin n => va_rf (g j.val)) := funext (fun j => by rw [hfg j.val j.isLt])
    rw [h1]
    show some ({ cls := cO, slots := Array.ofFn (n := n) (fun j : Fin n => va_rf (f j.val)), vm := .none } : Cell) = some ({ cls := cO, slots := Array.ofFn (n := n) (fun j : Fin n => va_rf (g j.val)), vm := .none } : Cell)
    rw [h2]
  · rw [List.getElem?_set_ne h] at hk
    exact hP k q hk
def st0 : St := (fun k => match k with
  | 8 => -9
  | 10 => -9
  | 11 => -9
  | 12 => -9
  | 13 => -9
  | _ => 0, fun _ _ => 0)
def mt0 : St := (fun _ => 0, fun k => match k with
  | 2 => upd (upd (upd (upd (fun _ => 0) 0 (-9)) 1 (-9)) 2 (-9)) 3 (-9)
  | _ => fun _ => 0)
