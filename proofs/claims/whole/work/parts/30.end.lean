/-! THE CLAIM OUT OF ONE WALK OF THE LAW'S BODY. Your part is whole_start (and what it stands on); all else here is the same for every law, but numbers. -/
def R_law : String := "BellNamesLaw"
def lw_P (b : Addr) (xs : List Int32) (args : Array Value) (s : State) : Prop := args = #[.ref b] ∧ s.IntsAt b xs ∧ xs.length ≤ 384 ∧ (Jvm.Cond.and given_1 narrow_1).before args s = true
def lw_Q (_ : Array Value) (s : State) (o : Outcome) (t : State) : Prop := o = .returned (some (.int 1)) ∧ Framed s o t [] 600000 7302250
def lw_Z (below : List Frame) (a : Array Value) (s : State) : State → Prop := fun t => ∃ o, t.status = .running ∧ Ended t below o ∧ lw_Q a s o t
/-- the law's own end, with 1 on the stack, nothing written that was there before, its room as the claim has it -/
theorem lw_ret {p : Program} {l : Launch} {e : Env} {s : State} {m : MethodId} {below : List Frame} {meth : Method} {c : Code} {b : Nat} (hx : p.tables.exec = Jvm.exec) (hb : c.code = code) (hr : meth.sig.returnType = ret) (hlocks : meth.locks = false) {pc : Nat} {H : Heap} {ls : Array Slot} (hdg : decode code pc = .ok (.ireturn, 1)) : W p l e room_1 s m #[Value.ref b] below meth c H [] 600000 7302250 (lw_Z below #[Value.ref b] s) (F0 m pc ls [.int 1]) := by
  intro T hT X
  obtain ⟨fs, hret, hrun, hended, hW, hframe⟩ := X.leave (v := some (.int 1)) (hlocks := hlocks) (fun h => by rw [hr] at h; cases h)
  have hmeth' : T.vm.method? m = some meth := X.method'
  refine ⟨T.setFrames fs, ?_, .returned (some (.int 1)), hrun, hended, rfl, ⟨_, rfl⟩, hW, hframe⟩
  jvm_step X.here [X.here.top, hx, hb, hdg, hmeth', hr, ret, narrow_b1]
  (try refine ⟨rfl, ?_⟩); (try refine ⟨rfl, ?_⟩)
  first | (intro acts; rw [hret _ acts rfl rfl rfl]) | rw [hret _ _ rfl rfl rfl]
  exact Steps.refl _
/-- what holds at the law's entry: the machine, the code, the tables' words (any of lw_tbl by 'hts w (by decide +kernel)'), the script of L ints xs at the cell b, what the Statement gives of the start (any of its parts by flat_of_before) -/
def lw_At (p : Program) (s : State) (m : MethodId) (meth : Method) (c : Code) (b L : Nat) (xs : Nat → Int32) : Prop :=
  p.tables.exec = Jvm.exec ∧ c.code = code ∧ meth.sig.returnType = ret ∧ c.maxLocals = 4 ∧ s.vm.findClass R_law = some m.cls ∧ (∀ w ∈ lw_tbl, w.before #[Value.ref b] s = true) ∧ va_X b L xs s s.heap ∧ b < s.heap.size ∧ meth.locks = false ∧ (Jvm.Cond.and given_1 narrow_1).before #[Value.ref b] s = true
set_option maxHeartbeats 8000000 in
set_option maxRecDepth 100000 in
theorem law_loop {p : Program} {l : Launch} {e : Env} {s : State} {m : MethodId} {below : List Frame} {meth : Method} {c : Code} {b L : Nat} {xs : Nat → Int32} {D : va_G} {cI cO : ClassId} {adB adM : Nat → Nat} (X0 : LX p s m c b L xs D cI cO) (hr : meth.sig.returnType = ret) (hlocks : meth.locks = false) (hL : L ≤ 384) :
    ∀ (n i : Nat), L + 1 ≤ i + n → i ≤ 390 → ∀ (st mt : St), Rel st mt → ∀ (H : Heap) (locs : List Loc) (ls : Array Slot), va_P D vwCl (BW cI cO adB st ++ MW cI adM mt) H → va_D (fun q : Nat => s.heap.size ≤ q) (BW cI cO adB st ++ MW cI adM mt) → va_S (fun q : Nat => s.heap.size ≤ q) s.heap H locs → lv_has ls 4 [(3, .int (nI i)), (2, .ref (adM 0)), (1, .ref (adB 0)), (0, .ref b)] → W p l e room_1 s m #[Value.ref b] below meth c H locs 42 694 (lw_Z below #[Value.ref b] s) (F0 m 18 ls []) := by
  obtain ⟨hx, hb, hml, hown, hts, hX, hbl, hK, hN⟩ := id X0
  have hbA : ¬ (fun q : Nat => s.heap.size ≤ q) b := Nat.not_le.mpr hbl
  have hend : ∀ (H : Heap) (locs : List Loc) (ls : Array Slot), va_S (fun q : Nat => s.heap.size ≤ q) s.heap H locs → W p l e room_1 s m #[Value.ref b] below meth c H locs 42 694 (lw_Z below #[Value.ref b] s) (F0 m 1217 ls []) := by
    intro H locs ls hS
    refine lv_iconst (v := 1) hx hb dL_law_1217 (by decide) ?_
    refine va_forget (fun q hq => hS.2.2 q hq) ?_
    refine W.widen (k := 600000) (n := 7302250) (Nat.le_of_ble_eq_true rfl) (Nat.le_of_ble_eq_true rfl) ?_
    exact lw_ret hx hb hr hlocks dL_law_1218
  intro n
  induction n with
  | zero =>
    intro i hin hi9 st mt hrel H locs ls hP hD hS hl
    refine lv_iload_n hx hb dL_law_18 rfl (lv_at hl 0 rfl) ?_
    refine lv_aload_n hx hb dL_law_19 rfl (lv_at hl 3 rfl) ?_
    refine va_slen hx hb hX hbl hbA hS dL_law_20 ?_
    refine lv_bipush (v := 6) hx hb dL_law_21 (by decide) ?_
    refine lv_isub hx hb dL_law_23 ?_
    refine lv_icmp_gt (tgt := 1217) hx hb dL_law_24 (by decide) (fun c_1 => hend _ _ _ hS) (fun c_1 => absurd ((sc_gt hL hi9).mpr (by omega)) c_1)
  | succ n ih =>
    intro i hin hi9 st mt hrel H locs ls hP hD hS hl
    refine lv_iload_n hx hb dL_law_18 rfl (lv_at hl 0 rfl) ?_
    refine lv_aload_n hx hb dL_law_19 rfl (lv_at hl 3 rfl) ?_
    refine va_slen hx hb hX hbl hbA hS dL_law_20 ?_
    refine lv_bipush (v := 6) hx hb dL_law_21 (by decide) ?_
    refine lv_isub hx hb dL_law_23 ?_
    refine lv_icmp_gt (tgt := 1217) hx hb dL_law_24 (by decide) (fun c_1 => hend _ _ _ hS) (fun c_1 => ?_)
    have hi : i + 6 ≤ L := Nat.le_of_not_lt (fun z => c_1 ((sc_gt hL hi9).mpr z))
    have kk : ∀ (st2 mt2 : St) (H : Heap) (locs : List Loc), Rel st2 mt2 → va_P D vwCl (BW cI cO adB st2 ++ MW cI adM mt2) H → va_D (fun q : Nat => s.heap.size ≤ q) (BW cI cO adB st2 ++ MW cI adM mt2) → va_S (fun q : Nat => s.heap.size ≤ q) s.heap H locs → W p l e room_1 s m #[Value.ref b] below meth c H locs 42 694 (lw_Z below #[Value.ref b] s) (F0 m 1211 ls []) := by
      intro st2 mt2 H locs hr2 hP hD hS
      refine lv_iinc (v := nI (i + 6)) (lv' := [(3, .int (nI (i + 6))), (2, .ref (adM 0)), (1, .ref (adB 0)), (0, .ref b)]) hx hb dL_law_1211 hl (k := 0) rfl (nI_add i 6) (by decide) rfl (fun ls hl => ?_)
      refine lv_goto (tgt := 18) hx hb dL_law_1214 (by decide) ?_
      exact ih (i + 6) (by omega) (by omega) st2 mt2 hr2 H locs ls hP hD hS hl
    refine lv_aload_n hx hb dL_law_27 rfl (lv_at hl 3 rfl) ?_
    refine lv_iload_n hx hb dL_law_28 rfl (lv_at hl 0 rfl) ?_
    refine va_sld hx hb hX hbl hbA hS (vp_in_nI (show i < L by omega) (by omega)) dL_law_29 ?_
    refine lv_bipush (v := 63) hx hb dL_law_30 (by decide) ?_
    refine lv_iand hx hb dL_law_32 ?_
    generalize xs (nI i).toNatClampNeg &&& 63 = sw
    by_cases w_0 : sw = 0
    · refine lv_tableIn (off := 147) (tgt := 180) hx hb dL_law_33 (by rw [w_0]; decide) (by rw [w_0]; decide) (by rw [w_0]; rfl) (by decide) ?_
      exact lc_0 X0 hL hi hrel hP hD hS hl kk
    by_cases w_1 : sw = 1
    · refine lv_tableIn (off := 200) (tgt := 233) hx hb dL_law_33 (by rw [w_1]; decide) (by rw [w_1]; decide) (by rw [w_1]; rfl) (by decide) ?_
      exact lc_1 X0 hL hi hrel hP hD hS hl kk
    by_cases w_2 : sw = 2
    · refine lv_tableIn (off := 233) (tgt := 266) hx hb dL_law_33 (by rw [w_2]; decide) (by rw [w_2]; decide) (by rw [w_2]; rfl) (by decide) ?_
      exact lc_2 X0 hL hi hrel hP hD hS hl kk
    by_cases w_3 : sw = 3
    · refine lv_tableIn (off := 266) (tgt := 299) hx hb dL_law_33 (by rw [w_3]; decide) (by rw [w_3]; decide) (by rw [w_3]; rfl) (by decide) ?_
      exact lc_3 X0 hL hi hrel hP hD hS hl kk
    by_cases w_4 : sw = 4
    · refine lv_tableIn (off := 299) (tgt := 332) hx hb dL_law_33 (by rw [w_4]; decide) (by rw [w_4]; decide) (by rw [w_4]; rfl) (by decide) ?_
      exact lc_4 X0 hL hi hrel hP hD hS hl kk
    by_cases w_5 : sw = 5
    · refine lv_tableIn (off := 332) (tgt := 365) hx hb dL_law_33 (by rw [w_5]; decide) (by rw [w_5]; decide) (by rw [w_5]; rfl) (by decide) ?_
      exact lc_5 X0 hL hi hrel hP hD hS hl kk
    by_cases w_6 : sw = 6
    · refine lv_tableIn (off := 355) (tgt := 388) hx hb dL_law_33 (by rw [w_6]; decide) (by rw [w_6]; decide) (by rw [w_6]; rfl) (by decide) ?_
      exact lc_6 X0 hL hi hrel hP hD hS hl kk
    by_cases w_7 : sw = 7
    · refine lv_tableIn (off := 388) (tgt := 421) hx hb dL_law_33 (by rw [w_7]; decide) (by rw [w_7]; decide) (by rw [w_7]; rfl) (by decide) ?_
      exact lc_7 X0 hL hi hrel hP hD hS hl kk
    by_cases w_8 : sw = 8
    · refine lv_tableIn (off := 411) (tgt := 444) hx hb dL_law_33 (by rw [w_8]; decide) (by rw [w_8]; decide) (by rw [w_8]; rfl) (by decide) ?_
      exact lc_8 X0 hL hi hrel hP hD hS hl kk
    by_cases w_9 : sw = 9
    · refine lv_tableIn (off := 444) (tgt := 477) hx hb dL_law_33 (by rw [w_9]; decide) (by rw [w_9]; decide) (by rw [w_9]; rfl) (by decide) ?_
      exact lc_9 X0 hL hi hrel hP hD hS hl kk
    by_cases w_10 : sw = 10
    · refine lv_tableIn (off := 477) (tgt := 510) hx hb dL_law_33 (by rw [w_10]; decide) (by rw [w_10]; decide) (by rw [w_10]; rfl) (by decide) ?_
      exact lc_10 X0 hL hi hrel hP hD hS hl kk
    by_cases w_11 : sw = 11
    · refine lv_tableIn (off := 500) (tgt := 533) hx hb dL_law_33 (by rw [w_11]; decide) (by rw [w_11]; decide) (by rw [w_11]; rfl) (by decide) ?_
      exact lc_11 X0 hL hi hrel hP hD hS hl kk
    by_cases w_12 : sw = 12
    · refine lv_tableIn (off := 563) (tgt := 596) hx hb dL_law_33 (by rw [w_12]; decide) (by rw [w_12]; decide) (by rw [w_12]; rfl) (by decide) ?_
      exact lc_12 X0 hL hi hrel hP hD hS hl kk
    by_cases w_13 : sw = 13
    · refine lv_tableIn (off := 586) (tgt := 619) hx hb dL_law_33 (by rw [w_13]; decide) (by rw [w_13]; decide) (by rw [w_13]; rfl) (by decide) ?_
      exact lc_13 X0 hL hi hrel hP hD hS hl kk
    by_cases w_14 : sw = 14
    · refine lv_tableIn (off := 619) (tgt := 652) hx hb dL_law_33 (by rw [w_14]; decide) (by rw [w_14]; decide) (by rw [w_14]; rfl) (by decide) ?_
      exact lc_14 X0 hL hi hrel hP hD hS hl kk
    by_cases w_15 : sw = 15
    · refine lv_tableIn (off := 642) (tgt := 675) hx hb dL_law_33 (by rw [w_15]; decide) (by rw [w_15]; decide) (by rw [w_15]; rfl) (by decide) ?_
      exact lc_15 X0 hL hi hrel hP hD hS hl kk
    by_cases w_16 : sw = 16
    · refine lv_tableIn (off := 665) (tgt := 698) hx hb dL_law_33 (by rw [w_16]; decide) (by rw [w_16]; decide) (by rw [w_16]; rfl) (by decide) ?_
      exact lc_16 X0 hL hi hrel hP hD hS hl kk
    by_cases w_17 : sw = 17
    · refine lv_tableIn (off := 708) (tgt := 741) hx hb dL_law_33 (by rw [w_17]; decide) (by rw [w_17]; decide) (by rw [w_17]; rfl) (by decide) ?_
      exact lc_17 X0 hL hi hrel hP hD hS hl kk
    by_cases w_18 : sw = 18
    · refine lv_tableIn (off := 731) (tgt := 764) hx hb dL_law_33 (by rw [w_18]; decide) (by rw [w_18]; decide) (by rw [w_18]; rfl) (by decide) ?_
      exact lc_18 X0 hL hi hrel hP hD hS hl kk
    by_cases w_19 : sw = 19
    · refine lv_tableIn (off := 754) (tgt := 787) hx hb dL_law_33 (by rw [w_19]; decide) (by rw [w_19]; decide) (by rw [w_19]; rfl) (by decide) ?_
      exact lc_19 X0 hL hi hrel hP hD hS hl kk
    by_cases w_20 : sw = 20
    · refine lv_tableIn (off := 777) (tgt := 810) hx hb dL_law_33 (by rw [w_20]; decide) (by rw [w_20]; decide) (by rw [w_20]; rfl) (by decide) ?_
      exact lc_20 X0 hL hi hrel hP hD hS hl kk
    by_cases w_21 : sw = 21
    · refine lv_tableIn (off := 790) (tgt := 823) hx hb dL_law_33 (by rw [w_21]; decide) (by rw [w_21]; decide) (by rw [w_21]; rfl) (by decide) ?_
      exact lc_21 X0 hL hi hrel hP hD hS hl kk
    by_cases w_22 : sw = 22
    · refine lv_tableIn (off := 834) (tgt := 867) hx hb dL_law_33 (by rw [w_22]; decide) (by rw [w_22]; decide) (by rw [w_22]; rfl) (by decide) ?_
      exact lc_22 X0 hL hi hrel hP hD hS hl kk
    by_cases w_23 : sw = 23
    · refine lv_tableIn (off := 877) (tgt := 910) hx hb dL_law_33 (by rw [w_23]; decide) (by rw [w_23]; decide) (by rw [w_23]; rfl) (by decide) ?_
      exact lc_23 X0 hL hi hrel hP hD hS hl kk
    by_cases w_24 : sw = 24
    · refine lv_tableIn (off := 900) (tgt := 933) hx hb dL_law_33 (by rw [w_24]; decide) (by rw [w_24]; decide) (by rw [w_24]; rfl) (by decide) ?_
      exact lc_24 X0 hL hi hrel hP hD hS hl kk
    by_cases w_25 : sw = 25
    · refine lv_tableIn (off := 943) (tgt := 976) hx hb dL_law_33 (by rw [w_25]; decide) (by rw [w_25]; decide) (by rw [w_25]; rfl) (by decide) ?_
      exact lc_25 X0 hL hi hrel hP hD hS hl kk
    by_cases w_26 : sw = 26
    · refine lv_tableIn (off := 987) (tgt := 1020) hx hb dL_law_33 (by rw [w_26]; decide) (by rw [w_26]; decide) (by rw [w_26]; rfl) (by decide) ?_
      exact lc_26 X0 hL hi hrel hP hD hS hl kk
    by_cases w_27 : sw = 27
    · refine lv_tableIn (off := 1050) (tgt := 1083) hx hb dL_law_33 (by rw [w_27]; decide) (by rw [w_27]; decide) (by rw [w_27]; rfl) (by decide) ?_
      exact lc_27 X0 hL hi hrel hP hD hS hl kk
    by_cases w_28 : sw = 28
    · refine lv_tableIn (off := 1073) (tgt := 1106) hx hb dL_law_33 (by rw [w_28]; decide) (by rw [w_28]; decide) (by rw [w_28]; rfl) (by decide) ?_
      exact lc_28 X0 hL hi hrel hP hD hS hl kk
    by_cases w_29 : sw = 29
    · refine lv_tableIn (off := 1096) (tgt := 1129) hx hb dL_law_33 (by rw [w_29]; decide) (by rw [w_29]; decide) (by rw [w_29]; rfl) (by decide) ?_
      exact lc_29 X0 hL hi hrel hP hD hS hl kk
    by_cases w_30 : sw = 30
    · refine lv_tableIn (off := 1129) (tgt := 1162) hx hb dL_law_33 (by rw [w_30]; decide) (by rw [w_30]; decide) (by rw [w_30]; rfl) (by decide) ?_
      exact lc_30 X0 hL hi hrel hP hD hS hl kk
    by_cases w_31 : sw = 31
    · refine lv_tableIn (off := 1142) (tgt := 1175) hx hb dL_law_33 (by rw [w_31]; decide) (by rw [w_31]; decide) (by rw [w_31]; rfl) (by decide) ?_
      exact lc_31 X0 hL hi hrel hP hD hS hl kk
    by_cases w_32 : sw = 32
    · refine lv_tableIn (off := 1155) (tgt := 1188) hx hb dL_law_33 (by rw [w_32]; decide) (by rw [w_32]; decide) (by rw [w_32]; rfl) (by decide) ?_
      exact lc_32 X0 hL hi hrel hP hD hS hl kk
    refine lv_tableOut (tgt := 1211) hx hb dL_law_33 (tb_out (lo := 0) (hi := 32) sw (fun j h1 h2 => ?_)) (by decide) (kk st mt H locs hrel hP hD hS)
    rcases (show j = 0 ∨ j = 1 ∨ j = 2 ∨ j = 3 ∨ j = 4 ∨ j = 5 ∨ j = 6 ∨ j = 7 ∨ j = 8 ∨ j = 9 ∨ j = 10 ∨ j = 11 ∨ j = 12 ∨ j = 13 ∨ j = 14 ∨ j = 15 ∨ j = 16 ∨ j = 17 ∨ j = 18 ∨ j = 19 ∨ j = 20 ∨ j = 21 ∨ j = 22 ∨ j = 23 ∨ j = 24 ∨ j = 25 ∨ j = 26 ∨ j = 27 ∨ j = 28 ∨ j = 29 ∨ j = 30 ∨ j = 31 ∨ j = 32 by omega) with rfl | rfl | rfl | rfl | rfl | rfl | rfl | rfl | rfl | rfl | rfl | rfl | rfl | rfl | rfl | rfl | rfl | rfl | rfl | rfl | rfl | rfl | rfl | rfl | rfl | rfl | rfl | rfl | rfl | rfl | rfl | rfl | rfl
    · exact lv_neT w_0 rfl
    · exact lv_neT w_1 rfl
    · exact lv_neT w_2 rfl
    · exact lv_neT w_3 rfl
    · exact lv_neT w_4 rfl
    · exact lv_neT w_5 rfl
    · exact lv_neT w_6 rfl
    · exact lv_neT w_7 rfl
    · exact lv_neT w_8 rfl
    · exact lv_neT w_9 rfl
    · exact lv_neT w_10 rfl
    · exact lv_neT w_11 rfl
    · exact lv_neT w_12 rfl
    · exact lv_neT w_13 rfl
    · exact lv_neT w_14 rfl
    · exact lv_neT w_15 rfl
    · exact lv_neT w_16 rfl
    · exact lv_neT w_17 rfl
    · exact lv_neT w_18 rfl
    · exact lv_neT w_19 rfl
    · exact lv_neT w_20 rfl
    · exact lv_neT w_21 rfl
    · exact lv_neT w_22 rfl
    · exact lv_neT w_23 rfl
    · exact lv_neT w_24 rfl
    · exact lv_neT w_25 rfl
    · exact lv_neT w_26 rfl
    · exact lv_neT w_27 rfl
    · exact lv_neT w_28 rfl
    · exact lv_neT w_29 rfl
    · exact lv_neT w_30 rfl
    · exact lv_neT w_31 rfl
    · exact lv_neT w_32 rfl
set_option maxHeartbeats 8000000 in
set_option maxRecDepth 100000 in
theorem whole_start {p : Program} {e : Env} {s : State} {m : MethodId} {below : List Frame} {meth : Method} {c : Code} (l : Launch) {b L : Nat} {xs : Nat → Int32} (hL : L ≤ 384) (C0 : lw_At p s m meth c b L xs) : W p l e room_1 s m #[Value.ref b] below meth c s.heap [] 0 0 (lw_Z below #[Value.ref b] s) (entryFrame m ([Value.ref b] : List Value).toArray 4) := by
  obtain ⟨hx, hb, hr, hml, hown, hts0, hX, hbl, hlocks, hgv⟩ := C0
  have hts : ∀ w ∈ wsL_law, w.before #[Value.ref b] s = true := fun w h => hts0 w (wsL_law_in w h)
  have hA : ∀ q : Nat, s.heap.size ≤ q → (fun q : Nat => s.heap.size ≤ q) q := fun _ h => h
  have hbA : ¬ (fun q : Nat => s.heap.size ≤ q) b := Nat.not_le.mpr hbl
  obtain ⟨c0, iS0, hKn0⟩ := u_known (C := RX0) (T := TX0) (N := 3) (n := 3) hts0 inX0 (hts0 (.instantiable RX0 3) (by decide +kernel))
  obtain ⟨c1, iS1, hKn1⟩ := u_known (C := RX1) (T := TX1) (N := 7) (n := 7) hts0 inX1 (hts0 (.instantiable RX1 7) (by decide +kernel))
  obtain ⟨c2, iS2, hKn2⟩ := u_known (C := RX2) (T := TX2) (N := 4) (n := 4) hts0 inX2 (hts0 (.instantiable RX2 4) (by decide +kernel))
  obtain ⟨c3, iS3, hKn3⟩ := u_known (C := RX3) (T := TX3) (N := 3) (n := 3) hts0 inX3 (hts0 (.instantiable RX3 3) (by decide +kernel))
  obtain ⟨c4, iS4, hKn4⟩ := u_known (C := RX5) (T := TX5) (N := 3) (n := 3) hts0 inX5 (hts0 (.instantiable RX5 3) (by decide +kernel))
  obtain ⟨c5, iS5, hKn5⟩ := u_known (C := RX6) (T := TX6) (N := 7) (n := 7) hts0 inX6 (hts0 (.instantiable RX6 7) (by decide +kernel))
  obtain ⟨c6, iS6, hKn6⟩ := u_known (C := RX7) (T := TX7) (N := 28) (n := 28) hts0 inX7 (hts0 (.instantiable RX7 28) (by decide +kernel))
  obtain ⟨D, hKc⟩ : ∃ D : va_G, ∀ (k : Nat) (q : vw_C), vwCl[k]? = some q → u_Kn s q.1 q.2.1 q.2.2 (D.1 k) (D.2 k) := by
    refine ⟨(fun k => if k = 0 then c0 else if k = 1 then c1 else if k = 2 then c2 else if k = 3 then c3 else if k = 4 then c4 else if k = 5 then c5 else c6, fun k => if k = 0 then iS0 else if k = 1 then iS1 else if k = 2 then iS2 else if k = 3 then iS3 else if k = 4 then iS4 else if k = 5 then iS5 else iS6), ?_⟩
    intro k q hq
    match k, hq with
    | 0, hq => cases hq; exact hKn0
    | 1, hq => cases hq; exact hKn1
    | 2, hq => cases hq; exact hKn2
    | 3, hq => cases hq; exact hKn3
    | 4, hq => cases hq; exact hKn4
    | 5, hq => cases hq; exact hKn5
    | 6, hq => cases hq; exact hKn6
    | k + 7, hq => simp [vwCl] at hq
  obtain ⟨cI, kI, compI, hn1, hk1, hkd1⟩ := Cond.arrayClass_spec (hts0 (.arrayClass .int) (by decide +kernel))
  have hao : va_AO "BellNames$Sheet" s := va_AO.of (hts0 (.arrayOver (.object "BellNames$Sheet")) (by decide +kernel))
  obtain ⟨compO, cO, kO, hn2, hidx, hk2, hkd2, hn3⟩ := Cond.arrayOver_spec hao
  have hK : va_K D vwCl (TY cI cO) s := by
    refine ⟨hKc, fun k q h => ?_⟩
    match k, h with
    | 0, h => cases h; exact ⟨fun n z => ⟨fun k h => (by cases h), kI, hk1, compI, hkd1⟩, hn1⟩
    | 1, h => cases h; exact ⟨fun n z => ⟨fun k h => (by cases h), kO, hk2, compO, hkd2⟩, kO, compO, hk2, hkd2, hn2, hn3⟩
    | k + 2, h => simp at h
  have hN : NS s := ⟨va_Nw.of rfl (hts0 (.methodLinkNest "BellNames" 19 yX1_init "BellNames") (by decide +kernel)), va_Nw.of rfl (hts0 (.methodLinkNest "BellNames" 26 yX2_init "BellNames") (by decide +kernel)), va_Nw.of rfl (hts0 (.methodLinkNest "BellNames" 33 yX0_init "BellNames") (by decide +kernel)), va_Nw.of rfl (hts0 (.methodLinkNest "BellNames" 40 yX5_init "BellNames") (by decide +kernel)), va_Nw.of rfl (hts0 (.methodLinkNest "BellNames" 52 yX3_init "BellNames") (by decide +kernel)), va_Nw.of rfl (hts0 (.methodLinkNest "BellNames$Text" 21 yX6_isBelow "BellNames") (by decide +kernel)), va_Nw.of rfl (hts0 (.methodLinkNest "BellNames$Herd" 34 yX6_isBelow "BellNames") (by decide +kernel)), va_Nw.of rfl (hts0 (.methodLinkNest "BellNames$Herd" 55 yX6_soundOf "BellNames") (by decide +kernel)), va_Nw.of rfl (hts0 (.methodLinkNest "BellNames$Walk" 40 yX6_isBelow "BellNames") (by decide +kernel)), va_Nw.of rfl (hts0 (.methodLinkNest "BellNames$Readings" 33 yX6_soundOf "BellNames") (by decide +kernel)), hao⟩
  have hS : va_S (fun q : Nat => s.heap.size ≤ q) s.heap s.heap [] := va_S.rf
  have hP : va_P D vwCl [] s.heap := fun k q h => by simp at h
  have hD : va_D (fun q : Nat => s.heap.size ≤ q) [] := ⟨fun i j p q h => by simp at h, fun k q h => by simp at h⟩
  have hl := lv_entry ([.ref b]) (n := 4) (Nat.le_of_ble_eq_true rfl)
  rw [lg_entry_eq]
  generalize (lg_sl ([.ref b]) ++ List.replicate (4 - (lg_sl ([.ref b])).length) Slot.unset).toArray = ls at hl ⊢
  have hl : lv_has ls 4 [(0, .ref b)] := hl
  refine va_new (ci := 5) (fs := [.null, .null, .null, .null, .null, .int 0, .int 0]) (C := RX6) (T := TX6) (N := 7) hx hb hts0 inX6 tyX6 tyX6_ok hown (hts0 (.classLink RL 7 RX6) (by decide +kernel)) (hts0 (.instantiable RX6 7) (by decide +kernel)) (hts0 (.initialized RX6) (by decide +kernel)) hK hP hD hS hA rfl (fun j hj => by rcases (show j = 0 ∨ j = 1 ∨ j = 2 ∨ j = 3 ∨ j = 4 ∨ j = 5 ∨ j = 6 by omega) with rfl | rfl | rfl | rfl | rfl | rfl | rfl <;> rfl) (Nat.le_of_ble_eq_true rfl) (Nat.le_of_ble_eq_true rfl) dL_law_0 (fun q0 H hP hD hS => ?_)
  refine W.widen (k := 1) (n := 7) (Nat.le_of_ble_eq_true rfl) (Nat.le_of_ble_eq_true rfl) ?_
  have hP : va_P D vwCl [(q0, .inr (5, [.null, .null, .null, .null, .null, .int 0, .int 0]))] H := hP
  have hD : va_D (fun q : Nat => s.heap.size ≤ q) [(q0, .inr (5, [.null, .null, .null, .null, .null, .int 0, .int 0]))] := hD
  refine lv_dup hx hb dL_law_3 rfl ?_
  have hFc := free_all hD hS hA
  refine va_callv (va_runI (As := []) (rest := [.ref q0]) ⟨hx, hb, hml, hown, hts⟩ (c_X6_init l D cI cO q0 H.size) (cwI 0 hts gL_law_X6_init rfl rfl rfl (hts0 (.initialized RX6) (by decide +kernel)) (hts0 (.methodLink RL 9 yX6_init) (by decide +kernel)) (hts0 (.instanceMethod yX6_init) (by decide +kernel)) rfl (by decide +kernel) ⟨Nat.le_of_ble_eq_true rfl, Nat.le_of_ble_eq_true rfl⟩) (preS hK hN hP hD) rfl rfl hl.1 rfl (lv_room (Nat.le_of_ble_eq_true rfl)) dL_law_4 ⟨Nat.le_of_ble_eq_true rfl, Nat.le_of_ble_eq_true rfl⟩) hS (fun q _ h => hFc q h) hFc (fun u1 t H1 locs ht hvm hw hB hz1 hk1 hS => ?_)
  have hP : va_P D vwCl (BW cI cO (fun j => if j = 0 then q0 else u1 j) st0) H1 := by rw [← ht]; exact hB.1
  have hD : va_D (fun q : Nat => s.heap.size ≤ q) (BW cI cO (fun j => if j = 0 then q0 else u1 j) st0) := hB.2.2.weaken (fun _ _ _ h => hFc _ h)
  obtain ⟨adB, eB⟩ : ∃ z : Nat → Nat, z = (fun j => if j = 0 then q0 else u1 j) := ⟨_, rfl⟩
  have e0 : q0 = adB 0 := by rw [eB]; rfl
  rw [← eB] at hP hD
  rw [e0]
  clear hB ht hw hk1 hz1 hFc
  refine W.widen (k := 24) (n := 339) (Nat.le_of_ble_eq_true rfl) (Nat.le_of_ble_eq_true rfl) ?_
  refine lv_astore_n (lv' := [(1, .ref (adB 0)), (0, .ref b)]) hx hb dL_law_7 rfl hl (by decide) rfl (fun ls hl => ?_)
  refine va_new (ci := 6) (fs := [.int 0, .int 0, .null, .null, .null, .int 0, .int 0, .int 0, .null, .null, .null, .null, .int 0, .int 0, .int 0, .int 0, .null, .null, .null, .null, .null, .int 0, .null, .null, .int 0, .null, .null, .null]) (C := RX7) (T := TX7) (N := 28) hx hb hts0 inX7 tyX7 tyX7_ok hown (hts0 (.classLink RL 10 RX7) (by decide +kernel)) (hts0 (.instantiable RX7 28) (by decide +kernel)) (hts0 (.initialized RX7) (by decide +kernel)) hK hP hD hS hA rfl (fun j hj => by rcases (show j = 0 ∨ j = 1 ∨ j = 2 ∨ j = 3 ∨ j = 4 ∨ j = 5 ∨ j = 6 ∨ j = 7 ∨ j = 8 ∨ j = 9 ∨ j = 10 ∨ j = 11 ∨ j = 12 ∨ j = 13 ∨ j = 14 ∨ j = 15 ∨ j = 16 ∨ j = 17 ∨ j = 18 ∨ j = 19 ∨ j = 20 ∨ j = 21 ∨ j = 22 ∨ j = 23 ∨ j = 24 ∨ j = 25 ∨ j = 26 ∨ j = 27 by omega) with rfl | rfl | rfl | rfl | rfl | rfl | rfl | rfl | rfl | rfl | rfl | rfl | rfl | rfl | rfl | rfl | rfl | rfl | rfl | rfl | rfl | rfl | rfl | rfl | rfl | rfl | rfl | rfl <;> rfl) (Nat.le_of_ble_eq_true rfl) (Nat.le_of_ble_eq_true rfl) dL_law_8 (fun q1 H hP hD hS => ?_)
  refine W.widen (k := 25) (n := 367) (Nat.le_of_ble_eq_true rfl) (Nat.le_of_ble_eq_true rfl) ?_
  refine lv_dup hx hb dL_law_11 rfl ?_
  have hFc := free_all (D_right hD) hS hA
  refine va_callv (va_runI (As := []) (rest := [.ref q1]) ⟨hx, hb, hml, hown, hts⟩ (c_X7_init l D cI cO q1 H.size) (cwI 0 hts gL_law_X7_init rfl rfl rfl (hts0 (.initialized RX7) (by decide +kernel)) (hts0 (.methodLink RL 12 yX7_init) (by decide +kernel)) (hts0 (.instanceMethod yX7_init) (by decide +kernel)) rfl (by decide +kernel) ⟨Nat.le_of_ble_eq_true rfl, Nat.le_of_ble_eq_true rfl⟩) (preS hK hN (P_right hP) (D_right hD)) rfl rfl hl.1 rfl (lv_room (Nat.le_of_ble_eq_true rfl)) dL_law_12 ⟨Nat.le_of_ble_eq_true rfl, Nat.le_of_ble_eq_true rfl⟩) hS (fun q _ h => hFc q h) hFc (fun u2 t H1 locs ht hvm hw hB hz1 hk1 hS => ?_)
  obtain ⟨hP, hD⟩ := fr_r hP hD hFc hk1 (by rw [← ht]; exact hB.1) hB.2.2
  have hP : va_P D vwCl (BW cI cO adB st0 ++ MW cI (fun j => if j = 0 then q1 else u2 j) mt0) H1 := hP
  have hD : va_D (fun q : Nat => s.heap.size ≤ q) (BW cI cO adB st0 ++ MW cI (fun j => if j = 0 then q1 else u2 j) mt0) := hD
  obtain ⟨adM, eM⟩ : ∃ z : Nat → Nat, z = (fun j => if j = 0 then q1 else u2 j) := ⟨_, rfl⟩
  have e1 : q1 = adM 0 := by rw [eM]; rfl
  rw [← eM] at hP hD
  rw [e1]
  refine W.widen (k := 42) (n := 694) (Nat.le_of_ble_eq_true rfl) (Nat.le_of_ble_eq_true rfl) ?_
  refine lv_astore_n (lv' := [(2, .ref (adM 0)), (1, .ref (adB 0)), (0, .ref b)]) hx hb dL_law_15 rfl hl (by decide) rfl (fun ls hl => ?_)
  refine lv_iconst (v := 0) hx hb dL_law_16 (by decide) ?_
  refine lv_istore_n (lv' := [(3, .int (nI 0)), (2, .ref (adM 0)), (1, .ref (adB 0)), (0, .ref b)]) hx hb dL_law_17 rfl hl (by decide) rfl (fun ls hl => ?_)
  exact law_loop ⟨hx, hb, hml, hown, hts, hX, hbl, hK, hN⟩ hr hlocks hL (L + 1) 0 (by omega) (by omega) st0 mt0 Rel0 H1 locs ls hP hD hS hl
-- ===== YOUR PART ENDS =====
set_option maxHeartbeats 4000000 in
theorem lw_walk (l : Launch) (b : Addr) (xs : List Int32) : MetFree l x (headSpec (Jvm.Cond.code x code maxLocals ret :: tables_1) room_1) (lw_P b xs) (fun _ _ _ _ _ => True) lw_Q := by
  refine MetFree.of_bodyS (code := code) (maxLocals := maxLocals) (ret := ret) (by decide) ?_ ?_
  · intro args s m h hn
    obtain ⟨meth, c, h1, h2, h3, h4, h5, h6, -, -⟩ := Cond.code_spec hn (atoms_spec (ws := Jvm.Cond.code x code maxLocals ret :: tables_1) h _ List.mem_cons_self)
    exact ⟨meth, c, h1, h2, h3, h4, h5, h6⟩
  · intro p e s m args below meth c s₁ B hml0 hP _
    obtain ⟨rfl, hx, hbd, hgv⟩ := hP
    obtain ⟨scr, harrAt, hlist, hof, hsmall⟩ := hx
    obtain ⟨hcb, hkn, -, -⟩ := State.arrayAt?_spec harrAt
    have hown : s.vm.findClass R_law = some m.cls := findClass_of_methodNamed B.named
    have hts0 : ∀ c ∈ (Jvm.Cond.code x code maxLocals ret :: tables_1), c.before #[Value.ref b] s = true := atoms_spec (ws := Jvm.Cond.code x code maxLocals ret :: tables_1) B.pre
    have hts : ∀ w ∈ lw_tbl, w.before #[Value.ref b] s = true := k2_hts_sels lw_privs (fun w hw => hts0 w (List.mem_cons_of_mem _ hw)) lw_privs_ok
    have hml : c.maxLocals = 4 := B.maxLocals_eq (hts0 _ List.mem_cons_self)
    have X₀ : Stand p l e room_1 s m #[Value.ref b] below meth c s₁ [] 0 0 := Stand.of_body B
    have hh0 : s₁.heap = s.heap := by rw [B.state]; rfl
    have hsz : scr.slots.size = xs.length := by rw [← Array.length_toList, hlist, List.length_map]
    have hval : ∀ j : Nat, j < xs.length → scr.slots[j]? = some (.int (xs.getD j 0)) := fun j hj => by
      rw [← Array.getElem?_toList, hlist]
      simp [hj]
    have hbl : b < s.heap.size := (Array.getElem?_eq_some_iff.mp hcb).1
    have hX : va_X b xs.length (fun j => xs.getD j 0) s s.heap := ⟨scr, hcb, hof, hkn, hsz, hval⟩
    have K : W p l e room_1 s m #[Value.ref b] below meth c s₁.heap [] 0 0 (lw_Z below #[Value.ref b] s) (entryFrame m ([Value.ref b] : List Value).toArray 4) := by
      rw [hh0]
      exact whole_start l hbd ⟨B.exec, B.bytes, B.returns, hml, hown, hts, hX, hbl, B.notSynchronized, hgv⟩
    obtain ⟨t, a1, o, b1, b2, b3⟩ := K s₁ rfl X₀
    exact ⟨t, o, a1, b1, b2, b3⟩
theorem lw_pre_spec {args : Array Value} {s : State} (h : (Jvm.Cond.and given_1 narrow_1).before args s = true) (hr : rest_1_c.before args s = true) : ∃ (b : Addr) (xs : List Int32), lw_P b xs args s := by
  have hs := flat_of_before _ h
  have hq := flat_of_before _ hr
  have hc : (Cond.count 1).before args s = true := hs _ (by decide +kernel)
  have harr : (Cond.arrayOf (.arg 0) .int).before args s = true := hs _ (by decide +kernel)
  have hle : (Cond.le (.length (.arg 0)) (.int 384)).before args s = true := hs _ (by decide +kernel)
  have hlen : (Cond.isInt (.length (.arg 0))).before args s = true := hq _ (by decide +kernel)
  have hall : (Cond.all (.arg 0) (.isInt (.elem (.arg 0) (.index 0)))).before args s = true := hq _ (by decide +kernel)
  obtain ⟨b, xs, hb, hx⟩ := State.ints_of_pre rfl harr hlen hall
  have hsm : xs.length < 2 ^ 31 := hx.choose_spec.2.2.2
  have hev : (Term.length (.arg 0)).eval args s none [] s = some (.int xs.length.toInt32) := hx.length_eval hb
  have hv := Cond.le_ints hev (show (Term.int 384).eval args s none [] s = some (.int 384) from rfl)
  have hd : xs.length.toInt32 ≤ 384 := by
    simpa [Cond.before, Cond.holds, hv] using hle
  have hN : xs.length ≤ 384 := (Int32.ofNat_le_ofNat hsm (by decide)).mp (show Int32.ofNat xs.length ≤ Int32.ofNat 384 from hd)
  exact ⟨b, xs, Cond.one_arg hc (show args[0]? = some (.ref b) from hb), hx, hN, h⟩
theorem lw_comes (l : Launch) : Comes l x (Jvm.Cond.code x code maxLocals ret :: tables_1) room_1 (fun tb e args s => Calls_1 tb e args s ∧ rest_1 tb e args s ∧ Pre_1 tb e args s)
    (fun _ _ args s o t => lw_Q args s o t) := by
  intro p e ha hc hk s m args below hf hfit hheap happ hpre
  obtain ⟨b, xs, hP⟩ := lw_pre_spec hpre.2.2 hpre.2.1
  obtain ⟨k, o, h1, h2, h3, hQ⟩ := lw_walk l b xs p e ha hc hk s m args below hf ((Spec.applies_iff_loose hf).mp happ).1 hP trivial
  exact ⟨k, o, h1, h2, h3, hQ⟩
theorem lw_frame {s t : State} {o : Outcome} {args : Array Value} (h : Framed s o t [] 600000 7302250) :
    Framed s o t (fieldLocs frame_1_writes args s ++ arrayLocs frame_1_arrays args s ++ staticLocs frame_1_statics s) 600000 7302250 := h
theorem lw_limb (L : Cond) (hL : ∀ (args : Array Value) (s t : State), L.after args s (.returned (some (.int 1))) t = true) :
    ArmFor flags0 classFile x code maxLocals ret World_1 tables_1 room_1 Calls_1 rest_1 Pre_1
      (fun tb e a s o t => postC L tb e a s o t ∧ Framed s o t (fieldLocs frame_1_writes a s ++ arrayLocs frame_1_arrays a s ++ staticLocs frame_1_statics s) 600000 7302250) := by
  intro l _ _ _ p e ha hc hk s m args below hf hfit hheap happ hpre
  obtain ⟨k, o, h1, h2, h3, rfl, hF⟩ := lw_comes l p e ha hc hk s m args below hf hfit hheap happ hpre
  exact ⟨k, _, h1, h2, h3, hL args s _, lw_frame hF⟩
theorem i_vc : Claimed_1_1 ∧ Claimed_1_2 := ⟨lw_limb limb_1_1 (fun args s t => by simp [limb_1_1, Cond.after, Cond.holds, Cond.value]), lw_limb limb_1_2 (fun args s t => Cond.after_iff.mpr (by
  first | (rw [show limb_1_2 = Cond.eq .result (.int 1) from rfl, Cond.eq_ints (x := 1) (y := 1) rfl rfl]; simp; done) | (simp [limb_1_2, Cond.value, Term.eval]; done)))⟩
