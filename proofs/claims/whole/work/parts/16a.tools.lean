/-! pure tools -/
theorem b1_s {α β : Type} (v : α) (k : α → Option β) : b1 (some v) k = k v := rfl
theorem b2_s {α β : Type} (v : α) (s : St) (k : α → St → Option β) : b2 (some (v, s)) k = k v s := rfl
theorem ck_nI {α : Type} {i n : Nat} {x : Option α} (h : i < n) (hn : n < 2 ^ 31) : ck (nI i) n x = x := by
  unfold ck
  exact if_neg (vp_in_nI h hn)
theorem gA_nI (st : St) (a : Nat) {i : Nat} (h : i < 2 ^ 31) : gA st a (nI i) = st.2 a i := by
  unfold gA
  rw [nI_clamp h]
theorem gI_sI (st : St) (k : Nat) (v : Int32) (j : Nat) : gI (sI st k v) j = if j = k then v else gI st j := rfl
theorem gI_sIs (st : St) (k : Nat) (v : Int32) : gI (sI st k v) k = v := by rw [gI_sI, if_pos rfl]
theorem gI_sIn (st : St) {k j : Nat} (v : Int32) (h : j ≠ k) : gI (sI st k v) j = gI st j := by rw [gI_sI, if_neg h]
theorem gI_sA (st : St) (a : Nat) (i v : Int32) (j : Nat) : gI (sA st a i v) j = gI st j := rfl
theorem gI_sC (st : St) (a b : Nat) (x y z : Int32) (j : Nat) : gI (sC st a b x y z) j = gI st j := rfl
theorem A_sI (st : St) (k : Nat) (v : Int32) : (sI st k v).2 = st.2 := rfl
theorem A_sAs (st : St) (a : Nat) {i : Nat} (v : Int32) (h : i < 2 ^ 31) (j : Nat) : (sA st a (nI i) v).2 a j = if j = i then v else st.2 a j := by
  show (va_up st.2 a (upd (st.2 a) (nI i).toNatClampNeg v)) a j = _
  rw [va_up_self, nI_clamp h]
  rfl
theorem A_sAn (st : St) {a b : Nat} (i v : Int32) (h : b ≠ a) : (sA st a i v).2 b = st.2 b := va_up_ne _ _ h
theorem n10 : ¬ (1 : Int32) = 0 := by decide
theorem rng (x : Int32) (n : Nat) (hn : n < 2 ^ 31) : (∃ j, j < n ∧ x = nI j) ∨ (x < 0 ∨ nI n ≤ x) := by
  rcases pk_ix x hn with h | h | h
  · exact Or.inr (Or.inl h)
  · exact Or.inr (Or.inr h)
  · exact Or.inl h
theorem bel_in (st : St) {j n : Nat} (h : j < n) (hn : n < 2 ^ 31) : F_X6_isBelow st (nI j) (nI n) = some 1 := by
  unfold F_X6_isBelow
  rw [if_neg (nI_pos (by omega)), if_neg (nI_ge h hn)]
theorem bel_out (st : St) {x : Int32} {n : Nat} (h : x < 0 ∨ nI n ≤ x) : F_X6_isBelow st x (nI n) = some 0 := by
  unfold F_X6_isBelow
  by_cases h0 : x < 0
  · rw [if_pos h0]
  · rw [if_neg h0, if_pos (h.resolve_left h0)]
theorem wit_in (st : St) {j m : Nat} (h : j < m + 1) (hn : m + 1 < 2 ^ 31) : F_X7_within st (nI j) 0 (nI m) = some 1 := by
  unfold F_X7_within
  rw [if_neg (nI_pos (by omega)), if_neg (nI_nlt (by omega) (by omega))]
theorem wit_out (st : St) {x : Int32} {m : Nat} (hn : m + 1 < 2 ^ 31) (h : x < 0 ∨ nI (m + 1) ≤ x) : F_X7_within st x 0 (nI m) = some 0 := by
  unfold F_X7_within
  by_cases h0 : x < 0
  · rw [if_pos h0]
  · rw [if_neg h0, if_pos]
    have h1 := h.resolve_left h0
    rw [Int32.le_iff_toInt_le, nI_toInt hn] at h1
    rw [Int32.lt_iff_toInt_lt, nI_toInt (by omega)]
    omega
/-! the same but for what no call shows -/
def SameC (st st' : St) : Prop := (∀ k, k ≠ 6 → k ≠ 7 → k ≠ 8 → gI st' k = gI st k) ∧ ∀ a, a ≠ 7 → a ≠ 8 → a ≠ 9 → ∀ i, st'.2 a i = st.2 a i
def SameM (mt mt' : St) : Prop := (∀ k, (k < 12 ∨ 22 ≤ k) → gI mt' k = gI mt k) ∧ ∀ a, (a < 16 ∨ 24 ≤ a) → ∀ i, mt'.2 a i = mt.2 a i
theorem SameC.rf (st : St) : SameC st st := ⟨fun _ _ _ _ => rfl, fun _ _ _ _ _ => rfl⟩
theorem SameM.rf (mt : St) : SameM mt mt := ⟨fun _ _ => rfl, fun _ _ _ => rfl⟩
theorem SameC.tr {a b c : St} (h : SameC a b) (g : SameC b c) : SameC a c := ⟨fun k x y z => (g.1 k x y z).trans (h.1 k x y z), fun q x y z i => (g.2 q x y z i).trans (h.2 q x y z i)⟩
theorem SameM.tr {a b c : St} (h : SameM a b) (g : SameM b c) : SameM a c := ⟨fun k x => (g.1 k x).trans (h.1 k x), fun q x i => (g.2 q x i).trans (h.2 q x i)⟩
theorem SameC.a {st : St} (a : Nat) (i v : Int32) (h : a = 7 ∨ a = 8 ∨ a = 9) : SameC st (sA st a i v) := ⟨fun _ _ _ _ => rfl, fun b x y z j => by rw [A_sAn st i v (by omega)]⟩
theorem SameC.i {st : St} (a : Nat) (v : Int32) (h : a = 6 ∨ a = 7 ∨ a = 8) : SameC st (sI st a v) := ⟨fun k x y z => gI_sIn st v (by omega), fun b x y z j => rfl⟩
theorem SameM.a {st : St} (a : Nat) (i v : Int32) (h : 16 ≤ a ∧ a < 24) : SameM st (sA st a i v) := ⟨fun _ _ => rfl, fun b x j => by rw [A_sAn st i v (by omega)]⟩
theorem SameM.i {st : St} (a : Nat) (v : Int32) (h : 12 ≤ a ∧ a < 22) : SameM st (sI st a v) := ⟨fun k x => gI_sIn st v (by omega), fun b x j => rfl⟩
theorem CG.same {st st' : St} {n w rc : Nat} {kd nt sp md : Nat → Nat} (h : CG st n w rc kd nt sp md) (hc : SameC st st') : CG st' n w rc kd nt sp md := by
  obtain ⟨h1, h2, h3, h4⟩ := h
  refine ⟨(hc.1 2 (by decide) (by decide) (by decide)).trans h1, (hc.1 3 (by decide) (by decide) (by decide)).trans h2, (hc.1 4 (by decide) (by decide) (by decide)).trans h3, fun b hb => ?_⟩
  obtain ⟨a1, a2, a3, a4⟩ := h4 b hb
  exact ⟨(hc.2 0 (by decide) (by decide) (by decide) b).trans a1, (hc.2 1 (by decide) (by decide) (by decide) b).trans a2, (hc.2 2 (by decide) (by decide) (by decide) b).trans a3, (hc.2 3 (by decide) (by decide) (by decide) b).trans a4⟩
theorem CR.same {st st' : St} {rn : Nat} {rb rm rs : Nat → Nat} (h : CR st rn rb rm rs) (hc : SameC st st') : CR st' rn rb rm rs := by
  obtain ⟨h1, h4⟩ := h
  refine ⟨(hc.1 5 (by decide) (by decide) (by decide)).trans h1, fun b hb => ?_⟩
  obtain ⟨a1, a2, a3⟩ := h4 b hb
  exact ⟨(hc.2 4 (by decide) (by decide) (by decide) b).trans a1, (hc.2 5 (by decide) (by decide) (by decide) b).trans a2, (hc.2 6 (by decide) (by decide) (by decide) b).trans a3⟩
theorem MG.same {mt mt' : St} {n w rc : Nat} {kd nt sp md : Nat → Nat} (h : MG mt n w rc kd nt sp md) (hc : SameM mt mt') : MG mt' n w rc kd nt sp md := by
  obtain ⟨h1, h2, h3, h4⟩ := h
  refine ⟨(hc.1 5 (by decide)).trans h1, (hc.1 6 (by decide)).trans h2, (hc.1 7 (by decide)).trans h3, fun b hb => ?_⟩
  obtain ⟨a1, a2, a3, a4⟩ := h4 b hb
  exact ⟨(hc.2 8 (by decide) b).trans a1, (hc.2 9 (by decide) b).trans a2, (hc.2 10 (by decide) b).trans a3, (hc.2 11 (by decide) b).trans a4⟩
theorem MR.same {mt mt' : St} {rn : Nat} {rb rm rs : Nat → Nat} (h : MR mt rn rb rm rs) (hc : SameM mt mt') : MR mt' rn rb rm rs := by
  obtain ⟨h1, h4⟩ := h
  refine ⟨(hc.1 24 (by decide)).trans h1, fun b hb => ?_⟩
  obtain ⟨a1, a2, a3⟩ := h4 b hb
  exact ⟨(hc.2 25 (by decide) b).trans a1, (hc.2 26 (by decide) b).trans a2, (hc.2 27 (by decide) b).trans a3⟩
theorem SG.same {st st' mt mt' : St} (h : SG st mt) (hc : SameC st st') (hm : SameM mt mt') : SG st' mt' := by
  intro k hk
  obtain ⟨h1, h2, h3⟩ := h k hk
  have e1 : gI st' (10 + k) = gI st (10 + k) := hc.1 _ (by omega) (by omega) (by omega)
  have e2 : gI st' (14 + k) = gI st (14 + k) := hc.1 _ (by omega) (by omega) (by omega)
  rw [e1, e2, hm.2 2 (by decide) k, hm.2 3 (by decide) k]
  exact ⟨h1, h2, fun i hi => ((hc.2 (10 + k) (by omega) (by omega) (by omega) i).trans (h3 i hi)).trans (hm.2 4 (by decide) _).symm⟩
theorem Rel.congr {st mt st' mt' : St} (h : Rel st mt) (hc : SameC st st') (hm : SameM mt mt') : Rel st' mt' := by
  obtain ⟨n, w, rc, kd, nt, sp, md, rn, rb, rm, rs, h1, h2, h3, h4, h5, h6, h7, h8, h9⟩ := h
  exact ⟨n, w, rc, kd, nt, sp, md, rn, rb, rm, rs, h1, h2.same hc, h3.same hm, h4, h5.same hc, h6.same hm, h7.same hc hm, (hc.1 0 (by decide) (by decide) (by decide)).trans (h8.trans (hm.1 1 (by decide)).symm), (hc.1 1 (by decide) (by decide) (by decide)).trans (h9.trans (hm.1 0 (by decide)).symm)⟩
/-! single changes -/
theorem Rel.fault {st mt : St} (h : Rel st mt) (v : Int32) : Rel (sI st 1 v) (sI mt 0 v) := by
  obtain ⟨n, w, rc, kd, nt, sp, md, rn, rb, rm, rs, h1, h2, h3, h4, h5, h6, h7, h8, h9⟩ := h
  refine ⟨n, w, rc, kd, nt, sp, md, rn, rb, rm, rs, h1, h2, h3, h4, h5, h6, ?_, h8, rfl⟩
  intro k hk
  rw [gI_sIn st v (show 10 + k ≠ 1 by omega), gI_sIn st v (show 14 + k ≠ 1 by omega)]
  exact h7 k hk
theorem Rel.trace {st mt : St} (h : Rel st mt) (v : Int32) : Rel (sI st 0 v) (sI mt 1 v) := by
  obtain ⟨n, w, rc, kd, nt, sp, md, rn, rb, rm, rs, h1, h2, h3, h4, h5, h6, h7, h8, h9⟩ := h
  refine ⟨n, w, rc, kd, nt, sp, md, rn, rb, rm, rs, h1, h2, h3, h4, h5, h6, ?_, rfl, h9⟩
  intro k hk
  rw [gI_sIn st v (show 10 + k ≠ 0 by omega), gI_sIn st v (show 14 + k ≠ 0 by omega)]
  exact h7 k hk
theorem Rel.wind {st mt : St} (h : Rel st mt) {v : Nat} (hv : v < 3) : Rel (sI st 3 (nI v)) (sI mt 6 (nI v)) := by
  obtain ⟨n, w, rc, kd, nt, sp, md, rn, rb, rm, rs, h1, h2, h3, h4, h5, h6, h7, h8, h9⟩ := h
  refine ⟨n, v, rc, kd, nt, sp, md, rn, rb, rm, rs, ⟨h1.1, hv, h1.2.2⟩, ⟨h2.1, rfl, h2.2.2⟩, ⟨h3.1, rfl, h3.2.2⟩, h4, h5, h6, ?_, h8, h9⟩
  intro k hk
  rw [gI_sIn st _ (show 10 + k ≠ 3 by omega), gI_sIn st _ (show 14 + k ≠ 3 by omega)]
  exact h7 k hk
theorem upN_eq {f : Nat → Nat} {i v b : Nat} {x : Int32} (h : x = nI (f b)) : (if b = i then nI v else x) = nI (if b = i then v else f b) := by
  by_cases c : b = i
  · rw [if_pos c, if_pos c]
  · rw [if_neg c, if_neg c, h]
theorem Rel.bell {st mt : St} (h : Rel st mt) (a : Nat) (ha : a < 4) {i v : Nat} (hi : i < 5) (hv : v < (if a = 0 then 3 else if a = 3 then 4 else 10)) : Rel (sA st a (nI i) (nI v)) (sA mt (8 + a) (nI i) (nI v)) := by
  obtain ⟨n, w, rc, kd, nt, sp, md, rn, rb, rm, rs, h1, h2, h3, h4, h5, h6, h7, h8, h9⟩ := h
  have hi31 : i < 2 ^ 31 := by omega
  have hR : CR (sA st a (nI i) (nI v)) rn rb rm rs := ⟨h5.1, fun q hq => by
    rw [A_sAn st _ _ (show 4 ≠ a by omega), A_sAn st _ _ (show 5 ≠ a by omega), A_sAn st _ _ (show 6 ≠ a by omega)]
    exact h5.2 q hq⟩
  have hM : MR (sA mt (8 + a) (nI i) (nI v)) rn rb rm rs := ⟨h6.1, fun q hq => by
    rw [A_sAn mt _ _ (show 25 ≠ 8 + a by omega), A_sAn mt _ _ (show 26 ≠ 8 + a by omega), A_sAn mt _ _ (show 27 ≠ 8 + a by omega)]
    exact h6.2 q hq⟩
  have hG : SG (sA st a (nI i) (nI v)) (sA mt (8 + a) (nI i) (nI v)) := fun k hk => by
    rw [A_sAn mt _ _ (show 2 ≠ 8 + a by omega), A_sAn mt _ _ (show 3 ≠ 8 + a by omega), A_sAn mt _ _ (show 4 ≠ 8 + a by omega), A_sAn st _ _ (show 10 + k ≠ a by omega)]
    exact h7 k hk
  rcases (show a = 0 ∨ a = 1 ∨ a = 2 ∨ a = 3 by omega) with rfl | rfl | rfl | rfl
  · refine ⟨n, w, rc, fun b => if b = i then v else kd b, nt, sp, md, rn, rb, rm, rs, ⟨h1.1, h1.2.1, h1.2.2.1, fun b hb => ?_⟩, ⟨h2.1, h2.2.1, h2.2.2.1, fun b hb => ?_⟩, ⟨h3.1, h3.2.1, h3.2.2.1, fun b hb => ?_⟩, h4, hR, hM, hG, h8, h9⟩
    · obtain ⟨q1, q2⟩ := h1.2.2.2 b hb
      refine ⟨?_, q2⟩
      show (if b = i then v else kd b) < 3
      by_cases c : b = i
      · rw [if_pos c]; exact hv
      · rw [if_neg c]; exact q1
    · obtain ⟨q1, q2, q3, q4⟩ := h2.2.2.2 b hb
      rw [A_sAs st 0 _ hi31]
      exact ⟨upN_eq q1, q2, q3, q4⟩
    · obtain ⟨q1, q2, q3, q4⟩ := h3.2.2.2 b hb
      rw [A_sAs mt 8 _ hi31]
      exact ⟨upN_eq q1, q2, q3, q4⟩
  · refine ⟨n, w, rc, kd, fun b => if b = i then v else nt b, sp, md, rn, rb, rm, rs, ⟨h1.1, h1.2.1, h1.2.2.1, fun b hb => ?_⟩, ⟨h2.1, h2.2.1, h2.2.2.1, fun b hb => ?_⟩, ⟨h3.1, h3.2.1, h3.2.2.1, fun b hb => ?_⟩, h4, hR, hM, hG, h8, h9⟩
    · obtain ⟨q1, q2, q3⟩ := h1.2.2.2 b hb
      refine ⟨q1, ?_, q3⟩
      show (if b = i then v else nt b) < 10
      by_cases c : b = i
      · rw [if_pos c]; exact hv
      · rw [if_neg c]; exact q2
    · obtain ⟨q1, q2, q3, q4⟩ := h2.2.2.2 b hb
      rw [A_sAs st 1 _ hi31]
      exact ⟨q1, upN_eq q2, q3, q4⟩
    · obtain ⟨q1, q2, q3, q4⟩ := h3.2.2.2 b hb
      rw [A_sAs mt 9 _ hi31]
      exact ⟨q1, upN_eq q2, q3, q4⟩
  · refine ⟨n, w, rc, kd, nt, fun b => if b = i then v else sp b, md, rn, rb, rm, rs, ⟨h1.1, h1.2.1, h1.2.2.1, fun b hb => ?_⟩, ⟨h2.1, h2.2.1, h2.2.2.1, fun b hb => ?_⟩, ⟨h3.1, h3.2.1, h3.2.2.1, fun b hb => ?_⟩, h4, hR, hM, hG, h8, h9⟩
    · obtain ⟨q1, q2, q3, q4⟩ := h1.2.2.2 b hb
      refine ⟨q1, q2, ?_, q4⟩
      show (if b = i then v else sp b) < 10
      by_cases c : b = i
      · rw [if_pos c]; exact hv
      · rw [if_neg c]; exact q3
    · obtain ⟨q1, q2, q3, q4⟩ := h2.2.2.2 b hb
      rw [A_sAs st 2 _ hi31]
      exact ⟨q1, q2, upN_eq q3, q4⟩
    · obtain ⟨q1, q2, q3, q4⟩ := h3.2.2.2 b hb
      rw [A_sAs mt 10 _ hi31]
      exact ⟨q1, q2, upN_eq q3, q4⟩
  · refine ⟨n, w, rc, kd, nt, sp, fun b => if b = i then v else md b, rn, rb, rm, rs, ⟨h1.1, h1.2.1, h1.2.2.1, fun b hb => ?_⟩, ⟨h2.1, h2.2.1, h2.2.2.1, fun b hb => ?_⟩, ⟨h3.1, h3.2.1, h3.2.2.1, fun b hb => ?_⟩, h4, hR, hM, hG, h8, h9⟩
    · obtain ⟨q1, q2, q3, q4⟩ := h1.2.2.2 b hb
      refine ⟨q1, q2, q3, ?_⟩
      show (if b = i then v else md b) < 4
      by_cases c : b = i
      · rw [if_pos c]; exact hv
      · rw [if_neg c]; exact q4
    · obtain ⟨q1, q2, q3, q4⟩ := h2.2.2.2 b hb
      rw [A_sAs st 3 _ hi31]
      exact ⟨q1, q2, q3, upN_eq q4⟩
    · obtain ⟨q1, q2, q3, q4⟩ := h3.2.2.2 b hb
      rw [A_sAs mt 11 _ hi31]
      exact ⟨q1, q2, q3, upN_eq q4⟩
/-! the small tests -/
theorem bell_in {st : St} {n j : Nat} (hn : gI st 2 = nI n) (h5 : n ≤ 5) (h : j < n) : F_X1_hasBell st (nI j) = some 1 := by
  unfold F_X1_hasBell
  rw [hn, bel_in st h (by omega), b1_s]
theorem bell_out {st : St} {n : Nat} {x : Int32} (hn : gI st 2 = nI n) (h : x < 0 ∨ nI n ≤ x) : F_X1_hasBell st x = some 0 := by
  unfold F_X1_hasBell
  rw [hn, bel_out st h, b1_s]
theorem mbell_in {mt : St} {n j : Nat} (hn : gI mt 5 = nI n) (h5 : n ≤ 5) (h : j < n) : F_X7_isBell mt (nI j) = some 1 := by
  unfold F_X7_isBell
  rw [hn, if_neg (nI_pos (by omega)), if_neg (nI_ge h (by omega))]
theorem mbell_out {mt : St} {n : Nat} {x : Int32} (hn : gI mt 5 = nI n) (h : x < 0 ∨ nI n ≤ x) : F_X7_isBell mt x = some 0 := by
  unfold F_X7_isBell
  by_cases h0 : x < 0
  · rw [if_pos h0]
  · rw [if_neg h0, hn, if_pos (h.resolve_left h0)]
theorem none_0 {st : St} (hn : gI st 2 = nI 0) : F_X1_isNone st = some 1 := by
  unfold F_X1_isNone
  rw [hn, if_pos nI_0]
theorem none_p {st : St} {n : Nat} (hn : gI st 2 = nI n) (h0 : 0 < n) (h5 : n ≤ 5) : F_X1_isNone st = some 0 := by
  unfold F_X1_isNone
  rw [hn, if_neg (nI_ne0 h0 (by omega))]
theorem dig_in (st : St) {j : Nat} (h : j < 10) : F_X7_isDigit st (nI j) = some 1 := by
  unfold F_X7_isDigit
  rw [show (9 : Int32) = nI 9 from rfl, wit_in st (m := 9) h (by decide), b1_s]
theorem dig_out (st : St) {x : Int32} (h : x < 0 ∨ nI 10 ≤ x) : F_X7_isDigit st x = some 0 := by
  unfold F_X7_isDigit
  rw [show (9 : Int32) = nI 9 from rfl, wit_out st (m := 9) (by decide) h, b1_s]
theorem moo_in (st : St) {j : Nat} (h : j < 4) : F_X7_isMood st (nI j) = some 1 := by
  unfold F_X7_isMood
  rw [show (3 : Int32) = nI 3 from rfl, wit_in st (m := 3) h (by decide), b1_s]
theorem moo_out (st : St) {x : Int32} (h : x < 0 ∨ nI 4 ≤ x) : F_X7_isMood st x = some 0 := by
  unfold F_X7_isMood
  rw [show (3 : Int32) = nI 3 from rfl, wit_out st (m := 3) (by decide) h, b1_s]
theorem she_in (st : St) {j : Nat} (h : j < 4) : F_X7_isSheet st (nI j) = some 1 := by
  unfold F_X7_isSheet
  rw [show (3 : Int32) = nI 3 from rfl, wit_in st (m := 3) h (by decide), b1_s]
theorem she_out (st : St) {x : Int32} (h : x < 0 ∨ nI 4 ≤ x) : F_X7_isSheet st x = some 0 := by
  unfold F_X7_isSheet
  rw [show (3 : Int32) = nI 3 from rfl, wit_out st (m := 3) (by decide) h, b1_s]
theorem sor_in (st : St) {j : Nat} (h : j < 3) : F_X7_isSort st (nI j) = some 1 := by
  unfold F_X7_isSort
  rw [show (2 : Int32) = nI 2 from rfl, wit_in st (m := 2) h (by decide), b1_s]
theorem sor_out (st : St) {x : Int32} (h : x < 0 ∨ nI 3 ≤ x) : F_X7_isSort st x = some 0 := by
  unfold F_X7_isSort
  rw [show (2 : Int32) = nI 2 from rfl, wit_out st (m := 2) (by decide) h, b1_s]
