/-! SHEETS -/
theorem A_sAk (st : St) (a : Nat) {i : Int32} {q : Nat} (v : Int32) (h : i.toNatClampNeg = q) (j : Nat) : (sA st a i v).2 a j = if j = q then v else st.2 a j := by
  show (va_up st.2 a (upd (st.2 a) i.toNatClampNeg v)) a j = _
  rw [va_up_self, h]
  rfl
theorem ix60 (k i : Nat) : 60 * nI k + nI i = nI (60 * k + i) := by
  rw [show (60 : Int32) = nI 60 from rfl, pk_mul, nI_add]
theorem k60 {k k2 i i2 : Nat} (hi : i < 60) (hi2 : i2 < 60) (h : 60 * k + i = 60 * k2 + i2) : k = k2 ∧ i = i2 := by omega
/-- what a change of one SHEET keeps -/
theorem Rel.sheet {st mt st' mt' : St} (h : Rel st mt) (hI : ∀ k, k < 10 → gI st' k = gI st k) (hA : ∀ a, a < 10 → st'.2 a = st.2 a) (mI : ∀ k, gI mt' k = gI mt k) (mA : ∀ a, 5 ≤ a → mt'.2 a = mt.2 a) (hS : SG st' mt') : Rel st' mt' := by
  obtain ⟨n, w, rc, kd, nt, sp, md, rn, rb, rm, rs, h1, h2, h3, h4, h5, h6, h7, h8, h9⟩ := h
  refine ⟨n, w, rc, kd, nt, sp, md, rn, rb, rm, rs, h1, ?_, ?_, h4, ?_, ?_, hS, ?_, ?_⟩
  · unfold CG
    rw [hI 2 (by decide), hI 3 (by decide), hI 4 (by decide), hA 0 (by decide), hA 1 (by decide), hA 2 (by decide), hA 3 (by decide)]
    exact h2
  · unfold MG
    rw [mI 5, mI 6, mI 7, mA 8 (by decide), mA 9 (by decide), mA 10 (by decide), mA 11 (by decide)]
    exact h3
  · unfold CR
    rw [hI 5 (by decide), hA 4 (by decide), hA 5 (by decide), hA 6 (by decide)]
    exact h5
  · unfold MR
    rw [mI 24, mA 25 (by decide), mA 26 (by decide), mA 27 (by decide)]
    exact h6
  · rw [hI 0 (by decide), mI 1, h8]
  · rw [hI 1 (by decide), mI 0, h9]
theorem lane_ne {l : Nat} (h : l < 3) : ¬ nI l = -9 := by
  rcases (show l = 0 ∨ l = 1 ∨ l = 2 by omega) with rfl | rfl | rfl <;> decide
theorem nothing_1 {st : St} {k : Nat} (h : gI st (10 + k) = -9) : F_X3_hasNothing st k = some 1 := by
  unfold F_X3_hasNothing
  rw [if_pos h]
theorem nothing_0 {st : St} {k : Nat} (h : ¬ gI st (10 + k) = -9) : F_X3_hasNothing st k = some 0 := by
  unfold F_X3_hasNothing
  rw [if_neg h]
theorem ok_lose {st mt : St} (h : Rel st mt) (x1 : Int32) : ∃ (r : Int32) (s2 : St) (m2 : St), F_X6_lose st x1 = some (r, s2) ∧ F_X7_lose mt x1 = some (r, m2) ∧ Rel s2 m2 := by
  obtain ⟨n, w, rc, kd, nt, sp, md, rn, rb, rm, rs, h1, h2, h3, h4, h5, h6, h7, h8, h9⟩ := id h
  unfold F_X6_lose F_X7_lose F_X3_drop
  rcases rng x1 4 (by decide) with ⟨k, hk, rfl⟩ | ho
  · obtain ⟨g1, g2, g3⟩ := h7 k hk
    have hk31 : k < 2 ^ 31 := by omega
    rw [show F_X6_isBelow st (nI k) 4 = some 1 from bel_in st hk (by decide), she_in mt hk]
    simp only [b1_s, n10, ↓reduceIte, ck_nI hk (show 4 < 2 ^ 31 by decide), gA_nI _ _ hk31, nI_clamp hk31]
    by_cases q : gI st (10 + k) = -9
    · have q2 : mt.2 2 k = -9 := g1 ▸ q
      rw [nothing_1 q, b1_s, if_neg n10, if_pos q2]
      refine ⟨0, _, _, rfl, rfl, h.sheet (fun _ _ => rfl) (fun _ _ => rfl) (fun _ => rfl) (fun a ha => A_sAn mt _ _ (by omega)) ?_⟩
      intro k2 hk2
      rw [A_sAs mt 2 _ hk31, A_sAn mt _ _ (show 3 ≠ 2 by decide), A_sAn mt _ _ (show 4 ≠ 2 by decide)]
      by_cases c : k2 = k
      · subst c
        rw [if_pos rfl]
        exact ⟨q, Or.inl q, g3⟩
      · rw [if_neg c]
        exact h7 k2 hk2
    · have q2 : ¬ mt.2 2 k = -9 := fun z => q (g1.trans z)
      rw [nothing_0 q, b1_s, if_pos rfl, if_neg q2]
      refine ⟨1, _, _, rfl, rfl, h.sheet (fun j hj => ?_) (fun _ _ => rfl) (fun _ => rfl) (fun a ha => A_sAn mt _ _ (by omega)) ?_⟩
      · rw [gI_sIn _ _ (show j ≠ 14 + k by omega), gI_sIn _ _ (show j ≠ 10 + k by omega)]
      intro k2 hk2
      rw [A_sAs mt 2 _ hk31, A_sAn mt _ _ (show 3 ≠ 2 by decide), A_sAn mt _ _ (show 4 ≠ 2 by decide), gI_sIn _ _ (show 10 + k2 ≠ 14 + k by omega), A_sI, A_sI]
      by_cases c : k2 = k
      · subst c
        rw [if_pos rfl, gI_sIs]
        exact ⟨rfl, Or.inl rfl, g3⟩
      · rw [if_neg c, gI_sIn _ _ (show 10 + k2 ≠ 10 + k by omega), gI_sIn _ _ (show 14 + k2 ≠ 14 + k by omega), gI_sIn _ _ (show 14 + k2 ≠ 10 + k by omega)]
        exact h7 k2 hk2
  · rw [show F_X6_isBelow st x1 4 = some 0 from bel_out st ho, she_out mt ho]
    exact ⟨-1, _, _, rfl, rfl, h⟩
/-- a cell is there, or it isn't: both sides alike -/
theorem cells_in {st : St} {k z i : Nat} (hz : z ≤ 60) (h : gI st (14 + k) = nI z) (hi : i < z) : F_X3_hasCells st k (nI i) 1 = some 1 := by
  unfold F_X3_hasCells
  rw [h, if_neg (nI_pos (by omega)), if_neg (nI_nlt (by omega) (by omega)), if_neg (by decide), pk_sub (by omega), if_neg (show ¬ nI (z - i) < 1 from nI_nlt (b := 1) (by omega) (by omega))]
theorem cells_out {st : St} {k z : Nat} {x : Int32} (hz : z ≤ 60) (h : gI st (14 + k) = nI z) (hx : x < 0 ∨ nI z ≤ x) : F_X3_hasCells st k x 1 = some 0 := by
  unfold F_X3_hasCells
  rw [h]
  by_cases h0 : x < 0
  · rw [if_pos h0]
  · rw [if_neg h0]
    by_cases h1 : nI z < x
    · rw [if_pos h1]
    · have h2 := hx.resolve_left h0
      have e : x = nI z := by
        apply Int32.toInt_inj.mp
        rw [Int32.le_iff_toInt_le] at h2
        rw [Int32.lt_iff_toInt_lt] at h1
        omega
      rw [if_neg h1, if_neg (by decide), e, pk_sub (Nat.le_refl z), Nat.sub_self, if_pos (by decide)]
theorem mcells_in (mt : St) {z i : Nat} (hz : z ≤ 60) (hi : i < z) : F_X7_within mt (nI i) 0 (nI z - 1) = some 1 := by
  rw [show (1 : Int32) = nI 1 from rfl, pk_sub (by omega)]
  exact wit_in mt (by omega) (by omega)
theorem mcells_out (mt : St) {z : Nat} {x : Int32} (hz : z ≤ 60) (hx : x < 0 ∨ nI z ≤ x) : F_X7_within mt x 0 (nI z - 1) = some 0 := by
  unfold F_X7_within
  by_cases h0 : x < 0
  · rw [if_pos h0]
  · have h2 := hx.resolve_left h0
    have e : (nI z - 1 : Int32).toInt = (z : Int) - 1 := pk_sub_toInt (a := z) (b := 1) (by omega) (by decide)
    rw [if_neg h0, if_pos]
    rw [Int32.lt_iff_toInt_lt, e]
    rw [Int32.le_iff_toInt_le, nI_toInt (by omega)] at h2
    omega
theorem SG.cell {st mt : St} (h : SG st mt) {k i : Nat} (hk : k < 4) (hi : i < 60) (v : Int32) : SG (sA st (10 + k) (nI i) v) (sA mt 4 (nI (60 * k + i)) v) := by
  intro k2 hk2
  obtain ⟨g1, g2, g3⟩ := h k2 hk2
  rw [A_sAn mt _ _ (show 2 ≠ 4 by decide), A_sAn mt _ _ (show 3 ≠ 4 by decide)]
  refine ⟨g1, g2, fun q hq => ?_⟩
  rw [A_sAs mt 4 _ (by omega)]
  by_cases c : k2 = k
  · subst c
    rw [A_sAs st _ _ (by omega)]
    by_cases d : q = i
    · subst d
      rw [if_pos rfl, if_pos rfl]
    · rw [if_neg d, if_neg (by omega)]
      exact g3 q hq
  · rw [A_sAn st _ _ (show 10 + k2 ≠ 10 + k by omega), if_neg (by omega)]
    exact g3 q hq
theorem Rel.cell {st mt : St} (h : Rel st mt) {k i : Nat} (hk : k < 4) (hi : i < 60) (v : Int32) : Rel (sA st (10 + k) (nI i) v) (sA mt 4 (nI (60 * k + i)) v) := by
  obtain ⟨n, w, rc, kd, nt, sp, md, rn, rb, rm, rs, h1, h2, h3, h4, h5, h6, h7, h8, h9⟩ := id h
  exact h.sheet (fun _ _ => rfl) (fun a ha => A_sAn st _ _ (by omega)) (fun _ => rfl) (fun a ha => A_sAn mt _ _ (by omega)) (h7.cell hk hi v)
theorem ok_put {st mt : St} (h : Rel st mt) (x1 x2 x3 : Int32) : ∃ (r : Int32) (s2 : St) (m2 : St), F_X6_put st x1 x2 x3 = some (r, s2) ∧ F_X7_put mt x1 x2 x3 = some (r, m2) ∧ Rel s2 m2 := by
  have hf := h.fault 0
  unfold F_X6_put F_X7_put
  generalize sI st 1 0 = st1 at hf ⊢
  generalize sI mt 0 0 = mt1 at hf ⊢
  obtain ⟨n, w, rc, kd, nt, sp, md, rn, rb, rm, rs, h1, h2, h3, h4, h5, h6, h7, h8, h9⟩ := id hf
  rcases rng x1 4 (by decide) with ⟨k, hk, rfl⟩ | ho
  · obtain ⟨g1, g2, g3⟩ := h7 k hk
    have hk31 : k < 2 ^ 31 := by omega
    rw [show F_X6_isBelow st1 (nI k) 4 = some 1 from bel_in _ hk (by decide), she_in mt1 hk]
    simp only [b1_s, n10, ↓reduceIte, ck_nI hk (show 4 < 2 ^ 31 by decide), gA_nI _ _ hk31, nI_clamp hk31]
    rw [← g1]
    by_cases q : gI st1 (10 + k) = -9
    · rw [nothing_1 q, b1_s, if_neg n10, if_pos q]
      exact ⟨_, _, _, rfl, rfl, hf.fault 1⟩
    · obtain ⟨⟨z, hz, e1, e2⟩, l, hl, e3⟩ := g2.resolve_left q
      rw [nothing_0 q, b1_s, if_pos rfl, if_neg q, e2]
      rcases rng x2 z (by omega) with ⟨i, hi, rfl⟩ | hi
      · have hi60 : i < 60 := by omega
        rw [cells_in hz e1 hi, mcells_in mt1 hz hi]
        simp only [b1_s, n10, ↓reduceIte, F_X3_write, ix60, ck_nI hi60 (show 60 < 2 ^ 31 by decide), ck_nI (show 60 * k + i < 240 by omega) (show 240 < 2 ^ 31 by decide), e3]
        by_cases c0 : nI l = 0
        · simp only [c0, ↓reduceIte, b1_s]
          exact ⟨_, _, _, rfl, rfl, hf.cell hk hi60 _⟩
        · by_cases c1 : nI l = 1
          · simp only [c1, ↓reduceIte, n10, b1_s]
            exact ⟨_, _, _, rfl, rfl, hf.cell hk hi60 _⟩
          · simp only [c0, c1, ↓reduceIte, b1_s]
            exact ⟨_, _, _, rfl, rfl, hf.cell hk hi60 _⟩
      · rw [cells_out hz e1 hi, mcells_out mt1 hz hi]
        exact ⟨_, _, _, rfl, rfl, hf.fault 3⟩
  · rw [show F_X6_isBelow st1 x1 4 = some 0 from bel_out _ ho, she_out mt1 ho]
    exact ⟨-1, _, _, rfl, rfl, hf⟩
theorem fault_n {st : St} {k : Nat} (x : Int32) (h : gI st (10 + k) = -9) : F_X3_faultAs st k x = some 1 := by
  unfold F_X3_faultAs
  rw [nothing_1 h, b1_s, if_neg n10]
theorem fault_c {st : St} {k : Nat} {x : Int32} (h : ¬ gI st (10 + k) = -9) (h2 : ¬ gI st (10 + k) = x) : F_X3_faultAs st k x = some 2 := by
  unfold F_X3_faultAs
  rw [nothing_0 h, b1_s, if_pos rfl, if_neg h2]
theorem fault_0 {st : St} {k : Nat} {x : Int32} (h : ¬ gI st (10 + k) = -9) (h2 : gI st (10 + k) = x) : F_X3_faultAs st k x = some 0 := by
  unfold F_X3_faultAs
  rw [nothing_0 h, b1_s, if_pos rfl, if_pos h2]
theorem n20 : ¬ (2 : Int32) = 0 := by decide
theorem n30 : ¬ (3 : Int32) = 0 := by decide
theorem n40 : ¬ (4 : Int32) = 0 := by decide
theorem ok_cell {st mt : St} (h : Rel st mt) (x1 x2 x3 : Int32) : ∃ (r : Int64) (s2 : St) (m2 : St), F_X6_cell st x1 x2 x3 = some (r, s2) ∧ F_X7_cell mt x1 x2 x3 = some (r, m2) ∧ Rel s2 m2 := by
  have hf := h.fault 0
  unfold F_X6_cell F_X7_cell
  generalize sI st 1 0 = st1 at hf ⊢
  generalize sI mt 0 0 = mt1 at hf ⊢
  obtain ⟨n, w, rc, kd, nt, sp, md, rn, rb, rm, rs, h1, h2, h3, h4, h5, h6, h7, h8, h9⟩ := id hf
  rcases rng x1 4 (by decide) with ⟨k, hk, rfl⟩ | ho
  · obtain ⟨g1, g2, g3⟩ := h7 k hk
    have hk31 : k < 2 ^ 31 := by omega
    rw [show F_X6_isBelow st1 (nI k) 4 = some 1 from bel_in _ hk (by decide), she_in mt1 hk]
    simp only [b1_s, n10, ↓reduceIte, ck_nI hk (show 4 < 2 ^ 31 by decide), gA_nI _ _ hk31, nI_clamp hk31]
    rcases rng x3 3 (by decide) with ⟨v, hv, rfl⟩ | hv
    · rw [show F_X6_isBelow st1 (nI v) 3 = some 1 from bel_in _ hv (by decide), sor_in mt1 hv]
      simp only [b1_s, n10, ↓reduceIte]
      rw [← g1]
      by_cases q : gI st1 (10 + k) = -9
      · rw [fault_n _ q, b1_s, if_neg n10, if_pos q, if_pos q, if_neg n10]
        exact ⟨_, _, _, rfl, rfl, hf.fault 1⟩
      · obtain ⟨⟨z, hz, e1, e2⟩, l, hl, e3⟩ := g2.resolve_left q
        by_cases q2 : gI st1 (10 + k) = nI v
        · rw [fault_0 q q2, b1_s, if_pos rfl, if_neg q, if_pos q2, if_neg q, e2]
          rcases rng x2 z (by omega) with ⟨i, hi, rfl⟩ | hi
          · have hi60 : i < 60 := by omega
            rw [cells_in hz e1 hi, mcells_in mt1 hz hi]
            simp only [b1_s, n10, ↓reduceIte, ix60, ck_nI hi60 (show 60 < 2 ^ 31 by decide), ck_nI (show 60 * k + i < 240 by omega) (show 240 < 2 ^ 31 by decide), gA_nI _ _ (show i < 2 ^ 31 by omega), gA_nI _ _ (show 60 * k + i < 2 ^ 31 by omega), g3 i hi60]
            exact ⟨_, _, _, rfl, rfl, hf⟩
          · rw [cells_out hz e1 hi, mcells_out mt1 hz hi]
            exact ⟨_, _, _, rfl, rfl, hf.fault 3⟩
        · rw [fault_c q q2, b1_s, if_neg n20, if_neg n20, if_neg q, if_neg q2]
          exact ⟨_, _, _, rfl, rfl, hf.fault 2⟩
    · rw [show F_X6_isBelow st1 x3 3 = some 0 from bel_out _ hv, sor_out mt1 hv]
      exact ⟨_, _, _, rfl, rfl, hf⟩
  · rw [show F_X6_isBelow st1 x1 4 = some 0 from bel_out _ ho, she_out mt1 ho]
    exact ⟨_, _, _, rfl, rfl, hf⟩
/-- a row made new, cell by cell -/
theorem renew_loop (k : Nat) (kk : Int32 → St → Option St) : ∀ (f i : Nat) (z : St), i ≤ 60 → 60 < i + f → ∃ z', L_X3_renew_12 k kk f (nI i) z = kk (nI 60) z' ∧ (∀ j, gI z' j = gI z j) ∧ (∀ b, b ≠ 10 + k → z'.2 b = z.2 b) ∧ ∀ q, q < 60 → z'.2 (10 + k) q = if i ≤ q then 0 else z.2 (10 + k) q := by
  intro f
  induction f with
  | zero => intro i z h1 h2; omega
  | succ f ih =>
    intro i z h1 h2
    rw [L_X3_renew_12_s]
    by_cases c : i = 60
    · subst c
      exact ⟨z, by rw [if_pos (by decide)], fun _ => rfl, fun _ _ => rfl, fun q hq => by rw [if_neg (by omega)]⟩
    · rw [if_neg (show ¬ (60 : Int32) ≤ nI i from nI_ge (b := 60) (by omega) (by decide)), ck_nI (by omega) (by decide), nI_1]
      obtain ⟨z', e1, e2, e3, e4⟩ := ih (i + 1) (sA z (10 + k) (nI i) 0) (by omega) (by omega)
      refine ⟨z', e1, e2, fun b hb => by rw [e3 b hb, A_sAn z _ _ hb], fun q hq => ?_⟩
      rw [e4 q hq, A_sAs z _ _ (by omega)]
      by_cases d : q = i
      · subst d
        rw [if_neg (by omega), if_pos rfl, if_pos (by omega)]
      · rw [if_neg d]
        by_cases g : i ≤ q
        · rw [if_pos (by omega), if_pos g]
        · rw [if_neg (by omega), if_neg g]
theorem msheet_loop (k : Nat) (hk : k < 4) (kk : Int32 → St → Option (Int32 × St)) : ∀ (f i : Nat) (z : St), i ≤ 60 → 60 < i + f → ∃ z', L_X7_sheet_57 (nI k) kk f (nI i) z = kk (nI 60) z' ∧ (∀ j, gI z' j = gI z j) ∧ (∀ b, b ≠ 4 → z'.2 b = z.2 b) ∧ ∀ q, z'.2 4 q = if 60 * k + i ≤ q ∧ q < 60 * k + 60 then 0 else z.2 4 q := by
  intro f
  induction f with
  | zero => intro i z h1 h2; omega
  | succ f ih =>
    intro i z h1 h2
    rw [L_X7_sheet_57_s]
    by_cases c : i = 60
    · subst c
      exact ⟨z, by rw [if_pos (by decide)], fun _ => rfl, fun _ _ => rfl, fun q => by rw [if_neg (by omega)]⟩
    · rw [if_neg (show ¬ (60 : Int32) ≤ nI i from nI_ge (b := 60) (by omega) (by decide)), ix60, ck_nI (by omega) (by decide), nI_1]
      obtain ⟨z', e1, e2, e3, e4⟩ := ih (i + 1) (sA z 4 (nI (60 * k + i)) 0) (by omega) (by omega)
      refine ⟨z', e1, e2, fun b hb => by rw [e3 b hb, A_sAn z _ _ hb], fun q => ?_⟩
      rw [e4 q, A_sAs z _ _ (by omega)]
      by_cases d : q = 60 * k + i
      · subst d
        rw [if_neg (by omega), if_pos rfl, if_pos (by omega)]
      · rw [if_neg d]
        by_cases g : 60 * k + i ≤ q ∧ q < 60 * k + 60
        · rw [if_pos (by omega), if_pos g]
        · rw [if_neg (by omega), if_neg g]
theorem ok_sheet {st mt : St} (h : Rel st mt) (x1 x2 x3 : Int32) : ∃ (r : Int32) (s2 : St) (m2 : St), F_X6_sheet st x1 x2 x3 = some (r, s2) ∧ F_X7_sheet mt x1 x2 x3 = some (r, m2) ∧ Rel s2 m2 := by
  have hf := h.fault 0
  unfold F_X6_sheet F_X7_sheet
  generalize sI st 1 0 = st1 at hf ⊢
  generalize sI mt 0 0 = mt1 at hf ⊢
  obtain ⟨n, w, rc, kd, nt, sp, md, rn, rb, rm, rs, h1, h2, h3, h4, h5, h6, h7, h8, h9⟩ := id hf
  rcases rng x1 4 (by decide) with ⟨k, hk, rfl⟩ | ho
  · have hk31 : k < 2 ^ 31 := by omega
    rw [show F_X6_isBelow st1 (nI k) 4 = some 1 from bel_in _ hk (by decide), she_in mt1 hk]
    simp only [b1_s, n10, ↓reduceIte, ck_nI hk (show 4 < 2 ^ 31 by decide), nI_clamp hk31]
    rcases rng x2 3 (by decide) with ⟨v, hv, rfl⟩ | hv
    · rw [show F_X6_isBelow st1 (nI v) 3 = some 1 from bel_in _ hv (by decide), sor_in mt1 hv]
      simp only [b1_s, n10, ↓reduceIte]
      by_cases q : x3 ≤ 60
      · rw [if_pos q, if_pos q]
        by_cases q0 : 0 ≤ x3
        · rw [if_pos q0, if_pos q0]
          obtain ⟨z, hz, rfl⟩ : ∃ z : Nat, z ≤ 60 ∧ x3 = nI z := nI_of2 (M := 60) (by decide) (Int32.not_lt.mpr q0) q
          unfold F_X3_renew
          obtain ⟨s', e1, e2, e3, e4⟩ := renew_loop k (fun _ z => some z) 70 0 (sI (sI st1 (10 + k) (nI v)) (14 + k) (nI z)) (by decide) (by decide)
          obtain ⟨m', f1, f2, f3, f4⟩ := msheet_loop k hk (fun _ z => some (1, z)) 70 0 (sA (sA mt1 2 (nI k) (nI v)) 3 (nI k) (nI z)) (by decide) (by decide)
          rw [nI_0] at e1 f1
          rw [e1, f1]
          refine ⟨1, s', m', rfl, rfl, hf.sheet (fun j hj => ?_) (fun a ha => ?_) f2 (fun a ha => ?_) ?_⟩
          · rw [e2, gI_sIn _ _ (show j ≠ 14 + k by omega), gI_sIn _ _ (show j ≠ 10 + k by omega)]
          · rw [e3 a (by omega)]
            rfl
          · rw [f3 a (by omega), A_sAn _ _ _ (show a ≠ 3 by omega), A_sAn _ _ _ (show a ≠ 2 by omega)]
          · intro k2 hk2
            obtain ⟨g1, g2, g3⟩ := h7 k2 hk2
            rw [e2, e2, f3 2 (by decide), f3 3 (by decide), A_sAn _ _ _ (show 2 ≠ 3 by decide), A_sAs _ 2 _ hk31, A_sAs _ 3 _ hk31, A_sAn _ _ _ (show 3 ≠ 2 by decide), gI_sIn _ _ (show 10 + k2 ≠ 14 + k by omega)]
            by_cases c : k2 = k
            · subst c
              rw [if_pos rfl, if_pos rfl, gI_sIs, gI_sIs]
              refine ⟨rfl, Or.inr ⟨⟨z, hz, rfl, rfl⟩, v, hv, rfl⟩, fun i hi => ?_⟩
              rw [e4 i hi, f4, if_pos (by omega), if_pos (by omega)]
            · rw [if_neg c, if_neg c, gI_sIn _ _ (show 10 + k2 ≠ 10 + k by omega), gI_sIn _ _ (show 14 + k2 ≠ 14 + k by omega), gI_sIn _ _ (show 14 + k2 ≠ 10 + k by omega), e3 (10 + k2) (by omega)]
              refine ⟨g1, g2, fun i hi => ?_⟩
              rw [f4, if_neg (by omega), A_sAn _ _ _ (show 4 ≠ 3 by decide), A_sAn _ _ _ (show 4 ≠ 2 by decide)]
              exact g3 i hi
        · rw [if_neg q0, if_neg q0]
          exact ⟨_, _, _, rfl, rfl, hf.fault 4⟩
      · rw [if_neg q, if_neg q]
        exact ⟨-2, _, _, rfl, rfl, hf⟩
    · rw [show F_X6_isBelow st1 x2 3 = some 0 from bel_out _ hv, sor_out mt1 hv]
      exact ⟨-2, _, _, rfl, rfl, hf⟩
  · rw [show F_X6_isBelow st1 x1 4 = some 0 from bel_out _ ho, she_out mt1 ho]
    exact ⟨-1, _, _, rfl, rfl, hf⟩
