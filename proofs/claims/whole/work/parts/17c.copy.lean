/-! copy -/
def CInv (S T q m : Nat) (mt z : St) : Prop := (∀ k, gI z k = gI mt k) ∧ (∀ a, a ≠ 4 → z.2 a = mt.2 a) ∧ ∀ p, z.2 4 p = if T ≤ p ∧ p < T + q then mt.2 4 (S + (p - T)) else mt.2 4 p
theorem fw_loop {mt : St} {k i k2 j m : Nat} (hk : k < 4) (hk2 : k2 < 4) (him : i + m ≤ 60) (hjm : j + m ≤ 60) (hfw : ∀ q q', q' < q → q < m → 60 * k + i + q ≠ 60 * k2 + j + q') (kk : Int32 → St → Option (Int32 × St)) :
    ∀ f q z, q ≤ m → m < q + f → CInv (60 * k + i) (60 * k2 + j) q m mt z → ∃ z', L_X7_copy_166 (nI k) (nI i) (nI k2) (nI j) (nI m) kk f (nI q) z = kk (nI m) z' ∧ CInv (60 * k + i) (60 * k2 + j) m m mt z' := by
  intro f
  induction f with
  | zero => intro q z h1 h2; omega
  | succ f ih =>
    intro q z hq1 hq2 hz
    rw [L_X7_copy_166_s]
    by_cases c : q = m
    · subst c
      rw [if_pos (nI_le (Nat.le_refl _) (by omega))]
      exact ⟨z, rfl, hz⟩
    · rw [if_neg (nI_ge (by omega) (by omega)), ix60, ix60, nI_add, nI_add, ck_nI (by omega) (by decide), ck_nI (by omega) (by decide), gA_nI _ _ (by omega), nI_1]
      refine ih (q + 1) _ (by omega) (by omega) ⟨hz.1, fun a ha => by rw [A_sAn z _ _ ha, hz.2.1 a ha], fun p => ?_⟩
      rw [A_sAs z 4 _ (by omega)]
      by_cases d : p = 60 * k2 + j + q
      · rw [if_pos d, if_pos (by omega), hz.2.2, if_neg (fun g => hfw q (60 * k + i + q - (60 * k2 + j)) (by omega) (by omega) (by omega))]
        exact congrArg (mt.2 4) (by omega)
      · rw [if_neg d, hz.2.2]
        by_cases g : 60 * k2 + j ≤ p ∧ p < 60 * k2 + j + q
        · rw [if_pos g, if_pos (by omega)]
        · rw [if_neg g, if_neg (by omega)]
def DInv (S T q m : Nat) (mt z : St) : Prop := (∀ k, gI z k = gI mt k) ∧ (∀ a, a ≠ 4 → z.2 a = mt.2 a) ∧ ∀ p, z.2 4 p = if T + (m - q) ≤ p ∧ p < T + m then mt.2 4 (S + (p - T)) else mt.2 4 p
theorem bw_loop {mt : St} {k i k2 j m : Nat} (hk : k < 4) (hk2 : k2 < 4) (him : i + m ≤ 60) (hjm : j + m ≤ 60) (hfw : ∀ q q', q < q' → q' < m → 60 * k + i + q ≠ 60 * k2 + j + q') (kk : Int32 → St → Option (Int32 × St)) :
    ∀ f q z, q ≤ m → m < q + f → DInv (60 * k + i) (60 * k2 + j) q m mt z → ∃ z', L_X7_copy_166b (nI k) (nI i) (nI k2) (nI j) (nI m) kk f (nI q) z = kk (nI m) z' ∧ DInv (60 * k + i) (60 * k2 + j) m m mt z' := by
  intro f
  induction f with
  | zero => intro q z h1 h2; omega
  | succ f ih =>
    intro q z hq1 hq2 hz
    rw [L_X7_copy_166b_s]
    by_cases c : q = m
    · subst c
      rw [if_pos (nI_le (Nat.le_refl _) (by omega))]
      exact ⟨z, rfl, hz⟩
    · have e : nI m - 1 - nI q = nI (m - 1 - q) := by
        rw [show (1 : Int32) = nI 1 from rfl, pk_sub (by omega), pk_sub (by omega)]
      rw [if_neg (nI_ge (by omega) (by omega)), e, ix60, ix60, nI_add, nI_add, ck_nI (by omega) (by decide), ck_nI (by omega) (by decide), gA_nI _ _ (by omega), nI_1]
      refine ih (q + 1) _ (by omega) (by omega) ⟨hz.1, fun a ha => by rw [A_sAn z _ _ ha, hz.2.1 a ha], fun p => ?_⟩
      rw [A_sAs z 4 _ (by omega)]
      by_cases d : p = 60 * k2 + j + (m - 1 - q)
      · rw [if_pos d, if_pos (by omega), hz.2.2, if_neg (fun g => hfw (m - 1 - q) (60 * k + i + (m - 1 - q) - (60 * k2 + j)) (by omega) (by omega) (by omega))]
        exact congrArg (mt.2 4) (by omega)
      · rw [if_neg d, hz.2.2]
        by_cases g : 60 * k2 + j + (m - q) ≤ p ∧ p < 60 * k2 + j + m
        · rw [if_pos g, if_pos (by omega)]
        · rw [if_neg g, if_neg (by omega)]
theorem SG.copy {st mt z : St} (h : SG st mt) {k i k2 j m : Nat} (hk : k < 4) (hk2 : k2 < 4) (him : i + m ≤ 60) (hjm : j + m ≤ 60) (h2 : z.2 2 = mt.2 2) (h3 : z.2 3 = mt.2 3) (h4 : ∀ p, z.2 4 p = if 60 * k2 + j ≤ p ∧ p < 60 * k2 + j + m then mt.2 4 (60 * k + i + (p - (60 * k2 + j))) else mt.2 4 p) : SG (sC st (10 + k) (10 + k2) (nI i) (nI j) (nI m)) z := by
  intro k3 hk3
  obtain ⟨g1, g2, g3⟩ := h k3 hk3
  rw [h2, h3]
  refine ⟨g1, g2, fun q hq => ?_⟩
  rw [h4]
  show (va_up st.2 (10 + k2) (va_cpy (st.2 (10 + k)) (st.2 (10 + k2)) (nI i).toNatClampNeg (nI j).toNatClampNeg (nI m).toNatClampNeg)) (10 + k3) q = _
  rw [nI_clamp (by omega), nI_clamp (by omega), nI_clamp (by omega)]
  by_cases c : k3 = k2
  · subst c
    rw [va_up_self]
    unfold va_cpy
    by_cases d : j ≤ q ∧ q < j + m
    · rw [if_pos d, if_pos (by omega), (h k hk).2.2 (i + (q - j)) (by omega)]
      exact congrArg (mt.2 4) (by omega)
    · rw [if_neg d, if_neg (by omega)]
      exact g3 q hq
  · rw [va_up_ne _ _ (show 10 + k3 ≠ 10 + k2 by omega), if_neg (by omega)]
    exact g3 q hq
theorem ok_copy {st mt : St} (h : Rel st mt) (x1 x2 x3 x4 x5 : Int32) : ∃ (r : Int32) (s2 : St) (m2 : St), F_X6_copy st x1 x2 x3 x4 x5 = some (r, s2) ∧ F_X7_copy mt x1 x2 x3 x4 x5 = some (r, m2) ∧ Rel s2 m2 := by
  have hf := h.fault 0
  unfold F_X6_copy F_X7_copy
  generalize sI st 1 0 = st1 at hf ⊢
  generalize sI mt 0 0 = mt1 at hf ⊢
  obtain ⟨n, w, rc, kd, nt, sp, md, rn, rb, rm, rs, h1, h2, h3, h4, h5, h6, h7, h8, h9⟩ := id hf
  rcases rng x1 4 (by decide) with ⟨k, hk, rfl⟩ | ho
  · rw [show F_X6_isBelow st1 (nI k) 4 = some 1 from bel_in _ hk (by decide), she_in mt1 hk, b1_s, b1_s, if_neg n10, if_neg n10]
    rcases rng x3 4 (by decide) with ⟨k2, hk2, rfl⟩ | ho2
    · obtain ⟨g1, g2, g3⟩ := h7 k hk
      obtain ⟨p1, p2, p3⟩ := h7 k2 hk2
      have hk31 : k < 2 ^ 31 := by omega
      have hk231 : k2 < 2 ^ 31 := by omega
      rw [show F_X6_isBelow st1 (nI k2) 4 = some 1 from bel_in _ hk2 (by decide), she_in mt1 hk2, b1_s, b1_s, if_neg n10, if_neg n10]
      simp only [ck_nI hk (show 4 < 2 ^ 31 by decide), ck_nI hk2 (show 4 < 2 ^ 31 by decide), gA_nI _ _ hk31, gA_nI _ _ hk231, nI_clamp hk31, nI_clamp hk231]
      rw [← g1, ← p1]
      by_cases q : gI st1 (10 + k) = -9
      · rw [nothing_1 q, b1_s, if_neg n10, if_pos q]
        exact ⟨_, _, _, rfl, rfl, hf.fault 1⟩
      · rw [nothing_0 q, b1_s, if_pos rfl, if_neg q]
        by_cases q2 : gI st1 (10 + k2) = -9
        · rw [nothing_1 q2, b1_s, if_neg n10, if_pos q2]
          exact ⟨_, _, _, rfl, rfl, hf.fault 1⟩
        · rw [nothing_0 q2, b1_s, if_pos rfl, if_neg q2]
          by_cases q3 : gI st1 (10 + k) = gI st1 (10 + k2)
          · rw [if_pos q3, if_pos q3]
            obtain ⟨⟨z, hz, e1, e2⟩, l, hl, e3⟩ := g2.resolve_left q
            obtain ⟨⟨y, hy, f1, f2⟩, l2, hl2, f3⟩ := p2.resolve_left q2
            unfold F_X3_hasCells
            rw [e2, f2, e1, f1]
            by_cases a1 : x2 < 0
            · simp only [a1, ↓reduceIte, b1_s]
              exact ⟨_, _, _, rfl, rfl, hf.fault 3⟩
            by_cases a2 : nI z < x2
            · simp only [a1, a2, ↓reduceIte, b1_s, ite_self]
              exact ⟨_, _, _, rfl, rfl, hf.fault 3⟩
            by_cases a3 : x5 < 0
            · simp only [a1, a2, a3, ↓reduceIte, b1_s, ite_self]
              exact ⟨_, _, _, rfl, rfl, hf.fault 3⟩
            by_cases a4 : nI z - x2 < x5
            · simp only [a1, a2, a3, a4, ↓reduceIte, b1_s, ite_self]
              exact ⟨_, _, _, rfl, rfl, hf.fault 3⟩
            by_cases a5 : x4 < 0
            · simp only [a1, a2, a3, a4, a5, ↓reduceIte, b1_s, n10]
              exact ⟨_, _, _, rfl, rfl, hf.fault 3⟩
            by_cases a6 : nI y < x4
            · simp only [a1, a2, a3, a4, a5, a6, ↓reduceIte, b1_s, n10]
              exact ⟨_, _, _, rfl, rfl, hf.fault 3⟩
            by_cases a7 : nI y - x4 < x5
            · simp only [a1, a2, a3, a4, a5, a6, a7, show ¬ x5 ≤ nI y - x4 from Int32.not_le.mpr a7, ↓reduceIte, b1_s, n10]
              exact ⟨_, _, _, rfl, rfl, hf.fault 3⟩
            simp only [a1, a2, a3, a4, a5, a6, a7, show x5 ≤ nI y - x4 from Int32.not_lt.mp a7, ↓reduceIte, b1_s, n10]
            obtain ⟨i, hi, rfl⟩ : ∃ i : Nat, i ≤ z ∧ x2 = nI i := nI_of2 (nI_toInt (by omega)) a1 (Int32.not_lt.mp a2)
            obtain ⟨j, hj, rfl⟩ : ∃ j : Nat, j ≤ y ∧ x4 = nI j := nI_of2 (nI_toInt (by omega)) a5 (Int32.not_lt.mp a6)
            rw [pk_sub hi] at a4
            rw [pk_sub hj] at a7
            obtain ⟨m, hm, rfl⟩ : ∃ m : Nat, m ≤ z - i ∧ x5 = nI m := nI_of2 (nI_toInt (by omega)) a3 (Int32.not_lt.mp a4)
            have hmy : m ≤ y - j := (nI_leI (by omega) (by omega)).mp (Int32.not_lt.mp a7)
            have hcc : cc5 (nI i) (nI j) (nI m) 60 60 (some (nI m, sC st1 (10 + k) (10 + k2) (nI i) (nI j) (nI m))) = some (nI m, sC st1 (10 + k) (10 + k2) (nI i) (nI j) (nI m)) := by
              unfold cc5
              rw [nI_clamp (by omega), nI_clamp (by omega), nI_clamp (by omega), if_neg]
              rintro (g | g)
              · rcases g with g | g | g
                · exact a1 g
                · exact a5 g
                · exact a3 g
              · omega
            rw [hcc]
            have fin : ∀ m2 : St, (∀ k, gI m2 k = gI mt1 k) → (∀ a, a ≠ 4 → m2.2 a = mt1.2 a) → (∀ p, m2.2 4 p = if 60 * k2 + j ≤ p ∧ p < 60 * k2 + j + m then mt1.2 4 (60 * k + i + (p - (60 * k2 + j))) else mt1.2 4 p) → Rel (sC st1 (10 + k) (10 + k2) (nI i) (nI j) (nI m)) m2 := by
              intro m2 t1 t2 t3
              exact hf.sheet (fun _ _ => rfl) (fun a ha => va_up_ne _ _ (by omega)) t1 (fun a ha => t2 a (by omega)) (h7.copy hk hk2 (by omega) (by omega) (t2 2 (by decide)) (t2 3 (by decide)) t3)
            by_cases dr : j ≤ i
            · rw [if_pos (nI_le dr (by omega))]
              obtain ⟨z', t1, t2⟩ := fw_loop (mt := mt1) (k := k) (i := i) (k2 := k2) (j := j) (m := m) hk hk2 (by omega) (by omega) (fun q q' g1 g2 g3 => by omega) (fun _ z => some (nI m, z)) 70 0 mt1 (by omega) (by omega) ⟨fun _ => rfl, fun _ _ => rfl, fun p => by rw [if_neg (by omega)]⟩
              rw [nI_0] at t1
              rw [t1]
              exact ⟨_, _, _, rfl, rfl, fin z' t2.1 t2.2.1 t2.2.2⟩
            · rw [if_neg (nI_ge (by omega) (by omega))]
              obtain ⟨z', t1, t2⟩ := bw_loop (mt := mt1) (k := k) (i := i) (k2 := k2) (j := j) (m := m) hk hk2 (by omega) (by omega) (fun q q' g1 g2 g3 => by omega) (fun _ z => some (nI m, z)) 70 0 mt1 (by omega) (by omega) ⟨fun _ => rfl, fun _ _ => rfl, fun p => by rw [if_neg (by omega)]⟩
              rw [nI_0] at t1
              rw [t1]
              exact ⟨_, _, _, rfl, rfl, fin z' t2.1 t2.2.1 (fun p => by rw [t2.2.2 p, Nat.sub_self, Nat.add_zero])⟩
          · rw [if_neg q3, if_neg q3]
            exact ⟨_, _, _, rfl, rfl, hf.fault 2⟩
    · rw [show F_X6_isBelow st1 x3 4 = some 0 from bel_out _ ho2, she_out mt1 ho2]
      exact ⟨-1, _, _, rfl, rfl, hf⟩
  · rw [show F_X6_isBelow st1 x1 4 = some 0 from bel_out _ ho, she_out mt1 ho]
    exact ⟨-1, _, _, rfl, rfl, hf⟩
