/-! the tests of a row of cells, both sides -/
theorem ag_n (mt : St) {k : Nat} (hk : k < 4) {x2 x3 y : Int32} (h : mt.2 2 k = -9) : F_X7_against mt (nI k) x2 x3 y = some 1 := by
  unfold F_X7_against
  simp only [ck_nI hk (show 4 < 2 ^ 31 by decide), gA_nI _ _ (show k < 2 ^ 31 by omega), h, ↓reduceIte]
theorem ag_c (mt : St) {k : Nat} (hk : k < 4) {x2 x3 y : Int32} (h : ¬ mt.2 2 k = -9) (h2 : ¬ mt.2 2 k = x2) : F_X7_against mt (nI k) x2 x3 y = some 2 := by
  unfold F_X7_against
  simp only [ck_nI hk (show 4 < 2 ^ 31 by decide), gA_nI _ _ (show k < 2 ^ 31 by omega), h, h2, ↓reduceIte]
theorem ag_s (mt : St) {k : Nat} (hk : k < 4) {x2 x3 y : Int32} (h : ¬ mt.2 2 k = -9) (h2 : mt.2 2 k = x2) (hy : ¬ 0 ≤ y) : F_X7_against mt (nI k) x2 x3 y = some 4 := by
  subst h2
  unfold F_X7_against
  simp only [ck_nI hk (show 4 < 2 ^ 31 by decide), gA_nI _ _ (show k < 2 ^ 31 by omega), h, hy, ↓reduceIte]
theorem ag_out (mt : St) {k : Nat} (hk : k < 4) {x2 x3 y : Int32} {z : Int32} (h : ¬ mt.2 2 k = -9) (h2 : mt.2 2 k = x2) (hz : mt.2 3 k = z) (hy : 0 ≤ y) (ho : x3 < 0 ∨ z < x3 ∨ ¬ y ≤ z - x3) : F_X7_against mt (nI k) x2 x3 y = some 3 := by
  subst h2
  unfold F_X7_against
  simp only [ck_nI hk (show 4 < 2 ^ 31 by decide), gA_nI _ _ (show k < 2 ^ 31 by omega), h, hy, hz, ↓reduceIte]
  by_cases a : x3 < 0
  · rw [if_pos a]
  · rw [if_neg a]
    by_cases b : z < x3
    · rw [if_pos b]
    · rw [if_neg b, if_neg ((ho.resolve_left a).resolve_left b)]
theorem ag_in (mt : St) {k : Nat} (hk : k < 4) {x2 x3 y : Int32} {z : Int32} (h : ¬ mt.2 2 k = -9) (h2 : mt.2 2 k = x2) (hz : mt.2 3 k = z) (hy : 0 ≤ y) (ho : ¬ (x3 < 0 ∨ z < x3 ∨ ¬ y ≤ z - x3)) : F_X7_against mt (nI k) x2 x3 y = some 0 := by
  subst h2
  unfold F_X7_against
  simp only [ck_nI hk (show 4 < 2 ^ 31 by decide), gA_nI _ _ (show k < 2 ^ 31 by omega), h, hy, hz, ↓reduceIte]
  rw [if_neg (fun a => ho (Or.inl a)), if_neg (fun a => ho (Or.inr (Or.inl a))), if_pos (Decidable.not_not.mp (fun a => ho (Or.inr (Or.inr a))))]
theorem hc_out {st : St} {k : Nat} {x3 y z : Int32} (hz : gI st (14 + k) = z) (hy : 0 ≤ y) (ho : x3 < 0 ∨ z < x3 ∨ ¬ y ≤ z - x3) : F_X3_hasCells st k x3 y = some 0 := by
  unfold F_X3_hasCells
  rw [hz]
  by_cases a : x3 < 0
  · rw [if_pos a]
  · rw [if_neg a]
    by_cases b : z < x3
    · rw [if_pos b]
    · rw [if_neg b, if_neg (Int32.not_lt.mpr hy), if_pos (Int32.not_le.mp ((ho.resolve_left a).resolve_left b))]
theorem hc_in {st : St} {k : Nat} {x3 y z : Int32} (hz : gI st (14 + k) = z) (hy : 0 ≤ y) (ho : ¬ (x3 < 0 ∨ z < x3 ∨ ¬ y ≤ z - x3)) : F_X3_hasCells st k x3 y = some 1 := by
  unfold F_X3_hasCells
  rw [hz, if_neg (fun a => ho (Or.inl a)), if_neg (fun a => ho (Or.inr (Or.inl a))), if_neg (Int32.not_lt.mpr hy), if_neg (Int32.not_lt.mpr (Decidable.not_not.mp (fun a => ho (Or.inr (Or.inr a)))))]
theorem hc_nat {x3 y : Int32} {z : Nat} (hz : z ≤ 60) (hy : 0 ≤ y) (ho : ¬ (x3 < 0 ∨ nI z < x3 ∨ ¬ y ≤ nI z - x3)) : ∃ i m : Nat, x3 = nI i ∧ y = nI m ∧ i + m ≤ z := by
  obtain ⟨i, hi, rfl⟩ : ∃ i : Nat, i ≤ z ∧ x3 = nI i := nI_of2 (nI_toInt (by omega)) (fun a => ho (Or.inl a)) (Int32.not_lt.mp (fun a => ho (Or.inr (Or.inl a))))
  have h3 : y ≤ nI z - nI i := Decidable.not_not.mp (fun a => ho (Or.inr (Or.inr a)))
  rw [pk_sub hi] at h3
  obtain ⟨m, hm, rfl⟩ : ∃ m : Nat, m ≤ z - i ∧ y = nI m := nI_of2 (nI_toInt (by omega)) (Int32.not_lt.mpr hy) h3
  exact ⟨i, m, rfl, rfl, by omega⟩
/-! GOINGS: pairs that are none -/
def VP (n : Nat) (cl : Nat → Int32) (p : Nat) : Prop := ∃ b t, b < n ∧ t < 10 ∧ cl (2 * p) = nI b ∧ cl (2 * p + 1) = nI t
theorem ixp {i p : Nat} : nI i + 2 * nI p = nI (i + 2 * p) := by
  rw [show (2 : Int32) = nI 2 from rfl, pk_mul, nI_add]
theorem gi_loop {st mt : St} {n w rc : Nat} {kd nt sp md : Nat → Nat} (h1 : Hd n w rc kd nt sp md) (h2 : CG st n w rc kd nt sp md) (h3 : MG (sI mt 0 0) n w rc kd nt sp md) {k i m : Nat} (hk : k < 4) (hm : m ≤ 20) (him : i + 2 * m ≤ 60) {cl : Nat → Int32} (hC : ∀ p, p < 2 * m → st.2 (10 + k) (i + p) = cl p) (hM : ∀ p, p < 2 * m → mt.2 4 (60 * k + i + p) = cl p) (kC : Int32 → St → Option (Int32 × St)) (kM : Int32 → Option (Int32 × St)) :
    ∀ f p z, p ≤ m → m < p + f → SameC st z →
      (∃ r z', SameC st z' ∧ ¬ r = 0 ∧ L_X5_goAll_28 k (nI i) (nI m) kC f (nI p) z = some (r, z') ∧ L_X7_goings_103 mt (nI k) (nI i) (nI m) kM f (nI p) = some (r, sI mt 0 0)) ∨
      ((∀ q, p ≤ q → q < m → VP n cl q) ∧ L_X7_goings_103 mt (nI k) (nI i) (nI m) kM f (nI p) = kM (nI m)) := by
  have hn5 := h1.1
  intro f
  induction f with
  | zero => intro p z h1 h2; omega
  | succ f ih =>
    intro p z hp1 hp2 hz
    have hzc := h2.same hz
    have hzr : ∀ q, z.2 (10 + k) q = st.2 (10 + k) q := fun q => hz.2 (10 + k) (by omega) (by omega) (by omega) q
    by_cases c : p = m
    · subst c
      right
      refine ⟨fun q a b => by omega, ?_⟩
      rw [L_X7_goings_103_s, if_pos (nI_le (Nat.le_refl _) (by omega))]
    · have hng : ¬ nI m ≤ nI p := nI_ge (by omega) (by omega)
      have c1 : gA z (10 + k) (nI (i + 2 * p)) = cl (2 * p) := by rw [gA_nI _ _ (by omega), hzr, hC _ (by omega)]
      have c2 : gA z (10 + k) (nI (i + 2 * p + 1)) = cl (2 * p + 1) := by rw [gA_nI _ _ (by omega), hzr, Nat.add_assoc, hC _ (by omega)]
      have m1 : gA (sI mt 0 0) 4 (nI (60 * k + i + 2 * p)) = cl (2 * p) := by rw [gA_nI _ _ (by omega), A_sI, hM _ (by omega)]
      have m2 : gA (sI mt 0 0) 4 (nI (60 * k + i + 2 * p + 1)) = cl (2 * p + 1) := by rw [gA_nI _ _ (by omega), A_sI, Nat.add_assoc, hM _ (by omega)]
      rw [L_X5_goAll_28_s, L_X7_goings_103_s, if_neg hng, if_neg hng, ix60, ixp, ixp, nI_1, nI_1, nI_1, ck_nI (show i + 2 * p < 60 by omega) (by decide), ck_nI (show i + 2 * p + 1 < 60 by omega) (by decide), ck_nI (show 60 * k + i + 2 * p < 240 by omega) (by decide), ck_nI (show 60 * k + i + 2 * p + 1 < 240 by omega) (by decide)]
      simp only [c1, c2, m1, m2]
      rcases rng (cl (2 * p)) n (by omega) with ⟨b, hb, eb⟩ | ho
      · rw [eb, bell_in hzc.1 hn5 hb, mbell_in h3.1 hn5 hb, b1_s, b1_s, if_neg n10, if_neg n10]
        rcases rng (cl (2 * p + 1)) 10 (by decide) with ⟨t, ht, et⟩ | ho2
        · rw [et, show F_X6_isBelow z (nI t) 10 = some 1 from bel_in z ht (by decide), dig_in _ ht, b1_s, b1_s, if_neg n10, if_neg n10]
          simp only [ck_nI (show b < 5 by omega) (show 5 < 2 ^ 31 by decide)]
          have go : ∀ z2, SameC st z2 → ((∃ r z', SameC st z' ∧ ¬ r = 0 ∧ L_X5_goAll_28 k (nI i) (nI m) kC f (nI (p + 1)) z2 = some (r, z') ∧ L_X7_goings_103 mt (nI k) (nI i) (nI m) kM f (nI (p + 1)) = some (r, sI mt 0 0)) ∨ ((∀ q, p ≤ q → q < m → VP n cl q) ∧ L_X7_goings_103 mt (nI k) (nI i) (nI m) kM f (nI (p + 1)) = kM (nI m))) := by
            intro z2 hz2
            rcases ih (p + 1) z2 (by omega) (by omega) hz2 with q | ⟨q1, q2⟩
            · exact Or.inl q
            · refine Or.inr ⟨fun q a1 a2 => ?_, q2⟩
              by_cases e : q = p
              · subst e
                exact ⟨b, t, hb, ht, eb, et⟩
              · exact q1 q (by omega) a2
          split
          · split
            · exact go _ (((hz.tr (SameC.i 8 _ (Or.inr (Or.inr rfl)))).tr (SameC.i 7 _ (Or.inr (Or.inl rfl)))).tr (SameC.a 9 _ _ (Or.inr (Or.inr rfl))))
            · exact go _ ((hz.tr (SameC.i 7 _ (Or.inr (Or.inl rfl)))).tr (SameC.a 9 _ _ (Or.inr (Or.inr rfl))))
          · exact go _ ((hz.tr (SameC.i 7 _ (Or.inr (Or.inl rfl)))).tr (SameC.a 9 _ _ (Or.inr (Or.inr rfl))))
        · rw [show F_X6_isBelow z (cl (2 * p + 1)) 10 = some 0 from bel_out z ho2, dig_out _ ho2]
          exact Or.inl ⟨-2, z, hz, by decide, rfl, rfl⟩
      · rw [bell_out hzc.1 ho, mbell_out h3.1 ho]
        exact Or.inl ⟨-1, z, hz, by decide, rfl, rfl⟩
/-! GOINGS that are told -/
def spv (sp bp tp : Nat → Nat) : Nat → Nat → Nat
  | 0, b => sp b
  | p + 1, b => if b = bp p then tp p else spv sp bp tp p b
def stv (sp bp tp : Nat → Nat) : Nat → Nat
  | 0 => 0
  | p + 1 => stv sp bp tp p + dst (spv sp bp tp p (bp p)) (tp p)
def fwv (sp bp tp : Nat → Nat) : Nat → Int32
  | 0 => -9
  | p + 1 => if fwv sp bp tp p = -9 then (if spv sp bp tp p (bp p) = tp p then nI p else -9) else fwv sp bp tp p
theorem spv_lt {sp bp tp : Nat → Nat} {m : Nat} (hs : ∀ b, b < 5 → sp b < 10) (ht : ∀ p, p < m → tp p < 10) : ∀ p, p ≤ m → ∀ b, b < 5 → spv sp bp tp p b < 10 := by
  intro p
  induction p with
  | zero => intro _ b hb; exact hs b hb
  | succ p ih =>
    intro hp b hb
    show (if b = bp p then tp p else spv sp bp tp p b) < 10
    by_cases c : b = bp p
    · rw [if_pos c]; exact ht p (by omega)
    · rw [if_neg c]; exact ih (by omega) b hb
theorem fwv_mono {sp bp tp : Nat → Nat} : ∀ {p q : Nat}, p ≤ q → ¬ fwv sp bp tp p = -9 → fwv sp bp tp q = fwv sp bp tp p := by
  intro p q h hf
  induction h with
  | refl => rfl
  | step _ ih =>
    rename_i m _
    show (if fwv sp bp tp m = -9 then (if spv sp bp tp m (bp m) = tp m then nI m else -9) else fwv sp bp tp m) = _
    rw [if_neg (by rw [ih]; exact hf), ih]
theorem nI9 {p : Nat} (h : p < 2 ^ 31) : ¬ nI p = -9 := fun e => by
  have := congrArg Int32.toInt e
  rw [nI_toInt h, show (-9 : Int32).toInt = -9 by decide] at this
  omega
theorem dst0 {a b : Nat} : dst a b = 0 ↔ a = b := by
  unfold dst
  by_cases h : a ≤ b
  · rw [if_pos h]; omega
  · rw [if_neg h]; omega
theorem ga_loop {st : St} {n w rc : Nat} {kd nt sp md : Nat → Nat} (h1 : Hd n w rc kd nt sp md) (h2 : CG st n w rc kd nt sp md) {k i m : Nat} (hk : k < 4) (hm : m ≤ 20) (him : i + 2 * m ≤ 60) {cl : Nat → Int32} (hC : ∀ p, p < 2 * m → st.2 (10 + k) (i + p) = cl p) {bp tp : Nat → Nat} (hV : ∀ p, p < m → bp p < n ∧ tp p < 10 ∧ cl (2 * p) = nI (bp p) ∧ cl (2 * p + 1) = nI (tp p)) (kC : Int32 → St → Option (Int32 × St)) :
    ∀ f p z, p ≤ m → m < p + f → SameC st z → (∀ b, b < 5 → z.2 9 b = nI (spv sp bp tp p b)) → gI z 7 = nI (stv sp bp tp p) → gI z 8 = fwv sp bp tp p → ∃ z', L_X5_goAll_28 k (nI i) (nI m) kC f (nI p) z = kC (nI m) z' ∧ SameC st z' ∧ (∀ b, b < 5 → z'.2 9 b = nI (spv sp bp tp m b)) ∧ gI z' 7 = nI (stv sp bp tp m) ∧ gI z' 8 = fwv sp bp tp m := by
  have hn5 := h1.1
  have hsl := spv_lt (sp := sp) (bp := bp) (tp := tp) (m := m) (fun b hb => (h1.2.2.2 b hb).2.2.1) (fun p hp => (hV p hp).2.1)
  intro f
  induction f with
  | zero => intro p z h1 h2; omega
  | succ f ih =>
    intro p z hp1 hp2 hz hs h7 h8
    have hzc := h2.same hz
    have hzr : ∀ q, z.2 (10 + k) q = st.2 (10 + k) q := fun q => hz.2 (10 + k) (by omega) (by omega) (by omega) q
    rw [L_X5_goAll_28_s]
    by_cases c : p = m
    · subst c
      rw [if_pos (nI_le (Nat.le_refl _) (by omega))]
      exact ⟨z, rfl, hz, hs, h7, h8⟩
    · obtain ⟨v1, v2, v3, v4⟩ := hV p (by omega)
      have c1 : gA z (10 + k) (nI (i + 2 * p)) = nI (bp p) := by rw [gA_nI _ _ (by omega), hzr, hC _ (by omega), v3]
      have c2 : gA z (10 + k) (nI (i + 2 * p + 1)) = nI (tp p) := by rw [gA_nI _ _ (by omega), hzr, Nat.add_assoc, hC _ (by omega), v4]
      have c3 : gA z 9 (nI (bp p)) = nI (spv sp bp tp p (bp p)) := by rw [gA_nI _ _ (by omega), hs _ (by omega)]
      have hl := hsl p (by omega) (bp p) (by omega)
      have hd := dst_lt hl v2
      rw [if_neg (nI_ge (show p < m by omega) (by omega)), ixp, nI_1, nI_1, ck_nI (show i + 2 * p < 60 by omega) (by decide), ck_nI (show i + 2 * p + 1 < 60 by omega) (by decide)]
      simp only [c1, c2]
      rw [bell_in hzc.1 hn5 v1, b1_s, if_neg n10, show F_X6_isBelow z (nI (tp p)) 10 = some 1 from bel_in z v2 (by decide), b1_s, if_neg n10]
      simp only [ck_nI (show bp p < 5 by omega) (show 5 < 2 ^ 31 by decide), c3, jab _ (show spv sp bp tp p (bp p) < 20 by omega) _ (show tp p < 20 by omega), gI_sIn _ _ (show 7 ≠ 8 by decide), h7, h8, nI_add]
      have hsp : ∀ z2 : St, z2.2 9 = z.2 9 → ∀ b, b < 5 → (sA z2 9 (nI (bp p)) (nI (tp p))).2 9 b = nI (spv sp bp tp (p + 1) b) := by
        intro z2 e b hb
        rw [A_sAs z2 9 _ (by omega), e]
        show (if b = bp p then nI (tp p) else z.2 9 b) = nI (if b = bp p then tp p else spv sp bp tp p b)
        by_cases g : b = bp p
        · rw [if_pos g, if_pos g]
        · rw [if_neg g, if_neg g, hs b hb]
      by_cases g : spv sp bp tp p (bp p) = tp p
      · rw [if_pos (by rw [dst0.mpr g]; rfl)]
        by_cases e : fwv sp bp tp p = -9
        · rw [if_pos e]
          exact ih (p + 1) _ (by omega) (by omega) (((hz.tr (SameC.i 8 _ (Or.inr (Or.inr rfl)))).tr (SameC.i 7 _ (Or.inr (Or.inl rfl)))).tr (SameC.a 9 _ _ (Or.inr (Or.inr rfl)))) (hsp _ rfl) (by rw [gI_sA, gI_sIs]; rfl) (by
            rw [gI_sA, gI_sIn _ _ (by decide), gI_sIs]
            show nI p = (if fwv sp bp tp p = -9 then (if spv sp bp tp p (bp p) = tp p then nI p else -9) else fwv sp bp tp p)
            rw [if_pos e, if_pos g])
        · rw [if_neg e]
          exact ih (p + 1) _ (by omega) (by omega) ((hz.tr (SameC.i 7 _ (Or.inr (Or.inl rfl)))).tr (SameC.a 9 _ _ (Or.inr (Or.inr rfl)))) (hsp _ rfl) (by rw [gI_sA, gI_sIs]; rfl) (by
            rw [gI_sA, gI_sIn _ _ (by decide), h8]
            show fwv sp bp tp p = (if fwv sp bp tp p = -9 then (if spv sp bp tp p (bp p) = tp p then nI p else -9) else fwv sp bp tp p)
            rw [if_neg e])
      · rw [if_neg (nI_ne0 (Nat.pos_of_ne_zero (fun z => g (dst0.mp z))) (by omega))]
        exact ih (p + 1) _ (by omega) (by omega) ((hz.tr (SameC.i 7 _ (Or.inr (Or.inl rfl)))).tr (SameC.a 9 _ _ (Or.inr (Or.inr rfl)))) (hsp _ rfl) (by rw [gI_sA, gI_sIs]; rfl) (by
          rw [gI_sA, gI_sIn _ _ (by decide), h8]
          show fwv sp bp tp p = (if fwv sp bp tp p = -9 then (if spv sp bp tp p (bp p) = tp p then nI p else -9) else fwv sp bp tp p)
          by_cases e : fwv sp bp tp p = -9
          · rw [if_pos e, if_neg g, e]
          · rw [if_neg e])
theorem gc_loop {mt : St} {n w rc : Nat} {kd nt sp md : Nat → Nat} (h1 : Hd n w rc kd nt sp md) (h3 : MG mt n w rc kd nt sp md) (kk : Int32 → St → Option (Int32 × St)) :
    ∀ f b z, b ≤ n → n < b + f → SameM mt z → gI z 21 = 0 → (∀ q, q < b → z.2 20 q = nI (sp q)) → ∃ z', L_X7_goGoings_7 kk f (nI b) z = kk (nI n) z' ∧ SameM mt z' ∧ gI z' 21 = 0 ∧ ∀ q, q < n → z'.2 20 q = nI (sp q) := by
  have hn5 := h1.1
  intro f
  induction f with
  | zero => intro b z h1 h2; omega
  | succ f ih =>
    intro b z hb1 hb2 hz h21 hq
    have hzc := h3.same hz
    rw [L_X7_goGoings_7_s, hzc.1]
    by_cases c : b = n
    · subst c
      rw [if_pos (nI_le (Nat.le_refl _) (by omega))]
      exact ⟨z, rfl, hz, h21, hq⟩
    · rw [if_neg (nI_ge (by omega) (by omega)), ck_nI (by omega) (by decide), ck_nI (by omega) (by decide), gA_nI _ _ (by omega), (hzc.2.2.2 b (by omega)).2.2.1, nI_1]
      refine ih (b + 1) _ (by omega) (by omega) (hz.tr (SameM.a 20 _ _ (by decide))) h21 (fun q hq2 => ?_)
      rw [A_sAs z 20 _ (by omega)]
      by_cases d : q = b
      · rw [if_pos d, d]
      · rw [if_neg d]; exact hq q (by omega)
theorem gm_loop {mt : St} {n w rc : Nat} {kd nt sp md : Nat → Nat} (h1 : Hd n w rc kd nt sp md) {T m : Nat} (hm : m ≤ 20) (hT : T + 2 * m ≤ 240) {cl : Nat → Int32} (hM : ∀ p, p < 2 * m → mt.2 4 (T + p) = cl p) {bp tp : Nat → Nat} (hV : ∀ p, p < m → bp p < n ∧ tp p < 10 ∧ cl (2 * p) = nI (bp p) ∧ cl (2 * p + 1) = nI (tp p)) (kk : Int32 → St → Option (Int32 × St)) :
    ∀ f p z, p ≤ m → m < p + f → SameM mt z → (∀ b, b < n → z.2 20 b = nI (spv sp bp tp p b)) → gI z 21 = nI (stv sp bp tp p) → fwv sp bp tp p = -9 → ∃ z', SameM mt z' ∧ ((fwv sp bp tp m = -9 ∧ L_X7_goGoings_35 (nI T) (nI m) kk f (nI p) z = kk (nI m) z' ∧ (∀ b, b < n → z'.2 20 b = nI (spv sp bp tp m b)) ∧ gI z' 21 = nI (stv sp bp tp m)) ∨ (¬ fwv sp bp tp m = -9 ∧ L_X7_goGoings_35 (nI T) (nI m) kk f (nI p) z = some (fwv sp bp tp m, z'))) := by
  have hn5 := h1.1
  have hsl := spv_lt (sp := sp) (bp := bp) (tp := tp) (m := m) (fun b hb => (h1.2.2.2 b hb).2.2.1) (fun p hp => (hV p hp).2.1)
  intro f
  induction f with
  | zero => intro p z h1 h2; omega
  | succ f ih =>
    intro p z hp1 hp2 hz hs h21 hf
    rw [L_X7_goGoings_35_s]
    by_cases c : p = m
    · subst c
      rw [if_pos (nI_le (Nat.le_refl _) (by omega))]
      exact ⟨z, hz, Or.inl ⟨hf, rfl, hs, h21⟩⟩
    · obtain ⟨v1, v2, v3, v4⟩ := hV p (by omega)
      have hzr : ∀ q, z.2 4 q = mt.2 4 q := fun q => hz.2 4 (by decide) q
      have c1 : gA z 4 (nI (T + 2 * p)) = nI (bp p) := by rw [gA_nI _ _ (by omega), hzr, hM _ (by omega), v3]
      have c2 : gA z 4 (nI (T + 2 * p + 1)) = nI (tp p) := by rw [gA_nI _ _ (by omega), hzr, Nat.add_assoc, hM _ (by omega), v4]
      have c3 : gA z 20 (nI (bp p)) = nI (spv sp bp tp p (bp p)) := by rw [gA_nI _ _ (by omega), hs _ v1]
      have hl := hsl p (by omega) (bp p) (by omega)
      rw [if_neg (nI_ge (show p < m by omega) (by omega)), ixp, nI_1, nI_1, ck_nI (show T + 2 * p < 240 by omega) (by decide), ck_nI (show T + 2 * p + 1 < 240 by omega) (by decide)]
      simp only [c1, c2, ck_nI (show bp p < 5 by omega) (show 5 < 2 ^ 31 by decide), c3]
      by_cases g : spv sp bp tp p (bp p) = tp p
      · have e1 : fwv sp bp tp (p + 1) = nI p := by
          show (if fwv sp bp tp p = -9 then (if spv sp bp tp p (bp p) = tp p then nI p else -9) else fwv sp bp tp p) = _
          rw [if_pos hf, if_pos g]
        have e2 : fwv sp bp tp m = nI p := (fwv_mono (show p + 1 ≤ m by omega) (by rw [e1]; exact nI9 (by omega))).trans e1
        rw [if_pos (by rw [g])]
        refine ⟨z, hz, Or.inr ⟨by rw [e2]; exact nI9 (by omega), by rw [e2]⟩⟩
      · rw [if_neg (fun z => g ((nI_eq (by omega) (by omega)).mp z)), apart_ok z (by omega) (by omega), b1_s, h21, nI_add]
        refine ih (p + 1) _ (by omega) (by omega) ((hz.tr (SameM.i 21 _ (by decide))).tr (SameM.a 20 _ _ (by decide))) (fun b hb => ?_) (by rw [gI_sA, gI_sIs]; rfl) ?_
        · rw [A_sAs _ 20 _ (by omega), A_sI]
          show (if b = bp p then nI (tp p) else z.2 20 b) = nI (if b = bp p then tp p else spv sp bp tp p b)
          by_cases q : b = bp p
          · rw [if_pos q, if_pos q]
          · rw [if_neg q, if_neg q, hs b hb]
        · show (if fwv sp bp tp p = -9 then (if spv sp bp tp p (bp p) = tp p then nI p else -9) else fwv sp bp tp p) = _
          rw [if_pos hf, if_neg g]
/-! what is told behind them -/
def pc5 (s : Nat) : Nat := s % 2 + s / 2 % 2 + s / 4 % 2 + s / 8 % 2 + s / 16 % 2
theorem pc_or : ∀ n, n < 5 → ∀ s, s < 2 ^ n → pc5 (s ||| 2 ^ n) = pc5 s + 1 := by decide +kernel
theorem pc_bset (P : Nat → Bool) : ∀ n, n ≤ 5 → pc5 (bset P n) = mcN P n := by
  intro n
  induction n with
  | zero => intro _; exact (by decide : pc5 0 = 0)
  | succ n ih =>
    intro h
    by_cases c : P n = true
    · rw [bset_s1 c, mcN_s1 c, pc_or n (by omega) _ (bset_lt P n), ih (by omega)]
    · rw [bset_s0 c, mcN_s0 c, ih (by omega)]
theorem bc_fin : ∀ s, s < 32 → F_J6_bitCount_0f7a4 st0 (nI s) = some (nI (pc5 s)) := by decide +kernel
theorem bc_ok (st : St) {P : Nat → Bool} {n : Nat} (h : n ≤ 5) : F_J6_bitCount_0f7a4 st (nI (bset P n)) = some (nI (mcN P n)) := by
  rw [← pc_bset P n h]
  exact bc_fin _ (bset32 h)
theorem ht_loop {z : St} {n rc : Nat} {s : Nat → Nat} (hn : gI z 5 = nI n) (hn5 : n ≤ 5) (hr : gI z 7 = nI rc) (hrc : rc < 10) (hs : ∀ b, b < n → z.2 20 b = nI (s b) ∧ s b < 10) {j : Nat} (hj : j < 10) (kk : Int32 → Int32 → Option Int32) :
    ∀ f b, b ≤ n → n < b + f → L_X7_heardThen_4 z (nI j) kk f (nI (mcN (hP s rc j) b)) (nI b) = kk (nI (mcN (hP s rc j) n)) (nI n) := by
  intro f
  induction f with
  | zero => intro b h1 h2; omega
  | succ f ih =>
    intro b h1 h2
    rw [L_X7_heardThen_4_s, hn]
    by_cases c : b = n
    · subst c; rw [if_pos (nI_le (Nat.le_refl _) (by omega))]
    · obtain ⟨e1, e2⟩ := hs b (by omega)
      have := dst_lt e2 hj
      rw [if_neg (nI_ge (by omega) (by omega)), ck_nI (by omega) (by decide), gA_nI _ _ (by omega), e1, apart_ok z (by omega) (by omega), b1_s, hr, nI_1, nI_1, Int32.add_zero]
      by_cases d : dst (s b) j ≤ rc
      · rw [if_neg (nI_nlt d (by omega)), ← mcN_s1 (p := hP s rc j) (decide_eq_true d)]
        exact ih (b + 1) (by omega) (by omega)
      · rw [if_pos (nI_lt (by omega) (by omega)), ← mcN_s0 (p := hP s rc j) (fun z => d (of_decide_eq_true z))]
        exact ih (b + 1) (by omega) (by omega)
theorem ht_ok {z : St} {n rc : Nat} {s : Nat → Nat} (hn : gI z 5 = nI n) (hn5 : n ≤ 5) (hr : gI z 7 = nI rc) (hrc : rc < 10) (hs : ∀ b, b < n → z.2 20 b = nI (s b) ∧ s b < 10) {j : Nat} (hj : j < 10) : F_X7_heardThen z (nI j) = some (nI (mcN (hP s rc j) n)) := by
  unfold F_X7_heardThen
  exact ht_loop hn hn5 hr hrc hs hj (fun y _ => some y) 70 0 (by omega) (by omega)
theorem ls_loop {st z : St} {n rc : Nat} {s : Nat → Nat} (cn : gI st 2 = nI n) (cr : gI st 4 = nI rc) (cs : ∀ b, b < n → st.2 9 b = nI (s b) ∧ s b < 10) (hn : gI z 5 = nI n) (hn5 : n ≤ 5) (hr : gI z 7 = nI rc) (hrc : rc < 10) (hs : ∀ b, b < n → z.2 20 b = nI (s b) ∧ s b < 10) :
    ∀ f j q, j ≤ 10 → 10 < j + f → q < 10 → ∃ r, L_X6_loudestSpot_6 st (fun y _ _ => some y) f (nI q) (nI (mcN (hP s rc q) n)) (nI j) = some r ∧ L_X7_tellGoings_58 z (fun y _ => some y) f (nI q) (nI j) = some r := by
  intro f
  induction f with
  | zero => intro j q h1 h2; omega
  | succ f ih =>
    intro j q hj1 hj2 hq
    rw [L_X6_loudestSpot_6_s, L_X7_tellGoings_58_s]
    by_cases c : j = 10
    · subst c
      have h10 : (10 : Int32) ≤ nI 10 := by decide
      rw [if_pos h10, if_pos h10]
      exact ⟨_, rfl, rfl⟩
    · have hj : j < 10 := by omega
      have hng : ¬ (10 : Int32) ≤ nI j := nI_ge (b := 10) hj (by decide)
      rw [if_neg hng, if_neg hng, hg_ok cn hn5 cr hrc cs hj, b1_s, bc_ok st hn5, b1_s, ht_ok hn hn5 hr hrc hs hj, ht_ok hn hn5 hr hrc hs hq, b1_s, b1_s, nI_1]
      by_cases g : nI (mcN (hP s rc j) n) ≤ nI (mcN (hP s rc q) n)
      · rw [if_pos g, if_pos g]
        exact ih (j + 1) q (by omega) (by omega) hq
      · rw [if_neg g, if_neg g]
        exact ih (j + 1) j (by omega) (by omega) hj
theorem l0_ok {st z : St} {n rc : Nat} {s : Nat → Nat} (cn : gI st 2 = nI n) (cr : gI st 4 = nI rc) (cs : ∀ b, b < n → st.2 9 b = nI (s b) ∧ s b < 10) (hn : gI z 5 = nI n) (hn5 : n ≤ 5) (hr : gI z 7 = nI rc) (hrc : rc < 10) (hs : ∀ b, b < n → z.2 20 b = nI (s b) ∧ s b < 10) :
    ∃ r, F_X6_loudestSpot st = some r ∧ L_X7_tellGoings_58 z (fun y _ => some y) 70 0 1 = some r := by
  unfold F_X6_loudestSpot
  have key : L_X6_loudestSpot_6 st (fun y _ _ => some y) 70 0 0 0 = L_X6_loudestSpot_6 st (fun y _ _ => some y) 69 (nI 0) (nI (mcN (hP s rc 0) n)) (nI 1) := by
    show L_X6_loudestSpot_6 st (fun y _ _ => some y) (69 + 1) 0 0 0 = _
    have hg0 : F_X1_heardFrom_23 st 0 = some (nI (bset (hP s rc 0) n)) := hg_ok cn hn5 cr hrc cs (j := 0) (by decide)
    have hle := mcN_le (hP s rc 0) n
    rw [L_X6_loudestSpot_6_s, if_neg (by decide), hg0, b1_s, bc_ok st hn5, b1_s]
    by_cases g : mcN (hP s rc 0) n = 0
    · rw [g, if_pos (by decide)]
      rfl
    · rw [if_neg (nI_nle (by omega) (by omega))]
      rfl
  have key2 : ∀ f, 10 ≤ f → ∃ r, L_X6_loudestSpot_6 st (fun y _ _ => some y) f (nI 0) (nI (mcN (hP s rc 0) n)) (nI 1) = some r ∧ L_X7_tellGoings_58 z (fun y _ => some y) f (nI 0) (nI 1) = some r := fun f hf => ls_loop cn cr cs hn hn5 hr hrc hs f 1 0 (by omega) (by omega) (by omega)
  have mono : ∀ f j q r, L_X7_tellGoings_58 z (fun y _ => some y) f q j = some r → L_X7_tellGoings_58 z (fun y _ => some y) (f + 1) q j = some r := by
    intro f
    induction f with
    | zero => intro j q r h; cases h
    | succ f ih =>
      intro j q r h
      rw [L_X7_tellGoings_58_s] at h ⊢
      by_cases c : 10 ≤ j
      · rw [if_pos c] at h ⊢
        exact h
      · rw [if_neg c] at h ⊢
        obtain ⟨v, e1, h⟩ := b1_some h
        obtain ⟨v2, e2, h⟩ := b1_some h
        rw [e1, b1_s, e2, b1_s]
        by_cases d : v ≤ v2
        · have h := (if_pos d).symm.trans h
          rw [if_pos d]
          exact ih _ _ _ h
        · have h := (if_neg d).symm.trans h
          rw [if_neg d]
          exact ih _ _ _ h
  obtain ⟨r, t1, t2⟩ := key2 69 (by decide)
  exact ⟨r, key.trans t1, mono 69 _ _ r t2⟩
