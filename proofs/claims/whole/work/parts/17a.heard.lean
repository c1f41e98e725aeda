/-! who is heard -/
theorem nI_or (a b : Nat) : nI a ||| nI b = nI (a ||| b) := by
  apply Int32.toBitVec_inj.1
  show BitVec.ofNat 32 a ||| BitVec.ofNat 32 b = BitVec.ofNat 32 (a ||| b)
  apply BitVec.eq_of_getLsbD_eq
  intro i hi
  simp [hi]
theorem nI_and (a b : Nat) : nI a &&& nI b = nI (a &&& b) := by
  apply Int32.toBitVec_inj.1
  show BitVec.ofNat 32 a &&& BitVec.ofNat 32 b = BitVec.ofNat 32 (a &&& b)
  apply BitVec.eq_of_getLsbD_eq
  intro i hi
  simp [hi]
theorem jshl_1 : ∀ b, b < 31 → jshl 1 (nI b) = nI (2 ^ b) := by decide +kernel
theorem or0 (x : Int32) : x ||| 0 = x := Int32.or_zero
theorem orb (s : Nat) {b : Nat} (hb : b < 31) : nI s ||| jshl 1 (nI b) = nI (s ||| 2 ^ b) := by rw [jshl_1 b hb, nI_or]
def dst (a b : Nat) : Nat := if a ≤ b then b - a else a - b
theorem dst_lt {a b n : Nat} (ha : a < n) (hb : b < n) : dst a b < n := by
  unfold dst
  by_cases h : a ≤ b
  · rw [if_pos h]; omega
  · rw [if_neg h]; omega
theorem jst : ∀ a, a < 10 → ∀ j, j < 10 → ∀ r, r < 10 → jmax (jabs (nI a - nI j) - nI r) 0 = nI (dst a j - r) := by decide +kernel
theorem jab : ∀ a, a < 20 → ∀ j, j < 20 → jabs (nI a - nI j) = nI (dst a j) := by decide +kernel
theorem apart_ok (mt : St) {a b : Nat} (ha : a < 2 ^ 31) (hb : b < 2 ^ 31) : F_X7_apart mt (nI a) (nI b) = some (nI (dst a b)) := by
  unfold F_X7_apart dst
  by_cases h : a ≤ b
  · by_cases g : b ≤ a
    · obtain rfl : a = b := by omega
      rw [if_pos (nI_le g ha), if_pos h, pk_sub (Nat.le_refl _)]
    · rw [if_neg (nI_ge (by omega) hb), if_pos h, pk_sub h]
  · rw [if_pos (nI_le (by omega) ha), if_neg h, pk_sub (by omega)]
def bset (P : Nat → Bool) : Nat → Nat
  | 0 => 0
  | b + 1 => if P b = true then bset P b ||| 2 ^ b else bset P b
theorem bset_lt (P : Nat → Bool) : ∀ b, bset P b < 2 ^ b := by
  intro b
  induction b with
  | zero => exact Nat.one_pos
  | succ b ih =>
    have h : bset P b < 2 ^ (b + 1) := by
      have : 2 ^ (b + 1) = 2 ^ b * 2 := Nat.pow_succ 2 b
      omega
    show (if P b = true then bset P b ||| 2 ^ b else bset P b) < 2 ^ (b + 1)
    by_cases c : P b = true
    · rw [if_pos c]
      exact Nat.or_lt_two_pow h (by rw [Nat.pow_succ]; have := Nat.two_pow_pos b; omega)
    · rw [if_neg c]; exact h
theorem bset_s1 {P : Nat → Bool} {b : Nat} (h : P b = true) : bset P (b + 1) = bset P b ||| 2 ^ b := if_pos h
theorem bset_s0 {P : Nat → Bool} {b : Nat} (h : ¬ P b = true) : bset P (b + 1) = bset P b := if_neg h
def hP (sp : Nat → Nat) (rc j b : Nat) : Bool := decide (dst (sp b) j ≤ rc)
theorem hf_loop {st : St} {n rc : Nat} {sp : Nat → Nat} (hn : gI st 2 = nI n) (hn5 : n ≤ 5) (hr : gI st 4 = nI rc) (hrc : rc < 10) (hs : ∀ b, b < n → st.2 2 b = nI (sp b) ∧ sp b < 10) {j : Nat} (hj : j < 10) (kk : Int32 → Int32 → Option Int32) :
    ∀ f b, b ≤ n → n < b + f → L_X1_heardFrom_13_5 st (nI j) kk f (nI (bset (hP sp rc j) b)) (nI b) = kk (nI (bset (hP sp rc j) n)) (nI n) := by
  intro f
  induction f with
  | zero => intro b h1 h2; omega
  | succ f ih =>
    intro b h1 h2
    rw [L_X1_heardFrom_13_5_s, hn]
    by_cases c : b = n
    · subst c; rw [if_pos (nI_le (Nat.le_refl _) (by omega))]
    · obtain ⟨e1, e2⟩ := hs b (by omega)
      rw [if_neg (nI_ge (by omega) (by omega)), ck_nI (by omega) (by decide), gA_nI _ _ (by omega), e1, F_X1_stepsFrom, hr, jst _ e2 _ hj _ hrc, b1_s, nI_1, orb _ (by omega)]
      by_cases d : dst (sp b) j ≤ rc
      · have hp : hP sp rc j b = true := decide_eq_true d
        rw [if_pos (by rw [show dst (sp b) j - rc = 0 by omega]; rfl), ← bset_s1 hp]
        exact ih (b + 1) (by omega) (by omega)
      · have hp : ¬ hP sp rc j b = true := fun z => d (of_decide_eq_true z)
        have := dst_lt e2 hj
        rw [if_neg (nI_ne0 (by omega) (by omega)), ← bset_s0 hp]
        exact ih (b + 1) (by omega) (by omega)
theorem hf_ok {st : St} {n rc : Nat} {sp : Nat → Nat} (hn : gI st 2 = nI n) (hn5 : n ≤ 5) (hr : gI st 4 = nI rc) (hrc : rc < 10) (hs : ∀ b, b < n → st.2 2 b = nI (sp b) ∧ sp b < 10) {j : Nat} (hj : j < 10) : F_X1_heardFrom_13 st (nI j) = some (nI (bset (hP sp rc j) n)) := by
  unfold F_X1_heardFrom_13
  exact hf_loop hn hn5 hr hrc hs hj (fun y _ => some y) 70 0 (by omega) (by omega)
theorem hg_loop {st : St} {n rc : Nat} {sp : Nat → Nat} (hn : gI st 2 = nI n) (hn5 : n ≤ 5) (hr : gI st 4 = nI rc) (hrc : rc < 10) (hs : ∀ b, b < n → st.2 9 b = nI (sp b) ∧ sp b < 10) {j : Nat} (hj : j < 10) (kk : Int32 → Int32 → Option Int32) :
    ∀ f b, b ≤ n → n < b + f → L_X1_heardFrom_23_5 st (nI j) kk f (nI (bset (hP sp rc j) b)) (nI b) = kk (nI (bset (hP sp rc j) n)) (nI n) := by
  intro f
  induction f with
  | zero => intro b h1 h2; omega
  | succ f ih =>
    intro b h1 h2
    rw [L_X1_heardFrom_23_5_s, hn]
    by_cases c : b = n
    · subst c; rw [if_pos (nI_le (Nat.le_refl _) (by omega))]
    · obtain ⟨e1, e2⟩ := hs b (by omega)
      rw [if_neg (nI_ge (by omega) (by omega)), ck_nI (by omega) (by decide), gA_nI _ _ (by omega), e1, F_X1_stepsFrom, hr, jst _ e2 _ hj _ hrc, b1_s, nI_1, orb _ (by omega)]
      by_cases d : dst (sp b) j ≤ rc
      · have hp : hP sp rc j b = true := decide_eq_true d
        rw [if_pos (by rw [show dst (sp b) j - rc = 0 by omega]; rfl), ← bset_s1 hp]
        exact ih (b + 1) (by omega) (by omega)
      · have hp : ¬ hP sp rc j b = true := fun z => d (of_decide_eq_true z)
        have := dst_lt e2 hj
        rw [if_neg (nI_ne0 (by omega) (by omega)), ← bset_s0 hp]
        exact ih (b + 1) (by omega) (by omega)
theorem hg_ok {st : St} {n rc : Nat} {sp : Nat → Nat} (hn : gI st 2 = nI n) (hn5 : n ≤ 5) (hr : gI st 4 = nI rc) (hrc : rc < 10) (hs : ∀ b, b < n → st.2 9 b = nI (sp b) ∧ sp b < 10) {j : Nat} (hj : j < 10) : F_X1_heardFrom_23 st (nI j) = some (nI (bset (hP sp rc j) n)) := by
  unfold F_X1_heardFrom_23
  exact hg_loop hn hn5 hr hrc hs hj (fun y _ => some y) 70 0 (by omega) (by omega)
theorem cheard {st : St} {n w rc : Nat} {kd nt sp md : Nat → Nat} (h1 : Hd n w rc kd nt sp md) (h2 : CG st n w rc kd nt sp md) {b j : Nat} (hb : b < 5) (hj : j < 10) : F_X1_isHeard st (nI b) (nI j) = some (if hP sp rc j b = true then 1 else 0) := by
  obtain ⟨a1, a2, a3, a4⟩ := h2.2.2.2 b hb
  obtain ⟨d1, d2, d3, d4⟩ := h1.2.2.2 b hb
  unfold F_X1_isHeard F_X1_stepsFrom
  rw [ck_nI hb (by decide), gA_nI _ _ (by omega), a3, h2.2.2.1, jst _ d3 _ hj _ h1.2.2.1, b1_s]
  by_cases d : dst (sp b) j ≤ rc
  · have hp : hP sp rc j b = true := decide_eq_true d
    rw [if_pos (by rw [show dst (sp b) j - rc = 0 by omega]; rfl), if_pos hp]
  · have hp : ¬ hP sp rc j b = true := fun z => d (of_decide_eq_true z)
    have := dst_lt d3 hj
    rw [if_neg (nI_ne0 (by omega) (by omega)), if_neg hp]
theorem mheard {mt : St} {n w rc : Nat} {kd nt sp md : Nat → Nat} (h1 : Hd n w rc kd nt sp md) (h3 : MG mt n w rc kd nt sp md) {b j : Nat} (hb : b < 5) (hj : j < 10) : F_X7_isHeard mt (nI b) (nI j) = some (if hP sp rc j b = true then 1 else 0) := by
  obtain ⟨a1, a2, a3, a4⟩ := h3.2.2.2 b hb
  obtain ⟨d1, d2, d3, d4⟩ := h1.2.2.2 b hb
  have hrc := h1.2.2.1
  have := dst_lt d3 hj
  unfold F_X7_isHeard
  rw [ck_nI hb (by decide), gA_nI _ _ (by omega), a3, h3.2.2.1, apart_ok mt (by omega) (by omega), b1_s]
  by_cases d : dst (sp b) j ≤ rc
  · have hp : hP sp rc j b = true := decide_eq_true d
    rw [if_neg (nI_nlt d (by omega)), if_pos hp]
  · have hp : ¬ hP sp rc j b = true := fun z => d (of_decide_eq_true z)
    rw [if_pos (nI_lt (by omega) (by omega)), if_neg hp]
theorem mh_loop {mt : St} {n w rc : Nat} {kd nt sp md : Nat → Nat} (h1 : Hd n w rc kd nt sp md) (h3 : MG mt n w rc kd nt sp md) {j : Nat} (hj : j < 10) (kk : Int32 → Int32 → Option Int32) :
    ∀ f b, b ≤ n → n < b + f → L_X7_heardAt_4 mt (nI j) kk f (nI (bset (hP sp rc j) b)) (nI b) = kk (nI (bset (hP sp rc j) n)) (nI n) := by
  have hn5 := h1.1
  intro f
  induction f with
  | zero => intro b h1 h2; omega
  | succ f ih =>
    intro b hb1 hb2
    rw [L_X7_heardAt_4_s, h3.1]
    by_cases c : b = n
    · subst c; rw [if_pos (nI_le (Nat.le_refl _) (by omega))]
    · rw [if_neg (nI_ge (by omega) (by omega)), mheard h1 h3 (by omega) hj, b1_s, nI_1, orb _ (by omega), or0]
      by_cases hp : hP sp rc j b = true
      · rw [if_pos hp, if_neg n10, ← bset_s1 hp]
        exact ih (b + 1) (by omega) (by omega)
      · rw [if_neg hp, if_pos rfl, ← bset_s0 hp]
        exact ih (b + 1) (by omega) (by omega)
theorem mh_ok {mt : St} {n w rc : Nat} {kd nt sp md : Nat → Nat} (h1 : Hd n w rc kd nt sp md) (h3 : MG mt n w rc kd nt sp md) {j : Nat} (hj : j < 10) : F_X7_heardAt mt (nI j) = some (nI (bset (hP sp rc j) n)) := by
  unfold F_X7_heardAt
  exact mh_loop h1 h3 hj (fun y _ => some y) 70 0 (by omega) (by have := h1.1; omega)
theorem ch_ok {st : St} {n w rc : Nat} {kd nt sp md : Nat → Nat} (h1 : Hd n w rc kd nt sp md) (h2 : CG st n w rc kd nt sp md) {j : Nat} (hj : j < 10) : F_X1_heardFrom_13 st (nI j) = some (nI (bset (hP sp rc j) n)) :=
  hf_ok h2.1 h1.1 h2.2.2.1 h1.2.2.1 (fun b hb => ⟨(h2.2.2.2 b (by have := h1.1; omega)).2.2.1, (h1.2.2.2 b (by have := h1.1; omega)).2.2.1⟩) hj
theorem ok_heard {st mt : St} (h : Rel st mt) (x1 : Int32) : ∃ (r : Int32), F_X6_heard st x1 = some r ∧ F_X7_heard mt x1 = some r ∧ Rel st mt := by
  obtain ⟨n, w, rc, kd, nt, sp, md, rn, rb, rm, rs, h1, h2, h3, h4, h5, h6, h7, h8, h9⟩ := id h
  have hn5 := h1.1
  unfold F_X6_heard F_X7_heard
  rcases rng x1 10 (by decide) with ⟨j, hj, rfl⟩ | ho
  · rw [show F_X6_isBelow st (nI j) 10 = some 1 from bel_in st hj (by decide), dig_in mt hj]
    simp only [b1_s, n10, ↓reduceIte]
    by_cases h0 : n = 0
    · subst h0
      rw [none_0 h2.1, h3.1, nI_0]
      exact ⟨-3, rfl, rfl, h⟩
    · rw [none_p h2.1 (by omega) hn5, if_neg (show ¬ gI mt 5 = 0 by rw [h3.1]; exact nI_ne0 (by omega) (by omega)), b1_s, if_pos rfl, ch_ok h1 h2 hj, mh_ok h1 h3 hj]
      exact ⟨_, rfl, rfl, h⟩
  · rw [show F_X6_isBelow st x1 10 = some 0 from bel_out st ho, dig_out mt ho]
    exact ⟨-2, rfl, rfl, h⟩
/-! taken -/
theorem tk_loop {st mt : St} {n w rc : Nat} {kd nt sp md : Nat → Nat} (h1 : Hd n w rc kd nt sp md) (h2 : CG st n w rc kd nt sp md) (h3 : MG mt n w rc kd nt sp md) {j v : Nat} (hj : j < 10) (hv : v < 20) :
    ∀ f b, b ≤ n → n < b + f →
      (∃ r, L_X6_taken_44 st (nI j) (nI v) (fun y _ _ => some y) f (-9) 20 (nI b) = some r ∧ L_X7_taken_39 mt (nI j) (nI v) (fun y _ _ => some y) f (-9) 0 (nI b) = some r) ∧
      ∀ q d, q < 5 → d < 20 → ∃ r, L_X6_taken_44 st (nI j) (nI v) (fun y _ _ => some y) f (nI q) (nI d) (nI b) = some r ∧ L_X7_taken_39 mt (nI j) (nI v) (fun y _ _ => some y) f (nI q) (nI d) (nI b) = some r := by
  have hn5 := h1.1
  intro f
  induction f with
  | zero => intro b h1 h2; omega
  | succ f ih =>
    intro b hb1 hb2
    by_cases c : b = n
    · subst c
      refine ⟨⟨-9, ?_, ?_⟩, fun q d hq hd => ⟨nI q, ?_, ?_⟩⟩
      · rw [L_X6_taken_44_s, h2.1, if_pos (nI_le (Nat.le_refl _) (by omega))]
      · rw [L_X7_taken_39_s, h3.1, if_pos (nI_le (Nat.le_refl _) (by omega))]
      · rw [L_X6_taken_44_s, h2.1, if_pos (nI_le (Nat.le_refl _) (by omega))]
      · rw [L_X7_taken_39_s, h3.1, if_pos (nI_le (Nat.le_refl _) (by omega))]
    · have hb5 : b < 5 := by omega
      obtain ⟨c1, c2, c3, c4⟩ := h3.2.2.2 b hb5
      obtain ⟨d1, d2, d3, d4⟩ := h1.2.2.2 b hb5
      have hs := snd_lt _ d1 _ d2 _ d4 _ h1.2.1
      have hdd := dst_lt (a := snd (kd b) (nt b) (md b) w) (b := v) (n := 20) (by omega) hv
      obtain ⟨i1, i2⟩ := ih (b + 1) (by omega) (by omega)
      have eC : ∀ (p d : Int32), L_X6_taken_44 st (nI j) (nI v) (fun y _ _ => some y) (f + 1) p d (nI b) = (if (if hP sp rc j b = true then (1 : Int32) else 0) = 0 then L_X6_taken_44 st (nI j) (nI v) (fun y _ _ => some y) f p d (nI (b + 1)) else if d ≤ nI (dst (snd (kd b) (nt b) (md b) w) v) then L_X6_taken_44 st (nI j) (nI v) (fun y _ _ => some y) f p d (nI (b + 1)) else L_X6_taken_44 st (nI j) (nI v) (fun y _ _ => some y) f (nI b) (nI (dst (snd (kd b) (nt b) (md b) w) v)) (nI (b + 1))) := by
        intro p d
        rw [L_X6_taken_44_s, h2.1, if_neg (nI_ge (by omega) (by omega)), csoundNow h1 h2 hb5, b1_s, cheard h1 h2 hb5 hj, b1_s, jab _ (by omega) _ hv, nI_1]
      have eM : ∀ (p d : Int32), L_X7_taken_39 mt (nI j) (nI v) (fun y _ _ => some y) (f + 1) p d (nI b) = (if (if hP sp rc j b = true then (1 : Int32) else 0) = 0 then L_X7_taken_39 mt (nI j) (nI v) (fun y _ _ => some y) f p d (nI (b + 1)) else if p = -9 then L_X7_taken_39 mt (nI j) (nI v) (fun y _ _ => some y) f (nI b) (nI (dst (snd (kd b) (nt b) (md b) w) v)) (nI (b + 1)) else if d ≤ nI (dst (snd (kd b) (nt b) (md b) w) v) then L_X7_taken_39 mt (nI j) (nI v) (fun y _ _ => some y) f p d (nI (b + 1)) else L_X7_taken_39 mt (nI j) (nI v) (fun y _ _ => some y) f (nI b) (nI (dst (snd (kd b) (nt b) (md b) w) v)) (nI (b + 1))) := by
        intro p d
        rw [L_X7_taken_39_s, h3.1, if_neg (nI_ge (by omega) (by omega)), ck_nI hb5 (by decide), gA_nI _ _ (by omega), c4, msound h1 h3 hb5 d4, b1_s, apart_ok mt (by omega) (by omega), b1_s, mheard h1 h3 hb5 hj, b1_s, nI_1]
      by_cases hp : hP sp rc j b = true
      · refine ⟨?_, fun q d hq hd => ?_⟩
        · rw [eC, eM, if_pos hp, if_neg n10, if_neg n10, if_neg (show ¬ (20 : Int32) ≤ nI (dst (snd (kd b) (nt b) (md b) w) v) from nI_ge (b := 20) hdd (by decide)), if_pos rfl]
          exact i2 b _ hb5 hdd
        · have hq9 : ¬ nI q = -9 := by
            rcases (show q = 0 ∨ q = 1 ∨ q = 2 ∨ q = 3 ∨ q = 4 by omega) with rfl | rfl | rfl | rfl | rfl <;> decide
          rw [eC, eM, if_pos hp, if_neg n10, if_neg n10, if_neg hq9]
          by_cases g : nI d ≤ nI (dst (snd (kd b) (nt b) (md b) w) v)
          · rw [if_pos g, if_pos g]
            exact i2 q d hq hd
          · rw [if_neg g, if_neg g]
            exact i2 b _ hb5 hdd
      · refine ⟨?_, fun q d hq hd => ?_⟩
        · rw [eC, eM, if_neg hp, if_pos rfl, if_pos rfl]
          exact i1
        · rw [eC, eM, if_neg hp, if_pos rfl, if_pos rfl]
          exact i2 q d hq hd
theorem ok_taken {st mt : St} (h : Rel st mt) (x1 x2 : Int32) : ∃ (r : Int32), F_X6_taken st x1 x2 = some r ∧ F_X7_taken mt x1 x2 = some r ∧ Rel st mt := by
  obtain ⟨n, w, rc, kd, nt, sp, md, rn, rb, rm, rs, h1, h2, h3, h4, h5, h6, h7, h8, h9⟩ := id h
  have hn5 := h1.1
  unfold F_X6_taken F_X7_taken
  rcases rng x1 10 (by decide) with ⟨j, hj, rfl⟩ | ho
  · rw [show F_X6_isBelow st (nI j) 10 = some 1 from bel_in st hj (by decide), dig_in mt hj]
    simp only [b1_s, n10, ↓reduceIte]
    rcases rng x2 20 (by decide) with ⟨v, hv, rfl⟩ | hv
    · rw [show F_X6_isBelow st (nI v) 20 = some 1 from bel_in st hv (by decide), show F_X7_within mt (nI v) 0 19 = some 1 from wit_in mt (m := 19) hv (by decide)]
      simp only [b1_s, n10, ↓reduceIte]
      by_cases h0 : n = 0
      · subst h0
        rw [none_0 h2.1, h3.1, nI_0]
        exact ⟨-3, rfl, rfl, h⟩
      · rw [none_p h2.1 (by omega) hn5, if_neg (show ¬ gI mt 5 = 0 by rw [h3.1]; exact nI_ne0 (by omega) (by omega)), b1_s, if_pos rfl]
        obtain ⟨r, e1, e2⟩ := (tk_loop h1 h2 h3 hj hv 70 0 (by omega) (by omega)).1
        exact ⟨r, e1, e2, h⟩
    · rw [show F_X6_isBelow st x2 20 = some 0 from bel_out st hv, show F_X7_within mt x2 0 19 = some 0 from wit_out mt (m := 19) (by decide) hv]
      exact ⟨-2, rfl, rfl, h⟩
  · rw [show F_X6_isBelow st x1 10 = some 0 from bel_out st ho, dig_out mt ho]
    exact ⟨-2, rfl, rfl, h⟩
/-! meant -/
def mcN (p : Nat → Bool) : Nat → Nat
  | 0 => 0
  | i + 1 => if p i = true then mcN p i + 1 else mcN p i
theorem mcN_s1 {p : Nat → Bool} {i : Nat} (h : p i = true) : mcN p (i + 1) = mcN p i + 1 := if_pos h
theorem mcN_s0 {p : Nat → Bool} {i : Nat} (h : ¬ p i = true) : mcN p (i + 1) = mcN p i := if_neg h
theorem mcN_mono (p : Nat → Bool) : ∀ {i j : Nat}, i ≤ j → mcN p i ≤ mcN p j := by
  intro i j h
  induction h with
  | refl => exact Nat.le_refl _
  | step _ ih =>
    rename_i m _
    by_cases c : p m = true
    · rw [mcN_s1 c]; omega
    · rw [mcN_s0 c]; exact ih
theorem mcN_le (p : Nat → Bool) : ∀ i, mcN p i ≤ i := by
  intro i
  induction i with
  | zero => exact Nat.le_refl _
  | succ i ih =>
    by_cases c : p i = true
    · rw [mcN_s1 c]; omega
    · rw [mcN_s0 c]; omega
def sP (k a w v m : Nat) : Bool := decide (snd k a m w = v)
theorem ms_loop {st : St} {n w rc : Nat} {kd nt sp md : Nat → Nat} (h1 : Hd n w rc kd nt sp md) (h2 : CG st n w rc kd nt sp md) {b v : Nat} (hb : b < 5) (hv : v < 20) (kk : Int32 → Int32 → Option Int32) :
    ∀ f i, i ≤ 4 → 4 < i + f → L_X1_moodsSounding_5 st (nI b) (nI v) kk f (nI (mcN (sP (kd b) (nt b) w v) i)) (nI i) = kk (nI (mcN (sP (kd b) (nt b) w v) 4)) (nI 4) := by
  obtain ⟨d1, d2, d3, d4⟩ := h1.2.2.2 b hb
  intro f
  induction f with
  | zero => intro i h1 h2; omega
  | succ f ih =>
    intro i hi1 hi2
    rw [L_X1_moodsSounding_5_s]
    by_cases c : i = 4
    · subst c; rw [if_pos (by decide)]
    · rw [if_neg (show ¬ (4 : Int32) ≤ nI i from nI_ge (b := 4) (by omega) (by decide)), csound h1 h2 hb (by omega), b1_s, nI_1, nI_1]
      have hs := snd_lt _ d1 _ d2 i (by omega) _ h1.2.1
      by_cases g : snd (kd b) (nt b) i w = v
      · rw [if_pos (by rw [g]), ← mcN_s1 (p := sP (kd b) (nt b) w v) (decide_eq_true g)]
        exact ih (i + 1) (by omega) (by omega)
      · rw [if_neg (fun z => g ((nI_eq (by omega) (by omega)).mp z)), ← mcN_s0 (p := sP (kd b) (nt b) w v) (fun z => g (of_decide_eq_true z))]
        exact ih (i + 1) (by omega) (by omega)
theorem ms_ok {st : St} {n w rc : Nat} {kd nt sp md : Nat → Nat} (h1 : Hd n w rc kd nt sp md) (h2 : CG st n w rc kd nt sp md) {b v : Nat} (hb : b < 5) (hv : v < 20) : F_X1_moodsSounding st (nI b) (nI v) = some (nI (mcN (sP (kd b) (nt b) w v) 4)) := by
  unfold F_X1_moodsSounding
  exact ms_loop h1 h2 hb hv (fun y _ => some y) 70 0 (by omega) (by omega)
theorem cs_loop {mt : St} {n w rc : Nat} {kd nt sp md : Nat → Nat} (h1 : Hd n w rc kd nt sp md) (h3 : MG mt n w rc kd nt sp md) {b v : Nat} (hb : b < 5) (hv : v < 20) :
    ∀ f i, i ≤ 4 → 4 < i + f → mcN (sP (kd b) (nt b) w v) i = 0 → L_X7_canSound_2 mt (nI b) (nI v) (fun _ => some 0) f (nI i) = some (if mcN (sP (kd b) (nt b) w v) 4 = 0 then 0 else 1) := by
  obtain ⟨d1, d2, d3, d4⟩ := h1.2.2.2 b hb
  intro f
  induction f with
  | zero => intro i h1 h2; omega
  | succ f ih =>
    intro i hi1 hi2 hz
    rw [L_X7_canSound_2_s]
    by_cases c : i = 4
    · subst c; rw [if_pos (by decide), if_pos hz]
    · rw [if_neg (show ¬ (4 : Int32) ≤ nI i from nI_ge (b := 4) (by omega) (by decide)), msound h1 h3 hb (by omega), b1_s, nI_1]
      have hs := snd_lt _ d1 _ d2 i (by omega) _ h1.2.1
      by_cases g : snd (kd b) (nt b) i w = v
      · have e1 := mcN_s1 (p := sP (kd b) (nt b) w v) (i := i) (decide_eq_true g)
        have e2 := mcN_mono (sP (kd b) (nt b) w v) (show i + 1 ≤ 4 by omega)
        rw [if_pos (by rw [g]), if_neg (by omega)]
      · rw [if_neg (fun z => g ((nI_eq (by omega) (by omega)).mp z))]
        exact ih (i + 1) (by omega) (by omega) ((mcN_s0 (p := sP (kd b) (nt b) w v) (fun z => g (of_decide_eq_true z))).trans hz)
theorem cs_ok {mt : St} {n w rc : Nat} {kd nt sp md : Nat → Nat} (h1 : Hd n w rc kd nt sp md) (h3 : MG mt n w rc kd nt sp md) {b v : Nat} (hb : b < 5) (hv : v < 20) : F_X7_canSound mt (nI b) (nI v) = some (if mcN (sP (kd b) (nt b) w v) 4 = 0 then 0 else 1) := by
  unfold F_X7_canSound
  exact cs_loop h1 h3 hb hv 70 0 (by omega) (by omega) rfl
theorem mn_loop {st mt : St} {n w rc : Nat} {kd nt sp md : Nat → Nat} (h1 : Hd n w rc kd nt sp md) (h2 : CG st n w rc kd nt sp md) (h3 : MG mt n w rc kd nt sp md) {j v : Nat} (hj : j < 10) (hv : v < 20) :
    ∀ f b s, b ≤ n → n < b + f → ∃ r, L_X6_meant_39 st (nI j) (nI v) (fun y _ => some y) f (nI s) (nI b) = some r ∧ L_X7_meant_35 mt (nI j) (nI v) (fun y _ => some y) f (nI s) (nI b) = some r := by
  have hn5 := h1.1
  intro f
  induction f with
  | zero => intro b s h1 h2; omega
  | succ f ih =>
    intro b s hb1 hb2
    rw [L_X6_meant_39_s, L_X7_meant_35_s, h2.1, h3.1]
    by_cases c : b = n
    · subst c
      rw [if_pos (nI_le (Nat.le_refl _) (by omega)), if_pos (nI_le (Nat.le_refl _) (by omega))]
      exact ⟨_, rfl, rfl⟩
    · have hb5 : b < 5 := by omega
      rw [if_neg (nI_ge (by omega) (by omega)), if_neg (nI_ge (by omega) (by omega)), cheard h1 h2 hb5 hj, mheard h1 h3 hb5 hj, b1_s, b1_s, nI_1, orb _ (by omega), or0]
      by_cases hp : hP sp rc j b = true
      · rw [if_pos hp, if_neg n10, if_neg n10, ms_ok h1 h2 hb5 hv, cs_ok h1 h3 hb5 hv, b1_s, b1_s]
        have hle := mcN_le (sP (kd b) (nt b) w v) 4
        by_cases g : mcN (sP (kd b) (nt b) w v) 4 = 0
        · rw [if_pos (by rw [g]; decide), if_pos g, if_pos rfl]
          exact ih (b + 1) s (by omega) (by omega)
        · rw [if_neg (nI_nle (by omega) (by omega)), if_neg g, if_neg n10]
          exact ih (b + 1) _ (by omega) (by omega)
      · rw [if_neg hp, if_pos rfl, if_pos rfl]
        exact ih (b + 1) s (by omega) (by omega)
theorem ok_meant {st mt : St} (h : Rel st mt) (x1 x2 : Int32) : ∃ (r : Int32), F_X6_meant st x1 x2 = some r ∧ F_X7_meant mt x1 x2 = some r ∧ Rel st mt := by
  obtain ⟨n, w, rc, kd, nt, sp, md, rn, rb, rm, rs, h1, h2, h3, h4, h5, h6, h7, h8, h9⟩ := id h
  have hn5 := h1.1
  unfold F_X6_meant F_X7_meant
  rcases rng x1 10 (by decide) with ⟨j, hj, rfl⟩ | ho
  · rw [show F_X6_isBelow st (nI j) 10 = some 1 from bel_in st hj (by decide), dig_in mt hj]
    simp only [b1_s, n10, ↓reduceIte]
    rcases rng x2 20 (by decide) with ⟨v, hv, rfl⟩ | hv
    · rw [show F_X6_isBelow st (nI v) 20 = some 1 from bel_in st hv (by decide), show F_X7_within mt (nI v) 0 19 = some 1 from wit_in mt (m := 19) hv (by decide)]
      simp only [b1_s, n10, ↓reduceIte]
      by_cases h0 : n = 0
      · subst h0
        rw [none_0 h2.1, h3.1, nI_0]
        exact ⟨-3, rfl, rfl, h⟩
      · rw [none_p h2.1 (by omega) hn5, if_neg (show ¬ gI mt 5 = 0 by rw [h3.1]; exact nI_ne0 (by omega) (by omega)), b1_s, if_pos rfl]
        obtain ⟨r, e1, e2⟩ := mn_loop h1 h2 h3 hj hv 70 0 0 (by omega) (by omega)
        exact ⟨r, e1, e2, h⟩
    · rw [show F_X6_isBelow st x2 20 = some 0 from bel_out st hv, show F_X7_within mt x2 0 19 = some 0 from wit_out mt (m := 19) (by decide) hv]
      exact ⟨-2, rfl, rfl, h⟩
  · rw [show F_X6_isBelow st x1 10 = some 0 from bel_out st ho, dig_out mt ho]
    exact ⟨-2, rfl, rfl, h⟩
