/-! posts and calls -/
theorem pow5 {n : Nat} (h : n ≤ 5) : 2 ^ n ≤ 32 := by
  rcases (show n = 0 ∨ n = 1 ∨ n = 2 ∨ n = 3 ∨ n = 4 ∨ n = 5 by omega) with rfl | rfl | rfl | rfl | rfl | rfl <;> decide
theorem all_in {st : St} {n s : Nat} (hn : gI st 2 = nI n) (h5 : n ≤ 5) (h : s < 2 ^ n) : F_X1_hasAll st (nI s) = some 1 := by
  have := pow5 h5
  unfold F_X1_hasAll
  rw [hn, jshl_1 n (by omega), bel_in st h (by omega), b1_s]
theorem all_out {st : St} {n : Nat} {x : Int32} (hn : gI st 2 = nI n) (h5 : n ≤ 5) (h : x < 0 ∨ nI (2 ^ n) ≤ x) : F_X1_hasAll st x = some 0 := by
  unfold F_X1_hasAll
  rw [hn, jshl_1 n (by omega), bel_out st h, b1_s]
theorem set_in {mt : St} {n s : Nat} (hn : gI mt 5 = nI n) (h5 : n ≤ 5) (h : s < 2 ^ n) : F_X7_isSet mt (nI s) = some 1 := by
  have := pow5 h5
  unfold F_X7_isSet
  rw [hn, jshl_1 n (by omega), if_neg (nI_pos (by omega)), if_neg (nI_ge h (by omega))]
theorem set_out {mt : St} {n : Nat} {x : Int32} (hn : gI mt 5 = nI n) (h5 : n ≤ 5) (h : x < 0 ∨ nI (2 ^ n) ≤ x) : F_X7_isSet mt x = some 0 := by
  unfold F_X7_isSet
  rw [hn, jshl_1 n (by omega)]
  by_cases h0 : x < 0
  · rw [if_pos h0]
  · rw [if_neg h0, if_pos (h.resolve_left h0)]
theorem pb : ∀ s, s < 32 → ∀ t, t < 32 → (((nI s &&& (nI t ^^^ (-1))) = 0) ↔ ((nI t &&& nI s) = nI s)) := by decide +kernel
theorem ps_loop {st mt : St} {n w rc : Nat} {kd nt sp md : Nat → Nat} (h1 : Hd n w rc kd nt sp md) (h2 : CG st n w rc kd nt sp md) (h3 : MG mt n w rc kd nt sp md) {s : Nat} (hs : s < 32) :
    ∀ f j, j ≤ 10 → 10 < j + f → ∃ r, L_X6_post_29 st (nI s) (fun _ => some (-9)) f (nI j) = some r ∧ L_X7_post_23 mt (nI s) (fun _ => some (-9)) f (nI j) = some r := by
  intro f
  induction f with
  | zero => intro j h1 h2; omega
  | succ f ih =>
    intro j hj1 hj2
    rw [L_X6_post_29_s, L_X7_post_23_s]
    by_cases c : j = 10
    · subst c
      rw [if_pos (by decide), if_pos (by decide)]
      exact ⟨_, rfl, rfl⟩
    · have hj : j < 10 := by omega
      have hng : ¬ (10 : Int32) ≤ nI j := nI_ge (b := 10) hj (by decide)
      rw [if_neg hng, if_neg hng, ch_ok h1 h2 hj, mh_ok h1 h3 hj, b1_s, b1_s, nI_1]
      have ht : bset (hP sp rc j) n < 32 := Nat.lt_of_lt_of_le (bset_lt _ n) (pow5 h1.1)
      by_cases g : (nI s &&& (nI (bset (hP sp rc j) n) ^^^ (-1))) = 0
      · rw [if_pos g, if_pos ((pb s hs _ ht).mp g)]
        exact ⟨_, rfl, rfl⟩
      · rw [if_neg g, if_neg (fun z => g ((pb s hs _ ht).mpr z))]
        exact ih (j + 1) (by omega) (by omega)
theorem ok_post {st mt : St} (h : Rel st mt) (x1 : Int32) : ∃ (r : Int32), F_X6_post st x1 = some r ∧ F_X7_post mt x1 = some r ∧ Rel st mt := by
  obtain ⟨n, w, rc, kd, nt, sp, md, rn, rb, rm, rs, h1, h2, h3, h4, h5, h6, h7, h8, h9⟩ := id h
  have hn5 := h1.1
  have hp5 := pow5 hn5
  unfold F_X6_post F_X7_post
  by_cases h0 : n = 0
  · subst h0
    rw [none_0 h2.1, h3.1, nI_0]
    exact ⟨-3, rfl, rfl, h⟩
  · rw [none_p h2.1 (by omega) hn5, if_neg (show ¬ gI mt 5 = 0 by rw [h3.1]; exact nI_ne0 (by omega) (by omega)), b1_s, if_pos rfl]
    rcases rng x1 (2 ^ n) (by omega) with ⟨s, hs, rfl⟩ | ho
    · rw [all_in h2.1 hn5 hs, set_in h3.1 hn5 hs, b1_s, b1_s, if_neg n10, if_neg n10]
      obtain ⟨r, e1, e2⟩ := ps_loop h1 h2 h3 (s := s) (by omega) 70 0 (by omega) (by omega)
      exact ⟨r, e1, e2, h⟩
    · rw [all_out h2.1 hn5 ho, set_out h3.1 hn5 ho]
      exact ⟨-2, rfl, rfl, h⟩
def bitN (s b : Nat) : Bool := decide (s / 2 ^ b % 2 = 1)
theorem jbit : ∀ s, s < 32 → ∀ b, b < 5 → (((jshr (nI s) (nI b)) &&& 1 = 1) ↔ s / 2 ^ b % 2 = 1) := by decide +kernel
def sts (s : Nat) (sp : Nat → Nat) (rc j : Nat) : Nat → Nat
  | 0 => 0
  | b + 1 => if bitN s b = true then sts s sp rc j b + (dst (sp b) j - rc) else sts s sp rc j b
theorem sts_s1 {s rc j b : Nat} {sp : Nat → Nat} (h : bitN s b = true) : sts s sp rc j (b + 1) = sts s sp rc j b + (dst (sp b) j - rc) := if_pos h
theorem sts_s0 {s rc j b : Nat} {sp : Nat → Nat} (h : ¬ bitN s b = true) : sts s sp rc j (b + 1) = sts s sp rc j b := if_neg h
theorem ct_loop {st : St} {n w rc : Nat} {kd nt sp md : Nat → Nat} (h1 : Hd n w rc kd nt sp md) (h2 : CG st n w rc kd nt sp md) {s j : Nat} (hs : s < 32) (hj : j < 10) (kk : Int32 → Int32 → Option Int32) :
    ∀ f b, b ≤ n → n < b + f → L_X1_stepsToHear_5 st (nI s) (nI j) kk f (nI (sts s sp rc j b)) (nI b) = kk (nI (sts s sp rc j n)) (nI n) := by
  have hn5 := h1.1
  intro f
  induction f with
  | zero => intro b h1 h2; omega
  | succ f ih =>
    intro b hb1 hb2
    rw [L_X1_stepsToHear_5_s, h2.1]
    by_cases c : b = n
    · subst c; rw [if_pos (nI_le (Nat.le_refl _) (by omega))]
    · have hb5 : b < 5 := by omega
      obtain ⟨a1, a2, a3, a4⟩ := h2.2.2.2 b hb5
      obtain ⟨d1, d2, d3, d4⟩ := h1.2.2.2 b hb5
      rw [if_neg (nI_ge (by omega) (by omega)), nI_1]
      by_cases g : s / 2 ^ b % 2 = 1
      · rw [if_pos ((jbit s hs b hb5).mpr g), ck_nI hb5 (by decide), gA_nI _ _ (by omega), a3, F_X1_stepsFrom, h2.2.2.1, jst _ d3 _ hj _ h1.2.2.1, b1_s, nI_add, ← sts_s1 (decide_eq_true g)]
        exact ih (b + 1) (by omega) (by omega)
      · rw [if_neg (fun z => g ((jbit s hs b hb5).mp z)), ← sts_s0 (sp := sp) (rc := rc) (j := j) (fun z => g (of_decide_eq_true z))]
        exact ih (b + 1) (by omega) (by omega)
theorem ct_ok {st : St} {n w rc : Nat} {kd nt sp md : Nat → Nat} (h1 : Hd n w rc kd nt sp md) (h2 : CG st n w rc kd nt sp md) {s j : Nat} (hs : s < 32) (hj : j < 10) : F_X1_stepsToHear st (nI s) (nI j) = some (nI (sts s sp rc j n)) := by
  unfold F_X1_stepsToHear
  exact ct_loop h1 h2 hs hj (fun y _ => some y) 70 0 (by omega) (by have := h1.1; omega)
theorem mt_loop {mt : St} {n w rc : Nat} {kd nt sp md : Nat → Nat} (h1 : Hd n w rc kd nt sp md) (h3 : MG mt n w rc kd nt sp md) {s j : Nat} (hs : s < 32) (hj : j < 10) (kk : Int32 → Int32 → Option Int32) :
    ∀ f b, b ≤ n → n < b + f → L_X7_stepsTo_5 mt (nI s) (nI j) kk f (nI (sts s sp rc j b)) (nI b) = kk (nI (sts s sp rc j n)) (nI n) := by
  have hn5 := h1.1
  have hrc := h1.2.2.1
  intro f
  induction f with
  | zero => intro b h1 h2; omega
  | succ f ih =>
    intro b hb1 hb2
    rw [L_X7_stepsTo_5_s, h3.1]
    by_cases c : b = n
    · subst c; rw [if_pos (nI_le (Nat.le_refl _) (by omega))]
    · have hb5 : b < 5 := by omega
      obtain ⟨a1, a2, a3, a4⟩ := h3.2.2.2 b hb5
      obtain ⟨d1, d2, d3, d4⟩ := h1.2.2.2 b hb5
      have hd := dst_lt d3 hj
      rw [if_neg (nI_ge (by omega) (by omega)), ck_nI hb5 (by decide), gA_nI _ _ (by omega), a3, apart_ok mt (by omega) (by omega), b1_s, h3.2.2.1, nI_1, Int32.add_zero]
      by_cases g : s / 2 ^ b % 2 = 1
      · rw [if_pos ((jbit s hs b hb5).mpr g)]
        by_cases q : dst (sp b) j ≤ rc
        · rw [if_pos (nI_le q (by omega))]
          have e : sts s sp rc j (b + 1) = sts s sp rc j b := by
            rw [sts_s1 (decide_eq_true g)]
            omega
          rw [← e]
          exact ih (b + 1) (by omega) (by omega)
        · rw [if_neg (nI_ge (by omega) (by omega)), pk_sub (by omega), nI_add, ← sts_s1 (decide_eq_true g)]
          exact ih (b + 1) (by omega) (by omega)
      · rw [if_neg (fun z => g ((jbit s hs b hb5).mp z)), ← sts_s0 (sp := sp) (rc := rc) (j := j) (fun z => g (of_decide_eq_true z))]
        exact ih (b + 1) (by omega) (by omega)
theorem mt_ok {mt : St} {n w rc : Nat} {kd nt sp md : Nat → Nat} (h1 : Hd n w rc kd nt sp md) (h3 : MG mt n w rc kd nt sp md) {s j : Nat} (hs : s < 32) (hj : j < 10) : F_X7_stepsTo mt (nI s) (nI j) = some (nI (sts s sp rc j n)) := by
  unfold F_X7_stepsTo
  exact mt_loop h1 h3 hs hj (fun y _ => some y) 70 0 (by omega) (by have := h1.1; omega)
theorem cl_loop {st mt : St} {n w rc : Nat} {kd nt sp md : Nat → Nat} (h1 : Hd n w rc kd nt sp md) (h2 : CG st n w rc kd nt sp md) (h3 : MG mt n w rc kd nt sp md) {s : Nat} (hs : s < 32) (x : Int32) :
    ∀ f j q, j ≤ 10 → 10 < j + f → q < 10 → ∃ r, L_X6_call_40 st (nI s) (fun y _ => if x = 0 then some y else b1 (F_X1_stepsToHear st (nI s) y) (fun v => some v)) f (nI q) (nI j) = some r ∧ L_X7_call_35 mt (nI s) (fun y _ => if x = 0 then some y else b1 (F_X7_stepsTo mt (nI s) y) (fun v => some v)) f (nI q) (nI j) = some r := by
  intro f
  induction f with
  | zero => intro j q h1 h2; omega
  | succ f ih =>
    intro j q hj1 hj2 hq
    rw [L_X6_call_40_s, L_X7_call_35_s]
    by_cases c : j = 10
    · subst c
      have h10 : (10 : Int32) ≤ nI 10 := by decide
      rw [if_pos h10, if_pos h10]
      by_cases g : x = 0
      · rw [if_pos g, if_pos g]
        exact ⟨_, rfl, rfl⟩
      · rw [if_neg g, if_neg g, ct_ok h1 h2 hs hq, mt_ok h1 h3 hs hq]
        exact ⟨_, rfl, rfl⟩
    · have hj : j < 10 := by omega
      have hng : ¬ (10 : Int32) ≤ nI j := nI_ge (b := 10) hj (by decide)
      rw [if_neg hng, if_neg hng, ct_ok h1 h2 hs hj, mt_ok h1 h3 hs hj, ct_ok h1 h2 hs hq, mt_ok h1 h3 hs hq, b1_s, b1_s, b1_s, b1_s, nI_1]
      by_cases g : nI (sts s sp rc q n) ≤ nI (sts s sp rc j n)
      · rw [if_pos g, if_pos g]
        exact ih (j + 1) q (by omega) (by omega) hq
      · rw [if_neg g, if_neg g]
        exact ih (j + 1) j (by omega) (by omega) hj
theorem ok_call {st mt : St} (h : Rel st mt) (x1 x2 : Int32) : ∃ (r : Int32), F_X6_call st x1 x2 = some r ∧ F_X7_call mt x1 x2 = some r ∧ Rel st mt := by
  obtain ⟨n, w, rc, kd, nt, sp, md, rn, rb, rm, rs, h1, h2, h3, h4, h5, h6, h7, h8, h9⟩ := id h
  have hn5 := h1.1
  have hp5 := pow5 hn5
  unfold F_X6_call F_X7_call
  by_cases h0 : n = 0
  · subst h0
    rw [none_0 h2.1, h3.1, nI_0]
    exact ⟨-3, rfl, rfl, h⟩
  · rw [none_p h2.1 (by omega) hn5, if_neg (show ¬ gI mt 5 = 0 by rw [h3.1]; exact nI_ne0 (by omega) (by omega)), b1_s, if_pos rfl]
    rcases rng x1 (2 ^ n) (by omega) with ⟨s, hs, rfl⟩ | ho
    · rw [all_in h2.1 hn5 hs, set_in h3.1 hn5 hs, b1_s, b1_s, if_neg n10, if_neg n10]
      rcases rng x2 2 (by decide) with ⟨v, hv, rfl⟩ | hv
      · rw [show F_X6_isBelow st (nI v) 2 = some 1 from bel_in st hv (by decide), show F_X7_within mt (nI v) 0 1 = some 1 from wit_in mt (m := 1) hv (by decide), b1_s, b1_s, if_neg n10, if_neg n10]
        obtain ⟨r, e1, e2⟩ := cl_loop h1 h2 h3 (s := s) (by omega) (nI v) 70 1 0 (by omega) (by omega) (by omega)
        exact ⟨r, e1, e2, h⟩
      · rw [show F_X6_isBelow st x2 2 = some 0 from bel_out st hv, show F_X7_within mt x2 0 1 = some 0 from wit_out mt (m := 1) (by decide) hv]
        exact ⟨-2, rfl, rfl, h⟩
    · rw [all_out h2.1 hn5 ho, set_out h3.1 hn5 ho]
      exact ⟨-2, rfl, rfl, h⟩
/-! READINGS -/
def alln (p : Nat → Bool) : Nat → Bool
  | 0 => true
  | q + 1 => alln p q && p q
theorem alln_f (p : Nat → Bool) : ∀ {i j : Nat}, i ≤ j → alln p i = false → alln p j = false := by
  intro i j h hf
  induction h with
  | refl => exact hf
  | step _ ih =>
    show (alln p _ && p _) = false
    rw [ih]
    rfl
def soP (kd nt : Nat → Nat) (w : Nat) (rb rm rs : Nat → Nat) (q : Nat) : Bool := decide (snd (kd (rb q)) (nt (rb q)) (rm q) w = rs q)
theorem as_loop {mt : St} {n w rc : Nat} {kd nt sp md : Nat → Nat} {rn : Nat} {rb rm rs : Nat → Nat} (h1 : Hd n w rc kd nt sp md) (h3 : MG mt n w rc kd nt sp md) (h4 : RG n rn rb rm rs) (h6 : MR mt rn rb rm rs) :
    ∀ f i, i ≤ rn → rn < i + f → alln (soP kd nt w rb rm rs) i = true → L_X7_areSo_2 mt (fun _ => some 1) f (nI i) = some (if alln (soP kd nt w rb rm rs) rn = true then 1 else 0) := by
  have hn5 := h1.1
  have h48 := h4.1
  intro f
  induction f with
  | zero => intro i h1 h2; omega
  | succ f ih =>
    intro i hi1 hi2 ha
    rw [L_X7_areSo_2_s, h6.1]
    by_cases c : i = rn
    · subst c
      rw [if_pos (nI_le (Nat.le_refl _) (by omega)), if_pos ha]
    · obtain ⟨e1, e2, e3⟩ := h6.2 i (by omega)
      obtain ⟨g1, g2, g3⟩ := h4.2 i (by omega)
      obtain ⟨d1, d2, d3, d4⟩ := h1.2.2.2 (rb i) (by omega)
      have hs := snd_lt _ d1 _ d2 _ g2 _ h1.2.1
      have hck : ∀ {x : Option Int32}, ck (nI i) 8 x = x := ck_nI (by omega) (by decide)
      rw [if_neg (nI_ge (by omega) (by omega)), hck, hck, gA_nI _ _ (by omega), gA_nI _ _ (by omega), gA_nI _ _ (by omega), e1, e2, e3, msound h1 h3 (by omega) g2, b1_s, hck, nI_1]
      by_cases q : snd (kd (rb i)) (nt (rb i)) (rm i) w = rs i
      · have hp : soP kd nt w rb rm rs i = true := decide_eq_true q
        rw [if_pos (by rw [q])]
        exact ih (i + 1) (by omega) (by omega) (by show (alln _ i && _) = true; rw [ha, hp]; rfl)
      · have hp : soP kd nt w rb rm rs i = false := decide_eq_false q
        have hf : alln (soP kd nt w rb rm rs) rn = false := alln_f _ (show i + 1 ≤ rn by omega) (by show (alln _ i && _) = false; rw [ha, hp]; rfl)
        rw [if_neg (fun z => q ((nI_eq (by omega) (by omega)).mp z)), hf]
        rfl
theorem mas_ok {mt : St} {n w rc : Nat} {kd nt sp md : Nat → Nat} {rn : Nat} {rb rm rs : Nat → Nat} (h1 : Hd n w rc kd nt sp md) (h3 : MG mt n w rc kd nt sp md) (h4 : RG n rn rb rm rs) (h6 : MR mt rn rb rm rs) : F_X7_areSo mt = some (if alln (soP kd nt w rb rm rs) rn = true then 1 else 0) := by
  unfold F_X7_areSo
  exact as_loop h1 h3 h4 h6 70 0 (by omega) (by have := h4.1; omega) rfl
theorem ca_loop {st : St} {n w rc : Nat} {kd nt sp md : Nat → Nat} {rn : Nat} {rb rm rs : Nat → Nat} (h1 : Hd n w rc kd nt sp md) (h2 : CG st n w rc kd nt sp md) (h4 : RG n rn rb rm rs) (h5 : CR st rn rb rm rs) {b k a u : Nat} (hb : b < 5) (hk : k < 3) (ha : a < 10) (hu : u < 3) :
    ∀ f i, i ≤ rn → rn < i + f → alln (soP (fun x => if x = b then k else kd x) (fun x => if x = b then a else nt x) u rb rm rs) i = true → L_X2_areSo_3 st (nI b) (nI k) (nI a) (nI u) (fun _ => some 1) f (nI i) = some (if alln (soP (fun x => if x = b then k else kd x) (fun x => if x = b then a else nt x) u rb rm rs) rn = true then 1 else 0) := by
  have hn5 := h1.1
  have h48 := h4.1
  intro f
  induction f with
  | zero => intro i h1 h2; omega
  | succ f ih =>
    intro i hi1 hi2 hal
    rw [L_X2_areSo_3_s, h5.1]
    by_cases c : i = rn
    · subst c
      rw [if_pos (nI_le (Nat.le_refl _) (by omega)), if_pos hal]
    · obtain ⟨e1, e2, e3⟩ := h5.2 i (by omega)
      obtain ⟨g1, g2, g3⟩ := h4.2 i (by omega)
      obtain ⟨a1, a2, a3, a4⟩ := h2.2.2.2 (rb i) (by omega)
      obtain ⟨d1, d2, d3, d4⟩ := h1.2.2.2 (rb i) (by omega)
      have hck : ∀ {x : Option Int32}, ck (nI i) 8 x = x := ck_nI (by omega) (by decide)
      have hck5 : ∀ {x : Option Int32}, ck (nI (rb i)) 5 x = x := ck_nI (by omega) (by decide)
      simp only [if_neg (nI_ge (show i < rn by omega) (show rn < 2 ^ 31 by omega)), hck, gA_nI _ _ (show i < 2 ^ 31 by omega), gA_nI _ _ (show rb i < 2 ^ 31 by omega), e1, e2, e3, nI_1, hck5, a1, a2]
      have fin : ∀ (k2 n2 : Nat), k2 < 3 → n2 < 10 → (if rb i = b then k else kd (rb i)) = k2 → (if rb i = b then a else nt (rb i)) = n2 → b1 (F_X6_soundOf st (nI k2) (nI n2) (nI (rm i)) (nI u)) (fun v => if v = nI (rs i) then L_X2_areSo_3 st (nI b) (nI k) (nI a) (nI u) (fun _ => some 1) f (nI (i + 1)) else some 0) = some (if alln (soP (fun x => if x = b then k else kd x) (fun x => if x = b then a else nt x) u rb rm rs) rn = true then 1 else 0) := by
        intro k2 n2 hk2 hn2 ek en
        have hs := snd_lt _ hk2 _ hn2 _ g2 _ hu
        rw [soundOf_ok st hk2 hn2 g2 hu, b1_s]
        by_cases q : snd k2 n2 (rm i) u = rs i
        · have hp : soP (fun x => if x = b then k else kd x) (fun x => if x = b then a else nt x) u rb rm rs i = true := decide_eq_true (by show snd (if rb i = b then k else kd (rb i)) (if rb i = b then a else nt (rb i)) (rm i) u = rs i; rw [ek, en]; exact q)
          rw [if_pos (by rw [q])]
          exact ih (i + 1) (by omega) (by omega) (by show (alln _ i && _) = true; rw [hal, hp]; rfl)
        · have hp : soP (fun x => if x = b then k else kd x) (fun x => if x = b then a else nt x) u rb rm rs i = false := decide_eq_false (by show ¬ snd (if rb i = b then k else kd (rb i)) (if rb i = b then a else nt (rb i)) (rm i) u = rs i; rw [ek, en]; exact q)
          have hf : alln (soP (fun x => if x = b then k else kd x) (fun x => if x = b then a else nt x) u rb rm rs) rn = false := alln_f _ (show i + 1 ≤ rn by omega) (by show (alln _ i && _) = false; rw [hal, hp]; rfl)
          rw [if_neg (fun z => q ((nI_eq (by omega) (by omega)).mp z)), hf]
          rfl
      by_cases q : rb i = b
      · simp only [q, ↓reduceIte]
        exact fin k a hk ha (if_pos q) (if_pos q)
      · simp only [show ¬ nI (rb i) = nI b from fun z => q ((nI_eq (by omega) (by omega)).mp z), ↓reduceIte]
        exact fin (kd (rb i)) (nt (rb i)) d1 d2 (if_neg q) (if_neg q)
theorem cas_ok {st : St} {n w rc : Nat} {kd nt sp md : Nat → Nat} {rn : Nat} {rb rm rs : Nat → Nat} (h1 : Hd n w rc kd nt sp md) (h2 : CG st n w rc kd nt sp md) (h4 : RG n rn rb rm rs) (h5 : CR st rn rb rm rs) {b k a u : Nat} (hb : b < 5) (hk : k < 3) (ha : a < 10) (hu : u < 3) : F_X2_areSo st (nI b) (nI k) (nI a) (nI u) = some (if alln (soP (fun x => if x = b then k else kd x) (fun x => if x = b then a else nt x) u rb rm rs) rn = true then 1 else 0) := by
  unfold F_X2_areSo
  exact ca_loop h1 h2 h4 h5 hb hk ha hu 70 0 (by omega) (by have := h4.1; omega) rfl
/-- one place of one row of the reference has changed -/
def ModA (a b : Nat) (mt z : St) : Prop := (∀ k, gI z k = gI mt k) ∧ (∀ q, q ≠ a → z.2 q = mt.2 q) ∧ ∀ i, i ≠ b → z.2 a i = mt.2 a i
theorem ModA.rf (a b : Nat) (mt : St) : ModA a b mt mt := ⟨fun _ => rfl, fun _ _ => rfl, fun _ _ => rfl⟩
theorem ModA.set {a b : Nat} {mt z : St} (h : ModA a b mt z) (hb : b < 2 ^ 31) (v : Int32) : ModA a b mt (sA z a (nI b) v) :=
  ⟨h.1, fun q hq => by rw [A_sAn z _ _ hq, h.2.1 q hq], fun i hi => by rw [A_sAs z a _ hb, if_neg hi, h.2.2 i hi]⟩
theorem ModA.back {a b : Nat} {mt z : St} (h : ModA a b mt z) (hb : b < 2 ^ 31) : SameM mt (sA z a (nI b) (mt.2 a b)) :=
  ⟨fun k _ => h.1 k, fun q _ i => by
    by_cases c : q = a
    · subst c
      rw [A_sAs z q _ hb]
      by_cases d : i = b
      · rw [if_pos d, d]
      · rw [if_neg d, h.2.2 i d]
    · rw [A_sAn z _ _ c, h.2.1 q c]⟩
theorem Hd.note {n w rc : Nat} {kd nt sp md : Nat → Nat} (h1 : Hd n w rc kd nt sp md) (b : Nat) {v : Nat} (hv : v < 10) : Hd n w rc kd (fun x => if x = b then v else nt x) sp md := ⟨h1.1, h1.2.1, h1.2.2.1, fun x hx => by
  obtain ⟨q1, q2, q3⟩ := h1.2.2.2 x hx
  refine ⟨q1, ?_, q3⟩
  show (if x = b then v else nt x) < 10
  by_cases c : x = b
  · rw [if_pos c]; exact hv
  · rw [if_neg c]; exact q2⟩
theorem Hd.kind {n w rc : Nat} {kd nt sp md : Nat → Nat} (h1 : Hd n w rc kd nt sp md) (b : Nat) {v : Nat} (hv : v < 3) : Hd n w rc (fun x => if x = b then v else kd x) nt sp md := ⟨h1.1, h1.2.1, h1.2.2.1, fun x hx => by
  obtain ⟨q1, q2⟩ := h1.2.2.2 x hx
  refine ⟨?_, q2⟩
  show (if x = b then v else kd x) < 3
  by_cases c : x = b
  · rw [if_pos c]; exact hv
  · rw [if_neg c]; exact q1⟩
theorem MG.note {mt z : St} {n w rc : Nat} {kd nt sp md : Nat → Nat} (h3 : MG mt n w rc kd nt sp md) {b : Nat} (h : ModA 9 b mt z) (hb : b < 5) (v : Nat) : MG (sA z 9 (nI b) (nI v)) n w rc kd (fun x => if x = b then v else nt x) sp md := by
  refine ⟨(h.1 5).trans h3.1, (h.1 6).trans h3.2.1, (h.1 7).trans h3.2.2.1, fun x hx => ?_⟩
  obtain ⟨q1, q2, q3, q4⟩ := h3.2.2.2 x hx
  rw [A_sAn z _ _ (show 8 ≠ 9 by decide), A_sAn z _ _ (show 10 ≠ 9 by decide), A_sAn z _ _ (show 11 ≠ 9 by decide), h.2.1 8 (by decide), h.2.1 10 (by decide), h.2.1 11 (by decide), A_sAs z 9 _ (by omega)]
  refine ⟨q1, ?_, q3, q4⟩
  show (if x = b then nI v else z.2 9 x) = nI (if x = b then v else nt x)
  by_cases c : x = b
  · rw [if_pos c, if_pos c]
  · rw [if_neg c, if_neg c, h.2.2 x c, q2]
theorem MG.kind {mt z : St} {n w rc : Nat} {kd nt sp md : Nat → Nat} (h3 : MG mt n w rc kd nt sp md) {b : Nat} (h : ModA 8 b mt z) (hb : b < 5) (v : Nat) : MG (sA z 8 (nI b) (nI v)) n w rc (fun x => if x = b then v else kd x) nt sp md := by
  refine ⟨(h.1 5).trans h3.1, (h.1 6).trans h3.2.1, (h.1 7).trans h3.2.2.1, fun x hx => ?_⟩
  obtain ⟨q1, q2, q3, q4⟩ := h3.2.2.2 x hx
  rw [A_sAn z _ _ (show 9 ≠ 8 by decide), A_sAn z _ _ (show 10 ≠ 8 by decide), A_sAn z _ _ (show 11 ≠ 8 by decide), h.2.1 9 (by decide), h.2.1 10 (by decide), h.2.1 11 (by decide), A_sAs z 8 _ (by omega)]
  refine ⟨?_, q2, q3, q4⟩
  show (if x = b then nI v else z.2 8 x) = nI (if x = b then v else kd x)
  by_cases c : x = b
  · rw [if_pos c, if_pos c]
  · rw [if_neg c, if_neg c, h.2.2 x c, q1]
theorem MR.modA {mt z : St} {a b rn : Nat} {rb rm rs : Nat → Nat} (h6 : MR mt rn rb rm rs) (h : ModA a b mt z) (ha : a < 25) (i v : Int32) : MR (sA z a i v) rn rb rm rs := by
  refine ⟨(h.1 24).trans h6.1, fun q hq => ?_⟩
  rw [A_sAn z _ _ (show 25 ≠ a by omega), A_sAn z _ _ (show 26 ≠ a by omega), A_sAn z _ _ (show 27 ≠ a by omega), h.2.1 25 (by omega), h.2.1 26 (by omega), h.2.1 27 (by omega)]
  exact h6.2 q hq
theorem nt_loop {st mt : St} {n w rc : Nat} {kd nt sp md : Nat → Nat} {rn : Nat} {rb rm rs : Nat → Nat} (h1 : Hd n w rc kd nt sp md) (h2 : CG st n w rc kd nt sp md) (h3 : MG mt n w rc kd nt sp md) (h4 : RG n rn rb rm rs) (h5 : CR st rn rb rm rs) (h6 : MR mt rn rb rm rs) {b : Nat} (hb : b < 5) :
    ∀ f v s z, v ≤ 10 → 10 < v + f → ModA 9 b mt z → ∃ r m2, L_X6_notes_17 st (nI b) (fun y _ => some y) f (nI s) (nI v) = some r ∧ L_X7_notes_22 (nI b) (fun y _ z => ck (nI b) 5 (some (y, sA z 9 (nI b) (gA mt 9 (nI b))))) f (nI s) (nI v) z = some (r, m2) ∧ SameM mt m2 := by
  obtain ⟨a1, a2, a3, a4⟩ := h2.2.2.2 b hb
  obtain ⟨d1, d2, d3, d4⟩ := h1.2.2.2 b hb
  intro f
  induction f with
  | zero => intro v s z h1 h2; omega
  | succ f ih =>
    intro v s z hv1 hv2 hz
    rw [L_X6_notes_17_s, L_X7_notes_22_s]
    by_cases c : v = 10
    · subst c
      rw [if_pos (by decide), if_pos (by decide), ck_nI hb (by decide), gA_nI _ _ (by omega)]
      exact ⟨_, _, rfl, rfl, hz.back (by omega)⟩
    · have hv : v < 10 := by omega
      rw [if_neg (show ¬ (10 : Int32) ≤ nI v from nI_ge (b := 10) hv (by decide)), if_neg (show ¬ (9 : Int32) < nI v from nI_nlt (a := 9) (by omega) (by decide)), ck_nI hb (by decide), ck_nI hb (by decide), gA_nI _ _ (by omega), a1, h2.2.1, cas_ok h1 h2 h4 h5 hb d1 hv h1.2.1, mas_ok (h1.note b hv) (h3.note hz hb v) h4 (h6.modA hz (by decide) _ _), b1_s, b1_s, nI_1, orb _ (by omega), or0]
      have e : (fun x => if x = b then kd b else kd x) = kd := by
        funext x
        by_cases c : x = b
        · rw [if_pos c, c]
        · rw [if_neg c]
      rw [e]
      by_cases g : alln (soP kd (fun x => if x = b then v else nt x) w rb rm rs) rn = true
      · rw [if_pos g, if_neg n10, if_neg n10]
        exact ih (v + 1) _ _ (by omega) (by omega) (hz.set (by omega) _)
      · rw [if_neg g, if_pos rfl, if_pos rfl]
        exact ih (v + 1) _ _ (by omega) (by omega) (hz.set (by omega) _)
theorem ok_notes {st mt : St} (h : Rel st mt) (x1 : Int32) : ∃ (r : Int32) (m2 : St), F_X6_notes st x1 = some r ∧ F_X7_notes mt x1 = some (r, m2) ∧ Rel st m2 := by
  obtain ⟨n, w, rc, kd, nt, sp, md, rn, rb, rm, rs, h1, h2, h3, h4, h5, h6, h7, h8, h9⟩ := id h
  have hn5 := h1.1
  unfold F_X6_notes F_X7_notes
  rcases rng x1 n (by omega) with ⟨j, hj, rfl⟩ | ho
  · rw [bell_in h2.1 hn5 hj, mbell_in h3.1 hn5 hj, b1_s, b1_s, if_neg n10, if_neg n10, ck_nI (show j < 5 by omega) (by decide)]
    obtain ⟨r, m2, e1, e2, e3⟩ := nt_loop h1 h2 h3 h4 h5 h6 (show j < 5 by omega) 70 0 0 mt (by omega) (by omega) (ModA.rf _ _ _)
    exact ⟨r, m2, e1, e2, h.congr (SameC.rf st) e3⟩
  · rw [bell_out h2.1 ho, mbell_out h3.1 ho]
    exact ⟨-1, mt, rfl, rfl, h⟩
theorem kn_loop {st mt : St} {n w rc : Nat} {kd nt sp md : Nat → Nat} {rn : Nat} {rb rm rs : Nat → Nat} (h1 : Hd n w rc kd nt sp md) (h2 : CG st n w rc kd nt sp md) (h3 : MG mt n w rc kd nt sp md) (h4 : RG n rn rb rm rs) (h5 : CR st rn rb rm rs) (h6 : MR mt rn rb rm rs) {b : Nat} (hb : b < 5) :
    ∀ f v s z, v ≤ 3 → 3 < v + f → ModA 8 b mt z → ∃ r m2, L_X6_kinds_17 st (nI b) (fun y _ => some y) f (nI s) (nI v) = some r ∧ L_X7_kinds_22 (nI b) (fun y _ z => ck (nI b) 5 (some (y, sA z 8 (nI b) (gA mt 8 (nI b))))) f (nI s) (nI v) z = some (r, m2) ∧ SameM mt m2 := by
  obtain ⟨a1, a2, a3, a4⟩ := h2.2.2.2 b hb
  obtain ⟨d1, d2, d3, d4⟩ := h1.2.2.2 b hb
  intro f
  induction f with
  | zero => intro v s z h1 h2; omega
  | succ f ih =>
    intro v s z hv1 hv2 hz
    rw [L_X6_kinds_17_s, L_X7_kinds_22_s]
    by_cases c : v = 3
    · subst c
      rw [if_pos (by decide), if_pos (by decide), ck_nI hb (by decide), gA_nI _ _ (by omega)]
      exact ⟨_, _, rfl, rfl, hz.back (by omega)⟩
    · have hv : v < 3 := by omega
      have hng : ¬ (3 : Int32) ≤ nI v := nI_ge (b := 3) hv (by decide)
      rw [if_neg hng, if_neg hng, ck_nI hb (by decide), ck_nI hb (by decide), gA_nI _ _ (by omega), a2, h2.2.1, cas_ok h1 h2 h4 h5 hb hv d2 h1.2.1, mas_ok (h1.kind b hv) (h3.kind hz hb v) h4 (h6.modA hz (by decide) _ _), b1_s, b1_s, nI_1, orb _ (by omega), or0]
      have e : (fun x => if x = b then nt b else nt x) = nt := by
        funext x
        by_cases c : x = b
        · rw [if_pos c, c]
        · rw [if_neg c]
      rw [e]
      by_cases g : alln (soP (fun x => if x = b then v else kd x) nt w rb rm rs) rn = true
      · rw [if_pos g, if_neg n10, if_neg n10]
        exact ih (v + 1) _ _ (by omega) (by omega) (hz.set (by omega) _)
      · rw [if_neg g, if_pos rfl, if_pos rfl]
        exact ih (v + 1) _ _ (by omega) (by omega) (hz.set (by omega) _)
theorem ok_kinds {st mt : St} (h : Rel st mt) (x1 : Int32) : ∃ (r : Int32) (m2 : St), F_X6_kinds st x1 = some r ∧ F_X7_kinds mt x1 = some (r, m2) ∧ Rel st m2 := by
  obtain ⟨n, w, rc, kd, nt, sp, md, rn, rb, rm, rs, h1, h2, h3, h4, h5, h6, h7, h8, h9⟩ := id h
  have hn5 := h1.1
  unfold F_X6_kinds F_X7_kinds
  rcases rng x1 n (by omega) with ⟨j, hj, rfl⟩ | ho
  · rw [bell_in h2.1 hn5 hj, mbell_in h3.1 hn5 hj, b1_s, b1_s, if_neg n10, if_neg n10, ck_nI (show j < 5 by omega) (by decide)]
    obtain ⟨r, m2, e1, e2, e3⟩ := kn_loop h1 h2 h3 h4 h5 h6 (show j < 5 by omega) 70 0 0 mt (by omega) (by omega) (ModA.rf _ _ _)
    exact ⟨r, m2, e1, e2, h.congr (SameC.rf st) e3⟩
  · rw [bell_out h2.1 ho, mbell_out h3.1 ho]
    exact ⟨-1, mt, rfl, rfl, h⟩
/-- the WIND of the reference has changed -/
def ModW (mt z : St) : Prop := (∀ k, k ≠ 6 → gI z k = gI mt k) ∧ z.2 = mt.2
theorem wd_loop {st mt : St} {n w rc : Nat} {kd nt sp md : Nat → Nat} {rn : Nat} {rb rm rs : Nat → Nat} (h1 : Hd n w rc kd nt sp md) (h2 : CG st n w rc kd nt sp md) (h3 : MG mt n w rc kd nt sp md) (h4 : RG n rn rb rm rs) (h5 : CR st rn rb rm rs) (h6 : MR mt rn rb rm rs) :
    ∀ f v s z, v ≤ 3 → 3 < v + f → ModW mt z → ∃ r m2, L_X6_winds_17 st (fun y _ => some y) f (nI s) (nI v) = some r ∧ L_X7_winds_19 (fun y _ z => some (y, sI z 6 (gI mt 6))) f (nI s) (nI v) z = some (r, m2) ∧ SameM mt m2 := by
  obtain ⟨a1, a2, a3, a4⟩ := h2.2.2.2 0 (by decide)
  obtain ⟨d1, d2, d3, d4⟩ := h1.2.2.2 0 (by decide)
  intro f
  induction f with
  | zero => intro v s z h1 h2; omega
  | succ f ih =>
    intro v s z hv1 hv2 hz
    rw [L_X6_winds_17_s, L_X7_winds_19_s]
    by_cases c : v = 3
    · subst c
      rw [if_pos (by decide), if_pos (by decide)]
      refine ⟨_, _, rfl, rfl, fun k _ => ?_, fun q _ i => by rw [A_sI, hz.2]⟩
      by_cases g : k = 6
      · rw [g, gI_sIs]
      · rw [gI_sIn _ _ g, hz.1 k g]
    · have hv : v < 3 := by omega
      have h1' : Hd n v rc kd nt sp md := ⟨h1.1, hv, h1.2.2⟩
      have h3' : MG (sI z 6 (nI v)) n v rc kd nt sp md := by
        refine ⟨?_, gI_sIs _ _ _, ?_, ?_⟩
        · rw [gI_sIn _ _ (by decide), hz.1 5 (by decide)]; exact h3.1
        · rw [gI_sIn _ _ (by decide), hz.1 7 (by decide)]; exact h3.2.2.1
        · rw [A_sI, hz.2]; exact h3.2.2.2
      have h6' : MR (sI z 6 (nI v)) rn rb rm rs := by
        refine ⟨?_, ?_⟩
        · rw [gI_sIn _ _ (by decide), hz.1 24 (by decide)]; exact h6.1
        · rw [A_sI, hz.2]; exact h6.2
      have hck : ∀ {x : Option Int32}, ck 0 5 x = x := ck_nI (i := 0) (by decide) (by decide)
      rw [if_neg (show ¬ (3 : Int32) ≤ nI v from nI_ge (b := 3) hv (by decide)), if_neg (show ¬ (2 : Int32) < nI v from nI_nlt (a := 2) (by omega) (by decide)), hck, hck, show gA st 0 0 = nI (kd 0) from (gA_nI st 0 (i := 0) (by decide)).trans a1, show gA st 1 0 = nI (nt 0) from (gA_nI st 1 (i := 0) (by decide)).trans a2, show F_X2_areSo st 0 (nI (kd 0)) (nI (nt 0)) (nI v) = _ from cas_ok h1 h2 h4 h5 (b := 0) (by decide) d1 d2 hv, mas_ok h1' h3' h4 h6', b1_s, b1_s, nI_1, orb _ (by omega), or0]
      have e : (fun x => if x = 0 then nt 0 else nt x) = nt := by
        funext x
        by_cases c : x = 0
        · rw [if_pos c, c]
        · rw [if_neg c]
      have e' : (fun x => if x = 0 then kd 0 else kd x) = kd := by
        funext x
        by_cases c : x = 0
        · rw [if_pos c, c]
        · rw [if_neg c]
      rw [e, e']
      have hz' : ModW mt (sI z 6 (nI v)) := ⟨fun k hk => by rw [gI_sIn _ _ hk, hz.1 k hk], by rw [A_sI, hz.2]⟩
      by_cases g : alln (soP kd nt v rb rm rs) rn = true
      · rw [if_pos g, if_neg n10, if_neg n10]
        exact ih (v + 1) _ _ (by omega) (by omega) hz'
      · rw [if_neg g, if_pos rfl, if_pos rfl]
        exact ih (v + 1) _ _ (by omega) (by omega) hz'
theorem ok_winds {st mt : St} (h : Rel st mt) : ∃ (r : Int32) (m2 : St), F_X6_winds st = some r ∧ F_X7_winds mt = some (r, m2) ∧ Rel st m2 := by
  obtain ⟨n, w, rc, kd, nt, sp, md, rn, rb, rm, rs, h1, h2, h3, h4, h5, h6, h7, h8, h9⟩ := id h
  have hn5 := h1.1
  unfold F_X6_winds F_X7_winds
  by_cases h0 : n = 0
  · subst h0
    rw [none_0 h2.1, h3.1, nI_0]
    exact ⟨-3, mt, rfl, rfl, h⟩
  · rw [none_p h2.1 (by omega) hn5, if_neg (show ¬ gI mt 5 = 0 by rw [h3.1]; exact nI_ne0 (by omega) (by omega)), b1_s, if_pos rfl]
    obtain ⟨r, m2, e1, e2, e3⟩ := wd_loop h1 h2 h3 h4 h5 h6 70 0 0 mt (by omega) (by omega) ⟨fun _ _ => rfl, rfl⟩
    exact ⟨r, m2, e1, e2, h.congr (SameC.rf st) e3⟩
