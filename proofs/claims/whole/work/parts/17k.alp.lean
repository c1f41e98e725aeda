/-! ALP: the places of a line -/
def Dg (x : Int32) (n : Nat) : Prop := ∃ j, j < n ∧ x = nI (48 + j)
def KV (x : Int32) : Int32 := if x = 104 then 2 else if x = 107 then 1 else if x = 112 then 0 else -9
def Fit (p : Nat) (x : Int32) : Prop := if p = 0 then x = 98 else if p = 1 then Dg x 3 else if p = 2 then Dg x 10 else if p < 28 then (if (p - 3) % 5 = 0 then x = 59 else if (p - 3) % 5 = 1 then ¬ KV x = -9 else if (p - 3) % 5 = 4 then Dg x 4 else Dg x 10) else False
theorem fit_0 (x : Int32) : Fit 0 x = (x = 98) := by unfold Fit; exact if_pos rfl
theorem fit_1 (x : Int32) : Fit 1 x = Dg x 3 := by unfold Fit; rw [if_neg (by decide), if_pos rfl]
theorem fit_2 (x : Int32) : Fit 2 x = Dg x 10 := by unfold Fit; rw [if_neg (by decide), if_neg (by decide), if_pos rfl]
theorem fit_3 {b : Nat} (hb : b < 5) (x : Int32) : Fit (3 + 5 * b) x = (x = 59) := by
  unfold Fit; rw [if_neg (by omega), if_neg (by omega), if_neg (by omega), if_pos (by omega), if_pos (by omega)]
theorem fit_4 {b : Nat} (hb : b < 5) (x : Int32) : Fit (4 + 5 * b) x = (¬ KV x = -9) := by
  unfold Fit; rw [if_neg (by omega), if_neg (by omega), if_neg (by omega), if_pos (by omega), if_neg (by omega), if_pos (by omega)]
theorem fit_5 {b : Nat} (hb : b < 5) (x : Int32) : Fit (5 + 5 * b) x = Dg x 10 := by
  unfold Fit; rw [if_neg (by omega), if_neg (by omega), if_neg (by omega), if_pos (by omega), if_neg (by omega), if_neg (by omega), if_neg (by omega)]
theorem fit_6 {b : Nat} (hb : b < 5) (x : Int32) : Fit (6 + 5 * b) x = Dg x 10 := by
  unfold Fit; rw [if_neg (by omega), if_neg (by omega), if_neg (by omega), if_pos (by omega), if_neg (by omega), if_neg (by omega), if_neg (by omega)]
theorem fit_7 {b : Nat} (hb : b < 5) (x : Int32) : Fit (7 + 5 * b) x = Dg x 4 := by
  unfold Fit; rw [if_neg (by omega), if_neg (by omega), if_neg (by omega), if_pos (by omega), if_neg (by omega), if_neg (by omega), if_pos (by omega)]
theorem fit_o {p : Nat} (h : 28 ≤ p) (x : Int32) : ¬ Fit p x := by
  unfold Fit; rw [if_neg (by omega), if_neg (by omega), if_neg (by omega), if_neg (by omega)]; exact fun z => z
theorem kv_c (st : St) (x : Int32) : F_X4_kindBy st x = some (KV x) := by
  unfold F_X4_kindBy KV
  by_cases a : x = 104
  · rw [if_pos a, if_pos a]
  · rw [if_neg a, if_neg a]
    by_cases b : x = 107
    · rw [if_pos b, if_pos b]
    · rw [if_neg b, if_neg b]
      by_cases c : x = 112
      · rw [if_pos c, if_pos c]
      · rw [if_neg c, if_neg c]
theorem kv_n {x : Int32} (h : ¬ KV x = -9) : ∃ j, j < 3 ∧ KV x = nI j := by
  unfold KV at h ⊢
  by_cases a : x = 104
  · rw [if_pos a]; exact ⟨2, by decide, rfl⟩
  · rw [if_neg a] at h ⊢
    by_cases b : x = 107
    · rw [if_pos b]; exact ⟨1, by decide, rfl⟩
    · rw [if_neg b] at h ⊢
      by_cases c : x = 112
      · rw [if_pos c]; exact ⟨0, by decide, rfl⟩
      · rw [if_neg c] at h; exact absurd rfl h
theorem Dg.sub {x : Int32} {n : Nat} (h : Dg x n) : ∃ j, j < n ∧ x - 48 = nI j := by
  obtain ⟨j, hj, e⟩ := h
  refine ⟨j, hj, ?_⟩
  rw [e, show (48 : Int32) = nI 48 from rfl, pk_sub (by omega), Nat.add_sub_cancel_left]
theorem Dg.n9 {x : Int32} {n : Nat} (h : Dg x n) (hn : n ≤ 10) : ¬ x - 48 = -9 := by
  obtain ⟨j, hj, e⟩ := h.sub
  rw [e]
  exact nI9 (by omega)
theorem dg_c (st : St) {n : Nat} (hn : n ≤ 10) (x : Int32) : (Dg x n ∧ F_X6_isBelow st (x - 48) (nI n) = some 1) ∨ (¬ Dg x n ∧ F_X6_isBelow st (x - 48) (nI n) = some 0) := by
  rcases rng (x - 48) n (by omega) with ⟨j, hj, e⟩ | ho
  · refine Or.inl ⟨⟨j, hj, ?_⟩, ?_⟩
    · have : x = (x - 48) + 48 := (Int32.sub_add_cancel _ _).symm
      rw [this, e, show (48 : Int32) = nI 48 from rfl, nI_add, Nat.add_comm]
    · rw [e]; exact bel_in st hj (by omega)
  · refine Or.inr ⟨fun d => ?_, bel_out st ho⟩
    obtain ⟨j, hj, e⟩ := d.sub
    rw [e] at ho
    rcases ho with c | c
    · exact nI_pos (by omega) c
    · exact nI_ge hj (by omega) c
theorem dg_m (st : St) {u : Nat} (hu : u < 10) (x : Int32) : (Dg x (u + 1) ∧ F_X7_within st x 48 (48 + nI u) = some 1) ∨ (¬ Dg x (u + 1) ∧ F_X7_within st x 48 (48 + nI u) = some 0) := by
  unfold F_X7_within
  rw [show (48 : Int32) + nI u = nI (48 + u) from nI_add 48 u]
  by_cases a : x < 48
  · refine Or.inr ⟨?_, if_pos a⟩
    rintro ⟨j, hj, rfl⟩
    exact nI_nlt (a := 48 + j) (b := 48) (by omega) (by omega) a
  · rw [if_neg a]
    by_cases b : nI (48 + u) < x
    · refine Or.inr ⟨?_, if_pos b⟩
      rintro ⟨j, hj, rfl⟩
      exact nI_nlt (a := 48 + u) (b := 48 + j) (by omega) (by omega) b
    · refine Or.inl ⟨?_, if_neg b⟩
      have h0 : ¬ x < 0 := fun z => a (by
        rw [Int32.lt_iff_toInt_lt] at z ⊢
        rw [show (0 : Int32).toInt = 0 by decide] at z
        rw [show (48 : Int32).toInt = 48 by decide]
        omega)
      obtain ⟨t, ht, rfl⟩ : ∃ t : Nat, t ≤ 48 + u ∧ x = nI t := nI_of2 (nI_toInt (by omega)) h0 (Int32.not_lt.mp b)
      have h48 : 48 ≤ t := Nat.le_of_not_lt (fun z => a (show nI t < 48 from nI_lt (b := 48) z (by decide)))
      exact ⟨t - 48, by omega, congrArg nI (by omega)⟩
theorem jr5 {p c : Nat} (h : 3 ≤ p) (hp : p < 70) (hc : (p - 3) % 5 = c) : jrem (nI p - 3) 5 = nI c := by
  unfold jrem
  rw [show (3 : Int32) = nI 3 from rfl, show (5 : Int32) = nI 5 from rfl, pk_sub h, pk_rem (by omega) (by decide) (by decide), hc]
theorem fits_hi (st : St) {p c : Nat} (h : 3 ≤ p) (hp : p < 28) (hc : (p - 3) % 5 = c) (x : Int32) : F_X4_fits st (nI p) x = (if nI c = 0 then (if x = 59 then some 1 else some 0) else if nI c = 1 then (if KV x = (-9) then some 0 else some 1) else if nI c = 2 then F_X6_isBelow st (x - 48) 10 else if nI c = 3 then F_X6_isBelow st (x - 48) 10 else F_X6_isBelow st (x - 48) 4) := by
  have e : ∀ n, b1 (F_X6_isBelow st (x - 48) n) (fun v => some v) = F_X6_isBelow st (x - 48) n := fun n => by
    unfold F_X6_isBelow
    split
    · rfl
    · split <;> rfl
  unfold F_X4_fits
  rw [if_neg (nI_ne0 (by omega) (by omega)), if_neg (show ¬ nI p = 1 from fun z => absurd ((nI_eq (a := p) (b := 1) (by omega) (by decide)).mp z) (by omega)), if_neg (show ¬ nI p = 2 from fun z => absurd ((nI_eq (a := p) (b := 2) (by omega) (by decide)).mp z) (by omega)), show F_X4_startOf st 5 = some 28 from congrArg some (by decide), b1_s, if_pos (show nI p < 28 from nI_lt (b := 28) hp (by decide)), jr5 h (by omega) hc, kv_c, b1_s, e, e]
theorem fit_c (st : St) {p : Nat} (hp : p < 70) (x : Int32) : (Fit p x ∧ F_X4_fits st (nI p) x = some 1) ∨ (¬ Fit p x ∧ F_X4_fits st (nI p) x = some 0) := by
  have e : ∀ n, b1 (F_X6_isBelow st (x - 48) n) (fun v => some v) = F_X6_isBelow st (x - 48) n := fun n => by
    unfold F_X6_isBelow
    split
    · rfl
    · split <;> rfl
  by_cases h28 : 28 ≤ p
  · refine Or.inr ⟨fit_o h28 x, ?_⟩
    unfold F_X4_fits
    rw [if_neg (nI_ne0 (by omega) (by omega)), if_neg (show ¬ nI p = 1 from fun z => absurd ((nI_eq (a := p) (b := 1) (by omega) (by decide)).mp z) (by omega)), if_neg (show ¬ nI p = 2 from fun z => absurd ((nI_eq (a := p) (b := 2) (by omega) (by decide)).mp z) (by omega)), show F_X4_startOf st 5 = some 28 from congrArg some (by decide), b1_s, if_neg (show ¬ nI p < 28 from nI_nlt (b := 28) h28 (by omega))]
  · by_cases h3 : p < 3
    · rcases (show p = 0 ∨ p = 1 ∨ p = 2 by omega) with rfl | rfl | rfl
      · rw [fit_0]
        unfold F_X4_fits
        rw [if_pos nI_0]
        by_cases c : x = 98
        · exact Or.inl ⟨c, if_pos c⟩
        · exact Or.inr ⟨c, if_neg c⟩
      · rw [fit_1]
        unfold F_X4_fits
        rw [if_neg (show ¬ nI 1 = 0 by decide), if_pos (show nI 1 = 1 from rfl), e]
        exact dg_c st (by decide) x
      · rw [fit_2]
        unfold F_X4_fits
        rw [if_neg (show ¬ nI 2 = 0 by decide), if_neg (show ¬ nI 2 = 1 by decide), if_pos (show nI 2 = 2 from rfl), e]
        exact dg_c st (by decide) x
    · obtain ⟨b, hb, hc⟩ : ∃ b, b < 5 ∧ (p = 3 + 5 * b ∨ p = 4 + 5 * b ∨ p = 5 + 5 * b ∨ p = 6 + 5 * b ∨ p = 7 + 5 * b) := ⟨(p - 3) / 5, by omega, by omega⟩
      rcases hc with rfl | rfl | rfl | rfl | rfl
      · rw [fit_3 hb, fits_hi st (c := 0) (by omega) (by omega) (by omega), if_pos nI_0]
        by_cases c : x = 59
        · exact Or.inl ⟨c, if_pos c⟩
        · exact Or.inr ⟨c, if_neg c⟩
      · rw [fit_4 hb, fits_hi st (c := 1) (by omega) (by omega) (by omega), if_neg (show ¬ nI 1 = 0 by decide), if_pos (show nI 1 = 1 from rfl)]
        by_cases c : KV x = -9
        · exact Or.inr ⟨fun z => z c, if_pos c⟩
        · exact Or.inl ⟨c, if_neg c⟩
      · rw [fit_5 hb, fits_hi st (c := 2) (by omega) (by omega) (by omega), if_neg (show ¬ nI 2 = 0 by decide), if_neg (show ¬ nI 2 = 1 by decide), if_pos (show nI 2 = 2 from rfl)]
        exact dg_c st (by decide) x
      · rw [fit_6 hb, fits_hi st (c := 3) (by omega) (by omega) (by omega), if_neg (show ¬ nI 3 = 0 by decide), if_neg (show ¬ nI 3 = 1 by decide), if_neg (show ¬ nI 3 = 2 by decide), if_pos (show nI 3 = 3 from rfl)]
        exact dg_c st (by decide) x
      · rw [fit_7 hb, fits_hi st (c := 4) (by omega) (by omega) (by omega), if_neg (show ¬ nI 4 = 0 by decide), if_neg (show ¬ nI 4 = 1 by decide), if_neg (show ¬ nI 4 = 2 by decide), if_neg (show ¬ nI 4 = 3 by decide)]
        exact dg_c st (by decide) x
/-! the first place that fails -/
def Bad (m : Nat) (cl : Nat → Int32) (q : Nat) : Prop := q ≤ m ∧ (∀ r, r < q → Fit r (cl r)) ∧ (q < m → ¬ Fit q (cl q)) ∧ (q = m → m ≤ 3 ∨ ¬ (m - 3) % 5 = 0)
theorem bad_u {m : Nat} {cl : Nat → Int32} {q r : Nat} (h : Bad m cl q) (g : Bad m cl r) : q = r := by
  rcases Nat.lt_trichotomy q r with c | c | c
  · exact absurd (g.2.1 q c) (h.2.2.1 (by have := g.1; omega))
  · exact c
  · exact absurd (h.2.1 r c) (g.2.2.1 (by have := h.1; omega))
theorem bad_g {m j : Nat} {cl : Nat → Int32} {q : Nat} (h : Bad m cl q) (hm : m = 3 + 5 * j) (hj : 1 ≤ j) (g : ∀ r, r < m → Fit r (cl r)) : False := by
  by_cases c : q < m
  · exact h.2.2.1 c (g q c)
  · have := h.2.2.2 (by have := h.1; omega)
    omega
theorem ff_loop {st : St} {k i m : Nat} {cl : Nat → Int32} (him : i + m ≤ 60) (hC : ∀ p, p < m → st.2 (10 + k) (i + p) = cl p) (kk : Int32 → Option Int32) :
    ∀ f p, p ≤ m → m < p + f → (∀ r, r < p → Fit r (cl r)) → (∃ q, q < m ∧ (∀ r, r < q → Fit r (cl r)) ∧ ¬ Fit q (cl q) ∧ L_X4_firstFault_2 st k (nI i) (nI m) kk f (nI p) = some (nI q)) ∨ ((∀ r, r < m → Fit r (cl r)) ∧ L_X4_firstFault_2 st k (nI i) (nI m) kk f (nI p) = kk (nI m)) := by
  intro f
  induction f with
  | zero => intro p h1 h2; omega
  | succ f ih =>
    intro p hp1 hp2 hF
    rw [L_X4_firstFault_2_s]
    by_cases c : p = m
    · subst c
      rw [if_pos (nI_le (Nat.le_refl _) (by omega))]
      exact Or.inr ⟨hF, rfl⟩
    · rw [if_neg (nI_ge (show p < m by omega) (by omega)), nI_add, ck_nI (show i + p < 60 by omega) (by decide), gA_nI _ _ (by omega), hC p (by omega), nI_1]
      rcases fit_c st (show p < 70 by omega) (cl p) with ⟨a, b⟩ | ⟨a, b⟩
      · rw [b, b1_s, if_neg n10]
        exact ih (p + 1) (by omega) (by omega) (fun r hr => by
          by_cases e : r = p
          · rw [e]; exact a
          · exact hF r (by omega))
      · rw [b, b1_s, if_pos rfl]
        exact Or.inl ⟨p, by omega, hF, a, rfl⟩
theorem ff {st : St} {k i m : Nat} {cl : Nat → Int32} (him : i + m ≤ 60) (hC : ∀ p, p < m → st.2 (10 + k) (i + p) = cl p) : (∃ q, Bad m cl q ∧ F_X4_firstFault st k (nI i) (nI m) = some (nI q)) ∨ ∃ j, 1 ≤ j ∧ j ≤ 5 ∧ m = 3 + 5 * j ∧ (∀ r, r < m → Fit r (cl r)) ∧ F_X4_firstFault st k (nI i) (nI m) = some (-9) := by
  unfold F_X4_firstFault
  have h := ff_loop him hC (fun y3_2 => if nI m ≤ 3 then some (nI m) else if (jrem (nI m - 3) 5) = 0 then some (-9) else some (nI m)) 70 0 (by omega) (by omega) (fun r hr => absurd hr (by omega))
  rw [nI_0] at h
  rcases h with ⟨q, a1, a2, a3, a4⟩ | ⟨a1, a2⟩
  · exact Or.inl ⟨q, ⟨by omega, a2, fun _ => a3, fun z => absurd z (by omega)⟩, a4⟩
  · rw [a2]
    by_cases c : m ≤ 3
    · exact Or.inl ⟨m, ⟨Nat.le_refl _, a1, fun z => absurd z (by omega), fun _ => Or.inl c⟩, if_pos (nI_le (b := 3) c (by decide))⟩
    · have c' : ¬ nI m ≤ 3 := nI_ge (a := 3) (by omega) (by omega)
      simp only [if_neg c', jr5 (show 3 ≤ m by omega) (show m < 70 by omega) rfl]
      by_cases d : (m - 3) % 5 = 0
      · rw [d, if_pos nI_0]
        refine Or.inr ⟨(m - 3) / 5, by omega, ?_, by omega, a1, rfl⟩
        by_cases e : m ≤ 28
        · omega
        · exact absurd (a1 28 (by omega)) (fit_o (by omega) _)
      · rw [if_neg (nI_ne0 (by omega) (by omega))]
        exact Or.inl ⟨m, ⟨Nat.le_refl _, a1, fun z => absurd z (by omega), fun _ => Or.inr d⟩, rfl⟩
