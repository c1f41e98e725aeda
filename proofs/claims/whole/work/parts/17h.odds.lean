/-! odds: the shares, checked one by one -/
def odC (x h u : Nat) : Option Int64 := L_X6_odds_114 (fun a b => if nI x = 0 then some b.toInt64 else some a.toInt64) 70 (nI (4 ^ h)) (nI u)
def odM (x h e u : Nat) : Option Int64 := L_X7_inLeastTerms_6 (fun y _ => if nI x = 0 then nzl y (some (lN (u * 4 ^ e) / y)) else nzl y (some (lN (4 ^ h * 4 ^ e) / y))) 70 (lN (u * 4 ^ e)) (lN (4 ^ h * 4 ^ e))
def odT (x h e : Nat) : Nat → Bool
  | 0 => true
  | u + 1 => decide (odC x h u = odM x h e u) && (odC x h u).isSome && odT x h e u
theorem odT_use {x h e : Nat} : ∀ {n : Nat}, odT x h e n = true → ∀ u, u < n → odC x h u = odM x h e u ∧ ∃ r, odC x h u = some r := by
  intro n
  induction n with
  | zero => intro _ u hu; omega
  | succ n ih =>
    intro ht u hu
    have ht2 : (decide (odC x h n = odM x h e n) && (odC x h n).isSome && odT x h e n) = true := ht
    rw [Bool.and_eq_true, Bool.and_eq_true] at ht2
    obtain ⟨⟨t1, t2⟩, t3⟩ := ht2
    by_cases c : u = n
    · subst c
      exact ⟨of_decide_eq_true t1, Option.isSome_iff_exists.mp t2⟩
    · exact ih t3 u (by omega)
set_option maxRecDepth 100000 in
theorem od0 : ∀ x, x < 2 → ∀ h, h < 3 → ∀ e, e < 6 → h + e < 6 → odT x h e (4 ^ h + 1) = true := by decide +kernel
set_option maxRecDepth 100000 in
theorem od3 : ∀ x, x < 2 → ∀ e, e < 3 → odT x 3 e (4 ^ 3 + 1) = true := by decide +kernel
set_option maxRecDepth 100000 in
theorem od4 : ∀ x, x < 2 → ∀ e, e < 2 → odT x 4 e (4 ^ 4 + 1) = true := by decide +kernel
set_option maxRecDepth 100000 in
theorem od5 : ∀ x, x < 2 → ∀ e, e < 1 → odT x 5 e (4 ^ 5 + 1) = true := by decide +kernel
theorem od_ok {x h e u : Nat} (hx : x < 2) (he : h + e < 6) (hu : u ≤ 4 ^ h) : odC x h u = odM x h e u ∧ ∃ r, odC x h u = some r := by
  have ht : odT x h e (4 ^ h + 1) = true := by
    by_cases c : h < 3
    · exact od0 x hx h c e (by omega) he
    · rcases (show h = 3 ∨ h = 4 ∨ h = 5 by omega) with rfl | rfl | rfl
      · exact od3 x hx e (by omega)
      · exact od4 x hx e (by omega)
      · exact od5 x hx e (by omega)
  exact odT_use ht u (by omega)
def cn (hd : Bool) (p : Nat → Bool) (i : Nat) : Nat := if hd = true then i - mcN p i else i
theorem on_loop {mt : St} {n w rc : Nat} {kd nt sp md : Nat → Nat} (h1 : Hd n w rc kd nt sp md) (h3 : MG mt n w rc kd nt sp md) {j v b : Nat} (hj : j < 10) (hv : v < 20) (hb : b < 5) (kk : Int32 → Int32 → Option Int64) :
    ∀ f i, i ≤ 4 → 4 < i + f → L_X7_odds_61 mt (nI j) (nI v) (nI b) kk f (nI (cn (hP sp rc j b) (sP (kd b) (nt b) w v) i)) (nI i) = kk (nI (cn (hP sp rc j b) (sP (kd b) (nt b) w v) 4)) (nI 4) := by
  obtain ⟨d1, d2, d3, d4⟩ := h1.2.2.2 b hb
  intro f
  induction f with
  | zero => intro i h1 h2; omega
  | succ f ih =>
    intro i hi1 hi2
    rw [L_X7_odds_61_s]
    by_cases c : i = 4
    · subst c; rw [if_pos (by decide)]
    · have hs := snd_lt _ d1 _ d2 i (by omega) _ h1.2.1
      have hle := mcN_le (sP (kd b) (nt b) w v) i
      rw [if_neg (show ¬ (4 : Int32) ≤ nI i from nI_ge (b := 4) (by omega) (by decide)), mheard h1 h3 hb hj, b1_s, nI_1, nI_1, Int32.add_zero]
      have hih := ih (i + 1) (by omega) (by omega)
      by_cases hp : hP sp rc j b = true
      · rw [if_pos hp, if_neg n10, msound h1 h3 hb (by omega), b1_s]
        by_cases g : snd (kd b) (nt b) i w = v
        · have e : cn (hP sp rc j b) (sP (kd b) (nt b) w v) (i + 1) = cn (hP sp rc j b) (sP (kd b) (nt b) w v) i := by
            unfold cn
            rw [if_pos hp, if_pos hp, mcN_s1 (p := sP (kd b) (nt b) w v) (decide_eq_true g)]
            omega
          rw [if_pos (by rw [g]), ← e]
          exact hih
        · have e : cn (hP sp rc j b) (sP (kd b) (nt b) w v) (i + 1) = cn (hP sp rc j b) (sP (kd b) (nt b) w v) i + 1 := by
            unfold cn
            rw [if_pos hp, if_pos hp, mcN_s0 (p := sP (kd b) (nt b) w v) (fun z => g (of_decide_eq_true z))]
            omega
          rw [if_neg (fun z => g ((nI_eq (by omega) (by omega)).mp z)), ← e]
          exact hih
      · have e : cn (hP sp rc j b) (sP (kd b) (nt b) w v) (i + 1) = cn (hP sp rc j b) (sP (kd b) (nt b) w v) i + 1 := by
          unfold cn
          rw [if_neg hp, if_neg hp]
        rw [if_neg hp, if_pos rfl, ← e]
        exact hih
theorem oo_loop {st mt : St} {n w rc : Nat} {kd nt sp md : Nat → Nat} (h1 : Hd n w rc kd nt sp md) (h2 : CG st n w rc kd nt sp md) (h3 : MG mt n w rc kd nt sp md) {j v : Nat} (hj : j < 10) (hv : v < 20) (kC : Int32 → Int32 → Int32 → Option Int64) (kM : Int64 → Int64 → Int32 → Option Int64) :
    ∀ f b h e si, b ≤ n → n < b + f → h + e = b → si ≤ 4 ^ h → ∃ h' e' si', h' + e' = n ∧ si' ≤ 4 ^ h' ∧ L_X6_odds_53 st (nI j) (nI v) kC f (nI (4 ^ h)) (nI si) (nI b) = kC (nI (4 ^ h')) (nI si') (nI n) ∧ L_X7_odds_46 mt (nI j) (nI v) kM f (lN (4 ^ h * 4 ^ e)) (lN (si * 4 ^ e)) (nI b) = kM (lN (4 ^ h' * 4 ^ e')) (lN (si' * 4 ^ e')) (nI n) := by
  have hn5 := h1.1
  intro f
  induction f with
  | zero => intro b h e si h1 h2; omega
  | succ f ih =>
    intro b h e si hb1 hb2 hhe hsi
    rw [L_X6_odds_53_s, L_X7_odds_46_s, h2.1, h3.1]
    by_cases c : b = n
    · subst c
      rw [if_pos (nI_le (Nat.le_refl _) (by omega)), if_pos (nI_le (Nat.le_refl _) (by omega))]
      exact ⟨h, e, si, hhe, hsi, rfl, rfl⟩
    · have hb5 : b < 5 := by omega
      have hle := mcN_le (sP (kd b) (nt b) w v) 4
      have hin := on_loop h1 h3 hj hv hb5 (fun y9 _ => L_X7_odds_46 mt (nI j) (nI v) kM f (lN (4 ^ h * 4 ^ e) * 4) (lN (si * 4 ^ e) * y9.toInt64) (nI b + 1)) 70 0 (by omega) (by omega)
      have e0 : cn (hP sp rc j b) (sP (kd b) (nt b) w v) 0 = 0 := by
        unfold cn
        by_cases g : hP sp rc j b = true
        · rw [if_pos g]; omega
        · rw [if_neg g]
      rw [e0, nI_0] at hin
      rw [if_neg (nI_ge (by omega) (by omega)), if_neg (nI_ge (by omega) (by omega)), hin, cheard h1 h2 hb5 hj, b1_s]
      show ∃ h' e' si', h' + e' = n ∧ si' ≤ 4 ^ h' ∧ _ ∧ L_X7_odds_46 mt (nI j) (nI v) kM f (lN (4 ^ h * 4 ^ e) * 4) (lN (si * 4 ^ e) * (nI (cn (hP sp rc j b) (sP (kd b) (nt b) w v) 4)).toInt64) (nI b + 1) = _
      by_cases hp : hP sp rc j b = true
      · have ec : cn (hP sp rc j b) (sP (kd b) (nt b) w v) 4 = 4 - mcN (sP (kd b) (nt b) w v) 4 := if_pos hp
        rw [ec, if_pos hp, if_neg n10, ms_ok h1 h2 hb5 hv, b1_s, nI_1, nI_l (by omega), lN_mul, show (4 : Int64) = lN 4 from rfl, lN_mul, show (4 : Int32) = nI 4 from rfl, pk_sub hle, pk_mul, pk_mul]
        have a1 : 4 ^ h * 4 = 4 ^ (h + 1) := (Nat.pow_succ 4 h).symm
        have a2 : 4 ^ h * 4 ^ e * 4 = 4 ^ (h + 1) * 4 ^ e := by rw [Nat.mul_right_comm, a1]
        have a3 : si * 4 ^ e * (4 - mcN (sP (kd b) (nt b) w v) 4) = si * (4 - mcN (sP (kd b) (nt b) w v) 4) * 4 ^ e := Nat.mul_right_comm _ _ _
        rw [a1, a2, a3]
        exact ih (b + 1) (h + 1) e _ (by omega) (by omega) (by omega) (by rw [← a1]; exact Nat.mul_le_mul hsi (by omega))
      · have ec : cn (hP sp rc j b) (sP (kd b) (nt b) w v) 4 = 4 := if_neg hp
        rw [ec, if_neg hp, if_pos rfl, nI_1, nI_l (by decide), show (4 : Int64) = lN 4 from rfl, lN_mul, lN_mul, Nat.mul_assoc, Nat.mul_assoc, ← Nat.pow_succ]
        exact ih (b + 1) h (e + 1) si (by omega) (by omega) (by omega) hsi
theorem ok_odds {st mt : St} (h : Rel st mt) (x1 x2 x3 : Int32) : ∃ (r : Int64), F_X6_odds st x1 x2 x3 = some r ∧ F_X7_odds mt x1 x2 x3 = some r ∧ Rel st mt := by
  obtain ⟨n, w, rc, kd, nt, sp, md, rn, rb, rm, rs, h1, h2, h3, h4, h5, h6, h7, h8, h9⟩ := id h
  have hn5 := h1.1
  unfold F_X6_odds F_X7_odds
  rcases rng x1 10 (by decide) with ⟨j, hj, rfl⟩ | ho
  · rw [show F_X6_isBelow st (nI j) 10 = some 1 from bel_in st hj (by decide), dig_in mt hj, b1_s, b1_s, if_neg n10, if_neg n10]
    rcases rng x2 20 (by decide) with ⟨v, hv, rfl⟩ | hv
    · rw [show F_X6_isBelow st (nI v) 20 = some 1 from bel_in st hv (by decide), show F_X7_within mt (nI v) 0 19 = some 1 from wit_in mt (m := 19) hv (by decide), b1_s, b1_s, if_neg n10, if_neg n10]
      rcases rng x3 2 (by decide) with ⟨x, hx, rfl⟩ | hx
      · rw [show F_X6_isBelow st (nI x) 2 = some 1 from bel_in st hx (by decide), show F_X7_within mt (nI x) 0 1 = some 1 from wit_in mt (m := 1) hx (by decide), b1_s, b1_s, if_neg n10, if_neg n10]
        by_cases h0 : n = 0
        · subst h0
          rw [none_0 h2.1, h3.1, nI_0]
          exact ⟨_, rfl, rfl, h⟩
        · rw [none_p h2.1 (by omega) hn5, if_neg (show ¬ gI mt 5 = 0 by rw [h3.1]; exact nI_ne0 (by omega) (by omega)), b1_s, if_pos rfl]
          obtain ⟨hh, e, si, q1, q2, q3, q4⟩ := oo_loop h1 h2 h3 hj hv (fun y4 y5 _ => L_X6_odds_114 (fun a b => if nI x = 0 then some b.toInt64 else some a.toInt64) 70 y4 (y4 - y5)) (fun y4 y6 _ => b1 (F_X7_inLeastTerms mt (y4 - y6) y4 (nI x)) (fun v => some v)) 70 0 0 0 1 (by omega) (by omega) (by omega) (by decide)
          have c1 : L_X6_odds_53 st (nI j) (nI v) (fun y4 y5 _ => L_X6_odds_114 (fun a b => if nI x = 0 then some b.toInt64 else some a.toInt64) 70 y4 (y4 - y5)) 70 1 1 0 = odC x hh (4 ^ hh - si) := by
            refine Eq.trans q3 ?_
            unfold odC
            rw [pk_sub q2]
          have c2 : L_X7_odds_46 mt (nI j) (nI v) (fun y4 y6 _ => b1 (F_X7_inLeastTerms mt (y4 - y6) y4 (nI x)) (fun v => some v)) 70 1 1 0 = b1 (odM x hh e (4 ^ hh - si)) (fun v => some v) := by
            refine Eq.trans q4 ?_
            unfold F_X7_inLeastTerms odM
            rw [lN_sub (Nat.mul_le_mul_right _ q2), ← Nat.sub_mul]
          obtain ⟨t1, r, t2⟩ := od_ok (x := x) (h := hh) (e := e) (u := 4 ^ hh - si) hx (by omega) (by omega)
          refine ⟨r, c1.trans t2, ?_, h⟩
          refine c2.trans ?_
          rw [← t1, t2]
          rfl
      · rw [show F_X6_isBelow st x3 2 = some 0 from bel_out st hx, show F_X7_within mt x3 0 1 = some 0 from wit_out mt (m := 1) (by decide) hx]
        exact ⟨_, rfl, rfl, h⟩
    · rw [show F_X6_isBelow st x2 20 = some 0 from bel_out st hv, show F_X7_within mt x2 0 19 = some 0 from wit_out mt (m := 19) (by decide) hv]
      exact ⟨_, rfl, rfl, h⟩
  · rw [show F_X6_isBelow st x1 10 = some 0 from bel_out st ho, dig_out mt ho]
    exact ⟨_, rfl, rfl, h⟩
