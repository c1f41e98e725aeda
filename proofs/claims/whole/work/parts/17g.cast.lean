/-! casts -/
def ss (k a w : Nat) : Nat → Nat
  | 0 => 0
  | m + 1 => ss k a w m ||| 2 ^ snd k a m w
theorem ss_loop (st : St) {w : Nat} (hw : gI st 3 = nI w) (hw3 : w < 3) {k a : Nat} (hk : k < 3) (ha : a < 10) (kk : Int32 → Int32 → Option Int32) :
    ∀ f m, m ≤ 4 → 4 < m + f → L_X1_soundSet_5 st (nI k) (nI a) kk f (nI (ss k a w m)) (nI m) = kk (nI (ss k a w 4)) (nI 4) := by
  intro f
  induction f with
  | zero => intro m h1 h2; omega
  | succ f ih =>
    intro m h1 h2
    rw [L_X1_soundSet_5_s]
    by_cases c : m = 4
    · subst c; rw [if_pos (by decide)]
    · have hs := snd_lt _ hk _ ha m (by omega) _ hw3
      rw [if_neg (show ¬ (4 : Int32) ≤ nI m from nI_ge (b := 4) (by omega) (by decide)), hw, soundOf_ok st hk ha (by omega) hw3, b1_s, orb _ (by omega), nI_1]
      exact ih (m + 1) (by omega) (by omega)
theorem ss_ok (st : St) {w : Nat} (hw : gI st 3 = nI w) (hw3 : w < 3) {k a : Nat} (hk : k < 3) (ha : a < 10) : F_X1_soundSet st (nI k) (nI a) = some (nI (ss k a w 4)) := by
  unfold F_X1_soundSet
  exact ss_loop st hw hw3 hk ha (fun y _ => some y) 70 0 (by omega) (by omega)
theorem or_lt15 {a b : Nat} (ha : a < 2 ^ 15) (hb : b < 2 ^ 15) : a ||| b < 2 ^ 15 := Nat.or_lt_two_pow ha hb
theorem ss_lt {k a w : Nat} (hk : k < 3) (ha : a < 10) (hw : w < 3) : ∀ m, m ≤ 4 → ss k a w m < 2 ^ 15 := by
  intro m
  induction m with
  | zero => intro _; exact (by decide : 0 < 2 ^ 15)
  | succ m ih =>
    intro h
    exact or_lt15 (ih (by omega)) (Nat.pow_lt_pow_right (by decide) (snd_lt _ hk _ ha m (by omega) _ hw))
def ot (kd nt : Nat → Nat) (w b : Nat) : Nat → Nat
  | 0 => 0
  | q + 1 => if q = b then ot kd nt w b q else ot kd nt w b q ||| ss (kd q) (nt q) w 4
theorem ot_lt {n w rc : Nat} {kd nt sp md : Nat → Nat} (h1 : Hd n w rc kd nt sp md) (b : Nat) : ∀ q, q ≤ 5 → ot kd nt w b q < 2 ^ 15 := by
  intro q
  induction q with
  | zero => intro _; exact (by decide : 0 < 2 ^ 15)
  | succ q ih =>
    intro h
    obtain ⟨d1, d2, d3, d4⟩ := h1.2.2.2 q (by omega)
    show (if q = b then ot kd nt w b q else ot kd nt w b q ||| ss (kd q) (nt q) w 4) < 2 ^ 15
    by_cases c : q = b
    · rw [if_pos c]; exact ih (by omega)
    · rw [if_neg c]; exact or_lt15 (ih (by omega)) (ss_lt d1 d2 h1.2.1 4 (by omega))
theorem ot_loop {st : St} {n w rc : Nat} {kd nt sp md : Nat → Nat} (h1 : Hd n w rc kd nt sp md) (h2 : CG st n w rc kd nt sp md) {b : Nat} (hb : b < 5) (kk : Int32 → Int32 → Option Int32) :
    ∀ f q, q ≤ n → n < q + f → L_X6_cast_17 st (nI b) kk f (nI (ot kd nt w b q)) (nI q) = kk (nI (ot kd nt w b n)) (nI n) := by
  have hn5 := h1.1
  intro f
  induction f with
  | zero => intro q h1 h2; omega
  | succ f ih =>
    intro q hq1 hq2
    rw [L_X6_cast_17_s, h2.1]
    by_cases c : q = n
    · subst c; rw [if_pos (nI_le (Nat.le_refl _) (by omega))]
    · obtain ⟨a1, a2, a3, a4⟩ := h2.2.2.2 q (by omega)
      obtain ⟨d1, d2, d3, d4⟩ := h1.2.2.2 q (by omega)
      rw [if_neg (nI_ge (by omega) (by omega)), nI_1]
      by_cases d : q = b
      · rw [if_pos (by rw [d]), ← show ot kd nt w b (q + 1) = ot kd nt w b q from if_pos d]
        exact ih (q + 1) (by omega) (by omega)
      · rw [if_neg (fun z => d ((nI_eq (by omega) (by omega)).mp z)), ck_nI (by omega) (by decide), ck_nI (by omega) (by decide), gA_nI _ _ (by omega), gA_nI _ _ (by omega), a1, a2, ss_ok st h2.2.1 h1.2.1 d1 d2, b1_s, nI_or, ← show ot kd nt w b (q + 1) = ot kd nt w b q ||| ss (kd q) (nt q) w 4 from if_neg d]
        exact ih (q + 1) (by omega) (by omega)
def aB (kd nt : Nat → Nat) (w b n v : Nat) : Bool := decide (ss (kd b) v w 4 &&& ot kd nt w b n = 0)
def lmk (P : Nat → Bool) : Nat → Int32
  | 0 => -9
  | k + 1 => if P (10 - (k + 1)) = true then nI (10 - (k + 1)) else lmk P k
theorem c6_loop {st : St} {n w rc : Nat} {kd nt sp md : Nat → Nat} (h1 : Hd n w rc kd nt sp md) (h2 : CG st n w rc kd nt sp md) {b : Nat} (hb : b < 5) :
    ∀ f v, v ≤ 10 → 10 < v + f → L_X6_cast_69 st (nI b) (nI (ot kd nt w b n)) (fun _ => some (-9)) f (nI v) = some (lmk (aB kd nt w b n) (10 - v)) := by
  have hn5 := h1.1
  obtain ⟨a1, a2, a3, a4⟩ := h2.2.2.2 b hb
  obtain ⟨d1, d2, d3, d4⟩ := h1.2.2.2 b hb
  intro f
  induction f with
  | zero => intro q h1 h2; omega
  | succ f ih =>
    intro v hv1 hv2
    rw [L_X6_cast_69_s]
    by_cases c : v = 10
    · subst c; rw [if_pos (by decide)]; rfl
    · have hv : v < 10 := by omega
      have h15 : (ss (kd b) v w 4 &&& ot kd nt w b n) < 2 ^ 15 := Nat.lt_of_le_of_lt Nat.and_le_left (ss_lt d1 hv h1.2.1 4 (by omega))
      rw [if_neg (show ¬ (10 : Int32) ≤ nI v from nI_ge (b := 10) hv (by decide)), ck_nI hb (by decide), gA_nI _ _ (by omega), a1, ss_ok st h2.2.1 h1.2.1 d1 hv, b1_s, nI_and, nI_1, show 10 - v = (10 - (v + 1)) + 1 by omega]
      show _ = some (if aB kd nt w b n (10 - (10 - (v + 1) + 1)) = true then nI (10 - (10 - (v + 1) + 1)) else lmk (aB kd nt w b n) (10 - (v + 1)))
      rw [show 10 - (10 - (v + 1) + 1) = v by omega]
      by_cases g : ss (kd b) v w 4 &&& ot kd nt w b n = 0
      · rw [if_pos (by rw [g]; rfl), if_pos (show aB kd nt w b n v = true from decide_eq_true g)]
      · rw [if_neg (nI_ne0 (by omega) (by omega)), if_neg (show ¬ aB kd nt w b n v = true from fun z => g (of_decide_eq_true z))]
        exact ih (v + 1) (by omega) (by omega)
/-! the reference -/
theorem bitq : ∀ k, k < 3 → ∀ a, a < 10 → ∀ w, w < 3 → ∀ t, t < 15 → ((2 ^ t &&& ss k a w 4 = 0) ↔ mcN (sP k a w t) 4 = 0) := by decide +kernel
theorem and_mono {a b c : Nat} (h : ¬ a &&& c = 0) : ¬ (a ||| b) &&& c = 0 := fun z => by
  rw [Nat.and_or_distrib_right] at z
  exact h (Nat.or_eq_zero_iff.mp z).1
theorem ss_mono {k a w c : Nat} : ∀ {i j : Nat}, i ≤ j → ¬ ss k a w i &&& c = 0 → ¬ ss k a w j &&& c = 0 := by
  intro i j h hf
  induction h with
  | refl => exact hf
  | step _ ih => exact and_mono ih
theorem ia_loop {z : St} {n w rc : Nat} {kd nt sp md : Nat → Nat} (h1 : Hd n w rc kd nt sp md) (h3 : MG z n w rc kd nt sp md) {b q : Nat} (hb : b < 5) (hq : q < 5) (hne : ¬ q = b) (kk : Int32 → Option Int32) :
    ∀ f m, m ≤ 4 → 4 < m + f → (ss (kd b) (nt b) w m &&& ss (kd q) (nt q) w 4 = 0) → L_X7_isAlone_12 z (nI b) (nI q) kk f (nI m) = if ss (kd b) (nt b) w 4 &&& ss (kd q) (nt q) w 4 = 0 then kk (nI 4) else some 0 := by
  obtain ⟨d1, d2, d3, d4⟩ := h1.2.2.2 b hb
  obtain ⟨e1, e2, e3, e4⟩ := h1.2.2.2 q hq
  intro f
  induction f with
  | zero => intro m h1 h2; omega
  | succ f ih =>
    intro m hm1 hm2 hz
    rw [L_X7_isAlone_12_s]
    by_cases c : m = 4
    · subst c; rw [if_pos (by decide), if_pos hz]
    · have hs := snd_lt _ d1 _ d2 m (by omega) _ h1.2.1
      rw [if_neg (show ¬ (4 : Int32) ≤ nI m from nI_ge (b := 4) (by omega) (by decide)), if_neg (fun z => hne ((nI_eq (by omega) (by omega)).mp z)), msound h1 h3 hb (by omega), b1_s, cs_ok h1 h3 hq (by omega), b1_s, nI_1]
      by_cases g : mcN (sP (kd q) (nt q) w (snd (kd b) (nt b) m w)) 4 = 0
      · rw [if_pos g, if_pos rfl]
        refine ih (m + 1) (by omega) (by omega) ?_
        show (ss (kd b) (nt b) w m ||| 2 ^ snd (kd b) (nt b) m w) &&& ss (kd q) (nt q) w 4 = 0
        rw [Nat.and_or_distrib_right, hz, (bitq _ e1 _ e2 _ h1.2.1 _ hs).mpr g]
        rfl
      · have hx : ¬ ss (kd b) (nt b) w (m + 1) &&& ss (kd q) (nt q) w 4 = 0 := fun z => by
          have z2 : (ss (kd b) (nt b) w m ||| 2 ^ snd (kd b) (nt b) m w) &&& ss (kd q) (nt q) w 4 = 0 := z
          rw [Nat.and_or_distrib_right] at z2
          exact g ((bitq _ e1 _ e2 _ h1.2.1 _ hs).mp (Nat.or_eq_zero_iff.mp z2).2)
        rw [if_neg g, if_neg n10, if_neg (ss_mono (show m + 1 ≤ 4 by omega) hx)]
theorem ib_loop {z : St} {b : Nat} (kk : Int32 → Option Int32) : ∀ f m, m ≤ 4 → 4 < m + f → L_X7_isAlone_12 z (nI b) (nI b) kk f (nI m) = kk (nI 4) := by
  intro f
  induction f with
  | zero => intro m h1 h2; omega
  | succ f ih =>
    intro m hm1 hm2
    rw [L_X7_isAlone_12_s]
    by_cases c : m = 4
    · subst c; rw [if_pos (by decide)]
    · rw [if_neg (show ¬ (4 : Int32) ≤ nI m from nI_ge (b := 4) (by omega) (by decide)), if_pos rfl, nI_1]
      exact ih (m + 1) (by omega) (by omega)
theorem ot_mono {kd nt : Nat → Nat} {w b c : Nat} : ∀ {i j : Nat}, i ≤ j → ¬ c &&& ot kd nt w b i = 0 → ¬ c &&& ot kd nt w b j = 0 := by
  intro i j h hf
  induction h with
  | refl => exact hf
  | step _ ih =>
    rename_i m _
    show ¬ c &&& (if m = b then ot kd nt w b m else ot kd nt w b m ||| ss (kd m) (nt m) w 4) = 0
    by_cases e : m = b
    · rw [if_pos e]; exact ih
    · rw [if_neg e, Nat.and_or_distrib_left]
      exact fun z => ih (Nat.or_eq_zero_iff.mp z).1
theorem ic_loop {z : St} {n w rc : Nat} {kd nt sp md : Nat → Nat} (h1 : Hd n w rc kd nt sp md) (h3 : MG z n w rc kd nt sp md) {b : Nat} (hb : b < 5) :
    ∀ f q, q ≤ n → n < q + f → (ss (kd b) (nt b) w 4 &&& ot kd nt w b q = 0) → L_X7_isAlone_2 z (nI b) (fun _ => some 1) f (nI q) = some (if ss (kd b) (nt b) w 4 &&& ot kd nt w b n = 0 then 1 else 0) := by
  have hn5 := h1.1
  intro f
  induction f with
  | zero => intro q h1 h2; omega
  | succ f ih =>
    intro q hq1 hq2 hz
    rw [L_X7_isAlone_2_s, h3.1]
    by_cases c : q = n
    · subst c; rw [if_pos (nI_le (Nat.le_refl _) (by omega)), if_pos hz]
    · rw [if_neg (nI_ge (by omega) (by omega)), nI_1]
      by_cases d : q = b
      · subst d
        have t := ib_loop (z := z) (b := q) (fun _ => L_X7_isAlone_2 z (nI q) (fun _ => some 1) f (nI (q + 1))) 70 0 (by omega) (by omega)
        rw [nI_0] at t
        refine t.trans (ih (q + 1) (by omega) (by omega) ?_)
        show ss (kd q) (nt q) w 4 &&& (if q = q then ot kd nt w q q else ot kd nt w q q ||| ss (kd q) (nt q) w 4) = 0
        rw [if_pos rfl]
        exact hz
      · have t := ia_loop h1 h3 hb (show q < 5 by omega) d (fun _ => L_X7_isAlone_2 z (nI b) (fun _ => some 1) f (nI (q + 1))) 70 0 (by omega) (by omega) (by rw [show ss (kd b) (nt b) w 0 = 0 from rfl, Nat.zero_and])
        rw [nI_0] at t
        refine t.trans ?_
        have eo : ot kd nt w b (q + 1) = ot kd nt w b q ||| ss (kd q) (nt q) w 4 := if_neg d
        by_cases g : ss (kd b) (nt b) w 4 &&& ss (kd q) (nt q) w 4 = 0
        · rw [if_pos g]
          refine ih (q + 1) (by omega) (by omega) ?_
          rw [eo, Nat.and_or_distrib_left, hz, g]
          rfl
        · have hx : ¬ ss (kd b) (nt b) w 4 &&& ot kd nt w b (q + 1) = 0 := fun z => by
            rw [eo, Nat.and_or_distrib_left] at z
            exact g (Nat.or_eq_zero_iff.mp z).2
          rw [if_neg g, if_neg (ot_mono (show q + 1 ≤ n by omega) hx)]
theorem ial_ok {z : St} {n w rc : Nat} {kd nt sp md : Nat → Nat} (h1 : Hd n w rc kd nt sp md) (h3 : MG z n w rc kd nt sp md) {b : Nat} (hb : b < 5) : F_X7_isAlone z (nI b) = some (if ss (kd b) (nt b) w 4 &&& ot kd nt w b n = 0 then 1 else 0) := by
  unfold F_X7_isAlone
  exact ic_loop h1 h3 hb 70 0 (by omega) (by have := h1.1; omega) (by rw [show ot kd nt w b 0 = 0 from rfl, Nat.and_zero])
theorem ot_note {kd nt : Nat → Nat} {w b v : Nat} : ∀ q, ot kd (fun x => if x = b then v else nt x) w b q = ot kd nt w b q := by
  intro q
  induction q with
  | zero => rfl
  | succ q ih =>
    show (if q = b then ot kd (fun x => if x = b then v else nt x) w b q else ot kd (fun x => if x = b then v else nt x) w b q ||| ss (kd q) (if q = b then v else nt q) w 4) = (if q = b then ot kd nt w b q else ot kd nt w b q ||| ss (kd q) (nt q) w 4)
    rw [ih]
    by_cases c : q = b
    · rw [if_pos c, if_pos c]
    · rw [if_neg c, if_neg c, if_neg c]
theorem yv_st {c : Nat} (h : 0 < c) : yv c + (-1) = yv (c - 1) := by
  unfold yv
  rw [if_neg (by omega)]
  by_cases g : c = 1
  · subst g; decide
  · rw [if_neg (by omega), show c - 1 = (c - 1 - 1) + 1 by omega, pk_m1]
    rfl
theorem mc_loop {mt : St} {n w rc : Nat} {kd nt sp md : Nat → Nat} (h1 : Hd n w rc kd nt sp md) (h3 : MG mt n w rc kd nt sp md) {b : Nat} (hb : b < 5) (kk : Int32 → Int32 → St → Option (Int32 × St)) :
    ∀ f c z, c ≤ 10 → c < f → ModA 9 b mt z → ∃ z', L_X7_cast_24 (nI b) kk f (lmk (aB kd nt w b n) (10 - c)) (yv c) z = kk (lmk (aB kd nt w b n) 10) (-1) z' ∧ ModA 9 b mt z' := by
  have hn5 := h1.1
  intro f
  induction f with
  | zero => intro c z h1 h2; omega
  | succ f ih =>
    intro c z hc1 hc2 hz
    rw [L_X7_cast_24_s]
    by_cases e : c = 0
    · subst e
      rw [if_pos (by decide)]
      exact ⟨z, rfl, hz⟩
    · have ey : yv c = nI (c - 1) := if_neg e
      have hv : c - 1 < 10 := by omega
      rw [if_neg (show ¬ yv c < 0 by rw [ey]; exact nI_pos (by omega)), ck_nI hb (by decide), yv_st (by omega), ey, ial_ok (h1.note b hv) (h3.note hz hb (c - 1)) hb, b1_s, ot_note, if_pos rfl]
      have el : lmk (aB kd nt w b n) (10 - (c - 1)) = if aB kd nt w b n (c - 1) = true then nI (c - 1) else lmk (aB kd nt w b n) (10 - c) := by
        rw [show 10 - (c - 1) = (10 - c) + 1 by omega]
        show (if aB kd nt w b n (10 - (10 - c + 1)) = true then nI (10 - (10 - c + 1)) else lmk (aB kd nt w b n) (10 - c)) = _
        rw [show 10 - (10 - c + 1) = c - 1 by omega]
      by_cases g : ss (kd b) (c - 1) w 4 &&& ot kd nt w b n = 0
      · rw [if_pos (show aB kd nt w b n (c - 1) = true from decide_eq_true g)] at el
        rw [if_pos g, if_neg n10, ← el]
        exact ih (c - 1) _ (by omega) (by omega) (hz.set (by omega) _)
      · rw [if_neg (show ¬ aB kd nt w b n (c - 1) = true from fun z => g (of_decide_eq_true z))] at el
        rw [if_neg g, if_pos rfl, ← el]
        exact ih (c - 1) _ (by omega) (by omega) (hz.set (by omega) _)
theorem ok_cast {st mt : St} (h : Rel st mt) (x1 : Int32) : ∃ (r : Int32) (m2 : St), F_X6_cast st x1 = some r ∧ F_X7_cast mt x1 = some (r, m2) ∧ Rel st m2 := by
  obtain ⟨n, w, rc, kd, nt, sp, md, rn, rb, rm, rs, h1, h2, h3, h4, h5, h6, h7, h8, h9⟩ := id h
  have hn5 := h1.1
  unfold F_X6_cast F_X7_cast
  rcases rng x1 n (by omega) with ⟨b, hj, rfl⟩ | ho
  · have hb : b < 5 := by omega
    rw [bell_in h2.1 hn5 hj, mbell_in h3.1 hn5 hj, b1_s, b1_s, if_neg n10, if_neg n10, ck_nI hb (by decide)]
    have t := ot_loop h1 h2 hb (fun y _ => L_X6_cast_69 st (nI b) y (fun _ => some (-9)) 70 0) 70 0 (by omega) (by omega)
    rw [nI_0, show ot kd nt w b 0 = 0 from rfl, nI_0] at t
    have t6 := c6_loop h1 h2 hb 70 0 (by omega) (by omega)
    rw [nI_0] at t6
    obtain ⟨z', u1, u2⟩ := mc_loop h1 h3 hb (fun y _ z => ck (nI b) 5 (some (y, sA z 9 (nI b) (gA mt 9 (nI b))))) 70 10 mt (by omega) (by omega) (ModA.rf _ _ _)
    rw [show lmk (aB kd nt w b n) (10 - 10) = -9 from rfl, show yv 10 = 9 from rfl, ck_nI hb (by decide), gA_nI _ _ (by omega)] at u1
    rw [gA_nI _ _ (by omega)] at *
    exact ⟨_, _, t.trans t6, u1, h.congr (SameC.rf st) (u2.back (by omega))⟩
  · rw [bell_out h2.1 ho, mbell_out h3.1 ho]
    exact ⟨-1, mt, rfl, rfl, h⟩
