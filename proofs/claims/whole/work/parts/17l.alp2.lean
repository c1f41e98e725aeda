/-! ALP: how the model reads a line -/
theorem gA_sI (st : St) (k : Nat) (v : Int32) (a : Nat) (i : Int32) : gA (sI st k v) a i = gA st a i := rfl
theorem gA_sAn (st : St) {a c : Nat} (i v : Int32) (h : c ≠ a) (x : Int32) : gA (sA st a i v) c x = gA st c x := by
  unfold gA
  rw [A_sAn st i v h]
theorem gA_sAs (st : St) (a : Nat) {i : Nat} (v : Int32) (h : i < 2 ^ 31) : gA (sA st a (nI i) v) a (nI i) = v := by
  rw [gA_nI _ _ h, A_sAs st a v h, if_pos rfl]
theorem A_sAo (st : St) (a : Nat) {i : Nat} (v : Int32) (h : i < 2 ^ 31) {q : Nat} (hq : q ≠ i) (c : Nat) : (sA st a (nI i) v).2 c q = st.2 c q := by
  by_cases e : c = a
  · subst e
    rw [A_sAs st c v h, if_neg hq]
  · rw [A_sAn st _ _ e]
theorem pm1 (b : Nat) : nI (b + 1) - 1 = nI b := by
  rw [show (1 : Int32) = nI 1 from rfl, pk_sub (by omega), Nat.add_sub_cancel]
def Cx (mt : St) (T m : Nat) (cl : Nat → Int32) : Prop := T + m ≤ 240 ∧ ∀ p, p < m → mt.2 4 (T + p) = cl p
theorem dgt {mt z : St} {T m p u : Nat} {cl : Nat → Int32} (hx : Cx mt T m cl) (hz : SameM mt z) (ha : gI z 12 = nI (T + p)) (hp : p ≤ m) (hu : u < 10) :
    (p < m ∧ Dg (cl p) (u + 1) ∧ F_X7_digit z (nI (T + m)) (nI u) = some (cl p - 48, sI z 12 (nI (T + (p + 1))))) ∨ (¬ (p < m ∧ Dg (cl p) (u + 1)) ∧ F_X7_digit z (nI (T + m)) (nI u) = some (-9, z)) := by
  have h240 := hx.1
  unfold F_X7_digit
  rw [ha]
  by_cases c : p < m
  · have hc : gA z 4 (nI (T + p)) = cl p := by rw [gA_nI _ _ (by omega), hz.2 4 (by decide), hx.2 p c]
    rw [if_neg (nI_ge (by omega) (by omega)), ck_nI (show T + p < 240 by omega) (by decide), hc]
    rcases dg_m z hu (cl p) with ⟨d, e⟩ | ⟨d, e⟩
    · refine Or.inl ⟨c, d, ?_⟩
      rw [e, b1_s, if_neg n10, gI_sIs, nI_1, pm1, ck_nI (show T + p < 240 by omega) (by decide), gA_sI, hc]
      rfl
    · refine Or.inr ⟨fun a => d a.2, ?_⟩
      rw [e, b1_s, if_pos rfl]
  · refine Or.inr ⟨fun a => c a.1, ?_⟩
    rw [if_pos (nI_le (by omega) (by omega))]
theorem sgn {mt z : St} {T m p : Nat} {cl : Nat → Int32} (hx : Cx mt T m cl) (hz : SameM mt z) (ha : gI z 12 = nI (T + p)) (hp : p ≤ m) (x : Int32) :
    (p < m ∧ cl p = x ∧ F_X7_isSign z (nI (T + m)) x = some (1, sI z 12 (nI (T + (p + 1))))) ∨ (¬ (p < m ∧ cl p = x) ∧ F_X7_isSign z (nI (T + m)) x = some (0, z)) := by
  have h240 := hx.1
  unfold F_X7_isSign
  rw [ha]
  by_cases c : p < m
  · have hc : gA z 4 (nI (T + p)) = cl p := by rw [gA_nI _ _ (by omega), hz.2 4 (by decide), hx.2 p c]
    rw [if_neg (nI_ge (by omega) (by omega)), ck_nI (show T + p < 240 by omega) (by decide), hc]
    by_cases d : cl p = x
    · refine Or.inl ⟨c, d, ?_⟩
      rw [if_pos d, nI_1]
      rfl
    · refine Or.inr ⟨fun a => d a.2, ?_⟩
      rw [if_neg d]
  · refine Or.inr ⟨fun a => c a.1, ?_⟩
    rw [if_pos (nI_le (by omega) (by omega))]
def RBm (s : St) (x1 : Int32) : Option (Int32 × St) := b2 (F_X7_digit s x1 3) (fun v s' => ck (gI s 15) 5 (ck ((gI (sI (sA s' 19 (gI s 15) v) 15 ((gI (sA s' 19 (gI s 15) v) 15) + 1)) 15) - 1) 5 (if (gA (sI (sA s' 19 (gI s 15) v) 15 ((gI (sA s' 19 (gI s 15) v) 15) + 1)) 19 ((gI (sI (sA s' 19 (gI s 15) v) 15 ((gI (sA s' 19 (gI s 15) v) 15) + 1)) 15) - 1)) = (-9) then some (0, sI (sA s' 19 (gI s 15) v) 15 ((gI (sA s' 19 (gI s 15) v) 15) + 1)) else some (1, sI (sA s' 19 (gI s 15) v) 15 ((gI (sA s' 19 (gI s 15) v) 15) + 1)))))
def RBs (s : St) (x1 : Int32) : Option (Int32 × St) := b2 (F_X7_digit s x1 9) (fun v s' => ck (gI s 15) 5 (ck (gI (sA s' 18 (gI s 15) v) 15) 5 (if (gA (sA s' 18 (gI s 15) v) 18 (gI (sA s' 18 (gI s 15) v) 15)) = (-9) then some (0, sA s' 18 (gI s 15) v) else RBm (sA s' 18 (gI s 15) v) x1)))
def RBn (s : St) (x1 : Int32) : Option (Int32 × St) := b2 (F_X7_digit s x1 9) (fun v s' => ck (gI s 15) 5 (ck (gI (sA s' 17 (gI s 15) v) 15) 5 (if (gA (sA s' 17 (gI s 15) v) 17 (gI (sA s' 17 (gI s 15) v) 15)) = (-9) then some (0, sA s' 17 (gI s 15) v) else RBs (sA s' 17 (gI s 15) v) x1)))
def RBk (s : St) (x1 v : Int32) : Option (Int32 × St) := ck (gI s 15) 5 (ck (gI (sA s 16 (gI s 15) v) 15) 5 (if (gA (sA s 16 (gI s 15) v) 16 (gI (sA s 16 (gI s 15) v) 15)) = (-9) then some (0, sA s 16 (gI s 15) v) else RBn (sI (sA s 16 (gI s 15) v) 12 ((gI (sA s 16 (gI s 15) v) 12) + 1)) x1))
theorem readBell_eq (st : St) (x1 : Int32) : F_X7_readBell st x1 = if x1 ≤ (gI st 12) then RBk st x1 (-9) else ck (gI st 12) 240 (if (gA st 4 (gI st 12)) = 112 then RBk st x1 0 else if (gA st 4 (gI st 12)) = 107 then RBk st x1 1 else if (gA st 4 (gI st 12)) = 104 then RBk st x1 2 else RBk st x1 (-9)) := by
  unfold F_X7_readBell RBk RBn RBs RBm
  rfl
def IV (mt : St) (T m : Nat) (cl : Nat → Int32) (w rc : Int32) (b p : Nat) (z : St) : Prop := SameM mt z ∧ gI z 12 = nI (T + p) ∧ gI z 15 = nI b ∧ gI z 13 = w ∧ gI z 14 = rc ∧ p ≤ m ∧ (∀ r, r < p → Fit r (cl r)) ∧ ∀ q, q < b → z.2 16 q = KV (cl (4 + 5 * q)) ∧ z.2 17 q = cl (5 + 5 * q) - 48 ∧ z.2 18 q = cl (6 + 5 * q) - 48 ∧ z.2 19 q = cl (7 + 5 * q) - 48
def NO (mt : St) (T m : Nat) (cl : Nat → Int32) (o : Option (Int32 × St)) : Prop := ∃ q s, Bad m cl q ∧ SameM mt s ∧ gI s 12 = nI (T + q) ∧ o = some (0, s)
theorem IV.fit {mt z : St} {T m : Nat} {cl : Nat → Int32} {w rc : Int32} {b p : Nat} (h : IV mt T m cl w rc b p z) (hp : p < m) (hf : Fit p (cl p)) : IV mt T m cl w rc b (p + 1) (sI z 12 (nI (T + (p + 1)))) := by
  obtain ⟨i1, i2, i3, i4, i5, i6, i7, i8⟩ := h
  refine ⟨i1.tr (SameM.i 12 _ (by decide)), gI_sIs _ _ _, i3, i4, i5, hp, fun r hr => ?_, i8⟩
  by_cases e : r = p
  · rw [e]; exact hf
  · exact i7 r (by omega)
theorem IV.row {mt z : St} {T m : Nat} {cl : Nat → Int32} {w rc : Int32} {b p : Nat} (h : IV mt T m cl w rc b p z) (hb : b < 5) {a : Nat} (ha : 16 ≤ a ∧ a < 24) (v : Int32) : IV mt T m cl w rc b p (sA z a (nI b) v) := by
  obtain ⟨i1, i2, i3, i4, i5, i6, i7, i8⟩ := h
  refine ⟨i1.tr (SameM.a a _ _ ha), i2, i3, i4, i5, i6, i7, fun q hq => ?_⟩
  rw [A_sAo z a v (by omega) (by omega), A_sAo z a v (by omega) (by omega), A_sAo z a v (by omega) (by omega), A_sAo z a v (by omega) (by omega)]
  exact i8 q hq
theorem IV.bad {mt z : St} {T m : Nat} {cl : Nat → Int32} {w rc : Int32} {b p : Nat} (h : IV mt T m cl w rc b p z) (h1 : p < m → ¬ Fit p (cl p)) (h2 : p = m → m ≤ 3 ∨ ¬ (m - 3) % 5 = 0) : NO mt T m cl (some (0, z)) := ⟨p, z, ⟨h.2.2.2.2.2.1, h.2.2.2.2.2.2.1, h1, h2⟩, h.1, h.2.1, rfl⟩
theorem rbm {mt z : St} {T m : Nat} {cl : Nat → Int32} {w rc : Int32} {b : Nat} (hx : Cx mt T m cl) (hb : b < 5) (h : IV mt T m cl w rc b (7 + 5 * b) z) (r1 : z.2 16 b = KV (cl (4 + 5 * b))) (r2 : z.2 17 b = cl (5 + 5 * b) - 48) (r3 : z.2 18 b = cl (6 + 5 * b) - 48) :
    NO mt T m cl (RBm z (nI (T + m))) ∨ ∃ s, IV mt T m cl w rc (b + 1) (8 + 5 * b) s ∧ RBm z (nI (T + m)) = some (1, s) := by
  obtain ⟨i1, i2, i3, i4, i5, i6, i7, i8⟩ := id h
  unfold RBm
  rw [i3]
  rcases dgt hx i1 i2 i6 (u := 3) (by decide) with ⟨d1, d2, e⟩ | ⟨d, e⟩
  · right
    have hg := (h.fit d1 (by rw [fit_7 hb]; exact d2)).row hb (a := 19) (by decide) (cl (7 + 5 * b) - 48)
    have k1 : gI (sI z 12 (nI (T + (7 + 5 * b + 1)))) 15 = nI b := i3
    rw [show F_X7_digit z (nI (T + m)) 3 = _ from e, b2_s, gI_sA, k1, nI_1, gI_sIs, pm1, ck_nI hb (by decide), ck_nI hb (by decide), gA_sI, gA_sAs _ _ _ (by omega), if_neg (d2.n9 (by decide))]
    refine ⟨_, ?_, rfl⟩
    obtain ⟨j1, j2, j3, j4, j5, j6, j7, j8⟩ := hg
    refine ⟨j1.tr (SameM.i 15 _ (by decide)), ?_, gI_sIs _ _ _, j4, j5, by omega, fun r hr => j7 r (by omega), fun q hq => ?_⟩
    · rw [gI_sIn _ _ (by decide), j2]
      exact congrArg nI (by omega)
    · by_cases g : q = b
      · subst g
        rw [A_sI]
        refine ⟨?_, ?_, ?_, ?_⟩
        · rw [A_sAn _ _ _ (by decide), A_sI, r1]
        · rw [A_sAn _ _ _ (by decide), A_sI, r2]
        · rw [A_sAn _ _ _ (by decide), A_sI, r3]
        · rw [A_sAs _ _ _ (by omega), if_pos rfl]
      · exact j8 q (by omega)
  · left
    have hg := h.row hb (a := 19) (by decide) (-9)
    rw [show F_X7_digit z (nI (T + m)) 3 = _ from e, b2_s, gI_sA, i3, nI_1, gI_sIs, pm1, ck_nI hb (by decide), ck_nI hb (by decide), gA_sI, gA_sAs _ _ _ (by omega), if_pos rfl]
    refine ⟨7 + 5 * b, _, ⟨i6, i7, fun a f => d ⟨a, ?_⟩, fun a => Or.inr (by omega)⟩, hg.1.tr (SameM.i 15 _ (by decide)), ?_, rfl⟩
    · rw [fit_7 hb] at f; exact f
    · rw [gI_sIn _ _ (by decide), gI_sA, i2]
theorem rbs {mt z : St} {T m : Nat} {cl : Nat → Int32} {w rc : Int32} {b : Nat} (hx : Cx mt T m cl) (hb : b < 5) (h : IV mt T m cl w rc b (6 + 5 * b) z) (r1 : z.2 16 b = KV (cl (4 + 5 * b))) (r2 : z.2 17 b = cl (5 + 5 * b) - 48) :
    NO mt T m cl (RBs z (nI (T + m))) ∨ ∃ s, IV mt T m cl w rc (b + 1) (8 + 5 * b) s ∧ RBs z (nI (T + m)) = some (1, s) := by
  obtain ⟨i1, i2, i3, i4, i5, i6, i7, i8⟩ := id h
  unfold RBs
  rw [i3]
  rcases dgt hx i1 i2 i6 (u := 9) (by decide) with ⟨d1, d2, e⟩ | ⟨d, e⟩
  · have hg := (h.fit d1 (by rw [fit_6 hb]; exact d2)).row hb (a := 18) (by decide) (cl (6 + 5 * b) - 48)
    have k1 : gI (sI z 12 (nI (T + (6 + 5 * b + 1)))) 15 = nI b := i3
    rw [show F_X7_digit z (nI (T + m)) 9 = _ from e, b2_s, gI_sA, k1, ck_nI hb (by decide), ck_nI hb (by decide), gA_sAs _ _ _ (by omega), if_neg (d2.n9 (by decide))]
    rw [show 6 + 5 * b + 1 = 7 + 5 * b by omega] at hg ⊢
    refine rbm hx hb hg ?_ ?_ ?_
    · rw [A_sAn _ _ _ (by decide), A_sI, r1]
    · rw [A_sAn _ _ _ (by decide), A_sI, r2]
    · rw [A_sAs _ _ _ (by omega), if_pos rfl]
  · left
    have hg := h.row hb (a := 18) (by decide) (-9)
    rw [show F_X7_digit z (nI (T + m)) 9 = _ from e, b2_s, gI_sA, i3, ck_nI hb (by decide), ck_nI hb (by decide), gA_sAs _ _ _ (by omega), if_pos rfl]
    refine hg.bad (fun a f => d ⟨a, ?_⟩) (fun a => Or.inr (by omega))
    rw [fit_6 hb] at f; exact f
theorem rbn {mt z : St} {T m : Nat} {cl : Nat → Int32} {w rc : Int32} {b : Nat} (hx : Cx mt T m cl) (hb : b < 5) (h : IV mt T m cl w rc b (5 + 5 * b) z) (r1 : z.2 16 b = KV (cl (4 + 5 * b))) :
    NO mt T m cl (RBn z (nI (T + m))) ∨ ∃ s, IV mt T m cl w rc (b + 1) (8 + 5 * b) s ∧ RBn z (nI (T + m)) = some (1, s) := by
  obtain ⟨i1, i2, i3, i4, i5, i6, i7, i8⟩ := id h
  unfold RBn
  rw [i3]
  rcases dgt hx i1 i2 i6 (u := 9) (by decide) with ⟨d1, d2, e⟩ | ⟨d, e⟩
  · have hg := (h.fit d1 (by rw [fit_5 hb]; exact d2)).row hb (a := 17) (by decide) (cl (5 + 5 * b) - 48)
    have k1 : gI (sI z 12 (nI (T + (5 + 5 * b + 1)))) 15 = nI b := i3
    rw [show F_X7_digit z (nI (T + m)) 9 = _ from e, b2_s, gI_sA, k1, ck_nI hb (by decide), ck_nI hb (by decide), gA_sAs _ _ _ (by omega), if_neg (d2.n9 (by decide))]
    rw [show 5 + 5 * b + 1 = 6 + 5 * b by omega] at hg ⊢
    refine rbs hx hb hg ?_ ?_
    · rw [A_sAn _ _ _ (by decide), A_sI, r1]
    · rw [A_sAs _ _ _ (by omega), if_pos rfl]
  · left
    have hg := h.row hb (a := 17) (by decide) (-9)
    rw [show F_X7_digit z (nI (T + m)) 9 = _ from e, b2_s, gI_sA, i3, ck_nI hb (by decide), ck_nI hb (by decide), gA_sAs _ _ _ (by omega), if_pos rfl]
    refine hg.bad (fun a f => d ⟨a, ?_⟩) (fun a => Or.inr (by omega))
    rw [fit_5 hb] at f; exact f
theorem rbk {mt z : St} {T m : Nat} {cl : Nat → Int32} {w rc : Int32} {b : Nat} (hx : Cx mt T m cl) (hb : b < 5) (h : IV mt T m cl w rc b (4 + 5 * b) z) :
    NO mt T m cl (F_X7_readBell z (nI (T + m))) ∨ ∃ s, IV mt T m cl w rc (b + 1) (8 + 5 * b) s ∧ F_X7_readBell z (nI (T + m)) = some (1, s) := by
  obtain ⟨i1, i2, i3, i4, i5, i6, i7, i8⟩ := id h
  have h240 := hx.1
  have h9 : RBk z (nI (T + m)) (-9) = some (0, sA z 16 (nI b) (-9)) := by
    unfold RBk
    rw [i3, gI_sA, i3, ck_nI hb (by decide), ck_nI hb (by decide), gA_sAs _ _ _ (by omega), if_pos rfl]
  have hg := h.row hb (a := 16) (by decide) (-9)
  rw [readBell_eq, i2]
  by_cases c : 4 + 5 * b < m
  · have hc : gA z 4 (nI (T + (4 + 5 * b))) = cl (4 + 5 * b) := by rw [gA_nI _ _ (by omega), i1.2 4 (by decide), hx.2 _ c]
    have hk : (if cl (4 + 5 * b) = 112 then RBk z (nI (T + m)) 0 else if cl (4 + 5 * b) = 107 then RBk z (nI (T + m)) 1 else if cl (4 + 5 * b) = 104 then RBk z (nI (T + m)) 2 else RBk z (nI (T + m)) (-9)) = RBk z (nI (T + m)) (KV (cl (4 + 5 * b))) := by
      unfold KV
      by_cases a1 : cl (4 + 5 * b) = 112
      · rw [a1, if_pos rfl]
        rfl
      · rw [if_neg a1]
        by_cases a2 : cl (4 + 5 * b) = 107
        · rw [a2, if_pos rfl]
          rfl
        · rw [if_neg a2]
          by_cases a3 : cl (4 + 5 * b) = 104
          · rw [a3, if_pos rfl]
            rfl
          · rw [if_neg a3, if_neg a3, if_neg a2, if_neg a1]
    rw [if_neg (nI_ge (by omega) (by omega)), ck_nI (show T + (4 + 5 * b) < 240 by omega) (by decide), hc, hk]
    by_cases d : KV (cl (4 + 5 * b)) = -9
    · rw [d, h9]
      left
      refine hg.bad (fun a f => ?_) (fun a => Or.inr (by omega))
      rw [fit_4 hb] at f
      exact f d
    · have hr := (h.fit c (by rw [fit_4 hb]; exact d)).row hb (a := 16) (by decide) (KV (cl (4 + 5 * b)))
      unfold RBk
      rw [i3, gI_sA, i3, ck_nI hb (by decide), ck_nI hb (by decide), gA_sAs _ _ _ (by omega), if_neg d, gI_sA, i2, nI_1]
      have es : sI (sA z 16 (nI b) (KV (cl (4 + 5 * b)))) 12 (nI (T + (4 + 5 * b) + 1)) = sA (sI z 12 (nI (T + (4 + 5 * b + 1)))) 16 (nI b) (KV (cl (4 + 5 * b))) := rfl
      rw [es]
      rw [show 4 + 5 * b + 1 = 5 + 5 * b by omega] at hr ⊢
      refine rbn hx hb hr ?_
      rw [A_sAs _ _ _ (by omega), if_pos rfl]
  · rw [if_pos (nI_le (by omega) (by omega)), h9]
    left
    exact hg.bad (fun a => absurd a c) (fun a => Or.inr (by omega))
theorem ra_loop {mt : St} {T m : Nat} {cl : Nat → Int32} {w rc : Int32} (hx : Cx mt T m cl) :
    ∀ f b z, b ≤ 5 → 5 < b + f → IV mt T m cl w rc b (3 + 5 * b) z → NO mt T m cl (L_X7_readAlp_60 (nI (T + m)) (fun z_60 => if (gI z_60 12) = nI (T + m) then some (1, z_60) else some (0, z_60)) f z) ∨ ∃ j s, 1 ≤ j ∧ j ≤ 5 ∧ m = 3 + 5 * j ∧ IV mt T m cl w rc j (3 + 5 * j) s ∧ L_X7_readAlp_60 (nI (T + m)) (fun z_60 => if (gI z_60 12) = nI (T + m) then some (1, z_60) else some (0, z_60)) f z = some (1, s) := by
  have h240 := hx.1
  generalize hkk : (fun z_60 : St => if (gI z_60 12) = nI (T + m) then some ((1 : Int32), z_60) else some (0, z_60)) = kk
  intro f
  induction f with
  | zero => intro b z h1 h2; omega
  | succ f ih =>
    intro b z hb1 hb2 h
    obtain ⟨i1, i2, i3, i4, i5, i6, i7, i8⟩ := id h
    have stop : 1 ≤ b → (b = 5 ∨ 3 + 5 * b = m) → NO mt T m cl (kk z) ∨ ∃ j s, 1 ≤ j ∧ j ≤ 5 ∧ m = 3 + 5 * j ∧ IV mt T m cl w rc j (3 + 5 * j) s ∧ kk z = some (1, s) := by
      intro h1 h5
      rw [← hkk]
      show NO mt T m cl (if (gI z 12) = nI (T + m) then some (1, z) else some (0, z)) ∨ ∃ j s, 1 ≤ j ∧ j ≤ 5 ∧ m = 3 + 5 * j ∧ IV mt T m cl w rc j (3 + 5 * j) s ∧ (if (gI z 12) = nI (T + m) then some ((1 : Int32), z) else some (0, z)) = some (1, s)
      rw [i2]
      by_cases e : 3 + 5 * b = m
      · rw [e, if_pos rfl]
        exact Or.inr ⟨b, z, h1, hb1, e.symm, h, rfl⟩
      · rw [if_neg (fun a => e (by have := (nI_eq (a := T + (3 + 5 * b)) (b := T + m) (by omega) (by omega)).mp a; omega))]
        have b5 : b = 5 := h5.resolve_right e
        subst b5
        exact Or.inl (h.bad (fun _ => fit_o (by omega) _) (fun a => absurd a e))
    have body : b < 5 → (b = 0 ∨ 3 + 5 * b < m) → NO mt T m cl (b2 (F_X7_isSign z (nI (T + m)) 59) (fun v_8 s_8 => if v_8 = 0 then some (0, s_8) else b2 (F_X7_readBell s_8 (nI (T + m))) (fun v_10 s_10 => if v_10 = 0 then some (0, s_10) else L_X7_readAlp_60 (nI (T + m)) kk f s_10))) ∨ ∃ j s, 1 ≤ j ∧ j ≤ 5 ∧ m = 3 + 5 * j ∧ IV mt T m cl w rc j (3 + 5 * j) s ∧ b2 (F_X7_isSign z (nI (T + m)) 59) (fun v_8 s_8 => if v_8 = 0 then some (0, s_8) else b2 (F_X7_readBell s_8 (nI (T + m))) (fun v_10 s_10 => if v_10 = 0 then some (0, s_10) else L_X7_readAlp_60 (nI (T + m)) kk f s_10)) = some (1, s) := by
      intro hb h0
      rcases sgn hx i1 i2 i6 59 with ⟨d1, d2, e⟩ | ⟨d, e⟩
      · rw [e, b2_s, if_neg n10]
        have hg := h.fit d1 (by rw [fit_3 hb]; exact d2)
        rw [show 3 + 5 * b + 1 = 4 + 5 * b by omega] at hg ⊢
        rcases rbk hx hb hg with ⟨q, s, t1, t2, t3, t4⟩ | ⟨s, t1, t2⟩
        · rw [t4, b2_s, if_pos rfl]
          exact Or.inl ⟨q, s, t1, t2, t3, rfl⟩
        · rw [t2, b2_s, if_neg n10]
          rw [show 8 + 5 * b = 3 + 5 * (b + 1) by omega] at t1
          exact ih (b + 1) s (by omega) (by omega) t1
      · rw [e, b2_s, if_pos rfl]
        refine Or.inl (h.bad (fun a f => d ⟨a, ?_⟩) (fun a => ?_))
        · rw [fit_3 hb] at f; exact f
        · rcases h0 with c | c
          · left; omega
          · omega
    rw [L_X7_readAlp_60_s, i3, i2]
    by_cases c : b = 0
    · subst c
      rw [if_pos nI_0]
      exact body (by decide) (Or.inl rfl)
    · rw [if_neg (nI_ne0 (by omega) (by omega))]
      by_cases c5 : b = 5
      · rw [if_pos (show 5 ≤ nI b from nI_le (a := 5) (by omega) (by omega))]
        exact stop (by omega) (Or.inl c5)
      · rw [if_neg (show ¬ 5 ≤ nI b from nI_ge (b := 5) (by omega) (by decide))]
        by_cases e : 3 + 5 * b = m
        · rw [if_pos (nI_le (by omega) (by omega))]
          exact stop (by omega) (Or.inr e)
        · rw [if_neg (nI_ge (by omega) (by omega))]
          exact body (by omega) (Or.inr (by omega))
theorem ra {mt z0 : St} {T m : Nat} {cl : Nat → Int32} (hx : Cx mt T m cl) (hz : SameM mt z0) (ha : gI z0 12 = nI T) : NO mt T m cl (F_X7_readAlp z0 (nI (T + m))) ∨ ∃ j s, 1 ≤ j ∧ j ≤ 5 ∧ m = 3 + 5 * j ∧ IV mt T m cl (cl 1 - 48) (cl 2 - 48) j (3 + 5 * j) s ∧ F_X7_readAlp z0 (nI (T + m)) = some (1, s) := by
  unfold F_X7_readAlp
  have g0 : IV mt T m cl (gI z0 13) (gI z0 14) 0 0 (sI z0 15 0) := ⟨hz.tr (SameM.i 15 _ (by decide)), by rw [gI_sIn _ _ (by decide)]; exact ha, gI_sIs _ _ _, rfl, rfl, Nat.zero_le _, fun r hr => absurd hr (by omega), fun q hq => absurd hq (by omega)⟩
  generalize sI z0 15 0 = z1 at g0
  obtain ⟨i1, i2, i3, i4, i5, i6, i7, i8⟩ := id g0
  rcases sgn hx i1 i2 i6 98 with ⟨d1, d2, e⟩ | ⟨d, e⟩
  · rw [e, b2_s, if_neg n10]
    have g1 := g0.fit d1 (by rw [fit_0]; exact d2)
    generalize sI z1 12 (nI (T + (0 + 1))) = z2 at g1
    rcases dgt hx g1.1 g1.2.1 g1.2.2.2.2.2.1 (u := 2) (by decide) with ⟨c1, c2, e2⟩ | ⟨c, e2⟩
    · rw [show F_X7_digit z2 (nI (T + m)) 2 = _ from e2, b2_s, gI_sIs, if_neg (c2.n9 (by decide))]
      have g2 := g1.fit c1 (by rw [fit_1]; exact c2)
      generalize sI z2 12 (nI (T + (0 + 1 + 1))) = z3 at g2
      have g3 : IV mt T m cl (cl 1 - 48) (gI z0 14) 0 2 (sI z3 13 (cl (0 + 1) - 48)) := ⟨g2.1.tr (SameM.i 13 _ (by decide)), g2.2.1, g2.2.2.1, gI_sIs _ _ _, g2.2.2.2.2.1, g2.2.2.2.2.2.1, g2.2.2.2.2.2.2.1, fun q hq => absurd hq (by omega)⟩
      generalize sI z3 13 (cl (0 + 1) - 48) = z4 at g3
      rcases dgt hx g3.1 g3.2.1 g3.2.2.2.2.2.1 (u := 9) (by decide) with ⟨a1, a2, e3⟩ | ⟨a, e3⟩
      · rw [show F_X7_digit z4 (nI (T + m)) 9 = _ from e3, b2_s, gI_sIs, if_neg (a2.n9 (by decide))]
        have g4 := g3.fit a1 (by rw [fit_2]; exact a2)
        generalize sI z4 12 (nI (T + (2 + 1))) = z5 at g4
        have g5 : IV mt T m cl (cl 1 - 48) (cl 2 - 48) 0 (3 + 5 * 0) (sI z5 14 (cl 2 - 48)) := ⟨g4.1.tr (SameM.i 14 _ (by decide)), g4.2.1, g4.2.2.1, g4.2.2.2.1, gI_sIs _ _ _, g4.2.2.2.2.2.1, g4.2.2.2.2.2.2.1, fun q hq => absurd hq (by omega)⟩
        exact ra_loop hx 70 0 _ (by decide) (by decide) g5
      · rw [show F_X7_digit z4 (nI (T + m)) 9 = _ from e3, b2_s, gI_sIs, if_pos rfl]
        refine Or.inl ⟨2, _, ⟨g3.2.2.2.2.2.1, g3.2.2.2.2.2.2.1, fun b f => a ⟨b, ?_⟩, fun b => Or.inl (by omega)⟩, g3.1.tr (SameM.i 14 _ (by decide)), g3.2.1, rfl⟩
        rw [fit_2] at f; exact f
    · rw [show F_X7_digit z2 (nI (T + m)) 2 = _ from e2, b2_s, gI_sIs, if_pos rfl]
      refine Or.inl ⟨1, _, ⟨g1.2.2.2.2.2.1, g1.2.2.2.2.2.2.1, fun b f => c ⟨b, ?_⟩, fun b => Or.inl (by omega)⟩, g1.1.tr (SameM.i 13 _ (by decide)), g1.2.1, rfl⟩
      rw [fit_1] at f; exact f
  · rw [e, b2_s, if_pos rfl]
    refine Or.inl (g0.bad (fun a f => d ⟨a, ?_⟩) (fun a => Or.inl (by omega)))
    rw [fit_0] at f; exact f
