/-! SOUNDS -/
def snd (k a m w : Nat) : Nat := if k = 1 then a + m + w - 1 else if k = 2 then (a + m + w) / 2 else a + m + w
theorem sOf : ∀ k, k < 3 → ∀ a, a < 10 → ∀ m, m < 4 → ∀ w, w < 3 → (if nI k = 1 then some (jmax (((nI a + nI m) + nI w) - 1) 0) else if nI k = 2 then some (((nI a + nI m) + nI w) / 2) else some ((nI a + nI m) + nI w)) = some (nI (snd k a m w)) := by decide +kernel
theorem mOf : ∀ k, k < 3 → ∀ a, a < 10 → ∀ m, m < 4 → ∀ w, w < 3 → (if nI k = 1 then (if ((nI a + nI m) + nI w) ≤ 0 then some 0 else some (((nI a + nI m) + nI w) - 1)) else (if nI k = 0 then some ((nI a + nI m) + nI w) else some (((nI a + nI m) + nI w) / 2))) = some (nI (snd k a m w)) := by decide +kernel
theorem snd_lt : ∀ k, k < 3 → ∀ a, a < 10 → ∀ m, m < 4 → ∀ w, w < 3 → snd k a m w < 15 := by decide +kernel
theorem soundOf_ok (st : St) {k a m w : Nat} (hk : k < 3) (ha : a < 10) (hm : m < 4) (hw : w < 3) : F_X6_soundOf st (nI k) (nI a) (nI m) (nI w) = some (nI (snd k a m w)) := sOf k hk a ha m hm w hw
theorem csound {st : St} {n w rc : Nat} {kd nt sp md : Nat → Nat} (h1 : Hd n w rc kd nt sp md) (h2 : CG st n w rc kd nt sp md) {b m : Nat} (hb : b < 5) (hm : m < 4) : F_X1_soundIn st (nI b) (nI m) = some (nI (snd (kd b) (nt b) m w)) := by
  obtain ⟨a1, a2, a3, a4⟩ := h2.2.2.2 b hb
  obtain ⟨d1, d2, d3, d4⟩ := h1.2.2.2 b hb
  unfold F_X1_soundIn
  rw [ck_nI hb (by decide), ck_nI hb (by decide), gA_nI _ _ (by omega), gA_nI _ _ (by omega), a1, a2, h2.2.1, soundOf_ok st d1 d2 hm h1.2.1, b1_s]
theorem msound {mt : St} {n w rc : Nat} {kd nt sp md : Nat → Nat} (h1 : Hd n w rc kd nt sp md) (h3 : MG mt n w rc kd nt sp md) {b m : Nat} (hb : b < 5) (hm : m < 4) : F_X7_soundIn mt (nI b) (nI m) = some (nI (snd (kd b) (nt b) m w)) := by
  obtain ⟨a1, a2, a3, a4⟩ := h3.2.2.2 b hb
  obtain ⟨d1, d2, d3, d4⟩ := h1.2.2.2 b hb
  unfold F_X7_soundIn
  rw [ck_nI hb (by decide), ck_nI hb (by decide), ck_nI hb (by decide), gA_nI _ _ (by omega), gA_nI _ _ (by omega), a1, a2, h3.2.1]
  exact mOf _ d1 _ d2 _ hm _ h1.2.1
theorem csoundNow {st : St} {n w rc : Nat} {kd nt sp md : Nat → Nat} (h1 : Hd n w rc kd nt sp md) (h2 : CG st n w rc kd nt sp md) {b : Nat} (hb : b < 5) : F_X1_soundNow st (nI b) = some (nI (snd (kd b) (nt b) (md b) w)) := by
  obtain ⟨a1, a2, a3, a4⟩ := h2.2.2.2 b hb
  obtain ⟨d1, d2, d3, d4⟩ := h1.2.2.2 b hb
  unfold F_X1_soundNow
  rw [ck_nI hb (by decide), gA_nI _ _ (by omega), a4, csound h1 h2 hb d4, b1_s]
/-! the plain calls -/
theorem ok_trace {st mt : St} (h : Rel st mt) : ∃ (r : Int32), F_X6_trace st = some r ∧ F_X7_trace mt = some r ∧ Rel st mt := by
  obtain ⟨n, w, rc, kd, nt, sp, md, rn, rb, rm, rs, h1, h2, h3, h4, h5, h6, h7, h8, h9⟩ := id h
  exact ⟨gI st 0, rfl, by unfold F_X7_trace; rw [h8], h⟩
theorem ok_fault {st mt : St} (h : Rel st mt) : ∃ (r : Int32), F_X6_fault st = some r ∧ F_X7_fault mt = some r ∧ Rel st mt := by
  obtain ⟨n, w, rc, kd, nt, sp, md, rn, rb, rm, rs, h1, h2, h3, h4, h5, h6, h7, h8, h9⟩ := id h
  exact ⟨gI st 1, rfl, by unfold F_X7_fault; rw [h9], h⟩
theorem both {α : Type} {a b : Option α} {P : Prop} (e : a = b) (ha : ∃ r, a = some r) (h : P) : ∃ r, a = some r ∧ b = some r ∧ P := by
  obtain ⟨r, hr⟩ := ha
  exact ⟨r, hr, e ▸ hr, h⟩
theorem ok_many {st mt : St} (h : Rel st mt) (x1 : Int32) : ∃ (r : Int32), F_X6_many st x1 = some r ∧ F_X7_many mt x1 = some r ∧ Rel st mt := by
  obtain ⟨n, w, rc, kd, nt, sp, md, rn, rb, rm, rs, h1, h2, h3, h4, h5, h6, h7, h8, h9⟩ := id h
  unfold F_X6_many F_X7_many
  rw [h2.1, h2.2.1, h2.2.2.1, h3.1, h3.2.1, h3.2.2.1, h5.1, h6.1]
  refine both rfl ?_ h
  split
  · exact ⟨_, rfl⟩
  split
  · exact ⟨_, rfl⟩
  split
  · exact ⟨_, rfl⟩
  split
  · exact ⟨_, rfl⟩
  · exact ⟨_, rfl⟩
theorem ok_ofBell {st mt : St} (h : Rel st mt) (x1 x2 : Int32) : ∃ (r : Int32), F_X6_ofBell st x1 x2 = some r ∧ F_X7_ofBell mt x1 x2 = some r ∧ Rel st mt := by
  obtain ⟨n, w, rc, kd, nt, sp, md, rn, rb, rm, rs, h1, h2, h3, h4, h5, h6, h7, h8, h9⟩ := id h
  have hn5 := h1.1
  unfold F_X6_ofBell F_X7_ofBell
  rcases rng x1 n (by omega) with ⟨j, hj, rfl⟩ | ho
  · have hj5 : j < 5 := by omega
    obtain ⟨a1, a2, a3, a4⟩ := h2.2.2.2 j hj5
    obtain ⟨c1, c2, c3, c4⟩ := h3.2.2.2 j hj5
    rw [bell_in h2.1 hn5 hj, mbell_in h3.1 hn5 hj]
    simp only [b1_s, n10, ↓reduceIte, ck_nI hj5 (show 5 < 2 ^ 31 by decide), gA_nI _ _ (show j < 2 ^ 31 by omega), a1, a2, a3, a4, c1, c2, c3, c4]
    refine both rfl ?_ h
    split
    · exact ⟨_, rfl⟩
    split
    · exact ⟨_, rfl⟩
    split
    · exact ⟨_, rfl⟩
    split
    · exact ⟨_, rfl⟩
    · exact ⟨_, rfl⟩
  · rw [bell_out h2.1 ho, mbell_out h3.1 ho]
    exact ⟨-1, rfl, rfl, h⟩
theorem ok_cheer {st mt : St} (h : Rel st mt) (x1 x2 : Int32) : ∃ (r : Int32) (s2 : St) (m2 : St), F_X6_cheer st x1 x2 = some (r, s2) ∧ F_X7_cheer mt x1 x2 = some (r, m2) ∧ Rel s2 m2 := by
  obtain ⟨n, w, rc, kd, nt, sp, md, rn, rb, rm, rs, h1, h2, h3, h4, h5, h6, h7, h8, h9⟩ := id h
  have hn5 := h1.1
  unfold F_X6_cheer F_X7_cheer
  rcases rng x1 n (by omega) with ⟨j, hj, rfl⟩ | ho
  · have hj5 : j < 5 := by omega
    obtain ⟨a1, a2, a3, a4⟩ := h2.2.2.2 j hj5
    obtain ⟨c1, c2, c3, c4⟩ := h3.2.2.2 j hj5
    rw [bell_in h2.1 hn5 hj, mbell_in h3.1 hn5 hj]
    simp only [b1_s, n10, ↓reduceIte]
    rcases rng x2 4 (by decide) with ⟨v, hv, rfl⟩ | hv
    · rw [show F_X6_isBelow st (nI v) 4 = some 1 from bel_in st hv (by decide), moo_in mt hv]
      simp only [b1_s, n10, ↓reduceIte, F_X6_exchange_14, ck_nI hj5 (show 5 < 2 ^ 31 by decide), gA_nI _ _ (show j < 2 ^ 31 by omega), a4, c4, b2_s]
      exact ⟨_, _, _, rfl, rfl, h.bell 3 (by decide) hj5 hv⟩
    · rw [show F_X6_isBelow st x2 4 = some 0 from bel_out st hv, moo_out mt hv]
      exact ⟨-2, _, _, rfl, rfl, h⟩
  · rw [bell_out h2.1 ho, mbell_out h3.1 ho]
    exact ⟨-1, _, _, rfl, rfl, h⟩
theorem ok_recast {st mt : St} (h : Rel st mt) (x1 x2 : Int32) : ∃ (r : Int32) (s2 : St) (m2 : St), F_X6_recast st x1 x2 = some (r, s2) ∧ F_X7_recast mt x1 x2 = some (r, m2) ∧ Rel s2 m2 := by
  obtain ⟨n, w, rc, kd, nt, sp, md, rn, rb, rm, rs, h1, h2, h3, h4, h5, h6, h7, h8, h9⟩ := id h
  have hn5 := h1.1
  unfold F_X6_recast F_X7_recast
  rcases rng x1 n (by omega) with ⟨j, hj, rfl⟩ | ho
  · have hj5 : j < 5 := by omega
    obtain ⟨a1, a2, a3, a4⟩ := h2.2.2.2 j hj5
    obtain ⟨c1, c2, c3, c4⟩ := h3.2.2.2 j hj5
    rw [bell_in h2.1 hn5 hj, mbell_in h3.1 hn5 hj]
    simp only [b1_s, n10, ↓reduceIte]
    rcases rng x2 10 (by decide) with ⟨v, hv, rfl⟩ | hv
    · rw [show F_X6_isBelow st (nI v) 10 = some 1 from bel_in st hv (by decide), dig_in mt hv]
      simp only [b1_s, n10, ↓reduceIte, F_X6_exchange_12, ck_nI hj5 (show 5 < 2 ^ 31 by decide), gA_nI _ _ (show j < 2 ^ 31 by omega), a2, c2, b2_s]
      exact ⟨_, _, _, rfl, rfl, h.bell 1 (by decide) hj5 hv⟩
    · rw [show F_X6_isBelow st x2 10 = some 0 from bel_out st hv, dig_out mt hv]
      exact ⟨-2, _, _, rfl, rfl, h⟩
  · rw [bell_out h2.1 ho, mbell_out h3.1 ho]
    exact ⟨-1, _, _, rfl, rfl, h⟩
theorem ok_go {st mt : St} (h : Rel st mt) (x1 x2 : Int32) : ∃ (r : Int32) (s2 : St) (m2 : St), F_X6_go st x1 x2 = some (r, s2) ∧ F_X7_go mt x1 x2 = some (r, m2) ∧ Rel s2 m2 := by
  obtain ⟨n, w, rc, kd, nt, sp, md, rn, rb, rm, rs, h1, h2, h3, h4, h5, h6, h7, h8, h9⟩ := id h
  have hn5 := h1.1
  unfold F_X6_go F_X7_go
  rcases rng x1 n (by omega) with ⟨j, hj, rfl⟩ | ho
  · have hj5 : j < 5 := by omega
    obtain ⟨a1, a2, a3, a4⟩ := h2.2.2.2 j hj5
    obtain ⟨c1, c2, c3, c4⟩ := h3.2.2.2 j hj5
    rw [bell_in h2.1 hn5 hj, mbell_in h3.1 hn5 hj]
    simp only [b1_s, n10, ↓reduceIte]
    rcases rng x2 10 (by decide) with ⟨v, hv, rfl⟩ | hv
    · rw [show F_X6_isBelow st (nI v) 10 = some 1 from bel_in st hv (by decide), dig_in mt hv]
      simp only [b1_s, n10, ↓reduceIte, F_X6_exchange_13, ck_nI hj5 (show 5 < 2 ^ 31 by decide), gA_nI _ _ (show j < 2 ^ 31 by omega), a3, c3, b2_s]
      exact ⟨_, _, _, rfl, rfl, h.bell 2 (by decide) hj5 hv⟩
    · rw [show F_X6_isBelow st x2 10 = some 0 from bel_out st hv, dig_out mt hv]
      exact ⟨-2, _, _, rfl, rfl, h⟩
  · rw [bell_out h2.1 ho, mbell_out h3.1 ho]
    exact ⟨-1, _, _, rfl, rfl, h⟩
theorem ok_blow {st mt : St} (h : Rel st mt) (x1 : Int32) : ∃ (r : Int32) (s2 : St) (m2 : St), F_X6_blow st x1 = some (r, s2) ∧ F_X7_blow mt x1 = some (r, m2) ∧ Rel s2 m2 := by
  obtain ⟨n, w, rc, kd, nt, sp, md, rn, rb, rm, rs, h1, h2, h3, h4, h5, h6, h7, h8, h9⟩ := id h
  have hn5 := h1.1
  unfold F_X6_blow F_X7_blow
  rcases rng x1 3 (by decide) with ⟨v, hv, rfl⟩ | hv
  · rw [show F_X6_isBelow st (nI v) 3 = some 1 from bel_in st hv (by decide), show F_X7_within mt (nI v) 0 2 = some 1 from wit_in mt (m := 2) hv (by decide)]
    simp only [b1_s, n10, ↓reduceIte]
    by_cases h0 : n = 0
    · subst h0
      rw [none_0 h2.1, h3.1, nI_0]
      exact ⟨-3, _, _, rfl, rfl, h⟩
    · rw [none_p h2.1 (by omega) hn5, if_neg (show ¬ gI mt 5 = 0 by rw [h3.1]; exact nI_ne0 (by omega) (by omega)), b1_s, if_pos rfl, h2.2.1, h3.2.1]
      exact ⟨_, _, _, rfl, rfl, h.wind hv⟩
  · rw [show F_X6_isBelow st x1 3 = some 0 from bel_out st hv, show F_X7_within mt x1 0 2 = some 0 from wit_out mt (m := 2) (by decide) hv]
    exact ⟨-2, _, _, rfl, rfl, h⟩
theorem ok_sound {st mt : St} (h : Rel st mt) (x1 x2 : Int32) : ∃ (r : Int32), F_X6_sound st x1 x2 = some r ∧ F_X7_sound mt x1 x2 = some r ∧ Rel st mt := by
  obtain ⟨n, w, rc, kd, nt, sp, md, rn, rb, rm, rs, h1, h2, h3, h4, h5, h6, h7, h8, h9⟩ := id h
  have hn5 := h1.1
  unfold F_X6_sound F_X7_sound
  rcases rng x1 n (by omega) with ⟨j, hj, rfl⟩ | ho
  · have hj5 : j < 5 := by omega
    obtain ⟨c1, c2, c3, c4⟩ := h3.2.2.2 j hj5
    obtain ⟨d1, d2, d3, d4⟩ := h1.2.2.2 j hj5
    rw [bell_in h2.1 hn5 hj, mbell_in h3.1 hn5 hj]
    simp only [b1_s, n10, ↓reduceIte]
    by_cases q : x2 = -9
    · rw [if_pos q, if_pos q, csoundNow h1 h2 hj5, ck_nI hj5 (by decide), gA_nI _ _ (by omega), c4, msound h1 h3 hj5 d4]
      exact ⟨_, rfl, rfl, h⟩
    · rw [if_neg q, if_neg q]
      rcases rng x2 4 (by decide) with ⟨v, hv, rfl⟩ | hv
      · rw [show F_X6_isBelow st (nI v) 4 = some 1 from bel_in st hv (by decide), moo_in mt hv]
        simp only [b1_s, n10, ↓reduceIte]
        rw [csound h1 h2 hj5 hv, msound h1 h3 hj5 hv]
        exact ⟨_, rfl, rfl, h⟩
      · rw [show F_X6_isBelow st x2 4 = some 0 from bel_out st hv, moo_out mt hv]
        exact ⟨-2, rfl, rfl, h⟩
  · rw [bell_out h2.1 ho, mbell_out h3.1 ho]
    exact ⟨-1, rfl, rfl, h⟩
theorem ok_as {st mt : St} (h : Rel st mt) (x1 x2 : Int32) : ∃ (r : Int32) (s2 : St) (m2 : St), F_X6_as st x1 x2 = some (r, s2) ∧ F_X7_as mt x1 x2 = some (r, m2) ∧ Rel s2 m2 := by
  have hf := h.fault 0
  obtain ⟨n, w, rc, kd, nt, sp, md, rn, rb, rm, rs, h1, h2, h3, h4, h5, h6, h7, h8, h9⟩ := id hf
  have hn5 := h1.1
  unfold F_X6_as F_X7_as
  rcases rng x1 n (by omega) with ⟨j, hj, rfl⟩ | ho
  · have hj5 : j < 5 := by omega
    obtain ⟨a1, a2, a3, a4⟩ := h2.2.2.2 j hj5
    obtain ⟨c1, c2, c3, c4⟩ := h3.2.2.2 j hj5
    obtain ⟨d1, d2, d3, d4⟩ := h1.2.2.2 j hj5
    rw [bell_in h2.1 hn5 hj, mbell_in h3.1 hn5 hj]
    simp only [b1_s, n10, ↓reduceIte]
    rcases rng x2 3 (by decide) with ⟨v, hv, rfl⟩ | hv
    · rw [show F_X6_isBelow (sI st 1 0) (nI v) 3 = some 1 from bel_in _ hv (by decide), show F_X7_within (sI mt 0 0) (nI v) 0 2 = some 1 from wit_in _ (m := 2) hv (by decide)]
      simp only [b1_s, n10, ↓reduceIte, ck_nI hj5 (show 5 < 2 ^ 31 by decide), gA_nI _ _ (show j < 2 ^ 31 by omega), a1, c1]
      by_cases q : v ≤ kd j
      · rw [if_pos (nI_le q (by omega)), if_neg (nI_nlt q (by omega))]
        exact ⟨1, _, _, rfl, rfl, hf⟩
      · rw [if_neg (nI_ge (by omega) (by omega)), if_pos (nI_lt (by omega) (by omega))]
        exact ⟨_, _, _, rfl, rfl, hf.fault 2⟩
    · rw [show F_X6_isBelow (sI st 1 0) x2 3 = some 0 from bel_out _ hv, show F_X7_within (sI mt 0 0) x2 0 2 = some 0 from wit_out _ (m := 2) (by decide) hv]
      exact ⟨-2, _, _, rfl, rfl, hf⟩
  · rw [bell_out h2.1 ho, mbell_out h3.1 ho]
    exact ⟨-1, _, _, rfl, rfl, hf⟩
theorem Rel.leave {st mt : St} (h : Rel st mt) (v : Int32) : Rel (sI st 0 ((31 * (gI st 0)) + v)) (sI mt 1 ((31 * (gI mt 1)) + v)) := by
  obtain ⟨n, w, rc, kd, nt, sp, md, rn, rb, rm, rs, h1, h2, h3, h4, h5, h6, h7, h8, h9⟩ := id h
  rw [h8]
  exact h.trace _
theorem ok_echo {st mt : St} (h : Rel st mt) (x1 : Int32) : ∃ (r : Int32) (s2 : St) (m2 : St), F_X6_echo st x1 = some (r, s2) ∧ F_X7_echo mt x1 = some (r, m2) ∧ Rel s2 m2 := by
  obtain ⟨n, w, rc, kd, nt, sp, md, rn, rb, rm, rs, h1, h2, h3, h4, h5, h6, h7, h8, h9⟩ := id h
  have hn5 := h1.1
  unfold F_X6_echo F_X7_echo F_X6_leave F_X7_begins
  rcases rng x1 n (by omega) with ⟨j, hj, rfl⟩ | ho
  · have hj5 : j < 5 := by omega
    obtain ⟨a1, a2, a3, a4⟩ := h2.2.2.2 j hj5
    obtain ⟨c1, c2, c3, c4⟩ := h3.2.2.2 j hj5
    obtain ⟨d1, d2, d3, d4⟩ := h1.2.2.2 j hj5
    rw [bell_in h2.1 hn5 hj, mbell_in h3.1 hn5 hj]
    simp only [b1_s, n10, ↓reduceIte, ck_nI hj5 (show 5 < 2 ^ 31 by decide), gA_nI _ _ (show j < 2 ^ 31 by omega), A_sI, a1, c1]
    by_cases q : nI (kd j) = 2
    · rw [if_pos q, if_pos q, if_pos q]
      exact ⟨20, _, _, rfl, rfl, h.leave 5⟩
    · rw [if_neg q, if_neg q, if_neg q]
      exact ⟨nI j, _, _, rfl, rfl, h.leave 4⟩
  · rw [bell_out h2.1 ho, mbell_out h3.1 ho]
    exact ⟨-1, _, _, rfl, rfl, h⟩
theorem ok_tell {st mt : St} (h : Rel st mt) (x1 : Int32) : ∃ (r : Int32) (s2 : St) (m2 : St), F_X6_tell st x1 = some (r, s2) ∧ F_X7_tell mt x1 = some (r, m2) ∧ Rel s2 m2 := by
  obtain ⟨n, w, rc, kd, nt, sp, md, rn, rb, rm, rs, h1, h2, h3, h4, h5, h6, h7, h8, h9⟩ := id h
  have hn5 := h1.1
  unfold F_X6_tell F_X7_tell F_X6_stuffedBody F_X6_crackedBody F_X6_plainBody F_X6_leave F_X7_begins
  rcases rng x1 n (by omega) with ⟨j, hj, rfl⟩ | ho
  · have hj5 : j < 5 := by omega
    obtain ⟨a1, a2, a3, a4⟩ := h2.2.2.2 j hj5
    obtain ⟨c1, c2, c3, c4⟩ := h3.2.2.2 j hj5
    obtain ⟨d1, d2, d3, d4⟩ := h1.2.2.2 j hj5
    rw [bell_in h2.1 hn5 hj, mbell_in h3.1 hn5 hj]
    simp only [b1_s, b2_s, n10, ↓reduceIte, ck_nI hj5 (show 5 < 2 ^ 31 by decide), gA_nI _ _ (show j < 2 ^ 31 by omega), A_sI, a1, a2, c1, c2]
    by_cases q : nI (kd j) = 1
    · rw [if_pos q, if_pos q]
      exact ⟨_, _, _, rfl, rfl, (h.leave 2).leave 1⟩
    · rw [if_neg q, if_neg q]
      by_cases q2 : nI (kd j) = 2
      · rw [if_pos q2, if_pos q2]
        refine ⟨_, _, _, rfl, ?_, (((h.leave 3).leave 2).leave 1).leave 1⟩
        have e : nI (nt j) + 100 + nI (nt j) = 2 * nI (nt j) + 100 := by
          rw [show (100 : Int32) = nI 100 from rfl, show (2 : Int32) = nI 2 from rfl, pk_mul, nI_add, nI_add, nI_add]
          congr 1
          omega
        rw [e]
      · rw [if_neg q2, if_neg q2]
        exact ⟨_, _, _, rfl, rfl, h.leave 1⟩
  · rw [bell_out h2.1 ho, mbell_out h3.1 ho]
    exact ⟨-1, _, _, rfl, rfl, h⟩
theorem ok_back {st mt : St} (h : Rel st mt) (x1 : Int32) : ∃ (r : Int32) (s2 : St) (m2 : St), F_X6_back st x1 = some (r, s2) ∧ F_X7_back mt x1 = some (r, m2) ∧ Rel s2 m2 := by
  obtain ⟨n, w, rc, kd, nt, sp, md, rn, rb, rm, rs, h1, h2, h3, h4, h5, h6, h7, h8, h9⟩ := id h
  have h48 := h4.1
  unfold F_X6_back F_X7_back
  rw [h5.1, h6.1]
  rcases rng x1 (rn + 1) (by omega) with ⟨j, hj, rfl⟩ | ho
  · rw [if_neg (nI_pos (by omega)), if_pos (nI_le (by omega) (by omega)), wit_in mt hj (by omega), b1_s, if_neg n10, pk_sub (by omega), gI_sIs, gI_sIs]
    refine ⟨_, _, _, rfl, rfl, n, w, rc, kd, nt, sp, md, rn - j, rb, rm, rs, h1, h2, h3, ⟨by omega, fun q hq => h4.2 q (by omega)⟩, ⟨rfl, fun q hq => h5.2 q (by omega)⟩, ⟨rfl, fun q hq => h6.2 q (by omega)⟩, ?_, h8, h9⟩
    intro k hk
    rw [gI_sIn st _ (show 10 + k ≠ 5 by omega), gI_sIn st _ (show 14 + k ≠ 5 by omega)]
    exact h7 k hk
  · rw [wit_out mt (by omega) ho, b1_s, if_pos rfl]
    by_cases h0 : x1 < 0
    · rw [if_pos h0]
      exact ⟨-2, _, _, rfl, rfl, h⟩
    · have h1' := ho.resolve_left h0
      rw [if_neg h0, if_neg (show ¬ x1 ≤ nI rn from fun z => by
        rw [Int32.le_iff_toInt_le, nI_toInt (by omega)] at h1' z
        omega)]
      exact ⟨-2, _, _, rfl, rfl, h⟩
theorem ok_reading {st mt : St} (h : Rel st mt) (x1 x2 x3 : Int32) : ∃ (r : Int32) (s2 : St) (m2 : St), F_X6_reading st x1 x2 x3 = some (r, s2) ∧ F_X7_reading mt x1 x2 x3 = some (r, m2) ∧ Rel s2 m2 := by
  obtain ⟨n, w, rc, kd, nt, sp, md, rn, rb, rm, rs, h1, h2, h3, h4, h5, h6, h7, h8, h9⟩ := id h
  have hn5 := h1.1
  have h48 := h4.1
  unfold F_X6_reading F_X7_reading F_X2_keep
  rcases rng x1 n (by omega) with ⟨j, hj, rfl⟩ | ho
  · rw [bell_in h2.1 hn5 hj, mbell_in h3.1 hn5 hj]
    simp only [b1_s, n10, ↓reduceIte]
    rcases rng x2 4 (by decide) with ⟨v, hv, rfl⟩ | hv
    · rw [show F_X6_isBelow st (nI v) 4 = some 1 from bel_in st hv (by decide), moo_in mt hv]
      simp only [b1_s, n10, ↓reduceIte]
      rcases rng x3 20 (by decide) with ⟨u, hu, rfl⟩ | hu
      · rw [show F_X6_isBelow st (nI u) 20 = some 1 from bel_in st hu (by decide), show F_X7_within mt (nI u) 0 19 = some 1 from wit_in mt (m := 19) hu (by decide)]
        simp only [b1_s, n10, ↓reduceIte, gI_sA, gI_sIs, h5.1, h6.1]
        by_cases q : rn < 8
        · rw [if_pos (show nI rn < 8 from nI_lt (b := 8) q (by decide)), if_neg (show ¬ nI rn = 8 from fun z => by have := (nI_eq (a := rn) (b := 8) (by omega) (by decide)).mp z; omega)]
          simp only [ck_nI q (show 8 < 2 ^ 31 by decide), b2_s]
          have e1 : nI rn + 1 = nI (rn + 1) := nI_1 rn
          refine ⟨_, _, _, rfl, rfl, n, w, rc, kd, nt, sp, md, rn + 1, fun q => if q = rn then j else rb q, fun q => if q = rn then v else rm q, fun q => if q = rn then u else rs q, h1, h2, h3, ⟨by omega, fun q hq => ?_⟩, ⟨?_, fun q hq => ?_⟩, ⟨?_, fun q hq => ?_⟩, ?_, h8, h9⟩
          · by_cases c : q = rn
            · simp only [c, ↓reduceIte]
              exact ⟨hj, hv, hu⟩
            · simp only [c, ↓reduceIte]
              exact h4.2 q (by omega)
          · rw [gI_sIs, e1]
          · rw [A_sI, A_sAn _ _ _ (show 4 ≠ 6 by decide), A_sAn _ _ _ (show 4 ≠ 5 by decide), A_sAs st 4 _ (by omega), A_sAn _ _ _ (show 5 ≠ 6 by decide), A_sAs _ 5 _ (by omega), A_sAn _ _ _ (show 5 ≠ 4 by decide), A_sAs _ 6 _ (by omega), A_sAn _ _ _ (show 6 ≠ 5 by decide), A_sAn _ _ _ (show 6 ≠ 4 by decide)]
            by_cases c : q = rn
            · simp only [c, ↓reduceIte, and_self]
            · simp only [c, ↓reduceIte]
              exact h5.2 q (by omega)
          · rw [gI_sIs, e1]
          · rw [A_sI, A_sAn _ _ _ (show 25 ≠ 27 by decide), A_sAn _ _ _ (show 25 ≠ 26 by decide), A_sAs mt 25 _ (by omega), A_sAn _ _ _ (show 26 ≠ 27 by decide), A_sAs _ 26 _ (by omega), A_sAn _ _ _ (show 26 ≠ 25 by decide), A_sAs _ 27 _ (by omega), A_sAn _ _ _ (show 27 ≠ 26 by decide), A_sAn _ _ _ (show 27 ≠ 25 by decide)]
            by_cases c : q = rn
            · simp only [c, ↓reduceIte, and_self]
            · simp only [c, ↓reduceIte]
              exact h6.2 q (by omega)
          · intro k hk
            rw [gI_sIn _ _ (show 10 + k ≠ 5 by omega), gI_sIn _ _ (show 14 + k ≠ 5 by omega), A_sI, A_sI, A_sAn _ _ _ (show 10 + k ≠ 6 by omega), A_sAn _ _ _ (show 10 + k ≠ 5 by omega), A_sAn _ _ _ (show 10 + k ≠ 4 by omega)]
            exact h7 k hk
        · obtain rfl : rn = 8 := by omega
          exact ⟨-4, _, _, rfl, rfl, h⟩
      · rw [show F_X6_isBelow st x3 20 = some 0 from bel_out st hu, show F_X7_within mt x3 0 19 = some 0 from wit_out mt (m := 19) (by decide) hu]
        exact ⟨-2, _, _, rfl, rfl, h⟩
    · rw [show F_X6_isBelow st x2 4 = some 0 from bel_out st hv, moo_out mt hv]
      exact ⟨-2, _, _, rfl, rfl, h⟩
  · rw [bell_out h2.1 ho, mbell_out h3.1 ho]
    exact ⟨-1, _, _, rfl, rfl, h⟩
