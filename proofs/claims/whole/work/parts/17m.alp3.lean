/-! ALP: what is settled -/
def VN (cl : Nat → Int32) (j : Nat) (k2 n2 s2 m2 : Nat → Nat) : Prop := ∀ q, q < j → KV (cl (4 + 5 * q)) = nI (k2 q) ∧ cl (5 + 5 * q) - 48 = nI (n2 q) ∧ cl (6 + 5 * q) - 48 = nI (s2 q) ∧ cl (7 + 5 * q) - 48 = nI (m2 q)
theorem vn_of {cl : Nat → Int32} {j m : Nat} (hj : j ≤ 5) (hm : m = 3 + 5 * j) (hF : ∀ r, r < m → Fit r (cl r)) : ∃ k2 n2 s2 m2 : Nat → Nat, VN cl j k2 n2 s2 m2 ∧ ∀ q, q < j → k2 q < 3 ∧ n2 q < 10 ∧ s2 q < 10 ∧ m2 q < 4 := by
  have cv : ∀ {x : Int32} {u : Nat}, u < 2 ^ 31 → x = nI u → x = nI x.toNatClampNeg ∧ x.toNatClampNeg = u := by
    intro x u hu e
    rw [e, nI_clamp hu]
    exact ⟨rfl, rfl⟩
  have ak : ∀ q, q < j → KV (cl (4 + 5 * q)) = nI (KV (cl (4 + 5 * q))).toNatClampNeg ∧ (KV (cl (4 + 5 * q))).toNatClampNeg < 3 := by
    intro q hq
    have f := hF (4 + 5 * q) (by omega)
    rw [fit_4 (by omega)] at f
    obtain ⟨u, hu, e⟩ := kv_n f
    obtain ⟨a, b⟩ := cv (by omega) e
    exact ⟨a, by omega⟩
  have an : ∀ q, q < j → cl (5 + 5 * q) - 48 = nI (cl (5 + 5 * q) - 48).toNatClampNeg ∧ (cl (5 + 5 * q) - 48).toNatClampNeg < 10 := by
    intro q hq
    have f := hF (5 + 5 * q) (by omega)
    rw [fit_5 (by omega)] at f
    obtain ⟨u, hu, e⟩ := f.sub
    obtain ⟨a, b⟩ := cv (by omega) e
    exact ⟨a, by omega⟩
  have as : ∀ q, q < j → cl (6 + 5 * q) - 48 = nI (cl (6 + 5 * q) - 48).toNatClampNeg ∧ (cl (6 + 5 * q) - 48).toNatClampNeg < 10 := by
    intro q hq
    have f := hF (6 + 5 * q) (by omega)
    rw [fit_6 (by omega)] at f
    obtain ⟨u, hu, e⟩ := f.sub
    obtain ⟨a, b⟩ := cv (by omega) e
    exact ⟨a, by omega⟩
  have am : ∀ q, q < j → cl (7 + 5 * q) - 48 = nI (cl (7 + 5 * q) - 48).toNatClampNeg ∧ (cl (7 + 5 * q) - 48).toNatClampNeg < 4 := by
    intro q hq
    have f := hF (7 + 5 * q) (by omega)
    rw [fit_7 (by omega)] at f
    obtain ⟨u, hu, e⟩ := f.sub
    obtain ⟨a, b⟩ := cv (by omega) e
    exact ⟨a, by omega⟩
  exact ⟨fun q => (KV (cl (4 + 5 * q))).toNatClampNeg, fun q => (cl (5 + 5 * q) - 48).toNatClampNeg, fun q => (cl (6 + 5 * q) - 48).toNatClampNeg, fun q => (cl (7 + 5 * q) - 48).toNatClampNeg, fun q hq => ⟨(ak q hq).1, (an q hq).1, (as q hq).1, (am q hq).1⟩, fun q hq => ⟨(ak q hq).2, (an q hq).2, (as q hq).2, (am q hq).2⟩⟩
def mix (b : Nat) (f g : Nat → Nat) (q : Nat) : Nat := if q < b then f q else g q
theorem mix_0 (f g : Nat → Nat) (q : Nat) : mix 0 f g q = g q := if_neg (by omega)
theorem mix_s {b q : Nat} {f g : Nat → Nat} {x : Int32} (h : x = nI (mix b f g q)) : (if q = b then nI (f b) else x) = nI (mix (b + 1) f g q) := by
  unfold mix at h ⊢
  by_cases c : q = b
  · subst c
    rw [if_pos rfl, if_pos (by omega)]
  · rw [if_neg c, h]
    by_cases d : q < b
    · rw [if_pos d, if_pos (by omega)]
    · rw [if_neg d, if_neg (by omega)]
theorem mix_lt {b q u : Nat} {f g : Nat → Nat} (h1 : q < b → f q < u) (h2 : g q < u) : mix b f g q < u := by
  unfold mix
  by_cases c : q < b
  · rw [if_pos c]; exact h1 c
  · rw [if_neg c]; exact h2
theorem se_loop {z0 : St} {k i m j : Nat} {cl : Nat → Int32} {kd nt sp md k2 n2 s2 m2 : Nat → Nat} (hj : j ≤ 5) (hm : m = 3 + 5 * j) (him : i + m ≤ 60) (hC : ∀ p, p < m → z0.2 (10 + k) (i + p) = cl p) (hV : VN cl j k2 n2 s2 m2) (hn : gI z0 2 = nI j) (kk : Int32 → St → Option St) :
    ∀ f b z, b ≤ j → j < b + f → (∀ a, gI z a = gI z0 a) → (∀ a, 4 ≤ a → z.2 a = z0.2 a) → (∀ q, q < 5 → z.2 0 q = nI (mix b k2 kd q) ∧ z.2 1 q = nI (mix b n2 nt q) ∧ z.2 2 q = nI (mix b s2 sp q) ∧ z.2 3 q = nI (mix b m2 md q)) →
      ∃ z', L_X1_settle_41 k (nI i) kk f (nI b) z = kk (nI j) z' ∧ (∀ a, gI z' a = gI z0 a) ∧ (∀ a, 4 ≤ a → z'.2 a = z0.2 a) ∧ (∀ q, q < 5 → z'.2 0 q = nI (mix j k2 kd q) ∧ z'.2 1 q = nI (mix j n2 nt q) ∧ z'.2 2 q = nI (mix j s2 sp q) ∧ z'.2 3 q = nI (mix j m2 md q)) := by
  intro f
  induction f with
  | zero => intro b z h1 h2; omega
  | succ f ih =>
    intro b z hb1 hb2 hz1 hz2 hz3
    rw [L_X1_settle_41_s, hz1, hn]
    by_cases c : b = j
    · subst c
      rw [if_pos (nI_le (Nat.le_refl _) (by omega))]
      exact ⟨z, rfl, hz1, hz2, hz3⟩
    · obtain ⟨v1, v2, v3, v4⟩ := hV b (by omega)
      have es : F_X4_startOf z (nI b) = some (nI (3 + 5 * b)) := by
        unfold F_X4_startOf
        rw [show (3 : Int32) = nI 3 from rfl, show (5 : Int32) = nI 5 from rfl, pk_mul, nI_add]
      have cc : ∀ p, p < m → gA z (10 + k) (nI (i + p)) = cl p := fun p hp => by rw [gA_nI _ _ (by omega), hz2 _ (by omega), hC p hp]
      have x1 : nI i + nI (3 + 5 * b) + 1 = nI (i + (4 + 5 * b)) := by rw [nI_add, nI_1]; exact congrArg nI (by omega)
      have x2 : nI i + nI (3 + 5 * b) + 2 = nI (i + (5 + 5 * b)) := by rw [nI_add, show (2 : Int32) = nI 2 from rfl, nI_add]; exact congrArg nI (by omega)
      have x3 : nI i + nI (3 + 5 * b) + 3 = nI (i + (6 + 5 * b)) := by rw [nI_add, show (3 : Int32) = nI 3 from rfl, nI_add]; exact congrArg nI (by omega)
      have x4 : nI i + nI (3 + 5 * b) + 4 = nI (i + (7 + 5 * b)) := by rw [nI_add, show (4 : Int32) = nI 4 from rfl, nI_add]; exact congrArg nI (by omega)
      rw [if_neg (nI_ge (show b < j by omega) (by omega)), es, b1_s, x1, x2, x3, x4, kv_c, b1_s]
      simp only [gA_sAn _ _ _ (show 10 + k ≠ 0 by omega), gA_sAn _ _ _ (show 10 + k ≠ 1 by omega), gA_sAn _ _ _ (show 10 + k ≠ 2 by omega)]
      rw [cc _ (by omega), cc _ (by omega), cc _ (by omega), cc _ (by omega), v1, v2, v3, v4, nI_1, ck_nI (show i + (4 + 5 * b) < 60 by omega) (by decide), ck_nI (show b < 5 by omega) (by decide), ck_nI (show i + (5 + 5 * b) < 60 by omega) (by decide), ck_nI (show b < 5 by omega) (by decide), ck_nI (show i + (6 + 5 * b) < 60 by omega) (by decide), ck_nI (show b < 5 by omega) (by decide), ck_nI (show i + (7 + 5 * b) < 60 by omega) (by decide), ck_nI (show b < 5 by omega) (by decide)]
      refine ih (b + 1) _ (by omega) (by omega) hz1 (fun a ha => ?_) (fun q hq => ?_)
      · rw [A_sAn _ _ _ (by omega), A_sAn _ _ _ (by omega), A_sAn _ _ _ (by omega), A_sAn _ _ _ (by omega), hz2 a ha]
      · obtain ⟨r1, r2, r3, r4⟩ := hz3 q hq
        refine ⟨?_, ?_, ?_, ?_⟩
        · rw [A_sAn _ _ _ (by decide), A_sAn _ _ _ (by decide), A_sAn _ _ _ (by decide), A_sAs _ _ _ (by omega)]
          exact mix_s r1
        · rw [A_sAn _ _ _ (by decide), A_sAn _ _ _ (by decide), A_sAs _ _ _ (by omega), A_sAn _ _ _ (by decide)]
          exact mix_s r2
        · rw [A_sAn _ _ _ (by decide), A_sAs _ _ _ (by omega), A_sAn _ _ _ (by decide), A_sAn _ _ _ (by decide)]
          exact mix_s r3
        · rw [A_sAs _ _ _ (by omega), A_sAn _ _ _ (by decide), A_sAn _ _ _ (by decide), A_sAn _ _ _ (by decide)]
          exact mix_s r4
theorem al_loop {z0 : St} {j : Nat} {cl : Nat → Int32} {kd nt sp md k2 n2 s2 m2 : Nat → Nat} (hj : j ≤ 5) (hR : ∀ q, q < j → z0.2 16 q = nI (k2 q) ∧ z0.2 17 q = nI (n2 q) ∧ z0.2 18 q = nI (s2 q) ∧ z0.2 19 q = nI (m2 q)) (hn : gI z0 5 = nI j) (kk : Int32 → St → Option (Int32 × St)) :
    ∀ f b z, b ≤ j → j < b + f → (∀ a, gI z a = gI z0 a) → (∀ a, (a < 8 ∨ 12 ≤ a) → z.2 a = z0.2 a) → (∀ q, q < 5 → z.2 8 q = nI (mix b k2 kd q) ∧ z.2 9 q = nI (mix b n2 nt q) ∧ z.2 10 q = nI (mix b s2 sp q) ∧ z.2 11 q = nI (mix b m2 md q)) →
      ∃ z', L_X7_alp_111 kk f (nI b) z = kk (nI j) z' ∧ (∀ a, gI z' a = gI z0 a) ∧ (∀ a, (a < 8 ∨ 12 ≤ a) → z'.2 a = z0.2 a) ∧ (∀ q, q < 5 → z'.2 8 q = nI (mix j k2 kd q) ∧ z'.2 9 q = nI (mix j n2 nt q) ∧ z'.2 10 q = nI (mix j s2 sp q) ∧ z'.2 11 q = nI (mix j m2 md q)) := by
  intro f
  induction f with
  | zero => intro b z h1 h2; omega
  | succ f ih =>
    intro b z hb1 hb2 hz1 hz2 hz3
    rw [L_X7_alp_111_s, hz1, hn]
    by_cases c : b = j
    · subst c
      rw [if_pos (nI_le (Nat.le_refl _) (by omega))]
      exact ⟨z, rfl, hz1, hz2, hz3⟩
    · obtain ⟨v1, v2, v3, v4⟩ := hR b (by omega)
      have hb5 : b < 5 := by omega
      have c1 : gA z 16 (nI b) = nI (k2 b) := by rw [gA_nI _ _ (by omega), hz2 _ (by decide), v1]
      have c2 : gA z 17 (nI b) = nI (n2 b) := by rw [gA_nI _ _ (by omega), hz2 _ (by decide), v2]
      have c3 : gA z 18 (nI b) = nI (s2 b) := by rw [gA_nI _ _ (by omega), hz2 _ (by decide), v3]
      have c4 : gA z 19 (nI b) = nI (m2 b) := by rw [gA_nI _ _ (by omega), hz2 _ (by decide), v4]
      rw [if_neg (nI_ge (show b < j by omega) (by omega))]
      simp only [ck_nI hb5 (show 5 < 2 ^ 31 by decide), gA_sAn _ _ _ (show 17 ≠ 8 by decide), gA_sAn _ _ _ (show 18 ≠ 8 by decide), gA_sAn _ _ _ (show 18 ≠ 9 by decide), gA_sAn _ _ _ (show 19 ≠ 8 by decide), gA_sAn _ _ _ (show 19 ≠ 9 by decide), gA_sAn _ _ _ (show 19 ≠ 10 by decide), c1, c2, c3, c4, nI_1]
      refine ih (b + 1) _ (by omega) (by omega) hz1 (fun a ha => ?_) (fun q hq => ?_)
      · rw [A_sAn _ _ _ (by omega), A_sAn _ _ _ (by omega), A_sAn _ _ _ (by omega), A_sAn _ _ _ (by omega), hz2 a ha]
      · obtain ⟨r1, r2, r3, r4⟩ := hz3 q hq
        refine ⟨?_, ?_, ?_, ?_⟩
        · rw [A_sAn _ _ _ (by decide), A_sAn _ _ _ (by decide), A_sAn _ _ _ (by decide), A_sAs _ _ _ (by omega)]
          exact mix_s r1
        · rw [A_sAn _ _ _ (by decide), A_sAn _ _ _ (by decide), A_sAs _ _ _ (by omega), A_sAn _ _ _ (by decide)]
          exact mix_s r2
        · rw [A_sAn _ _ _ (by decide), A_sAs _ _ _ (by omega), A_sAn _ _ _ (by decide), A_sAn _ _ _ (by decide)]
          exact mix_s r3
        · rw [A_sAs _ _ _ (by omega), A_sAn _ _ _ (by decide), A_sAn _ _ _ (by decide), A_sAn _ _ _ (by decide)]
          exact mix_s r4
theorem set_r {st : St} {k i m j : Nat} {cl : Nat → Int32} {n w rc : Nat} {kd nt sp md k2 n2 s2 m2 : Nat → Nat} {w2 r2 : Nat} (h2 : CG st n w rc kd nt sp md) (hj1 : 1 ≤ j) (hj : j ≤ 5) (hm : m = 3 + 5 * j) (him : i + m ≤ 60) (hC : ∀ p, p < m → st.2 (10 + k) (i + p) = cl p) (hV : VN cl j k2 n2 s2 m2) (hw : cl 1 - 48 = nI w2) (hr : cl 2 - 48 = nI r2) :
    ∃ z, F_X1_settle st k (nI i) (nI m) = some z ∧ gI z 2 = nI j ∧ gI z 3 = nI w2 ∧ gI z 4 = nI r2 ∧ (∀ a, a ≠ 2 → a ≠ 3 → a ≠ 4 → gI z a = gI st a) ∧ (∀ a, 4 ≤ a → z.2 a = st.2 a) ∧ (∀ q, q < 5 → z.2 0 q = nI (mix j k2 kd q) ∧ z.2 1 q = nI (mix j n2 nt q) ∧ z.2 2 q = nI (mix j s2 sp q) ∧ z.2 3 q = nI (mix j m2 md q)) := by
  have ej : (nI m - 3) / 5 = nI j := by
    rw [show (3 : Int32) = nI 3 from rfl, show (5 : Int32) = nI 5 from rfl, pk_sub (by omega), pk_div (by omega) (by decide) (by decide)]
    exact congrArg nI (by omega)
  have e1 : gA st (10 + k) (nI (i + 1)) = cl 1 := by rw [gA_nI _ _ (by omega), hC 1 (by omega)]
  have e2 : gA st (10 + k) (nI (i + 2)) = cl 2 := by rw [gA_nI _ _ (by omega), hC 2 (by omega)]
  obtain ⟨z, a1, a2, a3, a4⟩ := se_loop (z0 := sI (sI (sI st 3 (nI w2)) 4 (nI r2)) 2 (nI j)) (kd := kd) (nt := nt) (sp := sp) (md := md) hj hm him hC hV (gI_sIs _ _ _) (fun _ z => some z) 70 0 _ (by omega) (by omega) (fun _ => rfl) (fun _ _ => rfl) (fun q hq => by
    rw [mix_0, mix_0, mix_0, mix_0]
    exact h2.2.2.2 q hq)
  refine ⟨z, ?_, ?_, ?_, ?_, fun a b1 b2 b3 => ?_, fun a ha => ?_, a4⟩
  · unfold F_X1_settle F_X4_bellsOf
    rw [nI_1, show nI i + 2 = nI (i + 2) from nI_add i 2, ck_nI (show i + 1 < 60 by omega) (by decide), ck_nI (show i + 2 < 60 by omega) (by decide), b1_s, gA_sI, e1, e2, hw, hr, ej]
    exact a1
  · rw [a2, gI_sIs]
  · rw [a2, gI_sIn _ _ (by decide), gI_sIn _ _ (by decide), gI_sIs]
  · rw [a2, gI_sIn _ _ (by decide), gI_sIs]
  · rw [a2, gI_sIn _ _ b1, gI_sIn _ _ b3, gI_sIn _ _ b2]
  · rw [a3 a ha]
    rfl
