/-! CHOIRS -/
def mdr (n row b : Nat) : Nat := row / 4 ^ (n - 1 - b) % 4
theorem jmd : ∀ e, e < 5 → ∀ row, row < 1024 → (jshr (nI row) (nI (2 * e))) &&& 3 = nI (row / 4 ^ e % 4) := by decide +kernel
theorem mdr_lt (n row b : Nat) : mdr n row b < 4 := Nat.mod_lt _ (by decide)
theorem moodIn_ok (st : St) {n row b : Nat} (hn : n ≤ 5) (hr : row < 1024) (hb : b < n) : F_X0_moodIn st (nI row) (nI b) (nI n) = some (nI (mdr n row b)) := by
  unfold F_X0_moodIn mdr
  have e : 2 * (nI n - 1 - nI b) = nI (2 * (n - 1 - b)) := by
    rw [show (1 : Int32) = nI 1 from rfl, show (2 : Int32) = nI 2 from rfl, pk_sub (by omega), pk_sub (by omega), pk_mul]
  rw [e, jmd (n - 1 - b) (by omega) row hr]
def cP (n row : Nat) (md : Nat → Nat) (b : Nat) : Bool := decide (¬ mdr n row b = md b)
theorem co_loop {st : St} {n w rc : Nat} {kd nt sp md : Nat → Nat} (h1 : Hd n w rc kd nt sp md) (h2 : CG st n w rc kd nt sp md) {row : Nat} (hr : row < 1024) (kk : Int32 → Int32 → Option Int32) :
    ∀ f b, b ≤ n → n < b + f → L_X0_changesOf_4 st (nI row) kk f (nI (mcN (cP n row md) b)) (nI b) = kk (nI (mcN (cP n row md) n)) (nI n) := by
  have hn5 := h1.1
  intro f
  induction f with
  | zero => intro b h1 h2; omega
  | succ f ih =>
    intro b hb1 hb2
    rw [L_X0_changesOf_4_s, h2.1]
    by_cases c : b = n
    · subst c; rw [if_pos (nI_le (Nat.le_refl _) (by omega))]
    · obtain ⟨a1, a2, a3, a4⟩ := h2.2.2.2 b (by omega)
      obtain ⟨d1, d2, d3, d4⟩ := h1.2.2.2 b (by omega)
      have hm := mdr_lt n row b
      rw [if_neg (nI_ge (by omega) (by omega)), moodIn_ok st hn5 hr (by omega), b1_s, ck_nI (by omega) (by decide), gA_nI _ _ (by omega), a4, nI_1, nI_1]
      by_cases g : mdr n row b = md b
      · rw [if_pos (by rw [g]), ← mcN_s0 (p := cP n row md) (fun z => (of_decide_eq_true z) g)]
        exact ih (b + 1) (by omega) (by omega)
      · rw [if_neg (fun z => g ((nI_eq (by omega) (by omega)).mp z)), ← mcN_s1 (p := cP n row md) (decide_eq_true g)]
        exact ih (b + 1) (by omega) (by omega)
theorem co_ok {st : St} {n w rc : Nat} {kd nt sp md : Nat → Nat} (h1 : Hd n w rc kd nt sp md) (h2 : CG st n w rc kd nt sp md) {row : Nat} (hr : row < 1024) : F_X0_changesOf st (nI row) = some (nI (mcN (cP n row md) n)) := by
  unfold F_X0_changesOf
  exact co_loop h1 h2 hr (fun y _ => some y) 70 0 (by omega) (by have := h1.1; omega)
def rsn (n w : Nat) (kd nt : Nat → Nat) (row b : Nat) : Nat := snd (kd b) (nt b) (mdr n row b) w
theorem io_loop {st : St} {n w rc : Nat} {kd nt sp md : Nat → Nat} (h1 : Hd n w rc kd nt sp md) (h2 : CG st n w rc kd nt sp md) {row : Nat} (hr : row < 1024) (kk : Int32 → St → Option (Int32 × St)) :
    ∀ f b z, b ≤ n → n < b + f → SameC st z → (∀ q, q < b → z.2 7 q = nI (rsn n w kd nt row q)) → ∃ z', L_X0_isOneFamily_2 (nI row) kk f (nI b) z = kk (nI n) z' ∧ SameC st z' ∧ ∀ q, q < n → z'.2 7 q = nI (rsn n w kd nt row q) := by
  have hn5 := h1.1
  intro f
  induction f with
  | zero => intro b z h1 h2; omega
  | succ f ih =>
    intro b z hb1 hb2 hz hq
    have hzc := h2.same hz
    rw [L_X0_isOneFamily_2_s, hzc.1]
    by_cases c : b = n
    · subst c
      rw [if_pos (nI_le (Nat.le_refl _) (by omega))]
      exact ⟨z, rfl, hz, hq⟩
    · rw [if_neg (nI_ge (by omega) (by omega)), moodIn_ok z hn5 hr (by omega), b1_s, csound h1 hzc (by omega) (mdr_lt n row b), b1_s, ck_nI (by omega) (by decide), nI_1]
      refine ih (b + 1) _ (by omega) (by omega) (hz.tr (SameC.a 7 _ _ (Or.inl rfl))) (fun q hq2 => ?_)
      rw [A_sAs z 7 _ (by omega)]
      by_cases d : q = b
      · rw [if_pos d, d]; rfl
      · rw [if_neg d]; exact hq q (by omega)
theorem io_ok {st z : St} {n w rc : Nat} {kd nt sp md : Nat → Nat} (h1 : Hd n w rc kd nt sp md) (h2 : CG st n w rc kd nt sp md) (hz : SameC st z) {row : Nat} (hr : row < 1024) : ∃ z', SameC st z' ∧ F_X0_isOneFamily z (nI row) = some ((if cF (rwS (rsn n w kd nt row) n) n n 1 = 2 ^ n - 1 then 1 else 0), z') := by
  have hn5 := h1.1
  have hp5 := pow5 hn5
  unfold F_X0_isOneFamily
  obtain ⟨z', e1, e2, e3⟩ := io_loop h1 h2 hr (fun _ z => b1 (F_X0_familyOf z 0 (gI z 2)) (fun v => if v = (jshl 1 (gI z 2)) - 1 then some (1, z) else some (0, z))) 70 0 z (by omega) (by omega) hz (fun q hq => absurd hq (by omega))
  rw [nI_0] at e1
  refine ⟨z', e2, ?_⟩
  rw [e1]
  have hs : ∀ b, b < n → z'.2 7 b = nI (rsn n w kd nt row b) ∧ rsn n w kd nt row b < 20 := fun b hb => by
    obtain ⟨d1, d2, d3, d4⟩ := h1.2.2.2 b (by omega)
    have := snd_lt _ d1 _ d2 _ (mdr_lt n row b) _ h1.2.1
    refine ⟨e3 b hb, ?_⟩
    unfold rsn
    omega
  have ef : F_X0_familyOf z' 0 (nI n) = some (nI (cF (rwS (rsn n w kd nt row) n) n n 1)) := fo_ok (st := z') hn5 hs (b := 0) (by decide)
  have hlt : cF (rwS (rsn n w kd nt row) n) n n 1 < 2 ^ 31 := by
    have : ∀ k set, set < 32 → cF (rwS (rsn n w kd nt row) n) n k set < 32 := by
      intro k
      induction k with
      | zero => intro set h; exact h
      | succ k ih =>
        intro set h
        show (if cW (rwS (rsn n w kd nt row) n) set n = set then set else cF (rwS (rsn n w kd nt row) n) n k (cW (rwS (rsn n w kd nt row) n) set n)) < 32
        by_cases c : cW (rwS (rsn n w kd nt row) n) set n = set
        · rw [if_pos c]; exact h
        · rw [if_neg c]; exact ih _ (cW_lt h (fun x _ => rwS_lt hn5 x))
    have := this n 1 (by decide)
    omega
  have hpp := Nat.two_pow_pos n
  rw [(h2.same e2).1, ef, b1_s, jshl_1 n (by omega), show (1 : Int32) = nI 1 from rfl, pk_sub (by omega)]
  by_cases g : cF (rwS (rsn n w kd nt row) n) n n 1 = 2 ^ n - 1
  · rw [if_pos (by rw [g]), if_pos g]
  · rw [if_neg (fun z => g ((nI_eq hlt (by omega)).mp z)), if_neg g]
/-! the reference's rows -/
def ZI (n : Nat) (md : Nat → Nat) (mt z : St) : Prop := (∀ k, gI z k = gI mt k) ∧ (∀ a, a ≠ 11 → a ≠ 22 → a ≠ 23 → z.2 a = mt.2 a) ∧ (∀ b, b < n → z.2 22 b = nI (md b)) ∧ ∀ b, n ≤ b → z.2 11 b = mt.2 11 b
def yv (c : Nat) : Int32 := if c = 0 then -1 else nI (c - 1)
theorem yv_step {c : Nat} (h : 0 < c) (h5 : c ≤ 5) : yv c + (-1) = yv (c - 1) := by
  rcases (show c = 1 ∨ c = 2 ∨ c = 3 ∨ c = 4 ∨ c = 5 by omega) with rfl | rfl | rfl | rfl | rfl <;> decide
theorem MG.row {mt z : St} {n w rc : Nat} {kd nt sp md : Nat → Nat} (h3 : MG mt n w rc kd nt sp md) (hz : ZI n md mt z) {row : Nat} (hm : ∀ b, b < n → z.2 11 b = nI (mdr n row b)) : MG z n w rc kd nt sp (fun b => if b < n then mdr n row b else md b) := by
  refine ⟨(hz.1 5).trans h3.1, (hz.1 6).trans h3.2.1, (hz.1 7).trans h3.2.2.1, fun b hb => ?_⟩
  obtain ⟨q1, q2, q3, q4⟩ := h3.2.2.2 b hb
  rw [hz.2.1 8 (by decide) (by decide) (by decide), hz.2.1 9 (by decide) (by decide) (by decide), hz.2.1 10 (by decide) (by decide) (by decide)]
  refine ⟨q1, q2, q3, ?_⟩
  show z.2 11 b = nI (if b < n then mdr n row b else md b)
  by_cases c : b < n
  · rw [if_pos c, hm b c]
  · rw [if_neg c, hz.2.2.2 b (by omega), q4]
theorem Hd.row {n w rc : Nat} {kd nt sp md : Nat → Nat} (h1 : Hd n w rc kd nt sp md) (row : Nat) : Hd n w rc kd nt sp (fun b => if b < n then mdr n row b else md b) := ⟨h1.1, h1.2.1, h1.2.2.1, fun b hb => by
  obtain ⟨q1, q2, q3, q4⟩ := h1.2.2.2 b hb
  refine ⟨q1, q2, q3, ?_⟩
  show (if b < n then mdr n row b else md b) < 4
  by_cases c : b < n
  · rw [if_pos c]; exact mdr_lt n row b
  · rw [if_neg c]; exact q4⟩
theorem md_loop {mt : St} {n w rc : Nat} {kd nt sp md : Nat → Nat} (h1 : Hd n w rc kd nt sp md) {row : Nat} (hr : row < 1024) (kk : Int32 → Int32 → St → Option (Int32 × St)) :
    ∀ f c z, c ≤ n → c < f → ZI n md mt z → (∀ b, c ≤ b → b < n → z.2 11 b = nI (mdr n row b)) → ∃ z', L_X7_findChoir_55 kk f (nI (row / 4 ^ (n - c))) (yv c) z = kk (nI (row / 4 ^ n)) (-1) z' ∧ ZI n md mt z' ∧ (∀ b, b < n → z'.2 11 b = nI (mdr n row b)) ∧ z'.2 23 = z.2 23 := by
  have hn5 := h1.1
  intro f
  induction f with
  | zero => intro c z h1 h2; omega
  | succ f ih =>
    intro c z hc1 hc2 hz hm
    rw [L_X7_findChoir_55_s]
    by_cases e : c = 0
    · subst e
      rw [if_pos (by decide)]
      exact ⟨z, rfl, hz, fun b hb => hm b (by omega) hb, rfl⟩
    · have ey : yv c = nI (c - 1) := if_neg e
      have hlt : row / 4 ^ (n - c) < 1024 := Nat.lt_of_le_of_lt (Nat.div_le_self _ _) hr
      rw [ey, if_neg (nI_pos (by omega)), ck_nI (by omega) (by decide), ← ey, yv_step (by omega) (by omega), jrem, show (4 : Int32) = nI 4 from rfl, pk_rem (by omega) (by decide) (by decide), pk_div (by omega) (by decide) (by decide), Nat.div_div_eq_div_mul, ← Nat.pow_succ, show (n - c).succ = n - (c - 1) by omega, ey]
      obtain ⟨z', t1, t2, t3, t4⟩ := ih (c - 1) (sA z 11 (nI (c - 1)) (nI (row / 4 ^ (n - c) % 4))) (by omega) (by omega) ⟨hz.1, fun a a1 a2 a3 => by rw [A_sAn z _ _ a1, hz.2.1 a a1 a2 a3], fun b hb => by rw [A_sAn z _ _ (by decide)]; exact hz.2.2.1 b hb, fun b hb => by rw [A_sAs z 11 _ (by omega), if_neg (by omega)]; exact hz.2.2.2 b hb⟩ (fun b hb1 hb2 => by
        rw [A_sAs z 11 _ (by omega)]
        by_cases d : b = c - 1
        · rw [if_pos d, d]
          unfold mdr
          rw [show n - 1 - (c - 1) = n - c by omega]
        · rw [if_neg d]; exact hm b (by omega) hb2)
      exact ⟨z', t1, t2, t3, by rw [t4, A_sAn z _ _ (by decide)]⟩
theorem ch_loop {z : St} {n : Nat} {md : Nat → Nat} {row : Nat} (hn : gI z 5 = nI n) (hn5 : n ≤ 5) (hd : ∀ b, b < n → md b < 4) (hm : ∀ b, b < n → z.2 11 b = nI (mdr n row b)) (hk : ∀ b, b < n → z.2 22 b = nI (md b)) (kk : Int32 → Int32 → Option Int32) :
    ∀ f b, b ≤ n → n < b + f → L_X7_changes_4 z kk f (nI (mcN (cP n row md) b)) (nI b) = kk (nI (mcN (cP n row md) n)) (nI n) := by
  intro f
  induction f with
  | zero => intro b h1 h2; omega
  | succ f ih =>
    intro b hb1 hb2
    rw [L_X7_changes_4_s, hn]
    by_cases c : b = n
    · subst c; rw [if_pos (nI_le (Nat.le_refl _) (by omega))]
    · have hl := mdr_lt n row b
      have hd' := hd b (by omega)
      rw [if_neg (nI_ge (by omega) (by omega)), ck_nI (by omega) (by decide), ck_nI (by omega) (by decide), gA_nI _ _ (by omega), gA_nI _ _ (by omega), hm b (by omega), hk b (by omega), nI_1, nI_1, Int32.add_zero]
      by_cases g : mdr n row b = md b
      · rw [if_pos (by rw [g]), ← mcN_s0 (p := cP n row md) (fun z => (of_decide_eq_true z) g)]
        exact ih (b + 1) (by omega) (by omega)
      · rw [if_neg (fun z => g ((nI_eq (by omega) (by omega)).mp z)), ← mcN_s1 (p := cP n row md) (decide_eq_true g)]
        exact ih (b + 1) (by omega) (by omega)
theorem chg_ok {z : St} {n : Nat} {md : Nat → Nat} {row : Nat} (hn : gI z 5 = nI n) (hn5 : n ≤ 5) (hd : ∀ b, b < n → md b < 4) (hm : ∀ b, b < n → z.2 11 b = nI (mdr n row b)) (hk : ∀ b, b < n → z.2 22 b = nI (md b)) : F_X7_changes z = some (nI (mcN (cP n row md) n)) := by
  unfold F_X7_changes
  exact ch_loop hn hn5 hd hm hk (fun y _ => some y) 70 0 (by omega) (by omega)
theorem fd_loop {n : Nat} {md : Nat → Nat} {mt : St} (hn : gI mt 5 = nI n) (hn5 : n ≤ 5) {row : Nat} (kk : Int32 → St → Option (Int32 × St)) :
    ∀ f b z, b ≤ n → n < b + f → ZI n md mt z → (∀ q, q < n → z.2 11 q = nI (mdr n row q)) → (∀ q, q < b → z.2 23 q = nI (mdr n row q)) → ∃ z', L_X7_findChoir_121 kk f (nI b) z = kk (nI n) z' ∧ ZI n md mt z' ∧ ∀ q, q < n → z'.2 23 q = nI (mdr n row q) := by
  intro f
  induction f with
  | zero => intro b z h1 h2; omega
  | succ f ih =>
    intro b z hb1 hb2 hz hm hq
    rw [L_X7_findChoir_121_s, hz.1 5, hn]
    by_cases c : b = n
    · subst c
      rw [if_pos (nI_le (Nat.le_refl _) (by omega))]
      exact ⟨z, rfl, hz, hq⟩
    · rw [if_neg (nI_ge (by omega) (by omega)), ck_nI (by omega) (by decide), ck_nI (by omega) (by decide), gA_nI _ _ (by omega), hm b (by omega), nI_1]
      refine ih (b + 1) _ (by omega) (by omega) ⟨hz.1, fun a a1 a2 a3 => by rw [A_sAn z _ _ a3, hz.2.1 a a1 a2 a3], fun q hq => by rw [A_sAn z _ _ (by decide)]; exact hz.2.2.1 q hq, fun q hq => by rw [A_sAn z _ _ (by decide)]; exact hz.2.2.2 q hq⟩ (fun q hq => by rw [A_sAn z _ _ (by decide)]; exact hm q hq) (fun q hq2 => ?_)
      rw [A_sAs z 23 _ (by omega)]
      by_cases d : q = b
      · rw [if_pos d, d]
      · rw [if_neg d]; exact hq q (by omega)
theorem fe_loop {n : Nat} {md : Nat → Nat} {mt : St} (hn : gI mt 5 = nI n) (hn5 : n ≤ 5) {row : Nat} (kk : Int32 → St → Option (Int32 × St)) :
    ∀ f b z, b ≤ n → n < b + f → ZI n md mt z → (∀ q, q < n → z.2 11 q = nI (mdr n row q)) → (∀ q, q < b → z.2 23 q = nI (mdr n row q)) → ∃ z', L_X7_findChoir_121b kk f (nI b) z = kk (nI n) z' ∧ ZI n md mt z' ∧ ∀ q, q < n → z'.2 23 q = nI (mdr n row q) := by
  intro f
  induction f with
  | zero => intro b z h1 h2; omega
  | succ f ih =>
    intro b z hb1 hb2 hz hm hq
    rw [L_X7_findChoir_121b_s, hz.1 5, hn]
    by_cases c : b = n
    · subst c
      rw [if_pos (nI_le (Nat.le_refl _) (by omega))]
      exact ⟨z, rfl, hz, hq⟩
    · rw [if_neg (nI_ge (by omega) (by omega)), ck_nI (by omega) (by decide), ck_nI (by omega) (by decide), gA_nI _ _ (by omega), hm b (by omega), nI_1]
      refine ih (b + 1) _ (by omega) (by omega) ⟨hz.1, fun a a1 a2 a3 => by rw [A_sAn z _ _ a3, hz.2.1 a a1 a2 a3], fun q hq => by rw [A_sAn z _ _ (by decide)]; exact hz.2.2.1 q hq, fun q hq => by rw [A_sAn z _ _ (by decide)]; exact hz.2.2.2 q hq⟩ (fun q hq => by rw [A_sAn z _ _ (by decide)]; exact hm q hq) (fun q hq2 => ?_)
      rw [A_sAs z 23 _ (by omega)]
      by_cases d : q = b
      · rw [if_pos d, d]
      · rw [if_neg d]; exact hq q (by omega)
theorem rs_loop {n : Nat} {md : Nat → Nat} {mt : St} (hn : gI mt 5 = nI n) (hn5 : n ≤ 5) (kk : Int32 → St → Option (Int32 × St)) :
    ∀ f b z, b ≤ n → n < b + f → ZI n md mt z → (∀ q, q < b → z.2 11 q = nI (md q)) → ∃ z', L_X7_findChoir_158 kk f (nI b) z = kk (nI n) z' ∧ ZI n md mt z' ∧ (∀ q, q < n → z'.2 11 q = nI (md q)) ∧ z'.2 23 = z.2 23 := by
  intro f
  induction f with
  | zero => intro b z h1 h2; omega
  | succ f ih =>
    intro b z hb1 hb2 hz hq
    rw [L_X7_findChoir_158_s, hz.1 5, hn]
    by_cases c : b = n
    · subst c
      rw [if_pos (nI_le (Nat.le_refl _) (by omega))]
      exact ⟨z, rfl, hz, hq, rfl⟩
    · rw [if_neg (nI_ge (by omega) (by omega)), ck_nI (by omega) (by decide), ck_nI (by omega) (by decide), gA_nI _ _ (by omega), hz.2.2.1 b (by omega), nI_1]
      obtain ⟨z', t1, t2, t3, t4⟩ := ih (b + 1) (sA z 11 (nI b) (nI (md b))) (by omega) (by omega) ⟨hz.1, fun a a1 a2 a3 => by rw [A_sAn z _ _ a1, hz.2.1 a a1 a2 a3], fun q hq => by rw [A_sAn z _ _ (by decide)]; exact hz.2.2.1 q hq, fun q hq => by rw [A_sAs z 11 _ (by omega), if_neg (by omega)]; exact hz.2.2.2 q hq⟩ (fun q hq2 => by
        rw [A_sAs z 11 _ (by omega)]
        by_cases d : q = b
        · rw [if_pos d, d]
        · rw [if_neg d]; exact hq q (by omega))
      exact ⟨z', t1, t2, t3, by rw [t4, A_sAn z _ _ (by decide)]⟩
theorem kp_loop {n : Nat} {md : Nat → Nat} {mt : St} (hn : gI mt 5 = nI n) (hn5 : n ≤ 5) (hmd : ∀ b, b < n → mt.2 11 b = nI (md b)) (kk : Int32 → Int32 → St → Option (Int32 × St)) :
    ∀ f b z, b ≤ n → n < b + f → (∀ k, gI z k = gI mt k) → (∀ a, a ≠ 22 → z.2 a = mt.2 a) → (∀ q, q < b → z.2 22 q = nI (md q)) → ∃ z', L_X7_findChoir_4 kk f (nI (4 ^ b)) (nI b) z = kk (nI (4 ^ n)) (nI n) z' ∧ ZI n md mt z' := by
  intro f
  induction f with
  | zero => intro b z h1 h2; omega
  | succ f ih =>
    intro b z hb1 hb2 hz1 hz2 hq
    rw [L_X7_findChoir_4_s, hz1 5, hn]
    by_cases c : b = n
    · subst c
      rw [if_pos (nI_le (Nat.le_refl _) (by omega))]
      exact ⟨z, rfl, hz1, fun a a1 a2 a3 => hz2 a a2, hq, fun q hq => by rw [hz2 11 (by decide)]⟩
    · rw [if_neg (nI_ge (by omega) (by omega)), ck_nI (by omega) (by decide), ck_nI (by omega) (by decide), gA_nI _ _ (by omega), hz2 11 (by decide), hmd b (by omega), nI_1, show (4 : Int32) = nI 4 from rfl, pk_mul, ← Nat.pow_succ]
      refine ih (b + 1) _ (by omega) (by omega) hz1 (fun a ha => by rw [A_sAn z _ _ ha, hz2 a ha]) (fun q hq2 => ?_)
      rw [A_sAs z 22 _ (by omega)]
      by_cases d : q = b
      · rw [if_pos d, d]
      · rw [if_neg d]; exact hq q (by omega)
theorem fm_loop {st : St} {n w rc : Nat} {kd nt sp md : Nat → Nat} (h1 : Hd n w rc kd nt sp md) (h2 : CG st n w rc kd nt sp md) {br : Nat} (hr : br < 1024) (kk : Int32 → St → Option (Int32 × St)) :
    ∀ f b z, b ≤ n → n < b + f → SameC st z → (∀ q, q < b → z.2 8 q = nI (mdr n br q)) → ∃ z', L_X0_findChoir_80 (nI br) kk f (nI b) z = kk (nI n) z' ∧ SameC st z' ∧ (∀ q, q < n → z'.2 8 q = nI (mdr n br q)) ∧ gI z' 6 = gI z 6 := by
  have hn5 := h1.1
  intro f
  induction f with
  | zero => intro b z h1 h2; omega
  | succ f ih =>
    intro b z hb1 hb2 hz hq
    have hzc := h2.same hz
    rw [L_X0_findChoir_80_s, hzc.1]
    by_cases c : b = n
    · subst c
      rw [if_pos (nI_le (Nat.le_refl _) (by omega))]
      exact ⟨z, rfl, hz, hq, rfl⟩
    · rw [if_neg (nI_ge (by omega) (by omega)), moodIn_ok z hn5 hr (by omega), b1_s, ck_nI (by omega) (by decide), nI_1]
      refine ih (b + 1) _ (by omega) (by omega) (hz.tr (SameC.a 8 _ _ (Or.inr (Or.inl rfl)))) (fun q hq2 => ?_)
      rw [A_sAs z 8 _ (by omega)]
      by_cases d : q = b
      · rw [if_pos d, d]
      · rw [if_neg d]; exact hq q (by omega)
def Concl (st mt : St) (n : Nat) (rC rM : Option (Int32 × St)) : Prop := ∃ s2 m2, SameC st s2 ∧ SameM mt m2 ∧ ((rC = some (0, s2) ∧ rM = some (-9, m2)) ∨ ∃ c, c ≤ 5 ∧ rC = some (1, s2) ∧ rM = some (nI c, m2) ∧ gI s2 6 = nI c ∧ ∀ b, b < n → s2.2 8 b = m2.2 23 b)
theorem ZI.same {n : Nat} {md : Nat → Nat} {mt z : St} (hz : ZI n md mt z) (hmd : ∀ b, b < n → mt.2 11 b = nI (md b)) (hm : ∀ b, b < n → z.2 11 b = nI (md b)) : SameM mt z := ⟨fun k _ => hz.1 k, fun a ha i => by
  by_cases c : a = 11
  · subst c
    by_cases d : i < n
    · rw [hm i d, hmd i d]
    · exact hz.2.2.2 i (by omega)
  · rw [hz.2.1 a c (by omega) (by omega)]⟩
theorem four5 {n : Nat} (h : n ≤ 5) : 4 ^ n ≤ 1024 ∧ 2 ^ (2 * n) = 4 ^ n := by
  rcases (show n = 0 ∨ n = 1 ∨ n = 2 ∨ n = 3 ∨ n = 4 ∨ n = 5 by omega) with rfl | rfl | rfl | rfl | rfl | rfl <;> decide
set_option maxHeartbeats 2000000 in
theorem fc_loop {st mt : St} {n w rc : Nat} {kd nt sp md : Nat → Nat} (h1 : Hd n w rc kd nt sp md) (h2 : CG st n w rc kd nt sp md) (h3 : MG mt n w rc kd nt sp md) (hn0 : 0 < n) :
    ∀ f row z zm, row ≤ 4 ^ n → 4 ^ n < row + f → SameC st z → ZI n md mt zm →
      Concl st mt n (L_X0_findChoir_19 st (fun y3 y4 _ z => if y3 = (-9) then some (0, z) else L_X0_findChoir_80 y3 (fun _ z => some (1, z)) 1100 0 (sI z 6 y4)) f (-9) 6 (nI row) z) (L_X7_findChoir_39 (nI (4 ^ n)) (fun y2 _ z => L_X7_findChoir_158 (fun _ z => some (y2, z)) 1100 0 z) f (-9) (nI row) zm) ∧
      ∀ br c, br < 4 ^ n → c ≤ 5 → (∀ b, b < n → zm.2 23 b = nI (mdr n br b)) →
        Concl st mt n (L_X0_findChoir_19 st (fun y3 y4 _ z => if y3 = (-9) then some (0, z) else L_X0_findChoir_80 y3 (fun _ z => some (1, z)) 1100 0 (sI z 6 y4)) f (nI br) (nI c) (nI row) z) (L_X7_findChoir_39 (nI (4 ^ n)) (fun y2 _ z => L_X7_findChoir_158 (fun _ z => some (y2, z)) 1100 0 z) f (nI c) (nI row) zm) := by
  have hn5 := h1.1
  obtain ⟨f1, f2⟩ := four5 hn5
  have hp5 := pow5 hn5
  have hpp := Nat.two_pow_pos n
  have hmd : ∀ b, b < n → mt.2 11 b = nI (md b) := fun b hb => (h3.2.2.2 b (by omega)).2.2.2
  have hmd4 : ∀ b, b < n → md b < 4 := fun b hb => (h1.2.2.2 b (by omega)).2.2.2
  have ecap : jshl 1 (2 * gI st 2) = nI (4 ^ n) := by
    rw [h2.1, show (2 : Int32) = nI 2 from rfl, pk_mul, jshl_1 _ (by omega), f2]
  intro f
  induction f with
  | zero => intro row z zm h1 h2; omega
  | succ f ih =>
    intro row z zm hr1 hr2 hz hzm
    by_cases c : row = 4 ^ n
    · subst c
      have hge : nI (4 ^ n) ≤ nI (4 ^ n) := nI_le (Nat.le_refl _) (by omega)
      have hrs := rs_loop (md := md) h3.1 hn5
      constructor
      · rw [L_X0_findChoir_19_s, L_X7_findChoir_39_s, ecap, if_pos hge, if_pos hge, if_pos rfl]
        obtain ⟨z', t1, t2, t3, t4⟩ := hrs (fun _ z => some (-9, z)) 1100 0 zm (by omega) (by omega) hzm (fun q hq => absurd hq (by omega))
        rw [nI_0] at t1
        exact ⟨z, z', hz, t2.same hmd t3, Or.inl ⟨rfl, t1⟩⟩
      · intro br ch hbr hch hfd
        have hb9 : ¬ nI br = -9 := fun e => by
          have := congrArg Int32.toInt e
          rw [nI_toInt (by omega)] at this
          have h9 : (-9 : Int32).toInt = -9 := by decide
          rw [h9] at this
          omega
        rw [L_X0_findChoir_19_s, L_X7_findChoir_39_s, ecap, if_pos hge, if_pos hge, if_neg hb9]
        obtain ⟨z', t1, t2, t3, t4⟩ := hrs (fun _ z => some (nI ch, z)) 1100 0 zm (by omega) (by omega) hzm (fun q hq => absurd hq (by omega))
        obtain ⟨z2, u1, u2, u3, u4⟩ := fm_loop h1 h2 (br := br) (by omega) (fun _ z => some (1, z)) 1100 0 (sI z 6 (nI ch)) (by omega) (by omega) (hz.tr (SameC.i 6 _ (Or.inl rfl))) (fun q hq => absurd hq (by omega))
        rw [nI_0] at t1 u1
        exact ⟨z2, z', u2, t2.same hmd t3, Or.inr ⟨ch, hch, u1, t1, by rw [u4, gI_sIs], fun b hb => by rw [u3 b hb, t4, hfd b hb]⟩⟩
    · have hrow : row < 1024 := by omega
      have hng : ¬ nI (4 ^ n) ≤ nI row := nI_ge (by omega) (by omega)
      have hcl := mcN_le (cP n row md) n
      have eC : ∀ y3 y4, L_X0_findChoir_19 st (fun y3 y4 _ z => if y3 = (-9) then some (0, z) else L_X0_findChoir_80 y3 (fun _ z => some (1, z)) 1100 0 (sI z 6 y4)) (f + 1) y3 y4 (nI row) z = (if y4 ≤ nI (mcN (cP n row md) n) then L_X0_findChoir_19 st (fun y3 y4 _ z => if y3 = (-9) then some (0, z) else L_X0_findChoir_80 y3 (fun _ z => some (1, z)) 1100 0 (sI z 6 y4)) f y3 y4 (nI (row + 1)) z else b2 (F_X0_isOneFamily z (nI row)) (fun v s => if v = 0 then L_X0_findChoir_19 st (fun y3 y4 _ z => if y3 = (-9) then some (0, z) else L_X0_findChoir_80 y3 (fun _ z => some (1, z)) 1100 0 (sI z 6 y4)) f y3 y4 (nI (row + 1)) s else L_X0_findChoir_19 st (fun y3 y4 _ z => if y3 = (-9) then some (0, z) else L_X0_findChoir_80 y3 (fun _ z => some (1, z)) 1100 0 (sI z 6 y4)) f (nI row) (nI (mcN (cP n row md) n)) (nI (row + 1)) s)) := by
        intro y3 y4
        rw [L_X0_findChoir_19_s, ecap, if_neg hng, co_ok h1 (h2.same hz) hrow, b1_s, nI_1]
      obtain ⟨zc, ic1, ic2⟩ := io_ok h1 h2 hz hrow
      -- the reference's row
      have hml := md_loop (mt := mt) (md := md) h1 hrow
      have eM : ∀ y2, ∃ z55, ZI n md mt z55 ∧ (∀ b, b < n → z55.2 11 b = nI (mdr n row b)) ∧ z55.2 23 = zm.2 23 ∧ L_X7_findChoir_39 (nI (4 ^ n)) (fun y2 _ z => L_X7_findChoir_158 (fun _ z => some (y2, z)) 1100 0 z) (f + 1) y2 (nI row) zm = (if y2 = (-9) then b1 (F_X7_familyOf z55 0) (fun v_8 => if v_8 = ((jshl 1 (gI z55 5)) - 1) then b1 (F_X7_changes z55) (fun v_10 => L_X7_findChoir_121 (fun _ z_121 => L_X7_findChoir_39 (nI (4 ^ n)) (fun y2 _ z => L_X7_findChoir_158 (fun _ z => some (y2, z)) 1100 0 z) f v_10 (nI row + 1) z_121) 1100 0 z55) else L_X7_findChoir_39 (nI (4 ^ n)) (fun y2 _ z => L_X7_findChoir_158 (fun _ z => some (y2, z)) 1100 0 z) f y2 (nI row + 1) z55) else b1 (F_X7_changes z55) (fun v_14 => if y2 ≤ v_14 then L_X7_findChoir_39 (nI (4 ^ n)) (fun y2 _ z => L_X7_findChoir_158 (fun _ z => some (y2, z)) 1100 0 z) f y2 (nI row + 1) z55 else b1 (F_X7_familyOf z55 0) (fun v_16 => if v_16 = ((jshl 1 (gI z55 5)) - 1) then b1 (F_X7_changes z55) (fun v_18 => L_X7_findChoir_121b (fun _ z_121 => L_X7_findChoir_39 (nI (4 ^ n)) (fun y2 _ z => L_X7_findChoir_158 (fun _ z => some (y2, z)) 1100 0 z) f v_18 (nI row + 1) z_121) 1100 0 z55) else L_X7_findChoir_39 (nI (4 ^ n)) (fun y2 _ z => L_X7_findChoir_158 (fun _ z => some (y2, z)) 1100 0 z) f y2 (nI row + 1) z55))) := by
        intro y2
        obtain ⟨z55, t1, t2, t3, t4⟩ := hml (fun y4_55 y5_55 z_55 => if y2 = (-9) then b1 (F_X7_familyOf z_55 0) (fun v_8 => if v_8 = ((jshl 1 (gI z_55 5)) - 1) then b1 (F_X7_changes z_55) (fun v_10 => L_X7_findChoir_121 (fun y5_121 z_121 => L_X7_findChoir_39 (nI (4 ^ n)) (fun y2 _ z => L_X7_findChoir_158 (fun _ z => some (y2, z)) 1100 0 z) f v_10 (nI row + 1) z_121) 1100 0 z_55) else L_X7_findChoir_39 (nI (4 ^ n)) (fun y2 _ z => L_X7_findChoir_158 (fun _ z => some (y2, z)) 1100 0 z) f y2 (nI row + 1) z_55) else b1 (F_X7_changes z_55) (fun v_14 => if y2 ≤ v_14 then L_X7_findChoir_39 (nI (4 ^ n)) (fun y2 _ z => L_X7_findChoir_158 (fun _ z => some (y2, z)) 1100 0 z) f y2 (nI row + 1) z_55 else b1 (F_X7_familyOf z_55 0) (fun v_16 => if v_16 = ((jshl 1 (gI z_55 5)) - 1) then b1 (F_X7_changes z_55) (fun v_18 => L_X7_findChoir_121b (fun y5_121 z_121 => L_X7_findChoir_39 (nI (4 ^ n)) (fun y2 _ z => L_X7_findChoir_158 (fun _ z => some (y2, z)) 1100 0 z) f v_18 (nI row + 1) z_121) 1100 0 z_55) else L_X7_findChoir_39 (nI (4 ^ n)) (fun y2 _ z => L_X7_findChoir_158 (fun _ z => some (y2, z)) 1100 0 z) f y2 (nI row + 1) z_55))) 1100 n zm (Nat.le_refl _) (by omega) hzm (fun b hb1 hb2 => absurd hb1 (by omega))
        rw [Nat.sub_self, Nat.pow_zero, Nat.div_one] at t1
        refine ⟨z55, t2, t3, t4, ?_⟩
        rw [L_X7_findChoir_39_s, if_neg hng, hzm.1 5, h3.1, show nI n - 1 = yv n from by
          unfold yv
          rw [if_neg (by omega), show n = (n - 1) + 1 by omega, nI_pred]
          rfl]
        exact t1
      have hfam : ∀ z55, ZI n md mt z55 → (∀ b, b < n → z55.2 11 b = nI (mdr n row b)) → F_X7_familyOf z55 0 = some (nI (cF (rwS (rsn n w kd nt row) n) n n 1)) ∧ F_X7_changes z55 = some (nI (mcN (cP n row md) n)) ∧ gI z55 5 = nI n := by
        intro z55 t2 t3
        have q := mf_ok (h1.row row) (h3.row t2 t3) (s := rsn n w kd nt row) (fun b hb => by
          show rsn n w kd nt row b = snd (kd b) (nt b) (if b < n then mdr n row b else md b) w
          rw [if_pos hb]
          rfl) (b := 0) (by decide)
        refine ⟨?_, chg_ok ((t2.1 5).trans h3.1) hn5 hmd4 t3 t2.2.2.1, (t2.1 5).trans h3.1⟩
        rw [show (2 : Nat) ^ 0 = 1 from rfl] at q
        rw [show F_X7_familyOf z55 0 = F_X7_familyOf z55 (nI 0) from rfl, q, ← (fam_eq (rsn n w kd nt row) hn5 hn0 : cF (rwS (rsn n w kd nt row) n) n n (2 ^ 0) = _)]
      have hlt : cF (rwS (rsn n w kd nt row) n) n n 1 < 32 := by
        have : ∀ k set, set < 32 → cF (rwS (rsn n w kd nt row) n) n k set < 32 := by
          intro k
          induction k with
          | zero => intro set h; exact h
          | succ k ih =>
            intro set h
            show (if cW (rwS (rsn n w kd nt row) n) set n = set then set else cF (rwS (rsn n w kd nt row) n) n k (cW (rwS (rsn n w kd nt row) n) set n)) < 32
            by_cases c : cW (rwS (rsn n w kd nt row) n) set n = set
            · rw [if_pos c]; exact h
            · rw [if_neg c]; exact ih _ (cW_lt h (fun x _ => rwS_lt hn5 x))
        exact this n 1 (by decide)
      have ecmp : ((nI (cF (rwS (rsn n w kd nt row) n) n n 1) : Int32) = jshl 1 (nI n) - 1) ↔ cF (rwS (rsn n w kd nt row) n) n n 1 = 2 ^ n - 1 := by
        rw [jshl_1 n (by omega), show (1 : Int32) = nI 1 from rfl, pk_sub (by omega), nI_eq (by omega) (by omega)]
      constructor
      · obtain ⟨z55, t2, t3, t4, t1⟩ := eM (-9)
        obtain ⟨g1, g2, g3⟩ := hfam z55 t2 t3
        rw [eC, t1, if_neg (show ¬ (6 : Int32) ≤ nI (mcN (cP n row md) n) from nI_ge (b := 6) (by omega) (by decide)), if_pos rfl, ic2, b2_s, g1, b1_s, g3, g2, b1_s]
        by_cases g : cF (rwS (rsn n w kd nt row) n) n n 1 = 2 ^ n - 1
        · rw [if_pos g, if_neg n10, if_pos (ecmp.mpr g)]
          obtain ⟨z', v1, v2, v3⟩ := fd_loop (md := md) h3.1 hn5 (row := row) (fun _ z_121 => L_X7_findChoir_39 (nI (4 ^ n)) (fun y2 _ z => L_X7_findChoir_158 (fun _ z => some (y2, z)) 1100 0 z) f (nI (mcN (cP n row md) n)) (nI row + 1) z_121) 1100 0 z55 (by omega) (by omega) t2 t3 (fun q hq => absurd hq (by omega))
          rw [nI_0] at v1
          rw [v1, nI_1]
          exact (ih (row + 1) zc z' (by omega) (by omega) ic1 v2).2 row _ (by omega) (by omega) v3
        · rw [if_neg g, if_pos rfl, if_neg (fun z => g (ecmp.mp z)), nI_1]
          exact (ih (row + 1) zc z55 (by omega) (by omega) ic1 t2).1
      · intro br ch hbr hch hfd
        have hc9 : ¬ nI ch = -9 := by
          rcases (show ch = 0 ∨ ch = 1 ∨ ch = 2 ∨ ch = 3 ∨ ch = 4 ∨ ch = 5 by omega) with rfl | rfl | rfl | rfl | rfl | rfl <;> decide
        obtain ⟨z55, t2, t3, t4, t1⟩ := eM (nI ch)
        obtain ⟨g1, g2, g3⟩ := hfam z55 t2 t3
        rw [eC, t1, if_neg hc9, g2, b1_s]
        by_cases k : nI ch ≤ nI (mcN (cP n row md) n)
        · rw [if_pos k, if_pos k, nI_1]
          exact (ih (row + 1) z z55 (by omega) (by omega) hz t2).2 br ch hbr hch (fun b hb => by rw [t4]; exact hfd b hb)
        · rw [if_neg k, if_neg k, ic2, b2_s, g1, b1_s, g3, b1_s]
          by_cases g : cF (rwS (rsn n w kd nt row) n) n n 1 = 2 ^ n - 1
          · rw [if_pos g, if_neg n10, if_pos (ecmp.mpr g)]
            obtain ⟨z', v1, v2, v3⟩ := fe_loop (md := md) h3.1 hn5 (row := row) (fun _ z_121 => L_X7_findChoir_39 (nI (4 ^ n)) (fun y2 _ z => L_X7_findChoir_158 (fun _ z => some (y2, z)) 1100 0 z) f (nI (mcN (cP n row md) n)) (nI row + 1) z_121) 1100 0 z55 (by omega) (by omega) t2 t3 (fun q hq => absurd hq (by omega))
            rw [nI_0] at v1
            rw [v1, nI_1]
            exact (ih (row + 1) zc z' (by omega) (by omega) ic1 v2).2 row _ (by omega) (by omega) v3
          · rw [if_neg g, if_pos rfl, if_neg (fun z => g (ecmp.mp z)), nI_1]
            exact (ih (row + 1) zc z55 (by omega) (by omega) ic1 t2).2 br ch hbr hch (fun b hb => by rw [t4]; exact hfd b hb)
theorem fc_ok {st mt : St} {n w rc : Nat} {kd nt sp md : Nat → Nat} (h1 : Hd n w rc kd nt sp md) (h2 : CG st n w rc kd nt sp md) (h3 : MG mt n w rc kd nt sp md) (hn0 : 0 < n) : Concl st mt n (F_X0_findChoir st) (F_X7_findChoir mt) := by
  have hn5 := h1.1
  obtain ⟨f1, f2⟩ := four5 hn5
  unfold F_X0_findChoir F_X7_findChoir
  obtain ⟨z', t1, t2⟩ := kp_loop (md := md) h3.1 hn5 (fun b hb => (h3.2.2.2 b (by omega)).2.2.2) (fun y1_4 _ z_4 => L_X7_findChoir_39 y1_4 (fun y2_39 _ z_39 => L_X7_findChoir_158 (fun _ z_158 => some (y2_39, z_158)) 1100 0 z_39) 1100 (-9) 0 z_4) 1100 0 mt (by omega) (by omega) (fun _ => rfl) (fun _ _ => rfl) (fun q hq => absurd hq (by omega))
  rw [nI_0, Nat.pow_zero, show nI 1 = 1 from rfl] at t1
  rw [t1]
  exact (fc_loop h1 h2 h3 hn0 1100 0 st z' (Nat.zero_le _) (by omega) (SameC.rf st) t2).1
theorem ok_choir {st mt : St} (h : Rel st mt) (x1 : Int32) : ∃ (r : Int32) (s2 : St) (m2 : St), F_X6_choir st x1 = some (r, s2) ∧ F_X7_choir mt x1 = some (r, m2) ∧ Rel s2 m2 := by
  obtain ⟨n, w, rc, kd, nt, sp, md, rn, rb, rm, rs, h1, h2, h3, h4, h5, h6, h7, h8, h9⟩ := id h
  have hn5 := h1.1
  unfold F_X6_choir F_X7_choir
  by_cases h0 : n = 0
  · subst h0
    rw [none_0 h2.1, h3.1, nI_0]
    exact ⟨-3, _, _, rfl, rfl, h⟩
  · rw [none_p h2.1 (by omega) hn5, if_neg (show ¬ gI mt 5 = 0 by rw [h3.1]; exact nI_ne0 (by omega) (by omega)), b1_s, if_pos rfl]
    unfold F_X7_within
    by_cases c1 : x1 < -1
    · rw [if_pos c1, if_pos c1]
      exact ⟨-2, _, _, rfl, rfl, h⟩
    · rw [if_neg c1, if_neg c1]
      by_cases c2 : x1 < 5
      · have c4 : ¬ (4 : Int32) < x1 := fun z => by
          rw [Int32.lt_iff_toInt_lt] at c2 z
          rw [show (5 : Int32).toInt = 5 by decide] at c2
          rw [show (4 : Int32).toInt = 4 by decide] at z
          omega
        rw [if_pos c2, if_neg c4, b1_s, if_neg n10, h2.1]
        obtain ⟨s2, m2, e1, e2, e3⟩ := fc_ok h1 h2 h3 (by omega)
        have hm5 : gI m2 5 = nI n := (e2.1 5 (by decide)).trans h3.1
        by_cases cm : x1 = -1
        · subst cm
          rw [if_neg (show ¬ nI n ≤ -1 from fun z => by
            rw [Int32.le_iff_toInt_le, nI_toInt (by omega), show (-1 : Int32).toInt = -1 by decide] at z
            omega)]
          rcases e3 with ⟨f1, f2⟩ | ⟨c, hc, f1, f2, f3, f4⟩
          · rw [f1, f2, b2_s, b2_s, if_pos rfl, if_pos rfl]
            exact ⟨-9, _, _, rfl, rfl, h.congr e1 e2⟩
          · rw [f1, f2, b2_s, b2_s, if_neg n10, if_pos rfl, if_pos rfl, f3]
            exact ⟨_, _, _, rfl, rfl, h.congr e1 e2⟩
        · obtain ⟨j, hj, rfl⟩ : ∃ j : Nat, j < 5 ∧ x1 = nI j := by
            rcases rng x1 5 (by decide) with q | q
            · exact q
            · exfalso
              have hne : x1.toInt ≠ -1 := fun z => cm (Int32.toInt_inj.mp (z.trans (by decide)))
              rw [Int32.lt_iff_toInt_lt, show (-1 : Int32).toInt = -1 by decide] at c1
              rw [Int32.lt_iff_toInt_lt, show (5 : Int32).toInt = 5 by decide] at c2
              rcases q with q | q
              · rw [Int32.lt_iff_toInt_lt, show (0 : Int32).toInt = 0 by decide] at q
                omega
              · rw [Int32.le_iff_toInt_le, nI_toInt (by decide)] at q
                omega
          by_cases d : n ≤ j
          · rw [if_pos (nI_le d (by omega))]
            rcases e3 with ⟨f1, f2⟩ | ⟨c, hc, f1, f2, f3, f4⟩
            · rw [f2, b2_s, if_neg cm, if_pos rfl]
              exact ⟨-9, _, _, rfl, rfl, h.congr (SameC.rf st) e2⟩
            · have hc9 : ¬ nI c = -9 := by
                rcases (show c = 0 ∨ c = 1 ∨ c = 2 ∨ c = 3 ∨ c = 4 ∨ c = 5 by omega) with rfl | rfl | rfl | rfl | rfl | rfl <;> decide
              rw [f2, b2_s, if_neg cm, if_neg hc9, hm5, if_pos (nI_le d (by omega))]
              exact ⟨-9, _, _, rfl, rfl, h.congr (SameC.rf st) e2⟩
          · rw [if_neg (nI_ge (by omega) (by omega))]
            rcases e3 with ⟨f1, f2⟩ | ⟨c, hc, f1, f2, f3, f4⟩
            · rw [f1, f2, b2_s, b2_s, if_pos rfl, if_neg cm, if_pos rfl]
              exact ⟨-9, _, _, rfl, rfl, h.congr e1 e2⟩
            · have hc9 : ¬ nI c = -9 := by
                rcases (show c = 0 ∨ c = 1 ∨ c = 2 ∨ c = 3 ∨ c = 4 ∨ c = 5 by omega) with rfl | rfl | rfl | rfl | rfl | rfl <;> decide
              rw [f1, f2, b2_s, b2_s, if_neg n10, if_neg cm, if_neg cm, if_neg hc9, hm5, if_neg (nI_ge (show j < n by omega) (by omega)), ck_nI hj (by decide), ck_nI hj (by decide), gA_nI _ _ (by omega), gA_nI _ _ (by omega), f4 j (by omega)]
              exact ⟨_, _, _, rfl, rfl, h.congr e1 e2⟩
      · have c4 : (4 : Int32) < x1 := by
          rw [Int32.lt_iff_toInt_lt] at c2 ⊢
          rw [show (5 : Int32).toInt = 5 by decide] at c2
          rw [show (4 : Int32).toInt = 4 by decide]
          omega
        rw [if_neg c2, if_pos c4]
        exact ⟨-2, _, _, rfl, rfl, h⟩
