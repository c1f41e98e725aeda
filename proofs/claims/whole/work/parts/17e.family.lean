theorem ne2 {a : Nat} (h : a < 2 ^ 31) (d : ¬ a = 2) : ¬ nI a = 2 := fun z => d ((nI_eq (b := 2) h (by decide)).mp z)
theorem bset_congr {P Q : Nat → Bool} : ∀ {n : Nat}, (∀ y, y < n → P y = Q y) → bset P n = bset Q n := by
  intro n
  induction n with
  | zero => intro _; rfl
  | succ n ih =>
    intro h
    show (if P n = true then bset P n ||| 2 ^ n else bset P n) = (if Q n = true then bset Q n ||| 2 ^ n else bset Q n)
    rw [ih (fun y hy => h y (by omega)), h n (by omega)]
def kP (s : Nat → Nat) (x y : Nat) : Bool := decide (dst (s x) (s y) = 2)
theorem dst_comm (a b : Nat) : dst a b = dst b a := by
  unfold dst
  by_cases h : a ≤ b
  · by_cases g : b ≤ a
    · rw [if_pos h, if_pos g]; omega
    · rw [if_pos h, if_neg g]
  · rw [if_neg h, if_pos (by omega)]
theorem kP_comm (s : Nat → Nat) (x y : Nat) : kP s x y = kP s y x := by
  unfold kP
  rw [dst_comm]
theorem kP_self (s : Nat → Nat) (x : Nat) : kP s x x = false := by
  unfold kP dst
  rw [if_pos (Nat.le_refl _), Nat.sub_self]
  rfl
def rwS (s : Nat → Nat) (n x : Nat) : Nat := bset (kP s x) n
theorem cW_congr {r r' : Nat → Nat} (set : Nat) : ∀ {n : Nat}, (∀ x, x < n → r x = r' x) → cW r set n = cW r' set n := by
  intro n
  induction n with
  | zero => intro _; rfl
  | succ n ih =>
    intro h
    show (if bitN set n = true then cW r set n ||| r n else cW r set n) = (if bitN set n = true then cW r' set n ||| r' n else cW r' set n)
    rw [ih (fun y hy => h y (by omega)), h n (by omega)]
theorem cF_congr {r r' : Nat → Nat} {n : Nat} (h : ∀ x, x < n → r x = r' x) : ∀ (k set : Nat), cF r n k set = cF r' n k set := by
  intro k
  induction k with
  | zero => intro _; rfl
  | succ k ih =>
    intro set
    show (if cW r set n = set then set else cF r n k (cW r set n)) = (if cW r' set n = set then set else cF r' n k (cW r' set n))
    rw [cW_congr set h, ih]
theorem mX_congr {r r' : Nat → Nat} (set : Nat) : ∀ {n : Nat}, (∀ x, x < n → r x = r' x) → mX r set n = mX r' set n := by
  intro n
  induction n with
  | zero => intro _; rfl
  | succ n ih =>
    intro h
    show mS r (mX r set n) n = mS r' (mX r' set n) n
    unfold mS
    rw [ih (fun y hy => h y (by omega)), h n (by omega)]
theorem mT_congr {r r' : Nat → Nat} {n : Nat} (h : ∀ x, x < n → r x = r' x) (set : Nat) : ∀ t : Nat, mT r n set t = mT r' n set t := by
  intro t
  induction t with
  | zero => rfl
  | succ t ih =>
    show mX r (mT r n set t) n = mX r' (mT r' n set t) n
    rw [ih, mX_congr _ h]
theorem fam_eq (s : Nat → Nat) {n q : Nat} (hn : n ≤ 5) (hq : q < n) : cF (rwS s n) n n (2 ^ q) = mT (rwS s n) n (2 ^ q) 5 := by
  have key : ∀ (a b c d e f g h i j : Bool), (∀ x, x < n → ∀ y, y < n → kP s x y = Kb a b c d e f g h i j x y) → (cF (rw5 a b c d e f g h i j n) n n (2 ^ q) = mT (rw5 a b c d e f g h i j n) n (2 ^ q) 5) → cF (rwS s n) n n (2 ^ q) = mT (rwS s n) n (2 ^ q) 5 := by
    intro a b c d e f g h i j hK he
    have hr : ∀ x, x < n → rwS s n x = rw5 a b c d e f g h i j n x := fun x hx => bset_congr (fun y hy => hK x hx y hy)
    rw [cF_congr hr, mT_congr hr]
    exact he
  rcases (show n = 1 ∨ n = 2 ∨ n = 3 ∨ n = 4 ∨ n = 5 by omega) with rfl | rfl | rfl | rfl | rfl
  · refine key _ _ _ _ _ _ _ _ _ _ (fun x hx y hy => ?_) (fam1 q hq)
    obtain rfl : x = 0 := by omega
    obtain rfl : y = 0 := by omega
    exact kP_self s 0
  · refine key _ _ _ _ _ _ _ _ _ _ (fun x hx y hy => ?_) (fam2 (kP s 0 1) q hq)
    rcases (show x = 0 ∨ x = 1 by omega) with rfl | rfl <;> rcases (show y = 0 ∨ y = 1 by omega) with rfl | rfl <;> first | exact kP_self s _ | rfl | exact kP_comm s _ _
  · refine key _ _ _ _ _ _ _ _ _ _ (fun x hx y hy => ?_) (fam3 (kP s 0 1) (kP s 0 2) (kP s 1 2) q hq)
    rcases (show x = 0 ∨ x = 1 ∨ x = 2 by omega) with rfl | rfl | rfl <;> rcases (show y = 0 ∨ y = 1 ∨ y = 2 by omega) with rfl | rfl | rfl <;> first | exact kP_self s _ | rfl | exact kP_comm s _ _
  · refine key _ _ _ _ _ _ _ _ _ _ (fun x hx y hy => ?_) (fam4 (kP s 0 1) (kP s 0 2) (kP s 0 3) (kP s 1 2) (kP s 1 3) (kP s 2 3) q hq)
    rcases (show x = 0 ∨ x = 1 ∨ x = 2 ∨ x = 3 by omega) with rfl | rfl | rfl | rfl <;> rcases (show y = 0 ∨ y = 1 ∨ y = 2 ∨ y = 3 by omega) with rfl | rfl | rfl | rfl <;> first | exact kP_self s _ | rfl | exact kP_comm s _ _
  · refine key _ _ _ _ _ _ _ _ _ _ (fun x hx y hy => ?_) (fam5 (kP s 0 1) (kP s 0 2) (kP s 0 3) (kP s 0 4) (kP s 1 2) (kP s 1 3) (kP s 1 4) (kP s 2 3) (kP s 2 4) (kP s 3 4) q hq)
    rcases (show x = 0 ∨ x = 1 ∨ x = 2 ∨ x = 3 ∨ x = 4 by omega) with rfl | rfl | rfl | rfl | rfl <;> rcases (show y = 0 ∨ y = 1 ∨ y = 2 ∨ y = 3 ∨ y = 4 by omega) with rfl | rfl | rfl | rfl | rfl <;> first | exact kP_self s _ | rfl | exact kP_comm s _ _
/-! the class's way -/
theorem or32 {a b : Nat} (ha : a < 32) (hb : b < 32) : a ||| b < 32 := Nat.or_lt_two_pow (n := 5) ha hb
theorem rwS_lt {s : Nat → Nat} {n : Nat} (hn : n ≤ 5) (x : Nat) : rwS s n x < 32 := Nat.lt_of_lt_of_le (bset_lt _ n) (pow5 hn)
theorem cW_lt {r : Nat → Nat} {set : Nat} (hs : set < 32) : ∀ {n : Nat}, (∀ x, x < n → r x < 32) → cW r set n < 32 := by
  intro n
  induction n with
  | zero => intro _; exact hs
  | succ n ih =>
    intro h
    show (if bitN set n = true then cW r set n ||| r n else cW r set n) < 32
    have h1 := ih (fun x hx => h x (by omega))
    by_cases c : bitN set n = true
    · rw [if_pos c]; exact or32 h1 (h n (by omega))
    · rw [if_neg c]; exact h1
theorem ko_loop {st : St} {n : Nat} {s : Nat → Nat} (hn5 : n ≤ 5) (hs : ∀ b, b < n → st.2 7 b = nI (s b) ∧ s b < 20) {x : Nat} (hx : x < n) (kk : Int32 → Int32 → Option Int32) :
    ∀ f y, y ≤ n → n < y + f → L_X0_kinOf_5 st (nI x) (nI n) kk f (nI (bset (kP s x) y)) (nI y) = kk (nI (bset (kP s x) n)) (nI n) := by
  intro f
  induction f with
  | zero => intro y h1 h2; omega
  | succ f ih =>
    intro y h1 h2
    rw [L_X0_kinOf_5_s]
    by_cases c : y = n
    · subst c; rw [if_pos (nI_le (Nat.le_refl _) (by omega))]
    · obtain ⟨e1, e2⟩ := hs x hx
      obtain ⟨f1, f2⟩ := hs y (by omega)
      rw [if_neg (nI_ge (by omega) (by omega)), ck_nI (by omega) (by decide), ck_nI (by omega) (by decide), gA_nI _ _ (by omega), gA_nI _ _ (by omega), e1, f1, jab _ e2 _ f2, nI_1, orb _ (by omega)]
      have hd := dst_lt e2 f2
      by_cases d : dst (s x) (s y) = 2
      · rw [if_pos (by rw [d]; rfl), ← bset_s1 (P := kP s x) (decide_eq_true d)]
        exact ih (y + 1) (by omega) (by omega)
      · rw [if_neg (ne2 (by omega) d), ← bset_s0 (P := kP s x) (fun z => d (of_decide_eq_true z))]
        exact ih (y + 1) (by omega) (by omega)
theorem ko_ok {st : St} {n : Nat} {s : Nat → Nat} (hn5 : n ≤ 5) (hs : ∀ b, b < n → st.2 7 b = nI (s b) ∧ s b < 20) {x : Nat} (hx : x < n) : F_X0_kinOf st (nI x) (nI n) = some (nI (rwS s n x)) := by
  unfold F_X0_kinOf
  exact ko_loop hn5 hs hx (fun y _ => some y) 70 0 (by omega) (by omega)
theorem wi_loop {st : St} {n : Nat} {s : Nat → Nat} (hn5 : n ≤ 5) (hs : ∀ b, b < n → st.2 7 b = nI (s b) ∧ s b < 20) {set : Nat} (hset : set < 32) (kk : Int32 → Int32 → Option Int32) :
    ∀ f x, x ≤ n → n < x + f → L_X0_familyOf_19 st (nI n) (nI set) kk f (nI (cW (rwS s n) set x)) (nI x) = kk (nI (cW (rwS s n) set n)) (nI n) := by
  intro f
  induction f with
  | zero => intro y h1 h2; omega
  | succ f ih =>
    intro x h1 h2
    rw [L_X0_familyOf_19_s]
    by_cases c : x = n
    · subst c; rw [if_pos (nI_le (Nat.le_refl _) (by omega))]
    · rw [if_neg (nI_ge (by omega) (by omega)), ko_ok hn5 hs (by omega), b1_s, nI_1, nI_or]
      by_cases g : set / 2 ^ x % 2 = 1
      · rw [if_pos ((jbit set hset x (by omega)).mpr g), ← show cW (rwS s n) set (x + 1) = cW (rwS s n) set x ||| rwS s n x from if_pos (decide_eq_true g)]
        exact ih (x + 1) (by omega) (by omega)
      · rw [if_neg (fun z => g ((jbit set hset x (by omega)).mp z)), ← show cW (rwS s n) set (x + 1) = cW (rwS s n) set x from if_neg (fun z => g (of_decide_eq_true z))]
        exact ih (x + 1) (by omega) (by omega)
theorem fo_loop {st : St} {n : Nat} {s : Nat → Nat} (hn5 : n ≤ 5) (hs : ∀ b, b < n → st.2 7 b = nI (s b) ∧ s b < 20) :
    ∀ f i set, i ≤ n → n < i + f → set < 32 → L_X0_familyOf_7 st (nI n) (fun y _ => some y) f (nI set) (nI i) = some (nI (cF (rwS s n) n (n - i) set)) := by
  intro f
  induction f with
  | zero => intro i set h1 h2; omega
  | succ f ih =>
    intro i set h1 h2 hset
    rw [L_X0_familyOf_7_s]
    by_cases c : i = n
    · subst c; rw [if_pos (nI_le (Nat.le_refl _) (by omega)), Nat.sub_self]; rfl
    · have hw := wi_loop hn5 hs hset (fun y5 _ => if y5 = nI set then some (nI set) else L_X0_familyOf_7 st (nI n) (fun y _ => some y) f y5 (nI i + 1)) 70 0 (by omega) (by omega)
      rw [nI_0] at hw
      rw [if_neg (nI_ge (by omega) (by omega))]
      refine Eq.trans hw ?_
      have hlt : cW (rwS s n) set n < 32 := cW_lt hset (fun x hx => rwS_lt hn5 x)
      rw [show n - i = (n - (i + 1)) + 1 by omega]
      show _ = some (nI (if cW (rwS s n) set n = set then set else cF (rwS s n) n (n - (i + 1)) (cW (rwS s n) set n)))
      by_cases g : cW (rwS s n) set n = set
      · rw [if_pos (by rw [g]), if_pos g]
      · rw [if_neg (fun z => g ((nI_eq (by omega) (by omega)).mp z)), if_neg g, nI_1]
        exact ih (i + 1) _ (by omega) (by omega) hlt
theorem fo_ok {st : St} {n : Nat} {s : Nat → Nat} (hn5 : n ≤ 5) (hs : ∀ b, b < n → st.2 7 b = nI (s b) ∧ s b < 20) {b : Nat} (hb : b < 5) : F_X0_familyOf st (nI b) (nI n) = some (nI (cF (rwS s n) n n (2 ^ b))) := by
  unfold F_X0_familyOf
  rw [jshl_1 b (by omega)]
  have h2 : 2 ^ b < 32 := Nat.pow_lt_pow_right (by decide) hb
  have := fo_loop hn5 hs 70 0 (2 ^ b) (by omega) (by omega) h2
  rw [Nat.sub_zero] at this
  exact this
/-! the reference's way -/
theorem bit_or : ∀ s, s < 32 → ∀ t, t < 32 → ∀ b, b < 5 → s / 2 ^ b % 2 = 1 → (s ||| t) / 2 ^ b % 2 = 1 := by decide +kernel
theorem bset32 {P : Nat → Bool} {n : Nat} (h : n ≤ 5) : bset P n < 32 := Nat.lt_of_lt_of_le (bset_lt _ n) (pow5 h)
theorem my_loop {mt : St} {n w rc : Nat} {kd nt sp md : Nat → Nat} (h1 : Hd n w rc kd nt sp md) (h3 : MG mt n w rc kd nt sp md) {s : Nat → Nat} (es : ∀ b, b < n → s b = snd (kd b) (nt b) (md b) w) {x : Nat} (hx : x < n) {set : Nat} (hset : set < 32) (kk : Int32 → Int32 → Option Int32) :
    ∀ f y, y ≤ n → n < y + f → L_X7_familyOf_26 mt (nI x) kk f (nI (if bitN set x = true then set ||| bset (kP s x) y else set)) (nI y) = kk (nI (mS (rwS s n) set x)) (nI n) := by
  have hn5 := h1.1
  intro f
  induction f with
  | zero => intro y h1 h2; omega
  | succ f ih =>
    intro y hy1 hy2
    rw [L_X7_familyOf_26_s, h3.1]
    by_cases c : y = n
    · subst c; rw [if_pos (nI_le (Nat.le_refl _) (by omega))]; rfl
    · obtain ⟨x1, x2, x3, x4⟩ := h3.2.2.2 x (by omega)
      obtain ⟨y1, y2, y3, y4⟩ := h3.2.2.2 y (by omega)
      obtain ⟨u1, u2, u3, u4⟩ := h1.2.2.2 x (by omega)
      obtain ⟨v1, v2, v3, v4⟩ := h1.2.2.2 y (by omega)
      have hsx := snd_lt _ u1 _ u2 _ u4 _ h1.2.1
      have hsy := snd_lt _ v1 _ v2 _ v4 _ h1.2.1
      rw [if_neg (nI_ge (by omega) (by omega)), ck_nI (by omega) (by decide), gA_nI _ _ (by omega), x4, msound h1 h3 (by omega) u4, b1_s, ck_nI (by omega) (by decide), gA_nI _ _ (by omega), y4, msound h1 h3 (by omega) v4, b1_s, apart_ok mt (by omega) (by omega), b1_s, nI_1, orb _ (by omega), or0, ← es x hx, ← es y (by omega)]
      have hd : dst (s x) (s y) < 20 := dst_lt (by rw [es x hx]; omega) (by rw [es y (by omega)]; omega)
      have hih := ih (y + 1) (by omega) (by omega)
      by_cases g : set / 2 ^ x % 2 = 1
      · have hb : bitN set x = true := decide_eq_true g
        rw [if_pos hb] at hih ⊢
        have hbit : (set ||| bset (kP s x) y) / 2 ^ x % 2 = 1 := bit_or set hset _ (bset32 (by omega)) x (by omega) g
        by_cases d : dst (s x) (s y) = 2
        · rw [if_pos (by rw [d]; rfl), if_pos ((jbit _ (or32 hset (bset32 (by omega))) x (by omega)).mpr hbit), Nat.or_assoc, ← bset_s1 (P := kP s x) (decide_eq_true d)]
          exact hih
        · rw [if_neg (ne2 (by omega) d)]
          rw [bset_s0 (P := kP s x) (fun z => d (of_decide_eq_true z))] at hih
          exact hih
      · have hb : ¬ bitN set x = true := fun z => g (of_decide_eq_true z)
        rw [if_neg hb] at hih ⊢
        by_cases d : dst (s x) (s y) = 2
        · rw [if_pos (by rw [d]; rfl), if_neg (fun z => g ((jbit set hset x (by omega)).mp z))]
          exact hih
        · rw [if_neg (ne2 (by omega) d)]
          exact hih
theorem mS_lt {r : Nat → Nat} {set x : Nat} (hs : set < 32) (hr : r x < 32) : mS r set x < 32 := by
  unfold mS
  by_cases c : bitN set x = true
  · rw [if_pos c]; exact or32 hs hr
  · rw [if_neg c]; exact hs
theorem mX_lt {r : Nat → Nat} {set : Nat} (hs : set < 32) (hr : ∀ x, r x < 32) : ∀ n, mX r set n < 32 := by
  intro n
  induction n with
  | zero => exact hs
  | succ n ih => exact mS_lt ih (hr n)
theorem mT_lt {r : Nat → Nat} {n set : Nat} (hs : set < 32) (hr : ∀ x, r x < 32) : ∀ t, mT r n set t < 32 := by
  intro t
  induction t with
  | zero => exact hs
  | succ t ih => exact mX_lt ih hr n
theorem mx_loop {mt : St} {n w rc : Nat} {kd nt sp md : Nat → Nat} (h1 : Hd n w rc kd nt sp md) (h3 : MG mt n w rc kd nt sp md) {s : Nat → Nat} (es : ∀ b, b < n → s b = snd (kd b) (nt b) (md b) w) {set : Nat} (hset : set < 32) (kk : Int32 → Int32 → Option Int32) :
    ∀ f x, x ≤ n → n < x + f → L_X7_familyOf_14 mt kk f (nI (mX (rwS s n) set x)) (nI x) = kk (nI (mX (rwS s n) set n)) (nI n) := by
  have hn5 := h1.1
  intro f
  induction f with
  | zero => intro y h1 h2; omega
  | succ f ih =>
    intro x hx1 hx2
    rw [L_X7_familyOf_14_s, h3.1]
    by_cases c : x = n
    · subst c; rw [if_pos (nI_le (Nat.le_refl _) (by omega))]
    · have hlt := mX_lt hset (r := rwS s n) (fun x => rwS_lt hn5 x) x
      have hy := my_loop h1 h3 es (show x < n by omega) hlt (fun y2 _ => L_X7_familyOf_14 mt kk f y2 (nI x + 1)) 70 0 (by omega) (by omega)
      have e0 : (if bitN (mX (rwS s n) set x) x = true then mX (rwS s n) set x ||| bset (kP s x) 0 else mX (rwS s n) set x) = mX (rwS s n) set x := by
        rw [show bset (kP s x) 0 = 0 from rfl, Nat.or_zero, ite_self]
      rw [e0, nI_0] at hy
      rw [if_neg (nI_ge (by omega) (by omega))]
      refine Eq.trans hy ?_
      show L_X7_familyOf_14 mt kk f (nI (mX (rwS s n) set (x + 1))) (nI x + 1) = _
      rw [nI_1]
      exact ih (x + 1) (by omega) (by omega)
theorem mm_loop {mt : St} {n w rc : Nat} {kd nt sp md : Nat → Nat} (h1 : Hd n w rc kd nt sp md) (h3 : MG mt n w rc kd nt sp md) {s : Nat → Nat} (es : ∀ b, b < n → s b = snd (kd b) (nt b) (md b) w) {set : Nat} (hset : set < 32) (kk : Int32 → Int32 → Option Int32) :
    ∀ f t, t ≤ 5 → 5 < t + f → L_X7_familyOf_6 mt kk f (nI (mT (rwS s n) n set t)) (nI t) = kk (nI (mT (rwS s n) n set 5)) (nI 5) := by
  have hn5 := h1.1
  intro f
  induction f with
  | zero => intro y h1 h2; omega
  | succ f ih =>
    intro t ht1 ht2
    rw [L_X7_familyOf_6_s]
    by_cases c : t = 5
    · subst c; rw [if_pos (by decide)]
    · have hlt := mT_lt (n := n) hset (r := rwS s n) (fun x => rwS_lt hn5 x) t
      have hy := mx_loop h1 h3 es hlt (fun y2 _ => L_X7_familyOf_6 mt kk f y2 (nI t + 1)) 70 0 (by omega) (by omega)
      rw [nI_0] at hy
      rw [if_neg (show ¬ (5 : Int32) ≤ nI t from nI_ge (b := 5) (by omega) (by decide))]
      refine Eq.trans hy ?_
      show L_X7_familyOf_6 mt kk f (nI (mT (rwS s n) n set (t + 1))) (nI t + 1) = _
      rw [nI_1]
      exact ih (t + 1) (by omega) (by omega)
theorem mf_ok {mt : St} {n w rc : Nat} {kd nt sp md : Nat → Nat} (h1 : Hd n w rc kd nt sp md) (h3 : MG mt n w rc kd nt sp md) {s : Nat → Nat} (es : ∀ b, b < n → s b = snd (kd b) (nt b) (md b) w) {b : Nat} (hb : b < 5) : F_X7_familyOf mt (nI b) = some (nI (mT (rwS s n) n (2 ^ b) 5)) := by
  unfold F_X7_familyOf
  rw [jshl_1 b (by omega)]
  have h2 : 2 ^ b < 32 := Nat.pow_lt_pow_right (by decide) hb
  exact mm_loop h1 h3 es h2 (fun y _ => some y) 70 0 (by omega) (by omega)
theorem cf_loop {st : St} {n w rc : Nat} {kd nt sp md : Nat → Nat} (h1 : Hd n w rc kd nt sp md) (h2 : CG st n w rc kd nt sp md) (kk : Int32 → St → Option (Int32 × St)) :
    ∀ f b z, b ≤ n → n < b + f → SameC st z → (∀ q, q < b → z.2 7 q = nI (snd (kd q) (nt q) (md q) w)) → ∃ z', L_X6_family_15 kk f (nI b) z = kk (nI n) z' ∧ SameC st z' ∧ ∀ q, q < n → z'.2 7 q = nI (snd (kd q) (nt q) (md q) w) := by
  have hn5 := h1.1
  intro f
  induction f with
  | zero => intro b z h1 h2; omega
  | succ f ih =>
    intro b z hb1 hb2 hz hq
    have hzc := h2.same hz
    rw [L_X6_family_15_s, hzc.1]
    by_cases c : b = n
    · subst c
      rw [if_pos (nI_le (Nat.le_refl _) (by omega))]
      exact ⟨z, rfl, hz, hq⟩
    · rw [if_neg (nI_ge (by omega) (by omega)), csoundNow h1 hzc (by omega), b1_s, ck_nI (by omega) (by decide), nI_1]
      refine ih (b + 1) _ (by omega) (by omega) (hz.tr (SameC.a 7 _ _ (Or.inl rfl))) (fun q hq2 => ?_)
      rw [A_sAs z 7 _ (by omega)]
      by_cases d : q = b
      · rw [if_pos d, d]
      · rw [if_neg d]; exact hq q (by omega)
theorem ok_family {st mt : St} (h : Rel st mt) (x1 : Int32) : ∃ (r : Int32) (s2 : St), F_X6_family st x1 = some (r, s2) ∧ F_X7_family mt x1 = some r ∧ Rel s2 mt := by
  obtain ⟨n, w, rc, kd, nt, sp, md, rn, rb, rm, rs, h1, h2, h3, h4, h5, h6, h7, h8, h9⟩ := id h
  have hn5 := h1.1
  unfold F_X6_family F_X7_family
  rcases rng x1 n (by omega) with ⟨j, hj, rfl⟩ | ho
  · rw [bell_in h2.1 hn5 hj, mbell_in h3.1 hn5 hj, b1_s, b1_s, if_neg n10, if_neg n10]
    obtain ⟨z', e1, e2, e3⟩ := cf_loop h1 h2 (fun _ z => b1 (F_X0_familyOf z (nI j) (gI z 2)) (fun v => some (v, z))) 70 0 st (by omega) (by omega) (SameC.rf st) (fun q hq => absurd hq (by omega))
    rw [nI_0] at e1
    have hs : ∀ b, b < n → z'.2 7 b = nI (snd (kd b) (nt b) (md b) w) ∧ snd (kd b) (nt b) (md b) w < 20 := fun b hb => by
      obtain ⟨d1, d2, d3, d4⟩ := h1.2.2.2 b (by omega)
      have := snd_lt _ d1 _ d2 _ d4 _ h1.2.1
      exact ⟨e3 b hb, by omega⟩
    have ef := fo_ok (st := z') (s := fun b => snd (kd b) (nt b) (md b) w) hn5 hs (show j < 5 by omega)
    rw [e1, (h2.same e2).1, ef, mf_ok h1 h3 (s := fun b => snd (kd b) (nt b) (md b) w) (fun _ _ => rfl) (show j < 5 by omega), ← fam_eq _ hn5 hj]
    exact ⟨_, _, rfl, rfl, h.congr e2 (SameM.rf mt)⟩
  · rw [bell_out h2.1 ho, mbell_out h3.1 ho]
    exact ⟨-1, _, rfl, rfl, h⟩
