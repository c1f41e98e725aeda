/-! what the two sides hold in common -/
def Hd (n w rc : Nat) (kd nt sp md : Nat → Nat) : Prop := n ≤ 5 ∧ w < 3 ∧ rc < 10 ∧ ∀ b, b < 5 → kd b < 3 ∧ nt b < 10 ∧ sp b < 10 ∧ md b < 4
def CG (st : St) (n w rc : Nat) (kd nt sp md : Nat → Nat) : Prop := gI st 2 = nI n ∧ gI st 3 = nI w ∧ gI st 4 = nI rc ∧ ∀ b, b < 5 → st.2 0 b = nI (kd b) ∧ st.2 1 b = nI (nt b) ∧ st.2 2 b = nI (sp b) ∧ st.2 3 b = nI (md b)
def MG (mt : St) (n w rc : Nat) (kd nt sp md : Nat → Nat) : Prop := gI mt 5 = nI n ∧ gI mt 6 = nI w ∧ gI mt 7 = nI rc ∧ ∀ b, b < 5 → mt.2 8 b = nI (kd b) ∧ mt.2 9 b = nI (nt b) ∧ mt.2 10 b = nI (sp b) ∧ mt.2 11 b = nI (md b)
def RG (n rn : Nat) (rb rm rs : Nat → Nat) : Prop := rn ≤ 8 ∧ ∀ q, q < rn → rb q < n ∧ rm q < 4 ∧ rs q < 20
def CR (st : St) (rn : Nat) (rb rm rs : Nat → Nat) : Prop := gI st 5 = nI rn ∧ ∀ q, q < rn → st.2 4 q = nI (rb q) ∧ st.2 5 q = nI (rm q) ∧ st.2 6 q = nI (rs q)
def MR (mt : St) (rn : Nat) (rb rm rs : Nat → Nat) : Prop := gI mt 24 = nI rn ∧ ∀ q, q < rn → mt.2 25 q = nI (rb q) ∧ mt.2 26 q = nI (rm q) ∧ mt.2 27 q = nI (rs q)
def SG (st mt : St) : Prop := ∀ k, k < 4 → gI st (10 + k) = mt.2 2 k ∧ (gI st (10 + k) = -9 ∨ ((∃ z, z ≤ 60 ∧ gI st (14 + k) = nI z ∧ mt.2 3 k = nI z) ∧ ∃ j, j < 3 ∧ gI st (10 + k) = nI j)) ∧ ∀ i, i < 60 → st.2 (10 + k) i = mt.2 4 (60 * k + i)
def Rel (st mt : St) : Prop := ∃ (n w rc : Nat) (kd nt sp md : Nat → Nat) (rn : Nat) (rb rm rs : Nat → Nat), Hd n w rc kd nt sp md ∧ CG st n w rc kd nt sp md ∧ MG mt n w rc kd nt sp md ∧ RG n rn rb rm rs ∧ CR st rn rb rm rs ∧ MR mt rn rb rm rs ∧ SG st mt ∧ gI st 0 = gI mt 1 ∧ gI st 1 = gI mt 0
theorem Rel0 : Rel st0 mt0 := by
  refine ⟨0, 0, 0, fun _ => 0, fun _ => 0, fun _ => 0, fun _ => 0, 0, fun _ => 0, fun _ => 0, fun _ => 0, ⟨by decide, by decide, by decide, fun b _ => ⟨Nat.zero_lt_succ _, Nat.zero_lt_succ _, Nat.zero_lt_succ _, Nat.zero_lt_succ _⟩⟩, ⟨by decide, by decide, by decide, fun b _ => ⟨rfl, rfl, rfl, rfl⟩⟩, ⟨by decide, by decide, by decide, fun b _ => ⟨rfl, rfl, rfl, rfl⟩⟩, ⟨by decide, fun q h => absurd h (by omega)⟩, ⟨by decide, fun q h => absurd h (by omega)⟩, ⟨by decide, fun q h => absurd h (by omega)⟩, ?_, rfl, rfl⟩
  intro k hk
  rcases (show k = 0 ∨ k = 1 ∨ k = 2 ∨ k = 3 by omega) with rfl | rfl | rfl | rfl
  · exact ⟨rfl, Or.inl rfl, fun i _ => rfl⟩
  · exact ⟨rfl, Or.inl rfl, fun i _ => rfl⟩
  · exact ⟨rfl, Or.inl rfl, fun i _ => rfl⟩
  · exact ⟨rfl, Or.inl rfl, fun i _ => rfl⟩
