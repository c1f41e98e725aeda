theorem go_tell {z zm : St} {n w rc : Nat} {kd nt sp md s : Nat → Nat} {sv : Nat} (h1 : Hd n w rc kd nt sp md) (h2 : CG z n w rc kd nt sp md) (h3 : MG zm n w rc kd nt sp md) (cs : ∀ b, b < n → z.2 9 b = nI (s b) ∧ s b < 10) (ms : ∀ b, b < n → zm.2 20 b = nI (s b) ∧ s b < 10) (c7 : gI z 7 = nI sv) (c8 : gI z 8 = -9) (m21 : gI zm 21 = nI sv) {x : Int32} (hx : (∃ t, t < 4 ∧ x = nI t) ∨ ∃ u, u < 5 ∧ x = nI (10 + u)) (hx1 : ¬ x = 1) : ∃ r, F_X6_ofWalk z x = some r ∧ F_X7_tellGoings zm x = some r := by
  have hn5 := h1.1
  unfold F_X6_ofWalk F_X7_tellGoings
  rw [if_neg hx1, if_pos c8]
  rcases hx with ⟨t, ht, rfl⟩ | ⟨u, hu, rfl⟩
  · rcases (show t = 0 ∨ t = 1 ∨ t = 2 ∨ t = 3 by omega) with rfl | rfl | rfl | rfl
    · have e1 : F_X1_heardFrom_23 z 0 = some (nI (bset (hP s rc 0) n)) := hg_ok h2.1 hn5 h2.2.2.1 h1.2.2.1 cs (j := 0) (by decide)
      have e2 : F_X7_heardThen zm 0 = some (nI (mcN (hP s rc 0) n)) := ht_ok h3.1 hn5 h3.2.2.1 h1.2.2.1 ms (j := 0) (by decide)
      rw [if_pos (by decide), e1, b1_s, bc_ok z hn5, if_pos (by decide), if_neg (by decide), if_pos (by decide), e2]
      exact ⟨_, rfl, rfl⟩
    · exact absurd rfl hx1
    · rw [if_neg (by decide), if_pos (by decide), c7, if_pos (by decide), if_neg (by decide), if_neg (by decide), m21]
      exact ⟨_, rfl, rfl⟩
    · obtain ⟨r, t1, t2⟩ := l0_ok h2.1 h2.2.2.1 cs h3.1 hn5 h3.2.2.1 h1.2.2.1 ms
      rw [if_neg (by decide), if_neg (by decide), if_pos (by decide), t1, if_pos (by decide), if_pos (by decide), t2]
      exact ⟨r, rfl, rfl⟩
  · have g : ∀ q, q < 10 → ¬ nI (10 + u) = nI q := fun q hq e => by
      have := (nI_eq (by omega) (by omega)).mp e
      omega
    have e : nI (10 + u) - 10 = nI u := by
      rw [show (10 : Int32) = nI 10 from rfl, pk_sub (by omega)]
      congr 1
      omega
    rw [if_neg (show ¬ nI (10 + u) = 0 from g 0 (by decide)), if_neg (show ¬ nI (10 + u) = 2 from g 2 (by decide)), if_neg (show ¬ nI (10 + u) = 3 from g 3 (by decide)), e, if_neg (show ¬ nI (10 + u) < 10 from nI_nlt (b := 10) (by omega) (by omega))]
    by_cases c : u < n
    · rw [bell_in h2.1 hn5 c, mbell_in h3.1 hn5 c, b1_s, b1_s, if_neg n10, if_neg n10, ck_nI hu (by decide), ck_nI hu (by decide), gA_nI _ _ (by omega), gA_nI _ _ (by omega), (cs u c).1, (ms u c).1]
      exact ⟨_, rfl, rfl⟩
    · have ho : nI u < 0 ∨ nI n ≤ nI u := Or.inr (nI_le (by omega) (by omega))
      rw [bell_out h2.1 ho, mbell_out h3.1 ho]
      exact ⟨-9, rfl, rfl⟩
set_option maxHeartbeats 1000000 in
theorem go_core {st1 mt : St} (hf : Rel st1 (sI mt 0 0)) {k v m : Nat} (hk : k < 4) (hv : v < 3) (hm : m ≤ 20) (x3 x5 : Int32) (hx : (∃ t, t < 4 ∧ x5 = nI t) ∨ ∃ u, u < 5 ∧ x5 = nI (10 + u)) :
    ∃ (r : Int32) (s2 : St) (m2 : St), b1 (F_X3_faultAs st1 k (nI v)) (fun v_10 => if v_10 = 0 then b1 (F_X3_hasCells st1 k x3 (2 * nI m)) (fun v_12 => if v_12 = 0 then b2 (F_X6_failBy st1 3) (fun v_19 s_19 => some (v_19, s_19)) else b1 (F_X1_isNone st1) (fun v_14 => if v_14 = 0 then b2 (F_X5_goAll st1 k x3 (nI m)) (fun v_16 s_16 => if v_16 = 0 then b1 (F_X6_ofWalk s_16 x5) (fun v_18 => some (v_18, s_16)) else some (v_16, s_16)) else some ((-3), st1))) else b2 (F_X6_failBy st1 v_10) (fun v_20 s_20 => some (v_20, s_20))) = some (r, s2) ∧
      b1 (F_X7_against (sI mt 0 0) (nI k) (nI v) x3 (2 * nI m)) (fun v_9 => if v_9 = 0 then (if (gI (sI mt 0 0) 5) = 0 then some ((-3), sI mt 0 0) else L_X7_goings_103 mt (nI k) x3 (nI m) (fun y8_103 => b2 (F_X7_goGoings (sI mt 0 0) ((60 * nI k) + x3) (nI m)) (fun v_13 s_13 => if x5 = 1 then some (v_13, s_13) else if v_13 = (-9) then b1 (F_X7_tellGoings s_13 x5) (fun v_16 => some (v_16, s_13)) else some ((-100) - v_13, s_13))) 70 0) else b2 (F_X7_fails (sI mt 0 0) v_9) (fun v_23 s_23 => some (v_23, s_23))) = some (r, m2) ∧ Rel s2 m2 := by
  obtain ⟨n, w, rc, kd, nt, sp, md, rn, rb, rm, rs, h1, h2, h3, h4, h5, h6, h7, h8, h9⟩ := id hf
  have hn5 := h1.1
  obtain ⟨g1, g2, g3⟩ := h7 k hk
  have e2m : 2 * nI m = nI (2 * m) := by rw [show (2 : Int32) = nI 2 from rfl, pk_mul]
  have hy0 : 0 ≤ nI (2 * m) := nI_pos' (by omega)
  rw [e2m]
  by_cases q : gI st1 (10 + k) = -9
  · rw [fault_n _ q, ag_n _ hk (g1 ▸ q), b1_s, b1_s, if_neg n10, if_neg n10]
    exact ⟨_, _, _, rfl, rfl, hf.fault 1⟩
  · obtain ⟨⟨z, hz, e1, e2⟩, l, hl, e3⟩ := g2.resolve_left q
    have q' : ¬ (sI mt 0 0).2 2 k = -9 := fun a => q (g1.trans a)
    by_cases q2 : gI st1 (10 + k) = nI v
    · have q2' : (sI mt 0 0).2 2 k = nI v := g1 ▸ q2
      rw [fault_0 q q2, b1_s, if_pos rfl]
      by_cases A : x3 < 0 ∨ nI z < x3 ∨ ¬ nI (2 * m) ≤ nI z - x3
      · rw [hc_out e1 hy0 A, ag_out _ hk q' q2' e2 hy0 A, b1_s, b1_s, if_pos rfl, if_neg n30]
        exact ⟨_, _, _, rfl, rfl, hf.fault 3⟩
      · obtain ⟨i, m', hi, hm', hle⟩ := hc_nat hz hy0 A
        rw [hc_in e1 hy0 A, ag_in _ hk q' q2' e2 hy0 A, b1_s, b1_s, if_neg n10, if_pos rfl]
        subst hi
        have hm2 : m' = 2 * m := by
          by_cases c : m' < 2 ^ 31
          · exact ((nI_eq (by omega) c).mp hm').symm
          · omega
        subst hm2
        by_cases h0 : n = 0
        · subst h0
          rw [none_0 h2.1, h3.1, nI_0]
          exact ⟨-3, _, _, rfl, rfl, hf⟩
        · rw [none_p h2.1 (by omega) hn5, if_neg (show ¬ gI (sI mt 0 0) 5 = 0 by rw [h3.1]; exact nI_ne0 (by omega) (by omega)), b1_s, if_pos rfl]
          have hC : ∀ p, p < 2 * m → st1.2 (10 + k) (i + p) = (fun p => st1.2 (10 + k) (i + p)) p := fun _ _ => rfl
          have hM : ∀ p, p < 2 * m → (sI mt 0 0).2 4 (60 * k + i + p) = (fun p => st1.2 (10 + k) (i + p)) p := fun p hp => by
            show (sI mt 0 0).2 4 (60 * k + i + p) = st1.2 (10 + k) (i + p)
            rw [g3 (i + p) (by omega), Nat.add_assoc]
          generalize hcl : (fun p => st1.2 (10 + k) (i + p)) = cl at hC hM
          have z0s : SameC st1 (sI (sI (sC st1 2 9 0 0 5) 7 0) 8 (-9)) := by
            have a0 : SameC st1 (sC st1 2 9 0 0 5) := ⟨fun _ _ _ _ => rfl, fun b _ _ hb j => by
              show (va_up st1.2 9 _) b j = _
              rw [va_up_ne _ _ hb]⟩
            exact (a0.tr (SameC.i 7 _ (Or.inr (Or.inl rfl)))).tr (SameC.i 8 _ (Or.inr (Or.inr rfl)))
          have eG : F_X5_goAll st1 k (nI i) (nI m) = L_X5_goAll_28 k (nI i) (nI m) (fun _ z => some (0, z)) 70 (nI 0) (sI (sI (sC st1 2 9 0 0 5) 7 0) 8 (-9)) := by
            unfold F_X5_goAll cc5
            rw [if_neg (by decide)]
            rfl
          rw [eG]
          rcases gi_loop h1 h2 h3 hk hm (show i + 2 * m ≤ 60 by omega) hC hM (fun _ z => some (0, z)) (fun _ => b2 (F_X7_goGoings (sI mt 0 0) ((60 * nI k) + nI i) (nI m)) (fun v_13 s_13 => if x5 = 1 then some (v_13, s_13) else if v_13 = (-9) then b1 (F_X7_tellGoings s_13 x5) (fun v_16 => some (v_16, s_13)) else some ((-100) - v_13, s_13))) 70 0 _ (by omega) (by omega) z0s with ⟨r, z', t1, t2, t3, t4⟩ | ⟨t1, t2⟩
          · rw [nI_0] at t4 t3
            rw [nI_0, t3, t4, b2_s, if_neg t2]
            exact ⟨r, z', _, rfl, rfl, hf.congr t1 (SameM.rf _)⟩
          · have hV : ∀ p, p < m → (cl (2 * p)).toNatClampNeg < n ∧ (cl (2 * p + 1)).toNatClampNeg < 10 ∧ cl (2 * p) = nI (cl (2 * p)).toNatClampNeg ∧ cl (2 * p + 1) = nI (cl (2 * p + 1)).toNatClampNeg := fun p hp => by
              obtain ⟨b, t, u1, u2, u3, u4⟩ := t1 p (Nat.zero_le _) hp
              rw [u3, u4, nI_clamp (by omega), nI_clamp (by omega)]
              exact ⟨u1, u2, rfl, rfl⟩
            obtain ⟨z', a1, a2, a3, a4, a5⟩ := ga_loop h1 h2 hk hm (show i + 2 * m ≤ 60 by omega) hC (bp := fun p => (cl (2 * p)).toNatClampNeg) (tp := fun p => (cl (2 * p + 1)).toNatClampNeg) hV (fun _ z => some (0, z)) 70 0 _ (by omega) (by omega) z0s (fun b hb => by
              show (va_up st1.2 9 (va_cpy (st1.2 2) (st1.2 9) (0 : Int32).toNatClampNeg (0 : Int32).toNatClampNeg (5 : Int32).toNatClampNeg)) 9 b = nI (sp b)
              rw [va_up_self]
              unfold va_cpy
              rw [show (0 : Int32).toNatClampNeg = 0 by decide, show (5 : Int32).toNatClampNeg = 5 by decide, if_pos (by omega), Nat.zero_add, Nat.sub_zero]
              exact (h2.2.2.2 b hb).2.2.1) rfl rfl
            rw [nI_0] at t2
            rw [a1, t2, b2_s, if_pos rfl, ix60]
            obtain ⟨zc, b1', b2', b3', b4'⟩ := gc_loop h1 h3 (fun _ z_7 => L_X7_goGoings_35 (nI (60 * k + i)) (nI m) (fun _ z_35 => some ((-9), z_35)) 70 0 z_7) 70 0 (sI (sI mt 0 0) 21 0) (by omega) (by omega) (SameM.i 21 _ (by decide)) (gI_sIs _ _ _) (fun q hq => absurd hq (by omega))
            rw [nI_0] at b1'
            obtain ⟨zm, d1, d2⟩ := gm_loop (mt := sI mt 0 0) h1 hm (T := 60 * k + i) (by omega) hM (bp := fun p => (cl (2 * p)).toNatClampNeg) (tp := fun p => (cl (2 * p + 1)).toNatClampNeg) hV (fun _ z_35 => some ((-9), z_35)) 70 0 zc (by omega) (by omega) b2' b4' b3' rfl
            have eGG : F_X7_goGoings (sI mt 0 0) (nI (60 * k + i)) (nI m) = L_X7_goGoings_35 (nI (60 * k + i)) (nI m) (fun _ z_35 => some ((-9), z_35)) 70 0 zc := by
              unfold F_X7_goGoings
              exact b1'
            rw [nI_0] at d2
            rw [eGG]
            have hrel := hf.congr a2 d1
            have hsl := spv_lt (sp := sp) (bp := fun p => (cl (2 * p)).toNatClampNeg) (tp := fun p => (cl (2 * p + 1)).toNatClampNeg) (m := m) (fun b hb => (h1.2.2.2 b hb).2.2.1) (fun p hp => (hV p hp).2.1) m (Nat.le_refl _)
            rcases d2 with ⟨c1, c2, c3, c4⟩ | ⟨c1, c2⟩
            · rw [c2, b2_s]
              by_cases x1 : x5 = 1
              · rw [if_pos x1]
                unfold F_X6_ofWalk
                rw [if_pos x1, a5, c1]
                exact ⟨_, _, _, rfl, rfl, hrel⟩
              · rw [if_neg x1, if_pos rfl]
                obtain ⟨r, u1, u2⟩ := go_tell h1 (h2.same a2) (h3.same d1) (s := spv sp (fun p => (cl (2 * p)).toNatClampNeg) (fun p => (cl (2 * p + 1)).toNatClampNeg) m) (fun b hb => ⟨a3 b (by omega), hsl b (by omega)⟩) (fun b hb => ⟨c3 b hb, hsl b (by omega)⟩) a4 (a5.trans c1) c4 hx x1
                rw [u1, u2]
                exact ⟨r, _, _, rfl, rfl, hrel⟩
            · rw [c2, b2_s]
              unfold F_X6_ofWalk
              rw [a5]
              by_cases x1 : x5 = 1
              · rw [if_pos x1, if_pos x1]
                exact ⟨_, _, _, rfl, rfl, hrel⟩
              · rw [if_neg x1, if_neg x1, if_neg c1, if_neg c1]
                exact ⟨_, _, _, rfl, rfl, hrel⟩
    · rw [fault_c q q2, ag_c _ hk q' (fun a => q2 (g1.trans a)), b1_s, b1_s, if_neg n20, if_neg n20]
      exact ⟨_, _, _, rfl, rfl, hf.fault 2⟩
theorem ok_goings {st mt : St} (h : Rel st mt) (x1 x2 x3 x4 x5 : Int32) : ∃ (r : Int32) (s2 : St) (m2 : St), F_X6_goings st x1 x2 x3 x4 x5 = some (r, s2) ∧ F_X7_goings mt x1 x2 x3 x4 x5 = some (r, m2) ∧ Rel s2 m2 := by
  have hf := h.fault 0
  unfold F_X6_goings F_X7_goings
  generalize sI st 1 0 = st1 at hf ⊢
  rcases rng x1 4 (by decide) with ⟨k, hk, rfl⟩ | ho
  · have hk31 : k < 2 ^ 31 := by omega
    rw [show F_X6_isBelow st1 (nI k) 4 = some 1 from bel_in _ hk (by decide), she_in _ hk, b1_s, b1_s, if_neg n10, if_neg n10]
    rcases rng x2 3 (by decide) with ⟨v, hv, rfl⟩ | hv
    · rw [show F_X6_isBelow st1 (nI v) 3 = some 1 from bel_in _ hv (by decide), sor_in _ hv, b1_s, b1_s, if_neg n10, if_neg n10]
      rcases rng x4 21 (by decide) with ⟨m, hm, rfl⟩ | hm
      · rw [show F_X6_isBelow st1 (nI m) 21 = some 1 from bel_in _ hm (by decide), show F_X7_within (sI mt 0 0) (nI m) 0 20 = some 1 from wit_in _ (m := 20) hm (by decide), b1_s, b1_s, if_neg n10, if_neg n10]
        unfold F_X6_isOfGoings
        rcases rng x5 4 (by decide) with ⟨t, ht, rfl⟩ | ht
        · rw [show F_X6_isBelow st1 (nI t) 4 = some 1 from bel_in _ ht (by decide), show F_X7_within (sI mt 0 0) (nI t) 0 3 = some 1 from wit_in _ (m := 3) ht (by decide), b1_s, b1_s, if_neg n10, if_neg n10, b1_s, if_neg n10, ck_nI hk (by decide), nI_clamp hk31]
          exact go_core hf hk hv (by omega) x3 (nI t) (Or.inl ⟨t, ht, rfl⟩)
        · rw [show F_X6_isBelow st1 x5 4 = some 0 from bel_out _ ht, show F_X7_within (sI mt 0 0) x5 0 3 = some 0 from wit_out _ (m := 3) (by decide) ht, b1_s, b1_s, if_pos rfl, if_pos rfl]
          rcases rng (x5 - 10) 5 (by decide) with ⟨u, hu, eu⟩ | hu
          · have e5 : x5 = nI (10 + u) := by
              have : x5 = (x5 - 10) + 10 := (Int32.sub_add_cancel _ _).symm
              rw [this, eu, show (10 : Int32) = nI 10 from rfl, nI_add, Nat.add_comm]
            have ew : F_X7_within (sI mt 0 0) x5 10 14 = some 1 := by
              unfold F_X7_within
              rw [e5, if_neg (show ¬ nI (10 + u) < 10 from nI_nlt (b := 10) (by omega) (by omega)), if_neg (show ¬ (14 : Int32) < nI (10 + u) from nI_nlt (a := 14) (by omega) (by decide))]
            rw [eu, show F_X6_isBelow st1 (nI u) 5 = some 1 from bel_in _ hu (by decide), ew, b1_s, b1_s, if_neg n10, if_neg n10, b1_s, if_neg n10, ck_nI hk (by decide), nI_clamp hk31]
            exact go_core hf hk hv (by omega) x3 x5 (Or.inr ⟨u, hu, e5⟩)
          · have ew : F_X7_within (sI mt 0 0) x5 10 14 = some 0 := by
              unfold F_X7_within
              by_cases a : x5 < 10
              · rw [if_pos a]
              · rw [if_neg a]
                by_cases b : (14 : Int32) < x5
                · rw [if_pos b]
                · exfalso
                  have h0 : ¬ x5 < 0 := fun z => a (by
                    rw [Int32.lt_iff_toInt_lt] at z ⊢
                    rw [show (0 : Int32).toInt = 0 by decide] at z
                    rw [show (10 : Int32).toInt = 10 by decide]
                    omega)
                  obtain ⟨t, ht2, rfl⟩ : ∃ t : Nat, t ≤ 14 ∧ x5 = nI t := nI_of2 (M := 14) (by decide) h0 (Int32.not_lt.mp b)
                  have h10 : 10 ≤ t := Nat.le_of_not_lt (fun z => a (show nI t < 10 from nI_lt (b := 10) z (by decide)))
                  rw [show (10 : Int32) = nI 10 from rfl, pk_sub h10] at hu
                  rcases hu with c | c
                  · exact nI_pos (by omega) c
                  · exact nI_ge (a := t - 10) (b := 5) (by omega) (by decide) c
            rw [show F_X6_isBelow st1 (x5 - 10) 5 = some 0 from bel_out _ hu, ew, b1_s, b1_s, if_pos rfl, if_pos rfl, b1_s, if_pos rfl]
            exact ⟨-2, _, _, rfl, rfl, hf⟩
      · rw [show F_X6_isBelow st1 x4 21 = some 0 from bel_out _ hm, show F_X7_within (sI mt 0 0) x4 0 20 = some 0 from wit_out _ (m := 20) (by decide) hm]
        exact ⟨-2, _, _, rfl, rfl, hf⟩
    · rw [show F_X6_isBelow st1 x2 3 = some 0 from bel_out _ hv, sor_out _ hv]
      exact ⟨-2, _, _, rfl, rfl, hf⟩
  · rw [show F_X6_isBelow st1 x1 4 = some 0 from bel_out _ ho, she_out _ ho]
    exact ⟨-1, _, _, rfl, rfl, hf⟩
