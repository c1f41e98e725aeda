/-! ALP: the call -/
theorem cp_r {mt s : St} {T m j : Nat} {cl : Nat → Int32} {n w rc : Nat} {kd nt sp md k2 n2 s2 m2 : Nat → Nat} {w2 r2 : Nat} (h3 : MG mt n w rc kd nt sp md) (hj : j ≤ 5) (hI : IV mt T m cl (cl 1 - 48) (cl 2 - 48) j (3 + 5 * j) s) (hV : VN cl j k2 n2 s2 m2) (hw : cl 1 - 48 = nI w2) (hr : cl 2 - 48 = nI r2) (kk : Int32 → St → Option (Int32 × St)) :
    ∃ z, L_X7_alp_111 kk 70 0 (sI (sI (sI s 6 (gI s 13)) 7 (gI (sI s 6 (gI s 13)) 14)) 5 (gI (sI (sI s 6 (gI s 13)) 7 (gI (sI s 6 (gI s 13)) 14)) 15)) = kk (nI j) z ∧ gI z 5 = nI j ∧ gI z 6 = nI w2 ∧ gI z 7 = nI r2 ∧ (∀ a, a < 5 → gI z a = gI mt a) ∧ (∀ a, a < 8 → ∀ q, z.2 a q = mt.2 a q) ∧ (∀ q, q < 5 → z.2 8 q = nI (mix j k2 kd q) ∧ z.2 9 q = nI (mix j n2 nt q) ∧ z.2 10 q = nI (mix j s2 sp q) ∧ z.2 11 q = nI (mix j m2 md q)) := by
  obtain ⟨i1, i2, i3, i4, i5, i6, i7, i8⟩ := hI
  have hs := h3.same i1
  rw [gI_sIn s _ (show 14 ≠ 6 by decide), gI_sIn _ _ (show 15 ≠ 7 by decide), gI_sIn s _ (show 15 ≠ 6 by decide), i3, i4, i5, hw, hr]
  obtain ⟨z, a1, a2, a3, a4⟩ := al_loop (z0 := sI (sI (sI s 6 (nI w2)) 7 (nI r2)) 5 (nI j)) (cl := cl) (kd := kd) (nt := nt) (sp := sp) (md := md) (k2 := k2) (n2 := n2) (s2 := s2) (m2 := m2) hj (fun q hq => by
    obtain ⟨b1, b2, b3, b4⟩ := i8 q hq
    obtain ⟨v1, v2, v3, v4⟩ := hV q hq
    exact ⟨b1.trans v1, b2.trans v2, b3.trans v3, b4.trans v4⟩) (gI_sIs _ _ _) kk 70 0 _ (by omega) (by omega) (fun _ => rfl) (fun _ _ => rfl) (fun q hq => by
    rw [mix_0, mix_0, mix_0, mix_0]
    exact hs.2.2.2 q hq)
  refine ⟨z, a1, ?_, ?_, ?_, fun a ha => ?_, fun a ha q => ?_, a4⟩
  · rw [a2, gI_sIs]
  · rw [a2, gI_sIn _ _ (by decide), gI_sIn _ _ (by decide), gI_sIs]
  · rw [a2, gI_sIn _ _ (by decide), gI_sIs]
  · rw [a2, gI_sIn _ _ (by omega), gI_sIn _ _ (by omega), gI_sIn _ _ (by omega), i1.1 a (by omega)]
  · rw [a3 a (by omega)]
    exact i1.2 a (by omega) q
theorem rel_a {st mt z y : St} {j w2 r2 : Nat} {kd nt sp md : Nat → Nat} (h : Rel st mt) (hH : Hd j w2 r2 kd nt sp md)
    (a1 : gI z 2 = nI j) (a2 : gI z 3 = nI w2) (a3 : gI z 4 = nI r2) (a4 : ∀ a, a ≠ 2 → a ≠ 3 → a ≠ 4 → gI z a = gI st a) (a5 : ∀ a, 4 ≤ a → z.2 a = st.2 a) (a6 : ∀ q, q < 5 → z.2 0 q = nI (kd q) ∧ z.2 1 q = nI (nt q) ∧ z.2 2 q = nI (sp q) ∧ z.2 3 q = nI (md q))
    (b1 : gI y 5 = nI j) (b2 : gI y 6 = nI w2) (b3 : gI y 7 = nI r2) (b4 : ∀ a, a < 5 → gI y a = gI mt a) (b5 : ∀ a, a < 8 → ∀ q, y.2 a q = mt.2 a q) (b6 : ∀ q, q < 5 → y.2 8 q = nI (kd q) ∧ y.2 9 q = nI (nt q) ∧ y.2 10 q = nI (sp q) ∧ y.2 11 q = nI (md q)) : Rel (sI z 5 0) (sI y 24 0) := by
  obtain ⟨n', w', rc', kd', nt', sp', md', rn, rb, rm, rs, h1, h2, h3, h4, h5, h6, h7, h8, h9⟩ := h
  refine ⟨j, w2, r2, kd, nt, sp, md, 0, rb, rm, rs, hH, ⟨a1, a2, a3, a6⟩, ⟨b1, b2, b3, b6⟩, ⟨by decide, fun q hq => absurd hq (by omega)⟩, ⟨gI_sIs _ _ _, fun q hq => absurd hq (by omega)⟩, ⟨gI_sIs _ _ _, fun q hq => absurd hq (by omega)⟩, ?_, ?_, ?_⟩
  · intro k hk
    obtain ⟨g1, g2, g3⟩ := h7 k hk
    rw [gI_sIn _ _ (show 10 + k ≠ 5 by omega), gI_sIn _ _ (show 14 + k ≠ 5 by omega), a4 (10 + k) (by omega) (by omega) (by omega), a4 (14 + k) (by omega) (by omega) (by omega)]
    rw [A_sI, A_sI, b5 2 (by decide), b5 3 (by decide), a5 (10 + k) (by omega)]
    refine ⟨g1, g2, fun i hi => ?_⟩
    rw [b5 4 (by decide)]
    exact g3 i hi
  · rw [gI_sIn _ _ (by decide), gI_sIn _ _ (by decide), a4 0 (by decide) (by decide) (by decide), b4 1 (by decide)]
    exact h8
  · rw [gI_sIn _ _ (by decide), gI_sIn _ _ (by decide), a4 1 (by decide) (by decide) (by decide), b4 0 (by decide)]
    exact h9
theorem ok_alp {st mt : St} (h : Rel st mt) (x1 x2 x3 x4 : Int32) : ∃ (r : Int32) (s2 : St) (m2 : St), F_X6_alp st x1 x2 x3 x4 = some (r, s2) ∧ F_X7_alp mt x1 x2 x3 x4 = some (r, m2) ∧ Rel s2 m2 := by
  have hf := h.fault 0
  unfold F_X6_alp F_X7_alp
  generalize sI st 1 0 = st1 at hf ⊢
  generalize sI mt 0 0 = mt1 at hf ⊢
  rcases rng x1 4 (by decide) with ⟨k, hk, rfl⟩ | ho
  · have hk31 : k < 2 ^ 31 := by omega
    rw [show F_X6_isBelow st1 (nI k) 4 = some 1 from bel_in _ hk (by decide), she_in _ hk, b1_s, b1_s, if_neg n10, if_neg n10]
    rcases rng x2 3 (by decide) with ⟨v, hv, rfl⟩ | hv
    · rw [show F_X6_isBelow st1 (nI v) 3 = some 1 from bel_in _ hv (by decide), sor_in _ hv, b1_s, b1_s, if_neg n10, if_neg n10, ck_nI hk (by decide), nI_clamp hk31]
      obtain ⟨n, w, rc, kd, nt, sp, md, rn, rb, rm, rs, h1, h2, h3, h4, h5, h6, h7, h8, h9⟩ := id hf
      obtain ⟨g1, g2, g3⟩ := h7 k hk
      by_cases q : gI st1 (10 + k) = -9
      · rw [fault_n _ q, ag_n _ hk (g1 ▸ q), b1_s, b1_s, if_neg n10, if_neg n10]
        exact ⟨_, _, _, rfl, rfl, hf.fault 1⟩
      · obtain ⟨⟨z, hz, e1, e2⟩, l, hl, e3⟩ := g2.resolve_left q
        have q' : ¬ mt1.2 2 k = -9 := fun a => q (g1.trans a)
        by_cases q2 : gI st1 (10 + k) = nI v
        · have q2' : mt1.2 2 k = nI v := g1 ▸ q2
          rw [fault_0 q q2, b1_s, if_pos rfl]
          by_cases hy0 : 0 ≤ x4
          · rw [if_pos hy0]
            by_cases A : x3 < 0 ∨ nI z < x3 ∨ ¬ x4 ≤ nI z - x3
            · rw [hc_out e1 hy0 A, ag_out _ hk q' q2' e2 hy0 A, b1_s, b1_s, if_pos rfl, if_neg n30]
              exact ⟨_, _, _, rfl, rfl, hf.fault 3⟩
            · obtain ⟨i, m, hi, hm', hle⟩ := hc_nat hz hy0 A
              rw [hc_in e1 hy0 A, ag_in _ hk q' q2' e2 hy0 A, b1_s, b1_s, if_neg n10, if_pos rfl]
              subst hi
              subst hm'
              have him : i + m ≤ 60 := by omega
              rw [ix60, nI_add]
              have hC : ∀ p, p < m → st1.2 (10 + k) (i + p) = (fun p => st1.2 (10 + k) (i + p)) p := fun _ _ => rfl
              have hM : ∀ p, p < m → mt1.2 4 (60 * k + i + p) = (fun p => st1.2 (10 + k) (i + p)) p := fun p hp => by
                show mt1.2 4 (60 * k + i + p) = st1.2 (10 + k) (i + p)
                rw [g3 (i + p) (by omega), Nat.add_assoc]
              generalize (fun p => st1.2 (10 + k) (i + p)) = cl at hC hM
              have hx : Cx mt1 (60 * k + i) m cl := ⟨by omega, hM⟩
              rcases ff him hC with ⟨qc, t1, t2⟩ | ⟨j, u1, u2, u3, u4, u5⟩
              · rcases ra hx (SameM.i 12 (nI (60 * k + i)) (by decide)) (gI_sIs _ _ _) with ⟨qm, s, y1, y2, y3, y4⟩ | ⟨j, s, y1, y2, y3, y4, y5⟩
                · have hq := bad_u t1 y1
                  subst hq
                  have hqm := t1.1
                  rw [t2, y4, b1_s, b2_s, if_neg (nI9 (by omega)), if_pos rfl, y3, pk_sub (by omega), Nat.add_sub_cancel_left]
                  exact ⟨_, _, _, rfl, rfl, hf.congr (SameC.rf _) y2⟩
                · exact (bad_g t1 y3 y1 (fun r hr => y4.2.2.2.2.2.2.1 r (by omega))).elim
              · rcases ra hx (SameM.i 12 (nI (60 * k + i)) (by decide)) (gI_sIs _ _ _) with ⟨qm, s, y1, y2, y3, y4⟩ | ⟨j', s, y1, y2, y3, y4, y5⟩
                · exact (bad_g y1 u3 u1 u4).elim
                · have hjj : j' = j := by omega
                  subst hjj
                  obtain ⟨k2, n2, s2, m2, hV, hVl⟩ := vn_of u2 u3 u4
                  have f1 := u4 1 (by omega)
                  have f2 := u4 2 (by omega)
                  rw [fit_1] at f1
                  rw [fit_2] at f2
                  obtain ⟨w2, hw2, ew⟩ := f1.sub
                  obtain ⟨r2, hr2, er⟩ := f2.sub
                  obtain ⟨zc, c0, c1, c2, c3, c4, c5, c6⟩ := set_r h2 u1 u2 u3 him hC hV ew er
                  obtain ⟨zm, d0, d1, d2, d3, d4, d5, d6⟩ := cp_r h3 u2 y4 hV ew er (fun y7_111 z_111 => some (gI (sI z_111 24 0) 5, sI z_111 24 0))
                  rw [u5, y5, b1_s, b2_s, if_pos rfl, if_neg n10, c0, b1_s, d0]
                  refine ⟨nI j', _, _, ?_, ?_, rel_a hf (kd := mix j' k2 kd) (nt := mix j' n2 nt) (sp := mix j' s2 sp) (md := mix j' m2 md) ⟨u2, hw2, hr2, fun b hb => ?_⟩ c1 c2 c3 c4 c5 c6 d1 d2 d3 d4 d5 d6⟩
                  · rw [gI_sIn _ _ (by decide), c1]
                  · rw [gI_sIn _ _ (by decide), d1]
                  · obtain ⟨o1, o2, o3, o4⟩ := h1.2.2.2 b hb
                    exact ⟨mix_lt (fun x => (hVl b x).1) o1, mix_lt (fun x => (hVl b x).2.1) o2, mix_lt (fun x => (hVl b x).2.2.1) o3, mix_lt (fun x => (hVl b x).2.2.2) o4⟩
          · rw [if_neg hy0, ag_s _ hk q' q2' hy0, b1_s, if_neg n40]
            exact ⟨_, _, _, rfl, rfl, hf.fault 4⟩
        · rw [fault_c q q2, ag_c _ hk q' (fun a => q2 (g1.trans a)), b1_s, b1_s, if_neg n20, if_neg n20]
          exact ⟨_, _, _, rfl, rfl, hf.fault 2⟩
    · rw [show F_X6_isBelow st1 x2 3 = some 0 from bel_out _ hv, sor_out _ hv]
      exact ⟨-2, _, _, rfl, rfl, hf⟩
  · rw [show F_X6_isBelow st1 x1 4 = some 0 from bel_out _ ho, she_out _ ho]
    exact ⟨-1, _, _, rfl, rfl, hf⟩
