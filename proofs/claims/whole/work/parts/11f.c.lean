abbrev rm_X7_readAlp : Room := { frames := 3, cells := 0, slots := 0, locals := 66 }
set_option maxHeartbeats 4000000 in
set_option maxRecDepth 100000 in
theorem c_X7_readAlp (l : Launch) (D : va_G) (cI cO : ClassId) (ad : Nat → Nat) (sz : Nat) {st : St} {x1 : Int32} {r : Int32} {s2 : St} (hR : F_X7_readAlp st x1 = some (r, s2)) : CZ l yX7_readAlp wsX7_readAlp rm_X7_readAlp D cI cO [.ref (ad 0), .int x1] (MW cI ad st) (MW cI ad s2) sz r := by
  refine mk_z (cc := cX7_readAlp) (maxL := 2) (own := RX7) rfl (by decide) rfl (Nat.le_of_ble_eq_true rfl) ?_
  intro p e s m args below meth c A Q ls hx hb hml hown hts hK hN hA ret_ hP hD hS hl
  have i_X7 : ∀ w ∈ u_ws RX7 TX7 28, w ∈ wsX7_readAlp := (fun _ h => List.mem_cons_of_mem _ (List.mem_append_right _ h))
  have f_107 := hts (.fieldLink RX7 107 "BellNamesModel" "readBells" "I") (by decide +kernel)
  have f_95 := hts (.fieldLink RX7 95 "BellNamesModel" "readWind" "I") (by decide +kernel)
  have f_101 := hts (.fieldLink RX7 101 "BellNamesModel" "readReach" "I") (by decide +kernel)
  have f_74 := hts (.fieldLink RX7 74 "BellNamesModel" "at" "I") (by decide +kernel)
  have hl : lv_has ls 2 [(0, .ref (ad 0)), (1, .int x1)] := hl
  unfold F_X7_readAlp at hR
  refine lv_aload_n hx hb dX7_readAlp_0 rfl (lv_at hl 0 rfl) ?_
  refine lv_iconst (v := 0) hx hb dX7_readAlp_1 (by decide) ?_
  refine bw_put (w' := (MW cI ad (sI st 15 0))) (ci := 6) (C := RX7) (T := TX7) (N := 28) hx hb hts i_X7 tyX7 tyX7_ok nmX7 hown hK hP hD hS 0 rfl rfl 15 (by decide) f_107 rfl rfl (Nat.le_of_ble_eq_true rfl) (MW_i15 cI ad _ _) dX7_readAlp_2 (fun H locs hP hD hS => ?_)
  refine lv_aload_n hx hb dX7_readAlp_5 rfl (lv_at hl 0 rfl) ?_
  refine lv_iload_n hx hb dX7_readAlp_6 rfl (lv_at hl 1 rfl) ?_
  refine lv_bipush (v := 98) hx hb dX7_readAlp_7 (by decide) ?_
  obtain ⟨v_1, s_1, e_1, hR⟩ := b2_some hR
  refine bc_z (va_runV (As := [.int x1, .int 98]) (rest := []) ⟨hx, hb, hml, hown, hts⟩ (c_X7_isSign l D cI cO ad _ e_1) (cwV 2 hts gX7_readAlp_X7_isSign rfl rfl rfl (by decide +kernel) ⟨Nat.le_of_ble_eq_true rfl, Nat.le_of_ble_eq_true rfl⟩) (preV hK hN hP hD (va_recv hK hP (ci := 6) (q0 := 0) rfl rfl)) rfl rfl hl.1 rfl (lv_room (Nat.le_of_ble_eq_true rfl)) dX7_readAlp_9 ⟨Nat.zero_le _, Nat.zero_le _⟩) hS hD hA (fun H locs hP hD hS n_1 => ?_)
  refine lv_if_ne (tgt := 17) hx hb dX7_readAlp_12 (by decide) (fun c_2 => ?_) (fun c_2 => ?_)
  · have hR := (if_neg c_2).symm.trans hR
    refine lv_aload_n hx hb dX7_readAlp_17 rfl (lv_at hl 0 rfl) ?_
    refine lv_aload_n hx hb dX7_readAlp_18 rfl (lv_at hl 0 rfl) ?_
    refine lv_iload_n hx hb dX7_readAlp_19 rfl (lv_at hl 1 rfl) ?_
    refine lv_iconst (v := 2) hx hb dX7_readAlp_20 (by decide) ?_
    obtain ⟨v_3, s_3, e_3, hR⟩ := b2_some hR
    refine bc_i (va_runV (As := [.int x1, .int 2]) (rest := [.ref (ad 0)]) ⟨hx, hb, hml, hown, hts⟩ (c_X7_digit l D cI cO ad _ e_3) (cwV 2 hts gX7_readAlp_X7_digit rfl rfl rfl (by decide +kernel) ⟨Nat.le_of_ble_eq_true rfl, Nat.le_of_ble_eq_true rfl⟩) (preV hK hN hP hD (va_recv hK hP (ci := 6) (q0 := 0) rfl rfl)) rfl rfl hl.1 rfl (lv_room (Nat.le_of_ble_eq_true rfl)) dX7_readAlp_21 ⟨Nat.zero_le _, Nat.zero_le _⟩) hS hD hA (fun H locs hP hD hS => ?_)
    refine bw_put (w' := (MW cI ad (sI s_3 13 v_3))) (ci := 6) (C := RX7) (T := TX7) (N := 28) hx hb hts i_X7 tyX7 tyX7_ok nmX7 hown hK hP hD hS 0 rfl rfl 13 (by decide) f_95 rfl rfl (Nat.le_of_ble_eq_true rfl) (MW_i13 cI ad _ _) dX7_readAlp_24 (fun H locs hP hD hS => ?_)
    refine lv_aload_n hx hb dX7_readAlp_27 rfl (lv_at hl 0 rfl) ?_
    refine bw_get (ci := 6) (v := .int (gI (sI s_3 13 v_3) 13)) (C := RX7) (T := TX7) (N := 28) hx hb hts i_X7 hown hK hP 0 rfl rfl 13 (by decide) f_95 rfl dX7_readAlp_28 ?_
    refine lv_bipush (v := (-9)) hx hb dX7_readAlp_31 (by decide) ?_
    refine lv_icmp_ne (tgt := 38) hx hb dX7_readAlp_33 (by decide) (fun c_4 => ?_) (fun c_4 => ?_)
    · have hR := (if_neg c_4).symm.trans hR
      refine lv_aload_n hx hb dX7_readAlp_38 rfl (lv_at hl 0 rfl) ?_
      refine lv_aload_n hx hb dX7_readAlp_39 rfl (lv_at hl 0 rfl) ?_
      refine lv_iload_n hx hb dX7_readAlp_40 rfl (lv_at hl 1 rfl) ?_
      refine lv_bipush (v := 9) hx hb dX7_readAlp_41 (by decide) ?_
      obtain ⟨v_5, s_5, e_5, hR⟩ := b2_some hR
      refine bc_i (va_runV (As := [.int x1, .int 9]) (rest := [.ref (ad 0)]) ⟨hx, hb, hml, hown, hts⟩ (c_X7_digit l D cI cO ad _ e_5) (cwV 2 hts gX7_readAlp_X7_digit rfl rfl rfl (by decide +kernel) ⟨Nat.le_of_ble_eq_true rfl, Nat.le_of_ble_eq_true rfl⟩) (preV hK hN hP hD (va_recv hK hP (ci := 6) (q0 := 0) rfl rfl)) rfl rfl hl.1 rfl (lv_room (Nat.le_of_ble_eq_true rfl)) dX7_readAlp_43 ⟨Nat.zero_le _, Nat.zero_le _⟩) hS hD hA (fun H locs hP hD hS => ?_)
      refine bw_put (w' := (MW cI ad (sI s_5 14 v_5))) (ci := 6) (C := RX7) (T := TX7) (N := 28) hx hb hts i_X7 tyX7 tyX7_ok nmX7 hown hK hP hD hS 0 rfl rfl 14 (by decide) f_101 rfl rfl (Nat.le_of_ble_eq_true rfl) (MW_i14 cI ad _ _) dX7_readAlp_46 (fun H locs hP hD hS => ?_)
      refine lv_aload_n hx hb dX7_readAlp_49 rfl (lv_at hl 0 rfl) ?_
      refine bw_get (ci := 6) (v := .int (gI (sI s_5 14 v_5) 14)) (C := RX7) (T := TX7) (N := 28) hx hb hts i_X7 hown hK hP 0 rfl rfl 14 (by decide) f_101 rfl dX7_readAlp_50 ?_
      refine lv_bipush (v := (-9)) hx hb dX7_readAlp_53 (by decide) ?_
      refine lv_icmp_ne (tgt := 60) hx hb dX7_readAlp_55 (by decide) (fun c_6 => ?_) (fun c_6 => ?_)
      · have hR := (if_neg c_6).symm.trans hR
        have lp_60 : ∀ (n_60 : Nat) (z_60 : St) (H : Heap) (locs : List Loc) (ls : Array Slot), L_X7_readAlp_60 x1 (fun z_60 => if (gI z_60 12) = x1 then some (1, z_60) else some (0, z_60)) n_60 z_60 = some (r, s2) → va_P D vwCl (MW cI ad z_60) H → va_D A (MW cI ad z_60) → va_S A s.heap H locs → lv_has ls 2 [(0, .ref (ad 0)), (1, .int x1)] → W p l e rm_X7_readAlp s m args below meth c H locs 0 0 Q (F0 m 60 ls []) := by
          intro n_60
          induction n_60 with
          | zero => intro z_60 H locs ls hR; exact absurd (L_X7_readAlp_60_z.symm.trans hR) (fun h => nomatch h)
          | succ n_60 ih_60 =>
            intro z_60 H locs ls hR hP hD hS hl
            have hR := L_X7_readAlp_60_s.symm.trans hR
            refine lv_aload_n hx hb dX7_readAlp_60 rfl (lv_at hl 0 rfl) ?_
            refine bw_get (ci := 6) (v := .int (gI z_60 15)) (C := RX7) (T := TX7) (N := 28) hx hb hts i_X7 hown hK hP 0 rfl rfl 15 (by decide) f_107 rfl dX7_readAlp_61 ?_
            refine lv_if_eq (tgt := 83) hx hb dX7_readAlp_64 (by decide) (fun c_7 => ?_) (fun c_7 => ?_)
            · have hR := (if_pos c_7).symm.trans hR
              refine lv_aload_n hx hb dX7_readAlp_83 rfl (lv_at hl 0 rfl) ?_
              refine lv_iload_n hx hb dX7_readAlp_84 rfl (lv_at hl 1 rfl) ?_
              refine lv_bipush (v := 59) hx hb dX7_readAlp_85 (by decide) ?_
              obtain ⟨v_8, s_8, e_8, hR⟩ := b2_some hR
              refine bc_z (va_runV (As := [.int x1, .int 59]) (rest := []) ⟨hx, hb, hml, hown, hts⟩ (c_X7_isSign l D cI cO ad _ e_8) (cwV 2 hts gX7_readAlp_X7_isSign rfl rfl rfl (by decide +kernel) ⟨Nat.le_of_ble_eq_true rfl, Nat.le_of_ble_eq_true rfl⟩) (preV hK hN hP hD (va_recv hK hP (ci := 6) (q0 := 0) rfl rfl)) rfl rfl hl.1 rfl (lv_room (Nat.le_of_ble_eq_true rfl)) dX7_readAlp_87 ⟨Nat.zero_le _, Nat.zero_le _⟩) hS hD hA (fun H locs hP hD hS n_8 => ?_)
              refine lv_if_eq (tgt := 101) hx hb dX7_readAlp_90 (by decide) (fun c_9 => ?_) (fun c_9 => ?_)
              · have hR := (if_pos c_9).symm.trans hR
                refine lv_iconst (v := 0) hx hb dX7_readAlp_101 (by decide) ?_
                exact ret_ _ _ _ _ _ _ dX7_readAlp_102 (by decide) (sp1 hR) (congrArg (fun z => (MW cI ad z)) (sp2 hR)) hP hD hS
              · have hR := (if_neg c_9).symm.trans hR
                refine lv_aload_n hx hb dX7_readAlp_93 rfl (lv_at hl 0 rfl) ?_
                refine lv_iload_n hx hb dX7_readAlp_94 rfl (lv_at hl 1 rfl) ?_
                obtain ⟨v_10, s_10, e_10, hR⟩ := b2_some hR
                refine bc_z (va_runV (As := [.int x1]) (rest := []) ⟨hx, hb, hml, hown, hts⟩ (c_X7_readBell l D cI cO ad _ e_10) (cwV 1 hts gX7_readAlp_X7_readBell rfl rfl rfl (by decide +kernel) ⟨Nat.le_of_ble_eq_true rfl, Nat.le_of_ble_eq_true rfl⟩) (preV hK hN hP hD (va_recv hK hP (ci := 6) (q0 := 0) rfl rfl)) rfl rfl hl.1 rfl (lv_room (Nat.le_of_ble_eq_true rfl)) dX7_readAlp_95 ⟨Nat.zero_le _, Nat.zero_le _⟩) hS hD hA (fun H locs hP hD hS n_10 => ?_)
                refine lv_if_ne (tgt := 60) hx hb dX7_readAlp_98 (by decide) (fun c_11 => ?_) (fun c_11 => ?_)
                · have hR := (if_neg c_11).symm.trans hR
                  exact ih_60 _ _ _ _ hR hP hD hS (lv_sub hl [0, 1] rfl)
                · have hR := (if_pos c_11).symm.trans hR
                  refine lv_iconst (v := 0) hx hb dX7_readAlp_101 (by decide) ?_
                  exact ret_ _ _ _ _ _ _ dX7_readAlp_102 (by decide) (sp1 hR) (congrArg (fun z => (MW cI ad z)) (sp2 hR)) hP hD hS
            · have hR := (if_neg c_7).symm.trans hR
              refine lv_aload_n hx hb dX7_readAlp_67 rfl (lv_at hl 0 rfl) ?_
              refine bw_get (ci := 6) (v := .int (gI z_60 15)) (C := RX7) (T := TX7) (N := 28) hx hb hts i_X7 hown hK hP 0 rfl rfl 15 (by decide) f_107 rfl dX7_readAlp_68 ?_
              refine lv_iconst (v := 5) hx hb dX7_readAlp_71 (by decide) ?_
              refine lv_icmp_ge (tgt := 103) hx hb dX7_readAlp_72 (by decide) (fun c_12 => ?_) (fun c_12 => ?_)
              · have hR := (if_pos c_12).symm.trans hR
                refine lv_aload_n hx hb dX7_readAlp_103 rfl (lv_at hl 0 rfl) ?_
                refine bw_get (ci := 6) (v := .int (gI z_60 12)) (C := RX7) (T := TX7) (N := 28) hx hb hts i_X7 hown hK hP 0 rfl rfl 12 (by decide) f_74 rfl dX7_readAlp_104 ?_
                refine lv_iload_n hx hb dX7_readAlp_107 rfl (lv_at hl 1 rfl) ?_
                refine lv_icmp_ne (tgt := 115) hx hb dX7_readAlp_108 (by decide) (fun c_13 => ?_) (fun c_13 => ?_)
                · have hR := (if_neg c_13).symm.trans hR
                  refine lv_iconst (v := 0) hx hb dX7_readAlp_115 (by decide) ?_
                  exact ret_ _ _ _ _ _ _ dX7_readAlp_116 (by decide) (sp1 hR) (congrArg (fun z => (MW cI ad z)) (sp2 hR)) hP hD hS
                · have hR := (if_pos c_13).symm.trans hR
                  refine lv_iconst (v := 1) hx hb dX7_readAlp_111 (by decide) ?_
                  refine lv_goto (tgt := 116) hx hb dX7_readAlp_112 (by decide) ?_
                  exact ret_ _ _ _ _ _ _ dX7_readAlp_116 (by decide) (sp1 hR) (congrArg (fun z => (MW cI ad z)) (sp2 hR)) hP hD hS
              · have hR := (if_neg c_12).symm.trans hR
                refine lv_aload_n hx hb dX7_readAlp_75 rfl (lv_at hl 0 rfl) ?_
                refine bw_get (ci := 6) (v := .int (gI z_60 12)) (C := RX7) (T := TX7) (N := 28) hx hb hts i_X7 hown hK hP 0 rfl rfl 12 (by decide) f_74 rfl dX7_readAlp_76 ?_
                refine lv_iload_n hx hb dX7_readAlp_79 rfl (lv_at hl 1 rfl) ?_
                refine lv_icmp_ge (tgt := 103) hx hb dX7_readAlp_80 (by decide) (fun c_14 => ?_) (fun c_14 => ?_)
                · have hR := (if_pos c_14).symm.trans hR
                  refine lv_aload_n hx hb dX7_readAlp_103 rfl (lv_at hl 0 rfl) ?_
                  refine bw_get (ci := 6) (v := .int (gI z_60 12)) (C := RX7) (T := TX7) (N := 28) hx hb hts i_X7 hown hK hP 0 rfl rfl 12 (by decide) f_74 rfl dX7_readAlp_104 ?_
                  refine lv_iload_n hx hb dX7_readAlp_107 rfl (lv_at hl 1 rfl) ?_
                  refine lv_icmp_ne (tgt := 115) hx hb dX7_readAlp_108 (by decide) (fun c_15 => ?_) (fun c_15 => ?_)
                  · have hR := (if_neg c_15).symm.trans hR
                    refine lv_iconst (v := 0) hx hb dX7_readAlp_115 (by decide) ?_
                    exact ret_ _ _ _ _ _ _ dX7_readAlp_116 (by decide) (sp1 hR) (congrArg (fun z => (MW cI ad z)) (sp2 hR)) hP hD hS
                  · have hR := (if_pos c_15).symm.trans hR
                    refine lv_iconst (v := 1) hx hb dX7_readAlp_111 (by decide) ?_
                    refine lv_goto (tgt := 116) hx hb dX7_readAlp_112 (by decide) ?_
                    exact ret_ _ _ _ _ _ _ dX7_readAlp_116 (by decide) (sp1 hR) (congrArg (fun z => (MW cI ad z)) (sp2 hR)) hP hD hS
                · have hR := (if_neg c_14).symm.trans hR
                  refine lv_aload_n hx hb dX7_readAlp_83 rfl (lv_at hl 0 rfl) ?_
                  refine lv_iload_n hx hb dX7_readAlp_84 rfl (lv_at hl 1 rfl) ?_
                  refine lv_bipush (v := 59) hx hb dX7_readAlp_85 (by decide) ?_
                  obtain ⟨v_16, s_16, e_16, hR⟩ := b2_some hR
                  refine bc_z (va_runV (As := [.int x1, .int 59]) (rest := []) ⟨hx, hb, hml, hown, hts⟩ (c_X7_isSign l D cI cO ad _ e_16) (cwV 2 hts gX7_readAlp_X7_isSign rfl rfl rfl (by decide +kernel) ⟨Nat.le_of_ble_eq_true rfl, Nat.le_of_ble_eq_true rfl⟩) (preV hK hN hP hD (va_recv hK hP (ci := 6) (q0 := 0) rfl rfl)) rfl rfl hl.1 rfl (lv_room (Nat.le_of_ble_eq_true rfl)) dX7_readAlp_87 ⟨Nat.zero_le _, Nat.zero_le _⟩) hS hD hA (fun H locs hP hD hS n_16 => ?_)
                  refine lv_if_eq (tgt := 101) hx hb dX7_readAlp_90 (by decide) (fun c_17 => ?_) (fun c_17 => ?_)
                  · have hR := (if_pos c_17).symm.trans hR
                    refine lv_iconst (v := 0) hx hb dX7_readAlp_101 (by decide) ?_
                    exact ret_ _ _ _ _ _ _ dX7_readAlp_102 (by decide) (sp1 hR) (congrArg (fun z => (MW cI ad z)) (sp2 hR)) hP hD hS
                  · have hR := (if_neg c_17).symm.trans hR
                    refine lv_aload_n hx hb dX7_readAlp_93 rfl (lv_at hl 0 rfl) ?_
                    refine lv_iload_n hx hb dX7_readAlp_94 rfl (lv_at hl 1 rfl) ?_
                    obtain ⟨v_18, s_18, e_18, hR⟩ := b2_some hR
                    refine bc_z (va_runV (As := [.int x1]) (rest := []) ⟨hx, hb, hml, hown, hts⟩ (c_X7_readBell l D cI cO ad _ e_18) (cwV 1 hts gX7_readAlp_X7_readBell rfl rfl rfl (by decide +kernel) ⟨Nat.le_of_ble_eq_true rfl, Nat.le_of_ble_eq_true rfl⟩) (preV hK hN hP hD (va_recv hK hP (ci := 6) (q0 := 0) rfl rfl)) rfl rfl hl.1 rfl (lv_room (Nat.le_of_ble_eq_true rfl)) dX7_readAlp_95 ⟨Nat.zero_le _, Nat.zero_le _⟩) hS hD hA (fun H locs hP hD hS n_18 => ?_)
                    refine lv_if_ne (tgt := 60) hx hb dX7_readAlp_98 (by decide) (fun c_19 => ?_) (fun c_19 => ?_)
                    · have hR := (if_neg c_19).symm.trans hR
                      exact ih_60 _ _ _ _ hR hP hD hS (lv_sub hl [0, 1] rfl)
                    · have hR := (if_pos c_19).symm.trans hR
                      refine lv_iconst (v := 0) hx hb dX7_readAlp_101 (by decide) ?_
                      exact ret_ _ _ _ _ _ _ dX7_readAlp_102 (by decide) (sp1 hR) (congrArg (fun z => (MW cI ad z)) (sp2 hR)) hP hD hS
        exact lp_60 _ _ _ _ _ hR hP hD hS (lv_sub hl [0, 1] rfl)
      · have hR := (if_pos c_6).symm.trans hR
        refine lv_iconst (v := 0) hx hb dX7_readAlp_58 (by decide) ?_
        exact ret_ _ _ _ _ _ _ dX7_readAlp_59 (by decide) (sp1 hR) (congrArg (fun z => (MW cI ad z)) (sp2 hR)) hP hD hS
    · have hR := (if_pos c_4).symm.trans hR
      refine lv_iconst (v := 0) hx hb dX7_readAlp_36 (by decide) ?_
      exact ret_ _ _ _ _ _ _ dX7_readAlp_37 (by decide) (sp1 hR) (congrArg (fun z => (MW cI ad z)) (sp2 hR)) hP hD hS
  · have hR := (if_pos c_2).symm.trans hR
    refine lv_iconst (v := 0) hx hb dX7_readAlp_15 (by decide) ?_
    exact ret_ _ _ _ _ _ _ dX7_readAlp_16 (by decide) (sp1 hR) (congrArg (fun z => (MW cI ad z)) (sp2 hR)) hP hD hS
abbrev rm_X7_alp : Room := { frames := 4, cells := 0, slots := 0, locals := 87 }
set_option maxHeartbeats 4000000 in
set_option maxRecDepth 100000 in
theorem c_X7_alp (l : Launch) (D : va_G) (cI cO : ClassId) (ad : Nat → Nat) (sz : Nat) {st : St} {x1 : Int32} {x2 : Int32} {x3 : Int32} {x4 : Int32} {r : Int32} {s2 : St} (hR : F_X7_alp st x1 x2 x3 x4 = some (r, s2)) : CI l yX7_alp wsX7_alp rm_X7_alp D cI cO [.ref (ad 0), .int x1, .int x2, .int x3, .int x4] (MW cI ad st) (MW cI ad s2) sz r := by
  refine mk_i (cc := cX7_alp) (maxL := 8) (own := RX7) rfl (by decide) rfl (Nat.le_of_ble_eq_true rfl) ?_
  intro p e s m args below meth c A Q ls hx hb hml hown hts hK hN hA ret_ hP hD hS hl
  have i_X7 : ∀ w ∈ u_ws RX7 TX7 28, w ∈ wsX7_alp := (fun _ h => List.mem_cons_of_mem _ (List.mem_append_right _ h))
  have f_61 := hts (.fieldLink RX7 61 "BellNamesModel" "fault" "I") (by decide +kernel)
  have f_74 := hts (.fieldLink RX7 74 "BellNamesModel" "at" "I") (by decide +kernel)
  have f_95 := hts (.fieldLink RX7 95 "BellNamesModel" "readWind" "I") (by decide +kernel)
  have f_98 := hts (.fieldLink RX7 98 "BellNamesModel" "wind" "I") (by decide +kernel)
  have f_101 := hts (.fieldLink RX7 101 "BellNamesModel" "readReach" "I") (by decide +kernel)
  have f_104 := hts (.fieldLink RX7 104 "BellNamesModel" "reach" "I") (by decide +kernel)
  have f_107 := hts (.fieldLink RX7 107 "BellNamesModel" "readBells" "I") (by decide +kernel)
  have f_71 := hts (.fieldLink RX7 71 "BellNamesModel" "bells" "I") (by decide +kernel)
  have f_110 := hts (.fieldLink RX7 110 "BellNamesModel" "readings" "I") (by decide +kernel)
  have f_19 := hts (.fieldLink RX7 19 "BellNamesModel" "kind" "[I") (by decide +kernel)
  have f_31 := hts (.fieldLink RX7 31 "BellNamesModel" "readKind" "[I") (by decide +kernel)
  have f_22 := hts (.fieldLink RX7 22 "BellNamesModel" "note" "[I") (by decide +kernel)
  have f_34 := hts (.fieldLink RX7 34 "BellNamesModel" "readNote" "[I") (by decide +kernel)
  have f_25 := hts (.fieldLink RX7 25 "BellNamesModel" "spotOf" "[I") (by decide +kernel)
  have f_37 := hts (.fieldLink RX7 37 "BellNamesModel" "readSpot" "[I") (by decide +kernel)
  have f_28 := hts (.fieldLink RX7 28 "BellNamesModel" "mood" "[I") (by decide +kernel)
  have f_40 := hts (.fieldLink RX7 40 "BellNamesModel" "readMood" "[I") (by decide +kernel)
  have hl : lv_has ls 8 [(0, .ref (ad 0)), (1, .int x1), (2, .int x2), (3, .int x3), (4, .int x4)] := hl
  unfold F_X7_alp at hR
  refine lv_aload_n hx hb dX7_alp_0 rfl (lv_at hl 0 rfl) ?_
  refine lv_iconst (v := 0) hx hb dX7_alp_1 (by decide) ?_
  refine bw_put (w' := (MW cI ad (sI st 0 0))) (ci := 6) (C := RX7) (T := TX7) (N := 28) hx hb hts i_X7 tyX7 tyX7_ok nmX7 hown hK hP hD hS 0 rfl rfl 0 (by decide) f_61 rfl rfl (Nat.le_of_ble_eq_true rfl) (MW_i0 cI ad _ _) dX7_alp_2 (fun H locs hP hD hS => ?_)
  refine lv_iload_n hx hb dX7_alp_5 rfl (lv_at hl 1 rfl) ?_
  obtain ⟨v_1, e_1, hR⟩ := b1_some hR
  refine bc_z (va_runS (As := [.int x1]) (rest := []) ⟨hx, hb, hml, hown, hts⟩ (c_X7_isSheet l D cI cO ad _ e_1) (va_cwS 1 hts gX7_alp_X7_isSheet rfl rfl rfl (by decide +kernel) ⟨Nat.le_of_ble_eq_true rfl, Nat.le_of_ble_eq_true rfl⟩) (preS hK hN hP hD) rfl rfl hl.1 rfl (lv_room (Nat.le_of_ble_eq_true rfl)) dX7_alp_6 ⟨Nat.zero_le _, Nat.zero_le _⟩) hS hD hA (fun H locs hP hD hS n_1 => ?_)
  refine lv_if_ne (tgt := 14) hx hb dX7_alp_9 (by decide) (fun c_2 => ?_) (fun c_2 => ?_)
  · have hR := (if_neg c_2).symm.trans hR
    refine lv_iload_n hx hb dX7_alp_14 rfl (lv_at hl 2 rfl) ?_
    obtain ⟨v_3, e_3, hR⟩ := b1_some hR
    refine bc_z (va_runS (As := [.int x2]) (rest := []) ⟨hx, hb, hml, hown, hts⟩ (c_X7_isSort l D cI cO ad _ e_3) (va_cwS 1 hts gX7_alp_X7_isSort rfl rfl rfl (by decide +kernel) ⟨Nat.le_of_ble_eq_true rfl, Nat.le_of_ble_eq_true rfl⟩) (preS hK hN hP hD) rfl rfl hl.1 rfl (lv_room (Nat.le_of_ble_eq_true rfl)) dX7_alp_15 ⟨Nat.zero_le _, Nat.zero_le _⟩) hS hD hA (fun H locs hP hD hS n_3 => ?_)
    refine lv_if_ne (tgt := 24) hx hb dX7_alp_18 (by decide) (fun c_4 => ?_) (fun c_4 => ?_)
    · have hR := (if_neg c_4).symm.trans hR
      refine lv_aload_n hx hb dX7_alp_24 rfl (lv_at hl 0 rfl) ?_
      refine lv_iload_n hx hb dX7_alp_25 rfl (lv_at hl 1 rfl) ?_
      refine lv_iload_n hx hb dX7_alp_26 rfl (lv_at hl 2 rfl) ?_
      refine lv_iload_n hx hb dX7_alp_27 rfl (lv_at hl 3 rfl) ?_
      refine lv_iload hx hb dX7_alp_28 (lv_at hl 4 rfl) ?_
      obtain ⟨v_5, e_5, hR⟩ := b1_some hR
      refine bc_i (va_runV (As := [.int x1, .int x2, .int x3, .int x4]) (rest := []) ⟨hx, hb, hml, hown, hts⟩ (c_X7_against l D cI cO ad _ e_5) (cwV 4 hts gX7_alp_X7_against rfl rfl rfl (by decide +kernel) ⟨Nat.le_of_ble_eq_true rfl, Nat.le_of_ble_eq_true rfl⟩) (preV hK hN hP hD (va_recv hK hP (ci := 6) (q0 := 0) rfl rfl)) rfl rfl hl.1 rfl (lv_room (Nat.le_of_ble_eq_true rfl)) dX7_alp_30 ⟨Nat.zero_le _, Nat.zero_le _⟩) hS hD hA (fun H locs hP hD hS => ?_)
      refine lv_istore (lv' := [(5, .int v_5), (0, .ref (ad 0)), (1, .int x1), (2, .int x2), (3, .int x3), (4, .int x4)]) hx hb dX7_alp_33 hl (by decide) rfl (fun ls hl => ?_)
      refine lv_iload hx hb dX7_alp_35 (lv_at hl 0 rfl) ?_
      refine lv_if_eq (tgt := 47) hx hb dX7_alp_37 (by decide) (fun c_6 => ?_) (fun c_6 => ?_)
      · have hR := (if_pos c_6).symm.trans hR
        refine lv_bipush (v := 60) hx hb dX7_alp_47 (by decide) ?_
        refine lv_iload_n hx hb dX7_alp_49 rfl (lv_at hl 2 rfl) ?_
        refine lv_imul hx hb dX7_alp_50 ?_
        refine lv_iload_n hx hb dX7_alp_51 rfl (lv_at hl 4 rfl) ?_
        refine lv_iadd hx hb dX7_alp_52 ?_
        refine lv_istore (lv' := [(6, .int ((60 * x1) + x3)), (5, .int v_5), (0, .ref (ad 0)), (1, .int x1), (2, .int x2), (3, .int x3), (4, .int x4)]) hx hb dX7_alp_53 hl (by decide) rfl (fun ls hl => ?_)
        refine lv_aload_n hx hb dX7_alp_55 rfl (lv_at hl 2 rfl) ?_
        refine lv_iload hx hb dX7_alp_56 (lv_at hl 0 rfl) ?_
        refine bw_put (w' := (MW cI ad (sI (sI st 0 0) 12 ((60 * x1) + x3)))) (ci := 6) (C := RX7) (T := TX7) (N := 28) hx hb hts i_X7 tyX7 tyX7_ok nmX7 hown hK hP hD hS 0 rfl rfl 12 (by decide) f_74 rfl rfl (Nat.le_of_ble_eq_true rfl) (MW_i12 cI ad _ _) dX7_alp_58 (fun H locs hP hD hS => ?_)
        refine lv_aload_n hx hb dX7_alp_61 rfl (lv_at hl 2 rfl) ?_
        refine lv_iload hx hb dX7_alp_62 (lv_at hl 0 rfl) ?_
        refine lv_iload hx hb dX7_alp_64 (lv_at hl 6 rfl) ?_
        refine lv_iadd hx hb dX7_alp_66 ?_
        obtain ⟨v_7, s_7, e_7, hR⟩ := b2_some hR
        refine bc_z (va_runV (As := [.int (((60 * x1) + x3) + x4)]) (rest := []) ⟨hx, hb, hml, hown, hts⟩ (c_X7_readAlp l D cI cO ad _ e_7) (cwV 1 hts gX7_alp_X7_readAlp rfl rfl rfl (by decide +kernel) ⟨Nat.le_of_ble_eq_true rfl, Nat.le_of_ble_eq_true rfl⟩) (preV hK hN hP hD (va_recv hK hP (ci := 6) (q0 := 0) rfl rfl)) rfl rfl hl.1 rfl (lv_room (Nat.le_of_ble_eq_true rfl)) dX7_alp_67 ⟨Nat.zero_le _, Nat.zero_le _⟩) hS hD hA (fun H locs hP hD hS n_7 => ?_)
        refine lv_if_ne (tgt := 84) hx hb dX7_alp_70 (by decide) (fun c_8 => ?_) (fun c_8 => ?_)
        · have hR := (if_neg c_8).symm.trans hR
          refine lv_aload_n hx hb dX7_alp_84 rfl (lv_at hl 2 rfl) ?_
          refine lv_aload_n hx hb dX7_alp_85 rfl (lv_at hl 2 rfl) ?_
          refine bw_get (ci := 6) (v := .int (gI s_7 13)) (C := RX7) (T := TX7) (N := 28) hx hb hts i_X7 hown hK hP 0 rfl rfl 13 (by decide) f_95 rfl dX7_alp_86 ?_
          refine bw_put (w' := (MW cI ad (sI s_7 6 (gI s_7 13)))) (ci := 6) (C := RX7) (T := TX7) (N := 28) hx hb hts i_X7 tyX7 tyX7_ok nmX7 hown hK hP hD hS 0 rfl rfl 6 (by decide) f_98 rfl rfl (Nat.le_of_ble_eq_true rfl) (MW_i6 cI ad _ _) dX7_alp_89 (fun H locs hP hD hS => ?_)
          refine lv_aload_n hx hb dX7_alp_92 rfl (lv_at hl 2 rfl) ?_
          refine lv_aload_n hx hb dX7_alp_93 rfl (lv_at hl 2 rfl) ?_
          refine bw_get (ci := 6) (v := .int (gI (sI s_7 6 (gI s_7 13)) 14)) (C := RX7) (T := TX7) (N := 28) hx hb hts i_X7 hown hK hP 0 rfl rfl 14 (by decide) f_101 rfl dX7_alp_94 ?_
          refine bw_put (w' := (MW cI ad (sI (sI s_7 6 (gI s_7 13)) 7 (gI (sI s_7 6 (gI s_7 13)) 14)))) (ci := 6) (C := RX7) (T := TX7) (N := 28) hx hb hts i_X7 tyX7 tyX7_ok nmX7 hown hK hP hD hS 0 rfl rfl 7 (by decide) f_104 rfl rfl (Nat.le_of_ble_eq_true rfl) (MW_i7 cI ad _ _) dX7_alp_97 (fun H locs hP hD hS => ?_)
          refine lv_aload_n hx hb dX7_alp_100 rfl (lv_at hl 2 rfl) ?_
          refine lv_aload_n hx hb dX7_alp_101 rfl (lv_at hl 2 rfl) ?_
          refine bw_get (ci := 6) (v := .int (gI (sI (sI s_7 6 (gI s_7 13)) 7 (gI (sI s_7 6 (gI s_7 13)) 14)) 15)) (C := RX7) (T := TX7) (N := 28) hx hb hts i_X7 hown hK hP 0 rfl rfl 15 (by decide) f_107 rfl dX7_alp_102 ?_
          refine bw_put (w' := (MW cI ad (sI (sI (sI s_7 6 (gI s_7 13)) 7 (gI (sI s_7 6 (gI s_7 13)) 14)) 5 (gI (sI (sI s_7 6 (gI s_7 13)) 7 (gI (sI s_7 6 (gI s_7 13)) 14)) 15)))) (ci := 6) (C := RX7) (T := TX7) (N := 28) hx hb hts i_X7 tyX7 tyX7_ok nmX7 hown hK hP hD hS 0 rfl rfl 5 (by decide) f_71 rfl rfl (Nat.le_of_ble_eq_true rfl) (MW_i5 cI ad _ _) dX7_alp_105 (fun H locs hP hD hS => ?_)
          refine lv_iconst (v := 0) hx hb dX7_alp_108 (by decide) ?_
          refine lv_istore (lv' := [(7, .int 0), (6, .int ((60 * x1) + x3)), (5, .int v_5), (0, .ref (ad 0)), (1, .int x1), (2, .int x2), (3, .int x3), (4, .int x4)]) hx hb dX7_alp_109 hl (by decide) rfl (fun ls hl => ?_)
          have lp_111 : ∀ (n_111 : Nat) (y7_111 : Int32) (z_111 : St) (H : Heap) (locs : List Loc) (ls : Array Slot), L_X7_alp_111 (fun y7_111 z_111 => some (gI (sI z_111 24 0) 5, sI z_111 24 0)) n_111 y7_111 z_111 = some (r, s2) → va_P D vwCl (MW cI ad z_111) H → va_D A (MW cI ad z_111) → va_S A s.heap H locs → lv_has ls 8 [(0, .ref (ad 0)), (7, .int y7_111)] → W p l e rm_X7_alp s m args below meth c H locs 0 0 Q (F0 m 111 ls []) := by
            intro n_111
            induction n_111 with
            | zero => intro y7_111 z_111 H locs ls hR; exact absurd (L_X7_alp_111_z.symm.trans hR) (fun h => nomatch h)
            | succ n_111 ih_111 =>
              intro y7_111 z_111 H locs ls hR hP hD hS hl
              have hR := L_X7_alp_111_s.symm.trans hR
              refine lv_iload hx hb dX7_alp_111 (lv_at hl 1 rfl) ?_
              refine lv_aload_n hx hb dX7_alp_113 rfl (lv_at hl 0 rfl) ?_
              refine bw_get (ci := 6) (v := .int (gI z_111 5)) (C := RX7) (T := TX7) (N := 28) hx hb hts i_X7 hown hK hP 0 rfl rfl 5 (by decide) f_71 rfl dX7_alp_114 ?_
              refine lv_icmp_ge (tgt := 182) hx hb dX7_alp_117 (by decide) (fun c_9 => ?_) (fun c_9 => ?_)
              · have hR := (if_pos c_9).symm.trans hR
                refine lv_aload_n hx hb dX7_alp_182 rfl (lv_at hl 0 rfl) ?_
                refine lv_iconst (v := 0) hx hb dX7_alp_183 (by decide) ?_
                refine bw_put (w' := (MW cI ad (sI z_111 24 0))) (ci := 6) (C := RX7) (T := TX7) (N := 28) hx hb hts i_X7 tyX7 tyX7_ok nmX7 hown hK hP hD hS 0 rfl rfl 24 (by decide) f_110 rfl rfl (Nat.le_of_ble_eq_true rfl) (MW_i24 cI ad _ _) dX7_alp_184 (fun H locs hP hD hS => ?_)
                refine lv_aload_n hx hb dX7_alp_187 rfl (lv_at hl 0 rfl) ?_
                refine bw_get (ci := 6) (v := .int (gI (sI z_111 24 0) 5)) (C := RX7) (T := TX7) (N := 28) hx hb hts i_X7 hown hK hP 0 rfl rfl 5 (by decide) f_71 rfl dX7_alp_188 ?_
                exact ret_ _ _ _ _ _ _ dX7_alp_191  (sp1 hR) (congrArg (fun z => (MW cI ad z)) (sp2 hR)) hP hD hS
              · have hR := (if_neg c_9).symm.trans hR
                refine lv_aload_n hx hb dX7_alp_120 rfl (lv_at hl 0 rfl) ?_
                refine bw_get (ci := 6) (v := .ref (ad 4)) (C := RX7) (T := TX7) (N := 28) hx hb hts i_X7 hown hK hP 0 rfl rfl 8 (by decide) f_19 rfl dX7_alp_121 ?_
                refine lv_iload hx hb dX7_alp_124 (lv_at hl 1 rfl) ?_
                refine lv_aload_n hx hb dX7_alp_126 rfl (lv_at hl 0 rfl) ?_
                refine bw_get (ci := 6) (v := .ref (ad 8)) (C := RX7) (T := TX7) (N := 28) hx hb hts i_X7 hown hK hP 0 rfl rfl 16 (by decide) f_31 rfl dX7_alp_127 ?_
                refine lv_iload hx hb dX7_alp_130 (lv_at hl 1 rfl) ?_
                obtain ⟨h_10, hR⟩ := ck_some hR
                refine bw_ald (v := gA z_111 16 y7_111) hx hb hK hP 8 rfl h_10 rfl dX7_alp_132 ?_
                obtain ⟨h_11, hR⟩ := ck_some hR
                refine bw_ast (w' := (MW cI ad (sA z_111 8 y7_111 (gA z_111 16 y7_111)))) hx hb hK hP hD hS 4 rfl h_11 (MW_a8 cI ad _ _) dX7_alp_133 (fun H locs hP hD hS => ?_)
                refine lv_aload_n hx hb dX7_alp_134 rfl (lv_at hl 0 rfl) ?_
                refine bw_get (ci := 6) (v := .ref (ad 5)) (C := RX7) (T := TX7) (N := 28) hx hb hts i_X7 hown hK hP 0 rfl rfl 9 (by decide) f_22 rfl dX7_alp_135 ?_
                refine lv_iload hx hb dX7_alp_138 (lv_at hl 1 rfl) ?_
                refine lv_aload_n hx hb dX7_alp_140 rfl (lv_at hl 0 rfl) ?_
                refine bw_get (ci := 6) (v := .ref (ad 9)) (C := RX7) (T := TX7) (N := 28) hx hb hts i_X7 hown hK hP 0 rfl rfl 17 (by decide) f_34 rfl dX7_alp_141 ?_
                refine lv_iload hx hb dX7_alp_144 (lv_at hl 1 rfl) ?_
                obtain ⟨h_12, hR⟩ := ck_some hR
                refine bw_ald (v := gA (sA z_111 8 y7_111 (gA z_111 16 y7_111)) 17 y7_111) hx hb hK hP 9 rfl h_12 rfl dX7_alp_146 ?_
                obtain ⟨h_13, hR⟩ := ck_some hR
                refine bw_ast (w' := (MW cI ad (sA (sA z_111 8 y7_111 (gA z_111 16 y7_111)) 9 y7_111 (gA (sA z_111 8 y7_111 (gA z_111 16 y7_111)) 17 y7_111)))) hx hb hK hP hD hS 5 rfl h_13 (MW_a9 cI ad _ _) dX7_alp_147 (fun H locs hP hD hS => ?_)
                refine lv_aload_n hx hb dX7_alp_148 rfl (lv_at hl 0 rfl) ?_
                refine bw_get (ci := 6) (v := .ref (ad 6)) (C := RX7) (T := TX7) (N := 28) hx hb hts i_X7 hown hK hP 0 rfl rfl 10 (by decide) f_25 rfl dX7_alp_149 ?_
                refine lv_iload hx hb dX7_alp_152 (lv_at hl 1 rfl) ?_
                refine lv_aload_n hx hb dX7_alp_154 rfl (lv_at hl 0 rfl) ?_
                refine bw_get (ci := 6) (v := .ref (ad 10)) (C := RX7) (T := TX7) (N := 28) hx hb hts i_X7 hown hK hP 0 rfl rfl 18 (by decide) f_37 rfl dX7_alp_155 ?_
                refine lv_iload hx hb dX7_alp_158 (lv_at hl 1 rfl) ?_
                obtain ⟨h_14, hR⟩ := ck_some hR
                refine bw_ald (v := gA (sA (sA z_111 8 y7_111 (gA z_111 16 y7_111)) 9 y7_111 (gA (sA z_111 8 y7_111 (gA z_111 16 y7_111)) 17 y7_111)) 18 y7_111) hx hb hK hP 10 rfl h_14 rfl dX7_alp_160 ?_
                obtain ⟨h_15, hR⟩ := ck_some hR
                refine bw_ast (w' := (MW cI ad (sA (sA (sA z_111 8 y7_111 (gA z_111 16 y7_111)) 9 y7_111 (gA (sA z_111 8 y7_111 (gA z_111 16 y7_111)) 17 y7_111)) 10 y7_111 (gA (sA (sA z_111 8 y7_111 (gA z_111 16 y7_111)) 9 y7_111 (gA (sA z_111 8 y7_111 (gA z_111 16 y7_111)) 17 y7_111)) 18 y7_111)))) hx hb hK hP hD hS 6 rfl h_15 (MW_a10 cI ad _ _) dX7_alp_161 (fun H locs hP hD hS => ?_)
                refine lv_aload_n hx hb dX7_alp_162 rfl (lv_at hl 0 rfl) ?_
                refine bw_get (ci := 6) (v := .ref (ad 7)) (C := RX7) (T := TX7) (N := 28) hx hb hts i_X7 hown hK hP 0 rfl rfl 11 (by decide) f_28 rfl dX7_alp_163 ?_
                refine lv_iload hx hb dX7_alp_166 (lv_at hl 1 rfl) ?_
                refine lv_aload_n hx hb dX7_alp_168 rfl (lv_at hl 0 rfl) ?_
                refine bw_get (ci := 6) (v := .ref (ad 11)) (C := RX7) (T := TX7) (N := 28) hx hb hts i_X7 hown hK hP 0 rfl rfl 19 (by decide) f_40 rfl dX7_alp_169 ?_
                refine lv_iload hx hb dX7_alp_172 (lv_at hl 1 rfl) ?_
                obtain ⟨h_16, hR⟩ := ck_some hR
                refine bw_ald (v := gA (sA (sA (sA z_111 8 y7_111 (gA z_111 16 y7_111)) 9 y7_111 (gA (sA z_111 8 y7_111 (gA z_111 16 y7_111)) 17 y7_111)) 10 y7_111 (gA (sA (sA z_111 8 y7_111 (gA z_111 16 y7_111)) 9 y7_111 (gA (sA z_111 8 y7_111 (gA z_111 16 y7_111)) 17 y7_111)) 18 y7_111)) 19 y7_111) hx hb hK hP 11 rfl h_16 rfl dX7_alp_174 ?_
                obtain ⟨h_17, hR⟩ := ck_some hR
                refine bw_ast (w' := (MW cI ad (sA (sA (sA (sA z_111 8 y7_111 (gA z_111 16 y7_111)) 9 y7_111 (gA (sA z_111 8 y7_111 (gA z_111 16 y7_111)) 17 y7_111)) 10 y7_111 (gA (sA (sA z_111 8 y7_111 (gA z_111 16 y7_111)) 9 y7_111 (gA (sA z_111 8 y7_111 (gA z_111 16 y7_111)) 17 y7_111)) 18 y7_111)) 11 y7_111 (gA (sA (sA (sA z_111 8 y7_111 (gA z_111 16 y7_111)) 9 y7_111 (gA (sA z_111 8 y7_111 (gA z_111 16 y7_111)) 17 y7_111)) 10 y7_111 (gA (sA (sA z_111 8 y7_111 (gA z_111 16 y7_111)) 9 y7_111 (gA (sA z_111 8 y7_111 (gA z_111 16 y7_111)) 17 y7_111)) 18 y7_111)) 19 y7_111)))) hx hb hK hP hD hS 7 rfl h_17 (MW_a11 cI ad _ _) dX7_alp_175 (fun H locs hP hD hS => ?_)
                refine lv_iinc (v := y7_111 + 1) (lv' := [(7, .int (y7_111 + 1)), (0, .ref (ad 0))]) hx hb dX7_alp_176 hl (k := 1) rfl rfl (by decide) rfl (fun ls hl => ?_)
                refine lv_goto (tgt := 111) hx hb dX7_alp_179 (by decide) ?_
                exact ih_111 _ _ _ _ _ hR hP hD hS (lv_sub hl [1, 0] rfl)
          exact lp_111 _ _ _ _ _ _ hR hP hD hS (lv_sub hl [3, 0] rfl)
        · have hR := (if_pos c_8).symm.trans hR
          refine lv_bipush (v := (-100)) hx hb dX7_alp_73 (by decide) ?_
          refine lv_aload_n hx hb dX7_alp_75 rfl (lv_at hl 2 rfl) ?_
          refine bw_get (ci := 6) (v := .int (gI s_7 12)) (C := RX7) (T := TX7) (N := 28) hx hb hts i_X7 hown hK hP 0 rfl rfl 12 (by decide) f_74 rfl dX7_alp_76 ?_
          refine lv_iload hx hb dX7_alp_79 (lv_at hl 0 rfl) ?_
          refine lv_isub hx hb dX7_alp_81 ?_
          refine lv_isub hx hb dX7_alp_82 ?_
          exact ret_ _ _ _ _ _ _ dX7_alp_83  (sp1 hR) (congrArg (fun z => (MW cI ad z)) (sp2 hR)) hP hD hS
      · have hR := (if_neg c_6).symm.trans hR
        refine lv_aload_n hx hb dX7_alp_40 rfl (lv_at hl 1 rfl) ?_
        refine lv_iload hx hb dX7_alp_41 (lv_at hl 0 rfl) ?_
        obtain ⟨v_18, s_18, e_18, hR⟩ := b2_some hR
        refine bc_i (va_runV (As := [.int v_5]) (rest := []) ⟨hx, hb, hml, hown, hts⟩ (c_X7_fails l D cI cO ad _ e_18) (cwV 1 hts gX7_alp_X7_fails rfl rfl rfl (by decide +kernel) ⟨Nat.le_of_ble_eq_true rfl, Nat.le_of_ble_eq_true rfl⟩) (preV hK hN hP hD (va_recv hK hP (ci := 6) (q0 := 0) rfl rfl)) rfl rfl hl.1 rfl (lv_room (Nat.le_of_ble_eq_true rfl)) dX7_alp_43 ⟨Nat.zero_le _, Nat.zero_le _⟩) hS hD hA (fun H locs hP hD hS => ?_)
        exact ret_ _ _ _ _ _ _ dX7_alp_46  (sp1 hR) (congrArg (fun z => (MW cI ad z)) (sp2 hR)) hP hD hS
    · have hR := (if_pos c_4).symm.trans hR
      refine lv_bipush (v := (-2)) hx hb dX7_alp_21 (by decide) ?_
      exact ret_ _ _ _ _ _ _ dX7_alp_23  (sp1 hR) (congrArg (fun z => (MW cI ad z)) (sp2 hR)) hP hD hS
  · have hR := (if_pos c_2).symm.trans hR
    refine lv_iconst (v := (-1)) hx hb dX7_alp_12 (by decide) ?_
    exact ret_ _ _ _ _ _ _ dX7_alp_13  (sp1 hR) (congrArg (fun z => (MW cI ad z)) (sp2 hR)) hP hD hS
abbrev rm_X7_ofBell : Room := { frames := 1, cells := 0, slots := 0, locals := 21 }
set_option maxHeartbeats 4000000 in
set_option maxRecDepth 100000 in
theorem c_X7_ofBell (l : Launch) (D : va_G) (cI cO : ClassId) (ad : Nat → Nat) (sz : Nat) {st : St} {x1 : Int32} {x2 : Int32} {r : Int32} (hR : F_X7_ofBell st x1 x2 = some r) : CI l yX7_ofBell wsX7_ofBell rm_X7_ofBell D cI cO [.ref (ad 0), .int x1, .int x2] (MW cI ad st) (MW cI ad st) sz r := by
  refine mk_i (cc := cX7_ofBell) (maxL := 3) (own := RX7) rfl (by decide) rfl (Nat.le_of_ble_eq_true rfl) ?_
  intro p e s m args below meth c A Q ls hx hb hml hown hts hK hN hA ret_ hP hD hS hl
  have i_X7 : ∀ w ∈ u_ws RX7 TX7 28, w ∈ wsX7_ofBell := (fun _ h => List.mem_cons_of_mem _ (List.mem_append_right _ h))
  have f_28 := hts (.fieldLink RX7 28 "BellNamesModel" "mood" "[I") (by decide +kernel)
  have f_25 := hts (.fieldLink RX7 25 "BellNamesModel" "spotOf" "[I") (by decide +kernel)
  have f_22 := hts (.fieldLink RX7 22 "BellNamesModel" "note" "[I") (by decide +kernel)
  have f_19 := hts (.fieldLink RX7 19 "BellNamesModel" "kind" "[I") (by decide +kernel)
  have hl : lv_has ls 3 [(0, .ref (ad 0)), (1, .int x1), (2, .int x2)] := hl
  unfold F_X7_ofBell at hR
  refine lv_aload_n hx hb dX7_ofBell_0 rfl (lv_at hl 0 rfl) ?_
  refine lv_iload_n hx hb dX7_ofBell_1 rfl (lv_at hl 1 rfl) ?_
  obtain ⟨v_1, e_1, hR⟩ := b1_some hR
  refine bc_z (va_runV (As := [.int x1]) (rest := []) ⟨hx, hb, hml, hown, hts⟩ (c_X7_isBell l D cI cO ad _ e_1) (cwV 1 hts gX7_ofBell_X7_isBell rfl rfl rfl (by decide +kernel) ⟨Nat.le_of_ble_eq_true rfl, Nat.le_of_ble_eq_true rfl⟩) (preV hK hN hP hD (va_recv hK hP (ci := 6) (q0 := 0) rfl rfl)) rfl rfl hl.1 rfl (lv_room (Nat.le_of_ble_eq_true rfl)) dX7_ofBell_2 ⟨Nat.zero_le _, Nat.zero_le _⟩) hS hD hA (fun H locs hP hD hS n_1 => ?_)
  refine lv_if_ne (tgt := 10) hx hb dX7_ofBell_5 (by decide) (fun c_2 => ?_) (fun c_2 => ?_)
  · have hR := (if_neg c_2).symm.trans hR
    refine lv_iload_n hx hb dX7_ofBell_10 rfl (lv_at hl 2 rfl) ?_
    refine lv_if_ne (tgt := 23) hx hb dX7_ofBell_11 (by decide) (fun c_3 => ?_) (fun c_3 => ?_)
    · have hR := (if_neg c_3).symm.trans hR
      refine lv_iload_n hx hb dX7_ofBell_23 rfl (lv_at hl 2 rfl) ?_
      refine lv_iconst (v := 1) hx hb dX7_ofBell_24 (by decide) ?_
      refine lv_icmp_ne (tgt := 37) hx hb dX7_ofBell_25 (by decide) (fun c_4 => ?_) (fun c_4 => ?_)
      · have hR := (if_neg c_4).symm.trans hR
        refine lv_iload_n hx hb dX7_ofBell_37 rfl (lv_at hl 2 rfl) ?_
        refine lv_iconst (v := 2) hx hb dX7_ofBell_38 (by decide) ?_
        refine lv_icmp_ne (tgt := 51) hx hb dX7_ofBell_39 (by decide) (fun c_5 => ?_) (fun c_5 => ?_)
        · have hR := (if_neg c_5).symm.trans hR
          refine lv_iload_n hx hb dX7_ofBell_51 rfl (lv_at hl 2 rfl) ?_
          refine lv_iconst (v := 3) hx hb dX7_ofBell_52 (by decide) ?_
          refine lv_icmp_ne (tgt := 65) hx hb dX7_ofBell_53 (by decide) (fun c_6 => ?_) (fun c_6 => ?_)
          · have hR := (if_neg c_6).symm.trans hR
            refine lv_bipush (v := (-2)) hx hb dX7_ofBell_65 (by decide) ?_
            exact ret_ _ _ _ _ _ _ dX7_ofBell_67  (Option.some.inj hR) rfl hP hD hS
          · have hR := (if_pos c_6).symm.trans hR
            refine lv_aload_n hx hb dX7_ofBell_56 rfl (lv_at hl 0 rfl) ?_
            refine bw_get (ci := 6) (v := .ref (ad 7)) (C := RX7) (T := TX7) (N := 28) hx hb hts i_X7 hown hK hP 0 rfl rfl 11 (by decide) f_28 rfl dX7_ofBell_57 ?_
            refine lv_iload_n hx hb dX7_ofBell_60 rfl (lv_at hl 1 rfl) ?_
            obtain ⟨h_7, hR⟩ := ck_some hR
            refine bw_ald (v := gA st 11 x1) hx hb hK hP 7 rfl h_7 rfl dX7_ofBell_61 ?_
            refine lv_goto (tgt := 67) hx hb dX7_ofBell_62 (by decide) ?_
            exact ret_ _ _ _ _ _ _ dX7_ofBell_67  (Option.some.inj hR) rfl hP hD hS
        · have hR := (if_pos c_5).symm.trans hR
          refine lv_aload_n hx hb dX7_ofBell_42 rfl (lv_at hl 0 rfl) ?_
          refine bw_get (ci := 6) (v := .ref (ad 6)) (C := RX7) (T := TX7) (N := 28) hx hb hts i_X7 hown hK hP 0 rfl rfl 10 (by decide) f_25 rfl dX7_ofBell_43 ?_
          refine lv_iload_n hx hb dX7_ofBell_46 rfl (lv_at hl 1 rfl) ?_
          obtain ⟨h_8, hR⟩ := ck_some hR
          refine bw_ald (v := gA st 10 x1) hx hb hK hP 6 rfl h_8 rfl dX7_ofBell_47 ?_
          refine lv_goto (tgt := 67) hx hb dX7_ofBell_48 (by decide) ?_
          exact ret_ _ _ _ _ _ _ dX7_ofBell_67  (Option.some.inj hR) rfl hP hD hS
      · have hR := (if_pos c_4).symm.trans hR
        refine lv_aload_n hx hb dX7_ofBell_28 rfl (lv_at hl 0 rfl) ?_
        refine bw_get (ci := 6) (v := .ref (ad 5)) (C := RX7) (T := TX7) (N := 28) hx hb hts i_X7 hown hK hP 0 rfl rfl 9 (by decide) f_22 rfl dX7_ofBell_29 ?_
        refine lv_iload_n hx hb dX7_ofBell_32 rfl (lv_at hl 1 rfl) ?_
        obtain ⟨h_9, hR⟩ := ck_some hR
        refine bw_ald (v := gA st 9 x1) hx hb hK hP 5 rfl h_9 rfl dX7_ofBell_33 ?_
        refine lv_goto (tgt := 67) hx hb dX7_ofBell_34 (by decide) ?_
        exact ret_ _ _ _ _ _ _ dX7_ofBell_67  (Option.some.inj hR) rfl hP hD hS
    · have hR := (if_pos c_3).symm.trans hR
      refine lv_aload_n hx hb dX7_ofBell_14 rfl (lv_at hl 0 rfl) ?_
      refine bw_get (ci := 6) (v := .ref (ad 4)) (C := RX7) (T := TX7) (N := 28) hx hb hts i_X7 hown hK hP 0 rfl rfl 8 (by decide) f_19 rfl dX7_ofBell_15 ?_
      refine lv_iload_n hx hb dX7_ofBell_18 rfl (lv_at hl 1 rfl) ?_
      obtain ⟨h_10, hR⟩ := ck_some hR
      refine bw_ald (v := gA st 8 x1) hx hb hK hP 4 rfl h_10 rfl dX7_ofBell_19 ?_
      refine lv_goto (tgt := 67) hx hb dX7_ofBell_20 (by decide) ?_
      exact ret_ _ _ _ _ _ _ dX7_ofBell_67  (Option.some.inj hR) rfl hP hD hS
  · have hR := (if_pos c_2).symm.trans hR
    refine lv_iconst (v := (-1)) hx hb dX7_ofBell_8 (by decide) ?_
    exact ret_ _ _ _ _ _ _ dX7_ofBell_9  (Option.some.inj hR) rfl hP hD hS
abbrev rm_X7_cheer : Room := { frames := 2, cells := 0, slots := 0, locals := 42 }
set_option maxHeartbeats 4000000 in
set_option maxRecDepth 100000 in
theorem c_X7_cheer (l : Launch) (D : va_G) (cI cO : ClassId) (ad : Nat → Nat) (sz : Nat) {st : St} {x1 : Int32} {x2 : Int32} {r : Int32} {s2 : St} (hR : F_X7_cheer st x1 x2 = some (r, s2)) : CI l yX7_cheer wsX7_cheer rm_X7_cheer D cI cO [.ref (ad 0), .int x1, .int x2] (MW cI ad st) (MW cI ad s2) sz r := by
  refine mk_i (cc := cX7_cheer) (maxL := 4) (own := RX7) rfl (by decide) rfl (Nat.le_of_ble_eq_true rfl) ?_
  intro p e s m args below meth c A Q ls hx hb hml hown hts hK hN hA ret_ hP hD hS hl
  have i_X7 : ∀ w ∈ u_ws RX7 TX7 28, w ∈ wsX7_cheer := (fun _ h => List.mem_cons_of_mem _ (List.mem_append_right _ h))
  have f_28 := hts (.fieldLink RX7 28 "BellNamesModel" "mood" "[I") (by decide +kernel)
  have hl : lv_has ls 4 [(0, .ref (ad 0)), (1, .int x1), (2, .int x2)] := hl
  unfold F_X7_cheer at hR
  refine lv_aload_n hx hb dX7_cheer_0 rfl (lv_at hl 0 rfl) ?_
  refine lv_iload_n hx hb dX7_cheer_1 rfl (lv_at hl 1 rfl) ?_
  obtain ⟨v_1, e_1, hR⟩ := b1_some hR
  refine bc_z (va_runV (As := [.int x1]) (rest := []) ⟨hx, hb, hml, hown, hts⟩ (c_X7_isBell l D cI cO ad _ e_1) (cwV 1 hts gX7_cheer_X7_isBell rfl rfl rfl (by decide +kernel) ⟨Nat.le_of_ble_eq_true rfl, Nat.le_of_ble_eq_true rfl⟩) (preV hK hN hP hD (va_recv hK hP (ci := 6) (q0 := 0) rfl rfl)) rfl rfl hl.1 rfl (lv_room (Nat.le_of_ble_eq_true rfl)) dX7_cheer_2 ⟨Nat.zero_le _, Nat.zero_le _⟩) hS hD hA (fun H locs hP hD hS n_1 => ?_)
  refine lv_if_ne (tgt := 10) hx hb dX7_cheer_5 (by decide) (fun c_2 => ?_) (fun c_2 => ?_)
  · have hR := (if_neg c_2).symm.trans hR
    refine lv_iload_n hx hb dX7_cheer_10 rfl (lv_at hl 2 rfl) ?_
    obtain ⟨v_3, e_3, hR⟩ := b1_some hR
    refine bc_z (va_runS (As := [.int x2]) (rest := []) ⟨hx, hb, hml, hown, hts⟩ (c_X7_isMood l D cI cO ad _ e_3) (va_cwS 1 hts gX7_cheer_X7_isMood rfl rfl rfl (by decide +kernel) ⟨Nat.le_of_ble_eq_true rfl, Nat.le_of_ble_eq_true rfl⟩) (preS hK hN hP hD) rfl rfl hl.1 rfl (lv_room (Nat.le_of_ble_eq_true rfl)) dX7_cheer_11 ⟨Nat.zero_le _, Nat.zero_le _⟩) hS hD hA (fun H locs hP hD hS n_3 => ?_)
    refine lv_if_ne (tgt := 20) hx hb dX7_cheer_14 (by decide) (fun c_4 => ?_) (fun c_4 => ?_)
    · have hR := (if_neg c_4).symm.trans hR
      refine lv_aload_n hx hb dX7_cheer_20 rfl (lv_at hl 0 rfl) ?_
      refine bw_get (ci := 6) (v := .ref (ad 7)) (C := RX7) (T := TX7) (N := 28) hx hb hts i_X7 hown hK hP 0 rfl rfl 11 (by decide) f_28 rfl dX7_cheer_21 ?_
      refine lv_iload_n hx hb dX7_cheer_24 rfl (lv_at hl 1 rfl) ?_
      obtain ⟨h_5, hR⟩ := ck_some hR
      refine bw_ald (v := gA st 11 x1) hx hb hK hP 7 rfl h_5 rfl dX7_cheer_25 ?_
      refine lv_istore_n (lv' := [(3, .int (gA st 11 x1)), (0, .ref (ad 0)), (1, .int x1), (2, .int x2)]) hx hb dX7_cheer_26 rfl hl (by decide) rfl (fun ls hl => ?_)
      refine lv_aload_n hx hb dX7_cheer_27 rfl (lv_at hl 1 rfl) ?_
      refine bw_get (ci := 6) (v := .ref (ad 7)) (C := RX7) (T := TX7) (N := 28) hx hb hts i_X7 hown hK hP 0 rfl rfl 11 (by decide) f_28 rfl dX7_cheer_28 ?_
      refine lv_iload_n hx hb dX7_cheer_31 rfl (lv_at hl 2 rfl) ?_
      refine lv_iload_n hx hb dX7_cheer_32 rfl (lv_at hl 3 rfl) ?_
      obtain ⟨h_6, hR⟩ := ck_some hR
      refine bw_ast (w' := (MW cI ad (sA st 11 x1 x2))) hx hb hK hP hD hS 7 rfl h_6 (MW_a11 cI ad _ _) dX7_cheer_33 (fun H locs hP hD hS => ?_)
      refine lv_iload_n hx hb dX7_cheer_34 rfl (lv_at hl 0 rfl) ?_
      exact ret_ _ _ _ _ _ _ dX7_cheer_35  (sp1 hR) (congrArg (fun z => (MW cI ad z)) (sp2 hR)) hP hD hS
    · have hR := (if_pos c_4).symm.trans hR
      refine lv_bipush (v := (-2)) hx hb dX7_cheer_17 (by decide) ?_
      exact ret_ _ _ _ _ _ _ dX7_cheer_19  (sp1 hR) (congrArg (fun z => (MW cI ad z)) (sp2 hR)) hP hD hS
  · have hR := (if_pos c_2).symm.trans hR
    refine lv_iconst (v := (-1)) hx hb dX7_cheer_8 (by decide) ?_
    exact ret_ _ _ _ _ _ _ dX7_cheer_9  (sp1 hR) (congrArg (fun z => (MW cI ad z)) (sp2 hR)) hP hD hS
abbrev rm_X7_recast : Room := { frames := 2, cells := 0, slots := 0, locals := 42 }
set_option maxHeartbeats 4000000 in
set_option maxRecDepth 100000 in
theorem c_X7_recast (l : Launch) (D : va_G) (cI cO : ClassId) (ad : Nat → Nat) (sz : Nat) {st : St} {x1 : Int32} {x2 : Int32} {r : Int32} {s2 : St} (hR : F_X7_recast st x1 x2 = some (r, s2)) : CI l yX7_recast wsX7_recast rm_X7_recast D cI cO [.ref (ad 0), .int x1, .int x2] (MW cI ad st) (MW cI ad s2) sz r := by
  refine mk_i (cc := cX7_recast) (maxL := 4) (own := RX7) rfl (by decide) rfl (Nat.le_of_ble_eq_true rfl) ?_
  intro p e s m args below meth c A Q ls hx hb hml hown hts hK hN hA ret_ hP hD hS hl
  have i_X7 : ∀ w ∈ u_ws RX7 TX7 28, w ∈ wsX7_recast := (fun _ h => List.mem_cons_of_mem _ (List.mem_append_right _ h))
  have f_22 := hts (.fieldLink RX7 22 "BellNamesModel" "note" "[I") (by decide +kernel)
  have hl : lv_has ls 4 [(0, .ref (ad 0)), (1, .int x1), (2, .int x2)] := hl
  unfold F_X7_recast at hR
  refine lv_aload_n hx hb dX7_recast_0 rfl (lv_at hl 0 rfl) ?_
  refine lv_iload_n hx hb dX7_recast_1 rfl (lv_at hl 1 rfl) ?_
  obtain ⟨v_1, e_1, hR⟩ := b1_some hR
  refine bc_z (va_runV (As := [.int x1]) (rest := []) ⟨hx, hb, hml, hown, hts⟩ (c_X7_isBell l D cI cO ad _ e_1) (cwV 1 hts gX7_recast_X7_isBell rfl rfl rfl (by decide +kernel) ⟨Nat.le_of_ble_eq_true rfl, Nat.le_of_ble_eq_true rfl⟩) (preV hK hN hP hD (va_recv hK hP (ci := 6) (q0 := 0) rfl rfl)) rfl rfl hl.1 rfl (lv_room (Nat.le_of_ble_eq_true rfl)) dX7_recast_2 ⟨Nat.zero_le _, Nat.zero_le _⟩) hS hD hA (fun H locs hP hD hS n_1 => ?_)
  refine lv_if_ne (tgt := 10) hx hb dX7_recast_5 (by decide) (fun c_2 => ?_) (fun c_2 => ?_)
  · have hR := (if_neg c_2).symm.trans hR
    refine lv_iload_n hx hb dX7_recast_10 rfl (lv_at hl 2 rfl) ?_
    obtain ⟨v_3, e_3, hR⟩ := b1_some hR
    refine bc_z (va_runS (As := [.int x2]) (rest := []) ⟨hx, hb, hml, hown, hts⟩ (c_X7_isDigit l D cI cO ad _ e_3) (va_cwS 1 hts gX7_recast_X7_isDigit rfl rfl rfl (by decide +kernel) ⟨Nat.le_of_ble_eq_true rfl, Nat.le_of_ble_eq_true rfl⟩) (preS hK hN hP hD) rfl rfl hl.1 rfl (lv_room (Nat.le_of_ble_eq_true rfl)) dX7_recast_11 ⟨Nat.zero_le _, Nat.zero_le _⟩) hS hD hA (fun H locs hP hD hS n_3 => ?_)
    refine lv_if_ne (tgt := 20) hx hb dX7_recast_14 (by decide) (fun c_4 => ?_) (fun c_4 => ?_)
    · have hR := (if_neg c_4).symm.trans hR
      refine lv_aload_n hx hb dX7_recast_20 rfl (lv_at hl 0 rfl) ?_
      refine bw_get (ci := 6) (v := .ref (ad 5)) (C := RX7) (T := TX7) (N := 28) hx hb hts i_X7 hown hK hP 0 rfl rfl 9 (by decide) f_22 rfl dX7_recast_21 ?_
      refine lv_iload_n hx hb dX7_recast_24 rfl (lv_at hl 1 rfl) ?_
      obtain ⟨h_5, hR⟩ := ck_some hR
      refine bw_ald (v := gA st 9 x1) hx hb hK hP 5 rfl h_5 rfl dX7_recast_25 ?_
      refine lv_istore_n (lv' := [(3, .int (gA st 9 x1)), (0, .ref (ad 0)), (1, .int x1), (2, .int x2)]) hx hb dX7_recast_26 rfl hl (by decide) rfl (fun ls hl => ?_)
      refine lv_aload_n hx hb dX7_recast_27 rfl (lv_at hl 1 rfl) ?_
      refine bw_get (ci := 6) (v := .ref (ad 5)) (C := RX7) (T := TX7) (N := 28) hx hb hts i_X7 hown hK hP 0 rfl rfl 9 (by decide) f_22 rfl dX7_recast_28 ?_
      refine lv_iload_n hx hb dX7_recast_31 rfl (lv_at hl 2 rfl) ?_
      refine lv_iload_n hx hb dX7_recast_32 rfl (lv_at hl 3 rfl) ?_
      obtain ⟨h_6, hR⟩ := ck_some hR
      refine bw_ast (w' := (MW cI ad (sA st 9 x1 x2))) hx hb hK hP hD hS 5 rfl h_6 (MW_a9 cI ad _ _) dX7_recast_33 (fun H locs hP hD hS => ?_)
      refine lv_iload_n hx hb dX7_recast_34 rfl (lv_at hl 0 rfl) ?_
      exact ret_ _ _ _ _ _ _ dX7_recast_35  (sp1 hR) (congrArg (fun z => (MW cI ad z)) (sp2 hR)) hP hD hS
    · have hR := (if_pos c_4).symm.trans hR
      refine lv_bipush (v := (-2)) hx hb dX7_recast_17 (by decide) ?_
      exact ret_ _ _ _ _ _ _ dX7_recast_19  (sp1 hR) (congrArg (fun z => (MW cI ad z)) (sp2 hR)) hP hD hS
  · have hR := (if_pos c_2).symm.trans hR
    refine lv_iconst (v := (-1)) hx hb dX7_recast_8 (by decide) ?_
    exact ret_ _ _ _ _ _ _ dX7_recast_9  (sp1 hR) (congrArg (fun z => (MW cI ad z)) (sp2 hR)) hP hD hS
abbrev rm_X7_go : Room := { frames := 2, cells := 0, slots := 0, locals := 42 }
set_option maxHeartbeats 4000000 in
set_option maxRecDepth 100000 in
theorem c_X7_go (l : Launch) (D : va_G) (cI cO : ClassId) (ad : Nat → Nat) (sz : Nat) {st : St} {x1 : Int32} {x2 : Int32} {r : Int32} {s2 : St} (hR : F_X7_go st x1 x2 = some (r, s2)) : CI l yX7_go wsX7_go rm_X7_go D cI cO [.ref (ad 0), .int x1, .int x2] (MW cI ad st) (MW cI ad s2) sz r := by
  refine mk_i (cc := cX7_go) (maxL := 4) (own := RX7) rfl (by decide) rfl (Nat.le_of_ble_eq_true rfl) ?_
  intro p e s m args below meth c A Q ls hx hb hml hown hts hK hN hA ret_ hP hD hS hl
  have i_X7 : ∀ w ∈ u_ws RX7 TX7 28, w ∈ wsX7_go := (fun _ h => List.mem_cons_of_mem _ (List.mem_append_right _ h))
  have f_25 := hts (.fieldLink RX7 25 "BellNamesModel" "spotOf" "[I") (by decide +kernel)
  have hl : lv_has ls 4 [(0, .ref (ad 0)), (1, .int x1), (2, .int x2)] := hl
  unfold F_X7_go at hR
  refine lv_aload_n hx hb dX7_go_0 rfl (lv_at hl 0 rfl) ?_
  refine lv_iload_n hx hb dX7_go_1 rfl (lv_at hl 1 rfl) ?_
  obtain ⟨v_1, e_1, hR⟩ := b1_some hR
  refine bc_z (va_runV (As := [.int x1]) (rest := []) ⟨hx, hb, hml, hown, hts⟩ (c_X7_isBell l D cI cO ad _ e_1) (cwV 1 hts gX7_go_X7_isBell rfl rfl rfl (by decide +kernel) ⟨Nat.le_of_ble_eq_true rfl, Nat.le_of_ble_eq_true rfl⟩) (preV hK hN hP hD (va_recv hK hP (ci := 6) (q0 := 0) rfl rfl)) rfl rfl hl.1 rfl (lv_room (Nat.le_of_ble_eq_true rfl)) dX7_go_2 ⟨Nat.zero_le _, Nat.zero_le _⟩) hS hD hA (fun H locs hP hD hS n_1 => ?_)
  refine lv_if_ne (tgt := 10) hx hb dX7_go_5 (by decide) (fun c_2 => ?_) (fun c_2 => ?_)
  · have hR := (if_neg c_2).symm.trans hR
    refine lv_iload_n hx hb dX7_go_10 rfl (lv_at hl 2 rfl) ?_
    obtain ⟨v_3, e_3, hR⟩ := b1_some hR
    refine bc_z (va_runS (As := [.int x2]) (rest := []) ⟨hx, hb, hml, hown, hts⟩ (c_X7_isDigit l D cI cO ad _ e_3) (va_cwS 1 hts gX7_go_X7_isDigit rfl rfl rfl (by decide +kernel) ⟨Nat.le_of_ble_eq_true rfl, Nat.le_of_ble_eq_true rfl⟩) (preS hK hN hP hD) rfl rfl hl.1 rfl (lv_room (Nat.le_of_ble_eq_true rfl)) dX7_go_11 ⟨Nat.zero_le _, Nat.zero_le _⟩) hS hD hA (fun H locs hP hD hS n_3 => ?_)
    refine lv_if_ne (tgt := 20) hx hb dX7_go_14 (by decide) (fun c_4 => ?_) (fun c_4 => ?_)
    · have hR := (if_neg c_4).symm.trans hR
      refine lv_aload_n hx hb dX7_go_20 rfl (lv_at hl 0 rfl) ?_
      refine bw_get (ci := 6) (v := .ref (ad 6)) (C := RX7) (T := TX7) (N := 28) hx hb hts i_X7 hown hK hP 0 rfl rfl 10 (by decide) f_25 rfl dX7_go_21 ?_
      refine lv_iload_n hx hb dX7_go_24 rfl (lv_at hl 1 rfl) ?_
      obtain ⟨h_5, hR⟩ := ck_some hR
      refine bw_ald (v := gA st 10 x1) hx hb hK hP 6 rfl h_5 rfl dX7_go_25 ?_
      refine lv_istore_n (lv' := [(3, .int (gA st 10 x1)), (0, .ref (ad 0)), (1, .int x1), (2, .int x2)]) hx hb dX7_go_26 rfl hl (by decide) rfl (fun ls hl => ?_)
      refine lv_aload_n hx hb dX7_go_27 rfl (lv_at hl 1 rfl) ?_
      refine bw_get (ci := 6) (v := .ref (ad 6)) (C := RX7) (T := TX7) (N := 28) hx hb hts i_X7 hown hK hP 0 rfl rfl 10 (by decide) f_25 rfl dX7_go_28 ?_
      refine lv_iload_n hx hb dX7_go_31 rfl (lv_at hl 2 rfl) ?_
      refine lv_iload_n hx hb dX7_go_32 rfl (lv_at hl 3 rfl) ?_
      obtain ⟨h_6, hR⟩ := ck_some hR
      refine bw_ast (w' := (MW cI ad (sA st 10 x1 x2))) hx hb hK hP hD hS 6 rfl h_6 (MW_a10 cI ad _ _) dX7_go_33 (fun H locs hP hD hS => ?_)
      refine lv_iload_n hx hb dX7_go_34 rfl (lv_at hl 0 rfl) ?_
      exact ret_ _ _ _ _ _ _ dX7_go_35  (sp1 hR) (congrArg (fun z => (MW cI ad z)) (sp2 hR)) hP hD hS
    · have hR := (if_pos c_4).symm.trans hR
      refine lv_bipush (v := (-2)) hx hb dX7_go_17 (by decide) ?_
      exact ret_ _ _ _ _ _ _ dX7_go_19  (sp1 hR) (congrArg (fun z => (MW cI ad z)) (sp2 hR)) hP hD hS
  · have hR := (if_pos c_2).symm.trans hR
    refine lv_iconst (v := (-1)) hx hb dX7_go_8 (by decide) ?_
    exact ret_ _ _ _ _ _ _ dX7_go_9  (sp1 hR) (congrArg (fun z => (MW cI ad z)) (sp2 hR)) hP hD hS
abbrev rm_X7_blow : Room := { frames := 1, cells := 0, slots := 0, locals := 22 }
set_option maxHeartbeats 4000000 in
set_option maxRecDepth 100000 in
theorem c_X7_blow (l : Launch) (D : va_G) (cI cO : ClassId) (ad : Nat → Nat) (sz : Nat) {st : St} {x1 : Int32} {r : Int32} {s2 : St} (hR : F_X7_blow st x1 = some (r, s2)) : CI l yX7_blow wsX7_blow rm_X7_blow D cI cO [.ref (ad 0), .int x1] (MW cI ad st) (MW cI ad s2) sz r := by
  refine mk_i (cc := cX7_blow) (maxL := 3) (own := RX7) rfl (by decide) rfl (Nat.le_of_ble_eq_true rfl) ?_
  intro p e s m args below meth c A Q ls hx hb hml hown hts hK hN hA ret_ hP hD hS hl
  have i_X7 : ∀ w ∈ u_ws RX7 TX7 28, w ∈ wsX7_blow := (fun _ h => List.mem_cons_of_mem _ (List.mem_append_right _ h))
  have f_71 := hts (.fieldLink RX7 71 "BellNamesModel" "bells" "I") (by decide +kernel)
  have f_98 := hts (.fieldLink RX7 98 "BellNamesModel" "wind" "I") (by decide +kernel)
  have hl : lv_has ls 3 [(0, .ref (ad 0)), (1, .int x1)] := hl
  unfold F_X7_blow at hR
  refine lv_iload_n hx hb dX7_blow_0 rfl (lv_at hl 1 rfl) ?_
  refine lv_iconst (v := 0) hx hb dX7_blow_1 (by decide) ?_
  refine lv_iconst (v := 2) hx hb dX7_blow_2 (by decide) ?_
  obtain ⟨v_1, e_1, hR⟩ := b1_some hR
  refine bc_z (va_runS (As := [.int x1, .int 0, .int 2]) (rest := []) ⟨hx, hb, hml, hown, hts⟩ (c_X7_within l D cI cO ad _ e_1) (va_cwS 3 hts gX7_blow_X7_within rfl rfl rfl (by decide +kernel) ⟨Nat.le_of_ble_eq_true rfl, Nat.le_of_ble_eq_true rfl⟩) (preS hK hN hP hD) rfl rfl hl.1 rfl (lv_room (Nat.le_of_ble_eq_true rfl)) dX7_blow_3 ⟨Nat.zero_le _, Nat.zero_le _⟩) hS hD hA (fun H locs hP hD hS n_1 => ?_)
  refine lv_if_ne (tgt := 12) hx hb dX7_blow_6 (by decide) (fun c_2 => ?_) (fun c_2 => ?_)
  · have hR := (if_neg c_2).symm.trans hR
    refine lv_aload_n hx hb dX7_blow_12 rfl (lv_at hl 0 rfl) ?_
    refine bw_get (ci := 6) (v := .int (gI st 5)) (C := RX7) (T := TX7) (N := 28) hx hb hts i_X7 hown hK hP 0 rfl rfl 5 (by decide) f_71 rfl dX7_blow_13 ?_
    refine lv_if_ne (tgt := 22) hx hb dX7_blow_16 (by decide) (fun c_3 => ?_) (fun c_3 => ?_)
    · have hR := (if_neg c_3).symm.trans hR
      refine lv_aload_n hx hb dX7_blow_22 rfl (lv_at hl 0 rfl) ?_
      refine bw_get (ci := 6) (v := .int (gI st 6)) (C := RX7) (T := TX7) (N := 28) hx hb hts i_X7 hown hK hP 0 rfl rfl 6 (by decide) f_98 rfl dX7_blow_23 ?_
      refine lv_istore_n (lv' := [(2, .int (gI st 6)), (0, .ref (ad 0)), (1, .int x1)]) hx hb dX7_blow_26 rfl hl (by decide) rfl (fun ls hl => ?_)
      refine lv_aload_n hx hb dX7_blow_27 rfl (lv_at hl 1 rfl) ?_
      refine lv_iload_n hx hb dX7_blow_28 rfl (lv_at hl 2 rfl) ?_
      refine bw_put (w' := (MW cI ad (sI st 6 x1))) (ci := 6) (C := RX7) (T := TX7) (N := 28) hx hb hts i_X7 tyX7 tyX7_ok nmX7 hown hK hP hD hS 0 rfl rfl 6 (by decide) f_98 rfl rfl (Nat.le_of_ble_eq_true rfl) (MW_i6 cI ad _ _) dX7_blow_29 (fun H locs hP hD hS => ?_)
      refine lv_iload_n hx hb dX7_blow_32 rfl (lv_at hl 0 rfl) ?_
      exact ret_ _ _ _ _ _ _ dX7_blow_33  (sp1 hR) (congrArg (fun z => (MW cI ad z)) (sp2 hR)) hP hD hS
    · have hR := (if_pos c_3).symm.trans hR
      refine lv_bipush (v := (-3)) hx hb dX7_blow_19 (by decide) ?_
      exact ret_ _ _ _ _ _ _ dX7_blow_21  (sp1 hR) (congrArg (fun z => (MW cI ad z)) (sp2 hR)) hP hD hS
  · have hR := (if_pos c_2).symm.trans hR
    refine lv_bipush (v := (-2)) hx hb dX7_blow_9 (by decide) ?_
    exact ret_ _ _ _ _ _ _ dX7_blow_11  (sp1 hR) (congrArg (fun z => (MW cI ad z)) (sp2 hR)) hP hD hS
abbrev rm_X7_soundIn : Room := { frames := 0, cells := 0, slots := 0, locals := 0 }
set_option maxHeartbeats 4000000 in
set_option maxRecDepth 100000 in
theorem c_X7_soundIn (l : Launch) (D : va_G) (cI cO : ClassId) (ad : Nat → Nat) (sz : Nat) {st : St} {x1 : Int32} {x2 : Int32} {r : Int32} (hR : F_X7_soundIn st x1 x2 = some r) : CI l yX7_soundIn wsX7_soundIn rm_X7_soundIn D cI cO [.ref (ad 0), .int x1, .int x2] (MW cI ad st) (MW cI ad st) sz r := by
  refine mk_i (cc := cX7_soundIn) (maxL := 4) (own := RX7) rfl (by decide) rfl (Nat.le_of_ble_eq_true rfl) ?_
  intro p e s m args below meth c A Q ls hx hb hml hown hts hK hN hA ret_ hP hD hS hl
  have i_X7 : ∀ w ∈ u_ws RX7 TX7 28, w ∈ wsX7_soundIn := (fun _ h => List.mem_cons_of_mem _ (List.mem_append_right _ h))
  have f_22 := hts (.fieldLink RX7 22 "BellNamesModel" "note" "[I") (by decide +kernel)
  have f_98 := hts (.fieldLink RX7 98 "BellNamesModel" "wind" "I") (by decide +kernel)
  have f_19 := hts (.fieldLink RX7 19 "BellNamesModel" "kind" "[I") (by decide +kernel)
  have hl : lv_has ls 4 [(0, .ref (ad 0)), (1, .int x1), (2, .int x2)] := hl
  unfold F_X7_soundIn at hR
  refine lv_aload_n hx hb dX7_soundIn_0 rfl (lv_at hl 0 rfl) ?_
  refine bw_get (ci := 6) (v := .ref (ad 5)) (C := RX7) (T := TX7) (N := 28) hx hb hts i_X7 hown hK hP 0 rfl rfl 9 (by decide) f_22 rfl dX7_soundIn_1 ?_
  refine lv_iload_n hx hb dX7_soundIn_4 rfl (lv_at hl 1 rfl) ?_
  obtain ⟨h_1, hR⟩ := ck_some hR
  refine bw_ald (v := gA st 9 x1) hx hb hK hP 5 rfl h_1 rfl dX7_soundIn_5 ?_
  refine lv_iload_n hx hb dX7_soundIn_6 rfl (lv_at hl 2 rfl) ?_
  refine lv_iadd hx hb dX7_soundIn_7 ?_
  refine lv_aload_n hx hb dX7_soundIn_8 rfl (lv_at hl 0 rfl) ?_
  refine bw_get (ci := 6) (v := .int (gI st 6)) (C := RX7) (T := TX7) (N := 28) hx hb hts i_X7 hown hK hP 0 rfl rfl 6 (by decide) f_98 rfl dX7_soundIn_9 ?_
  refine lv_iadd hx hb dX7_soundIn_12 ?_
  refine lv_istore_n (lv' := [(3, .int (((gA st 9 x1) + x2) + (gI st 6))), (0, .ref (ad 0)), (1, .int x1), (2, .int x2)]) hx hb dX7_soundIn_13 rfl hl (by decide) rfl (fun ls hl => ?_)
  refine lv_aload_n hx hb dX7_soundIn_14 rfl (lv_at hl 1 rfl) ?_
  refine bw_get (ci := 6) (v := .ref (ad 4)) (C := RX7) (T := TX7) (N := 28) hx hb hts i_X7 hown hK hP 0 rfl rfl 8 (by decide) f_19 rfl dX7_soundIn_15 ?_
  refine lv_iload_n hx hb dX7_soundIn_18 rfl (lv_at hl 2 rfl) ?_
  obtain ⟨h_2, hR⟩ := ck_some hR
  refine bw_ald (v := gA st 8 x1) hx hb hK hP 4 rfl h_2 rfl dX7_soundIn_19 ?_
  refine lv_iconst (v := 1) hx hb dX7_soundIn_20 (by decide) ?_
  refine lv_icmp_ne (tgt := 36) hx hb dX7_soundIn_21 (by decide) (fun c_3 => ?_) (fun c_3 => ?_)
  · have hR := (if_neg c_3).symm.trans hR
    refine lv_aload_n hx hb dX7_soundIn_36 rfl (lv_at hl 1 rfl) ?_
    refine bw_get (ci := 6) (v := .ref (ad 4)) (C := RX7) (T := TX7) (N := 28) hx hb hts i_X7 hown hK hP 0 rfl rfl 8 (by decide) f_19 rfl dX7_soundIn_37 ?_
    refine lv_iload_n hx hb dX7_soundIn_40 rfl (lv_at hl 2 rfl) ?_
    obtain ⟨h_4, hR⟩ := ck_some hR
    refine bw_ald (v := gA st 8 x1) hx hb hK hP 4 rfl h_4 rfl dX7_soundIn_41 ?_
    refine lv_if_ne (tgt := 49) hx hb dX7_soundIn_42 (by decide) (fun c_5 => ?_) (fun c_5 => ?_)
    · have hR := (if_neg c_5).symm.trans hR
      refine lv_iload_n hx hb dX7_soundIn_49 rfl (lv_at hl 0 rfl) ?_
      refine lv_iconst (v := 2) hx hb dX7_soundIn_50 (by decide) ?_
      refine lv_idiv hx hb dX7_soundIn_51 (by decide) ?_
      exact ret_ _ _ _ _ _ _ dX7_soundIn_52  (Option.some.inj hR) rfl hP hD hS
    · have hR := (if_pos c_5).symm.trans hR
      refine lv_iload_n hx hb dX7_soundIn_45 rfl (lv_at hl 0 rfl) ?_
      refine lv_goto (tgt := 52) hx hb dX7_soundIn_46 (by decide) ?_
      exact ret_ _ _ _ _ _ _ dX7_soundIn_52  (Option.some.inj hR) rfl hP hD hS
  · have hR := (if_pos c_3).symm.trans hR
    refine lv_iload_n hx hb dX7_soundIn_24 rfl (lv_at hl 0 rfl) ?_
    refine lv_if_le (tgt := 34) hx hb dX7_soundIn_25 (by decide) (fun c_7 => ?_) (fun c_7 => ?_)
    · have hR := (if_pos c_7).symm.trans hR
      refine lv_iconst (v := 0) hx hb dX7_soundIn_34 (by decide) ?_
      exact ret_ _ _ _ _ _ _ dX7_soundIn_35  (Option.some.inj hR) rfl hP hD hS
    · have hR := (if_neg c_7).symm.trans hR
      refine lv_iload_n hx hb dX7_soundIn_28 rfl (lv_at hl 0 rfl) ?_
      refine lv_iconst (v := 1) hx hb dX7_soundIn_29 (by decide) ?_
      refine lv_isub hx hb dX7_soundIn_30 ?_
      refine lv_goto (tgt := 35) hx hb dX7_soundIn_31 (by decide) ?_
      exact ret_ _ _ _ _ _ _ dX7_soundIn_35  (Option.some.inj hR) rfl hP hD hS
abbrev rm_X7_sound : Room := { frames := 2, cells := 0, slots := 0, locals := 42 }
set_option maxHeartbeats 4000000 in
set_option maxRecDepth 100000 in
theorem c_X7_sound (l : Launch) (D : va_G) (cI cO : ClassId) (ad : Nat → Nat) (sz : Nat) {st : St} {x1 : Int32} {x2 : Int32} {r : Int32} (hR : F_X7_sound st x1 x2 = some r) : CI l yX7_sound wsX7_sound rm_X7_sound D cI cO [.ref (ad 0), .int x1, .int x2] (MW cI ad st) (MW cI ad st) sz r := by
  refine mk_i (cc := cX7_sound) (maxL := 3) (own := RX7) rfl (by decide) rfl (Nat.le_of_ble_eq_true rfl) ?_
  intro p e s m args below meth c A Q ls hx hb hml hown hts hK hN hA ret_ hP hD hS hl
  have i_X7 : ∀ w ∈ u_ws RX7 TX7 28, w ∈ wsX7_sound := (fun _ h => List.mem_cons_of_mem _ (List.mem_append_right _ h))
  have f_28 := hts (.fieldLink RX7 28 "BellNamesModel" "mood" "[I") (by decide +kernel)
  have hl : lv_has ls 3 [(0, .ref (ad 0)), (1, .int x1), (2, .int x2)] := hl
  unfold F_X7_sound at hR
  refine lv_aload_n hx hb dX7_sound_0 rfl (lv_at hl 0 rfl) ?_
  refine lv_iload_n hx hb dX7_sound_1 rfl (lv_at hl 1 rfl) ?_
  obtain ⟨v_1, e_1, hR⟩ := b1_some hR
  refine bc_z (va_runV (As := [.int x1]) (rest := []) ⟨hx, hb, hml, hown, hts⟩ (c_X7_isBell l D cI cO ad _ e_1) (cwV 1 hts gX7_sound_X7_isBell rfl rfl rfl (by decide +kernel) ⟨Nat.le_of_ble_eq_true rfl, Nat.le_of_ble_eq_true rfl⟩) (preV hK hN hP hD (va_recv hK hP (ci := 6) (q0 := 0) rfl rfl)) rfl rfl hl.1 rfl (lv_room (Nat.le_of_ble_eq_true rfl)) dX7_sound_2 ⟨Nat.zero_le _, Nat.zero_le _⟩) hS hD hA (fun H locs hP hD hS n_1 => ?_)
  refine lv_if_ne (tgt := 10) hx hb dX7_sound_5 (by decide) (fun c_2 => ?_) (fun c_2 => ?_)
  · have hR := (if_neg c_2).symm.trans hR
    refine lv_iload_n hx hb dX7_sound_10 rfl (lv_at hl 2 rfl) ?_
    refine lv_bipush (v := (-9)) hx hb dX7_sound_11 (by decide) ?_
    refine lv_icmp_ne (tgt := 28) hx hb dX7_sound_13 (by decide) (fun c_3 => ?_) (fun c_3 => ?_)
    · have hR := (if_neg c_3).symm.trans hR
      refine lv_iload_n hx hb dX7_sound_28 rfl (lv_at hl 2 rfl) ?_
      obtain ⟨v_4, e_4, hR⟩ := b1_some hR
      refine bc_z (va_runS (As := [.int x2]) (rest := []) ⟨hx, hb, hml, hown, hts⟩ (c_X7_isMood l D cI cO ad _ e_4) (va_cwS 1 hts gX7_sound_X7_isMood rfl rfl rfl (by decide +kernel) ⟨Nat.le_of_ble_eq_true rfl, Nat.le_of_ble_eq_true rfl⟩) (preS hK hN hP hD) rfl rfl hl.1 rfl (lv_room (Nat.le_of_ble_eq_true rfl)) dX7_sound_29 ⟨Nat.zero_le _, Nat.zero_le _⟩) hS hD hA (fun H locs hP hD hS n_4 => ?_)
      refine lv_if_eq (tgt := 44) hx hb dX7_sound_32 (by decide) (fun c_5 => ?_) (fun c_5 => ?_)
      · have hR := (if_pos c_5).symm.trans hR
        refine lv_bipush (v := (-2)) hx hb dX7_sound_44 (by decide) ?_
        exact ret_ _ _ _ _ _ _ dX7_sound_46  (Option.some.inj hR) rfl hP hD hS
      · have hR := (if_neg c_5).symm.trans hR
        refine lv_aload_n hx hb dX7_sound_35 rfl (lv_at hl 0 rfl) ?_
        refine lv_iload_n hx hb dX7_sound_36 rfl (lv_at hl 1 rfl) ?_
        refine lv_iload_n hx hb dX7_sound_37 rfl (lv_at hl 2 rfl) ?_
        obtain ⟨v_6, e_6, hR⟩ := b1_some hR
        refine bc_i (va_runV (As := [.int x1, .int x2]) (rest := []) ⟨hx, hb, hml, hown, hts⟩ (c_X7_soundIn l D cI cO ad _ e_6) (cwV 2 hts gX7_sound_X7_soundIn rfl rfl rfl (by decide +kernel) ⟨Nat.le_of_ble_eq_true rfl, Nat.le_of_ble_eq_true rfl⟩) (preV hK hN hP hD (va_recv hK hP (ci := 6) (q0 := 0) rfl rfl)) rfl rfl hl.1 rfl (lv_room (Nat.le_of_ble_eq_true rfl)) dX7_sound_38 ⟨Nat.zero_le _, Nat.zero_le _⟩) hS hD hA (fun H locs hP hD hS => ?_)
        refine lv_goto (tgt := 46) hx hb dX7_sound_41 (by decide) ?_
        exact ret_ _ _ _ _ _ _ dX7_sound_46  (Option.some.inj hR) rfl hP hD hS
    · have hR := (if_pos c_3).symm.trans hR
      refine lv_aload_n hx hb dX7_sound_16 rfl (lv_at hl 0 rfl) ?_
      refine lv_iload_n hx hb dX7_sound_17 rfl (lv_at hl 1 rfl) ?_
      refine lv_aload_n hx hb dX7_sound_18 rfl (lv_at hl 0 rfl) ?_
      refine bw_get (ci := 6) (v := .ref (ad 7)) (C := RX7) (T := TX7) (N := 28) hx hb hts i_X7 hown hK hP 0 rfl rfl 11 (by decide) f_28 rfl dX7_sound_19 ?_
      refine lv_iload_n hx hb dX7_sound_22 rfl (lv_at hl 1 rfl) ?_
      obtain ⟨h_7, hR⟩ := ck_some hR
      refine bw_ald (v := gA st 11 x1) hx hb hK hP 7 rfl h_7 rfl dX7_sound_23 ?_
      obtain ⟨v_8, e_8, hR⟩ := b1_some hR
      refine bc_i (va_runV (As := [.int x1, .int (gA st 11 x1)]) (rest := []) ⟨hx, hb, hml, hown, hts⟩ (c_X7_soundIn l D cI cO ad _ e_8) (cwV 2 hts gX7_sound_X7_soundIn rfl rfl rfl (by decide +kernel) ⟨Nat.le_of_ble_eq_true rfl, Nat.le_of_ble_eq_true rfl⟩) (preV hK hN hP hD (va_recv hK hP (ci := 6) (q0 := 0) rfl rfl)) rfl rfl hl.1 rfl (lv_room (Nat.le_of_ble_eq_true rfl)) dX7_sound_24 ⟨Nat.zero_le _, Nat.zero_le _⟩) hS hD hA (fun H locs hP hD hS => ?_)
      exact ret_ _ _ _ _ _ _ dX7_sound_27  (Option.some.inj hR) rfl hP hD hS
  · have hR := (if_pos c_2).symm.trans hR
    refine lv_iconst (v := (-1)) hx hb dX7_sound_8 (by decide) ?_
    exact ret_ _ _ _ _ _ _ dX7_sound_9  (Option.some.inj hR) rfl hP hD hS
abbrev rm_X7_apart : Room := { frames := 0, cells := 0, slots := 0, locals := 0 }
set_option maxHeartbeats 4000000 in
set_option maxRecDepth 100000 in
theorem c_X7_apart (l : Launch) (D : va_G) (cI cO : ClassId) (ad : Nat → Nat) (sz : Nat) {st : St} {x0 : Int32} {x1 : Int32} {r : Int32} (hR : F_X7_apart st x0 x1 = some r) : CI l yX7_apart wsX7_apart rm_X7_apart D cI cO [.int x0, .int x1] (MW cI ad st) (MW cI ad st) sz r := by
  refine mk_i (cc := cX7_apart) (maxL := 2) (own := RX7) rfl (by decide) rfl (Nat.le_of_ble_eq_true rfl) ?_
  intro p e s m args below meth c A Q ls hx hb hml hown hts hK hN hA ret_ hP hD hS hl
  have hl : lv_has ls 2 [(0, .int x0), (1, .int x1)] := hl
  unfold F_X7_apart at hR
  refine lv_iload_n hx hb dX7_apart_0 rfl (lv_at hl 0 rfl) ?_
  refine lv_iload_n hx hb dX7_apart_1 rfl (lv_at hl 1 rfl) ?_
  refine lv_icmp_ge (tgt := 11) hx hb dX7_apart_2 (by decide) (fun c_1 => ?_) (fun c_1 => ?_)
  · have hR := (if_pos c_1).symm.trans hR
    refine lv_iload_n hx hb dX7_apart_11 rfl (lv_at hl 0 rfl) ?_
    refine lv_iload_n hx hb dX7_apart_12 rfl (lv_at hl 1 rfl) ?_
    refine lv_isub hx hb dX7_apart_13 ?_
    exact ret_ _ _ _ _ _ _ dX7_apart_14  (Option.some.inj hR) rfl hP hD hS
  · have hR := (if_neg c_1).symm.trans hR
    refine lv_iload_n hx hb dX7_apart_5 rfl (lv_at hl 1 rfl) ?_
    refine lv_iload_n hx hb dX7_apart_6 rfl (lv_at hl 0 rfl) ?_
    refine lv_isub hx hb dX7_apart_7 ?_
    refine lv_goto (tgt := 14) hx hb dX7_apart_8 (by decide) ?_
    exact ret_ _ _ _ _ _ _ dX7_apart_14  (Option.some.inj hR) rfl hP hD hS
abbrev rm_X7_isHeard : Room := { frames := 1, cells := 0, slots := 0, locals := 21 }
set_option maxHeartbeats 4000000 in
set_option maxRecDepth 100000 in
theorem c_X7_isHeard (l : Launch) (D : va_G) (cI cO : ClassId) (ad : Nat → Nat) (sz : Nat) {st : St} {x1 : Int32} {x2 : Int32} {r : Int32} (hR : F_X7_isHeard st x1 x2 = some r) : CZ l yX7_isHeard wsX7_isHeard rm_X7_isHeard D cI cO [.ref (ad 0), .int x1, .int x2] (MW cI ad st) (MW cI ad st) sz r := by
  refine mk_z (cc := cX7_isHeard) (maxL := 3) (own := RX7) rfl (by decide) rfl (Nat.le_of_ble_eq_true rfl) ?_
  intro p e s m args below meth c A Q ls hx hb hml hown hts hK hN hA ret_ hP hD hS hl
  have i_X7 : ∀ w ∈ u_ws RX7 TX7 28, w ∈ wsX7_isHeard := (fun _ h => List.mem_cons_of_mem _ (List.mem_append_right _ h))
  have f_25 := hts (.fieldLink RX7 25 "BellNamesModel" "spotOf" "[I") (by decide +kernel)
  have f_104 := hts (.fieldLink RX7 104 "BellNamesModel" "reach" "I") (by decide +kernel)
  have hl : lv_has ls 3 [(0, .ref (ad 0)), (1, .int x1), (2, .int x2)] := hl
  unfold F_X7_isHeard at hR
  refine lv_aload_n hx hb dX7_isHeard_0 rfl (lv_at hl 0 rfl) ?_
  refine bw_get (ci := 6) (v := .ref (ad 6)) (C := RX7) (T := TX7) (N := 28) hx hb hts i_X7 hown hK hP 0 rfl rfl 10 (by decide) f_25 rfl dX7_isHeard_1 ?_
  refine lv_iload_n hx hb dX7_isHeard_4 rfl (lv_at hl 1 rfl) ?_
  obtain ⟨h_1, hR⟩ := ck_some hR
  refine bw_ald (v := gA st 10 x1) hx hb hK hP 6 rfl h_1 rfl dX7_isHeard_5 ?_
  refine lv_iload_n hx hb dX7_isHeard_6 rfl (lv_at hl 2 rfl) ?_
  obtain ⟨v_2, e_2, hR⟩ := b1_some hR
  refine bc_i (va_runS (As := [.int (gA st 10 x1), .int x2]) (rest := []) ⟨hx, hb, hml, hown, hts⟩ (c_X7_apart l D cI cO ad _ e_2) (va_cwS 2 hts gX7_isHeard_X7_apart rfl rfl rfl (by decide +kernel) ⟨Nat.le_of_ble_eq_true rfl, Nat.le_of_ble_eq_true rfl⟩) (preS hK hN hP hD) rfl rfl hl.1 rfl (lv_room (Nat.le_of_ble_eq_true rfl)) dX7_isHeard_7 ⟨Nat.zero_le _, Nat.zero_le _⟩) hS hD hA (fun H locs hP hD hS => ?_)
  refine lv_aload_n hx hb dX7_isHeard_10 rfl (lv_at hl 0 rfl) ?_
  refine bw_get (ci := 6) (v := .int (gI st 7)) (C := RX7) (T := TX7) (N := 28) hx hb hts i_X7 hown hK hP 0 rfl rfl 7 (by decide) f_104 rfl dX7_isHeard_11 ?_
  refine lv_icmp_gt (tgt := 21) hx hb dX7_isHeard_14 (by decide) (fun c_3 => ?_) (fun c_3 => ?_)
  · have hR := (if_pos c_3).symm.trans hR
    refine lv_iconst (v := 0) hx hb dX7_isHeard_21 (by decide) ?_
    exact ret_ _ _ _ _ _ _ dX7_isHeard_22 (by decide) (Option.some.inj hR) rfl hP hD hS
  · have hR := (if_neg c_3).symm.trans hR
    refine lv_iconst (v := 1) hx hb dX7_isHeard_17 (by decide) ?_
    refine lv_goto (tgt := 22) hx hb dX7_isHeard_18 (by decide) ?_
    exact ret_ _ _ _ _ _ _ dX7_isHeard_22 (by decide) (Option.some.inj hR) rfl hP hD hS
abbrev rm_X7_heardAt : Room := { frames := 2, cells := 0, slots := 0, locals := 43 }
set_option maxHeartbeats 4000000 in
set_option maxRecDepth 100000 in
theorem c_X7_heardAt (l : Launch) (D : va_G) (cI cO : ClassId) (ad : Nat → Nat) (sz : Nat) {st : St} {x1 : Int32} {r : Int32} (hR : F_X7_heardAt st x1 = some r) : CI l yX7_heardAt wsX7_heardAt rm_X7_heardAt D cI cO [.ref (ad 0), .int x1] (MW cI ad st) (MW cI ad st) sz r := by
  refine mk_i (cc := cX7_heardAt) (maxL := 4) (own := RX7) rfl (by decide) rfl (Nat.le_of_ble_eq_true rfl) ?_
  intro p e s m args below meth c A Q ls hx hb hml hown hts hK hN hA ret_ hP hD hS hl
  have i_X7 : ∀ w ∈ u_ws RX7 TX7 28, w ∈ wsX7_heardAt := (fun _ h => List.mem_cons_of_mem _ (List.mem_append_right _ h))
  have f_71 := hts (.fieldLink RX7 71 "BellNamesModel" "bells" "I") (by decide +kernel)
  have hl : lv_has ls 4 [(0, .ref (ad 0)), (1, .int x1)] := hl
  unfold F_X7_heardAt at hR
  refine lv_iconst (v := 0) hx hb dX7_heardAt_0 (by decide) ?_
  refine lv_istore_n (lv' := [(2, .int 0), (0, .ref (ad 0)), (1, .int x1)]) hx hb dX7_heardAt_1 rfl hl (by decide) rfl (fun ls hl => ?_)
  refine lv_iconst (v := 0) hx hb dX7_heardAt_2 (by decide) ?_
  refine lv_istore_n (lv' := [(3, .int 0), (2, .int 0), (0, .ref (ad 0)), (1, .int x1)]) hx hb dX7_heardAt_3 rfl hl (by decide) rfl (fun ls hl => ?_)
  have lp_4 : ∀ (n_4 : Nat) (y2_4 : Int32) (y3_4 : Int32) (H : Heap) (locs : List Loc) (ls : Array Slot), L_X7_heardAt_4 st x1 (fun y2_4 y3_4 => some y2_4) n_4 y2_4 y3_4 = some r → va_P D vwCl (MW cI ad st) H → va_D A (MW cI ad st) → va_S A s.heap H locs → lv_has ls 4 [(0, .ref (ad 0)), (1, .int x1), (2, .int y2_4), (3, .int y3_4)] → W p l e rm_X7_heardAt s m args below meth c H locs 0 0 Q (F0 m 4 ls []) := by
    intro n_4
    induction n_4 with
    | zero => intro y2_4 y3_4 H locs ls hR; exact absurd (L_X7_heardAt_4_z.symm.trans hR) (fun h => nomatch h)
    | succ n_4 ih_4 =>
      intro y2_4 y3_4 H locs ls hR hP hD hS hl
      have hR := L_X7_heardAt_4_s.symm.trans hR
      refine lv_iload_n hx hb dX7_heardAt_4 rfl (lv_at hl 3 rfl) ?_
      refine lv_aload_n hx hb dX7_heardAt_5 rfl (lv_at hl 0 rfl) ?_
      refine bw_get (ci := 6) (v := .int (gI st 5)) (C := RX7) (T := TX7) (N := 28) hx hb hts i_X7 hown hK hP 0 rfl rfl 5 (by decide) f_71 rfl dX7_heardAt_6 ?_
      refine lv_icmp_ge (tgt := 37) hx hb dX7_heardAt_9 (by decide) (fun c_1 => ?_) (fun c_1 => ?_)
      · have hR := (if_pos c_1).symm.trans hR
        refine lv_iload_n hx hb dX7_heardAt_37 rfl (lv_at hl 2 rfl) ?_
        exact ret_ _ _ _ _ _ _ dX7_heardAt_38  (Option.some.inj hR) rfl hP hD hS
      · have hR := (if_neg c_1).symm.trans hR
        refine lv_iload_n hx hb dX7_heardAt_12 rfl (lv_at hl 2 rfl) ?_
        refine lv_aload_n hx hb dX7_heardAt_13 rfl (lv_at hl 0 rfl) ?_
        refine lv_iload_n hx hb dX7_heardAt_14 rfl (lv_at hl 3 rfl) ?_
        refine lv_iload_n hx hb dX7_heardAt_15 rfl (lv_at hl 1 rfl) ?_
        obtain ⟨v_2, e_2, hR⟩ := b1_some hR
        refine bc_z (va_runV (As := [.int y3_4, .int x1]) (rest := [.int y2_4]) ⟨hx, hb, hml, hown, hts⟩ (c_X7_isHeard l D cI cO ad _ e_2) (cwV 2 hts gX7_heardAt_X7_isHeard rfl rfl rfl (by decide +kernel) ⟨Nat.le_of_ble_eq_true rfl, Nat.le_of_ble_eq_true rfl⟩) (preV hK hN hP hD (va_recv hK hP (ci := 6) (q0 := 0) rfl rfl)) rfl rfl hl.1 rfl (lv_room (Nat.le_of_ble_eq_true rfl)) dX7_heardAt_16 ⟨Nat.zero_le _, Nat.zero_le _⟩) hS hD hA (fun H locs hP hD hS n_2 => ?_)
        refine lv_if_eq (tgt := 28) hx hb dX7_heardAt_19 (by decide) (fun c_3 => ?_) (fun c_3 => ?_)
        · have hR := (if_pos c_3).symm.trans hR
          refine lv_iconst (v := 0) hx hb dX7_heardAt_28 (by decide) ?_
          refine lv_ior hx hb dX7_heardAt_29 ?_
          refine lv_istore_n (lv' := [(2, .int (y2_4 ||| 0)), (0, .ref (ad 0)), (1, .int x1), (3, .int y3_4)]) hx hb dX7_heardAt_30 rfl hl (by decide) rfl (fun ls hl => ?_)
          refine lv_iinc (v := y3_4 + 1) (lv' := [(3, .int (y3_4 + 1)), (2, .int (y2_4 ||| 0)), (0, .ref (ad 0)), (1, .int x1)]) hx hb dX7_heardAt_31 hl (k := 3) rfl rfl (by decide) rfl (fun ls hl => ?_)
          refine lv_goto (tgt := 4) hx hb dX7_heardAt_34 (by decide) ?_
          exact ih_4 _ _ _ _ _ hR hP hD hS (lv_sub hl [2, 3, 1, 0] rfl)
        · have hR := (if_neg c_3).symm.trans hR
          refine lv_iconst (v := 1) hx hb dX7_heardAt_22 (by decide) ?_
          refine lv_iload_n hx hb dX7_heardAt_23 rfl (lv_at hl 3 rfl) ?_
          refine lv_ishl hx hb dX7_heardAt_24 ?_
          refine W.eq (g2 := F0 m 25 ls (.int (jshl 1 y3_4) :: [.int y2_4])) rfl ?_
          refine lv_goto (tgt := 29) hx hb dX7_heardAt_25 (by decide) ?_
          refine lv_ior hx hb dX7_heardAt_29 ?_
          refine lv_istore_n (lv' := [(2, .int (y2_4 ||| (jshl 1 y3_4))), (0, .ref (ad 0)), (1, .int x1), (3, .int y3_4)]) hx hb dX7_heardAt_30 rfl hl (by decide) rfl (fun ls hl => ?_)
          refine lv_iinc (v := y3_4 + 1) (lv' := [(3, .int (y3_4 + 1)), (2, .int (y2_4 ||| (jshl 1 y3_4))), (0, .ref (ad 0)), (1, .int x1)]) hx hb dX7_heardAt_31 hl (k := 3) rfl rfl (by decide) rfl (fun ls hl => ?_)
          refine lv_goto (tgt := 4) hx hb dX7_heardAt_34 (by decide) ?_
          exact ih_4 _ _ _ _ _ hR hP hD hS (lv_sub hl [2, 3, 1, 0] rfl)
  exact lp_4 _ _ _ _ _ _ hR hP hD hS (lv_sub hl [2, 3, 1, 0] rfl)
abbrev rm_X7_heard : Room := { frames := 3, cells := 0, slots := 0, locals := 66 }
set_option maxHeartbeats 4000000 in
set_option maxRecDepth 100000 in
theorem c_X7_heard (l : Launch) (D : va_G) (cI cO : ClassId) (ad : Nat → Nat) (sz : Nat) {st : St} {x1 : Int32} {r : Int32} (hR : F_X7_heard st x1 = some r) : CI l yX7_heard wsX7_heard rm_X7_heard D cI cO [.ref (ad 0), .int x1] (MW cI ad st) (MW cI ad st) sz r := by
  refine mk_i (cc := cX7_heard) (maxL := 2) (own := RX7) rfl (by decide) rfl (Nat.le_of_ble_eq_true rfl) ?_
  intro p e s m args below meth c A Q ls hx hb hml hown hts hK hN hA ret_ hP hD hS hl
  have i_X7 : ∀ w ∈ u_ws RX7 TX7 28, w ∈ wsX7_heard := (fun _ h => List.mem_cons_of_mem _ (List.mem_append_right _ h))
  have f_71 := hts (.fieldLink RX7 71 "BellNamesModel" "bells" "I") (by decide +kernel)
  have hl : lv_has ls 2 [(0, .ref (ad 0)), (1, .int x1)] := hl
  unfold F_X7_heard at hR
  refine lv_iload_n hx hb dX7_heard_0 rfl (lv_at hl 1 rfl) ?_
  obtain ⟨v_1, e_1, hR⟩ := b1_some hR
  refine bc_z (va_runS (As := [.int x1]) (rest := []) ⟨hx, hb, hml, hown, hts⟩ (c_X7_isDigit l D cI cO ad _ e_1) (va_cwS 1 hts gX7_heard_X7_isDigit rfl rfl rfl (by decide +kernel) ⟨Nat.le_of_ble_eq_true rfl, Nat.le_of_ble_eq_true rfl⟩) (preS hK hN hP hD) rfl rfl hl.1 rfl (lv_room (Nat.le_of_ble_eq_true rfl)) dX7_heard_1 ⟨Nat.zero_le _, Nat.zero_le _⟩) hS hD hA (fun H locs hP hD hS n_1 => ?_)
  refine lv_if_ne (tgt := 10) hx hb dX7_heard_4 (by decide) (fun c_2 => ?_) (fun c_2 => ?_)
  · have hR := (if_neg c_2).symm.trans hR
    refine lv_aload_n hx hb dX7_heard_10 rfl (lv_at hl 0 rfl) ?_
    refine bw_get (ci := 6) (v := .int (gI st 5)) (C := RX7) (T := TX7) (N := 28) hx hb hts i_X7 hown hK hP 0 rfl rfl 5 (by decide) f_71 rfl dX7_heard_11 ?_
    refine lv_if_ne (tgt := 22) hx hb dX7_heard_14 (by decide) (fun c_3 => ?_) (fun c_3 => ?_)
    · have hR := (if_neg c_3).symm.trans hR
      refine lv_aload_n hx hb dX7_heard_22 rfl (lv_at hl 0 rfl) ?_
      refine lv_iload_n hx hb dX7_heard_23 rfl (lv_at hl 1 rfl) ?_
      obtain ⟨v_4, e_4, hR⟩ := b1_some hR
      refine bc_i (va_runV (As := [.int x1]) (rest := []) ⟨hx, hb, hml, hown, hts⟩ (c_X7_heardAt l D cI cO ad _ e_4) (cwV 1 hts gX7_heard_X7_heardAt rfl rfl rfl (by decide +kernel) ⟨Nat.le_of_ble_eq_true rfl, Nat.le_of_ble_eq_true rfl⟩) (preV hK hN hP hD (va_recv hK hP (ci := 6) (q0 := 0) rfl rfl)) rfl rfl hl.1 rfl (lv_room (Nat.le_of_ble_eq_true rfl)) dX7_heard_24 ⟨Nat.zero_le _, Nat.zero_le _⟩) hS hD hA (fun H locs hP hD hS => ?_)
      exact ret_ _ _ _ _ _ _ dX7_heard_27  (Option.some.inj hR) rfl hP hD hS
    · have hR := (if_pos c_3).symm.trans hR
      refine lv_bipush (v := (-3)) hx hb dX7_heard_17 (by decide) ?_
      refine lv_goto (tgt := 27) hx hb dX7_heard_19 (by decide) ?_
      exact ret_ _ _ _ _ _ _ dX7_heard_27  (Option.some.inj hR) rfl hP hD hS
  · have hR := (if_pos c_2).symm.trans hR
    refine lv_bipush (v := (-2)) hx hb dX7_heard_7 (by decide) ?_
    exact ret_ _ _ _ _ _ _ dX7_heard_9  (Option.some.inj hR) rfl hP hD hS
abbrev rm_X7_taken : Room := { frames := 2, cells := 0, slots := 0, locals := 43 }
set_option maxHeartbeats 4000000 in
set_option maxRecDepth 100000 in
theorem c_X7_taken (l : Launch) (D : va_G) (cI cO : ClassId) (ad : Nat → Nat) (sz : Nat) {st : St} {x1 : Int32} {x2 : Int32} {r : Int32} (hR : F_X7_taken st x1 x2 = some r) : CI l yX7_taken wsX7_taken rm_X7_taken D cI cO [.ref (ad 0), .int x1, .int x2] (MW cI ad st) (MW cI ad st) sz r := by
  refine mk_i (cc := cX7_taken) (maxL := 7) (own := RX7) rfl (by decide) rfl (Nat.le_of_ble_eq_true rfl) ?_
  intro p e s m args below meth c A Q ls hx hb hml hown hts hK hN hA ret_ hP hD hS hl
  have i_X7 : ∀ w ∈ u_ws RX7 TX7 28, w ∈ wsX7_taken := (fun _ h => List.mem_cons_of_mem _ (List.mem_append_right _ h))
  have f_71 := hts (.fieldLink RX7 71 "BellNamesModel" "bells" "I") (by decide +kernel)
  have f_28 := hts (.fieldLink RX7 28 "BellNamesModel" "mood" "[I") (by decide +kernel)
  have hl : lv_has ls 7 [(0, .ref (ad 0)), (1, .int x1), (2, .int x2)] := hl
  unfold F_X7_taken at hR
  refine lv_iload_n hx hb dX7_taken_0 rfl (lv_at hl 1 rfl) ?_
  obtain ⟨v_1, e_1, hR⟩ := b1_some hR
  refine bc_z (va_runS (As := [.int x1]) (rest := []) ⟨hx, hb, hml, hown, hts⟩ (c_X7_isDigit l D cI cO ad _ e_1) (va_cwS 1 hts gX7_taken_X7_isDigit rfl rfl rfl (by decide +kernel) ⟨Nat.le_of_ble_eq_true rfl, Nat.le_of_ble_eq_true rfl⟩) (preS hK hN hP hD) rfl rfl hl.1 rfl (lv_room (Nat.le_of_ble_eq_true rfl)) dX7_taken_1 ⟨Nat.zero_le _, Nat.zero_le _⟩) hS hD hA (fun H locs hP hD hS n_1 => ?_)
  refine lv_if_eq (tgt := 17) hx hb dX7_taken_4 (by decide) (fun c_2 => ?_) (fun c_2 => ?_)
  · have hR := (if_pos c_2).symm.trans hR
    refine lv_bipush (v := (-2)) hx hb dX7_taken_17 (by decide) ?_
    exact ret_ _ _ _ _ _ _ dX7_taken_19  (Option.some.inj hR) rfl hP hD hS
  · have hR := (if_neg c_2).symm.trans hR
    refine lv_iload_n hx hb dX7_taken_7 rfl (lv_at hl 2 rfl) ?_
    refine lv_iconst (v := 0) hx hb dX7_taken_8 (by decide) ?_
    refine lv_bipush (v := 19) hx hb dX7_taken_9 (by decide) ?_
    obtain ⟨v_3, e_3, hR⟩ := b1_some hR
    refine bc_z (va_runS (As := [.int x2, .int 0, .int 19]) (rest := []) ⟨hx, hb, hml, hown, hts⟩ (c_X7_within l D cI cO ad _ e_3) (va_cwS 3 hts gX7_taken_X7_within rfl rfl rfl (by decide +kernel) ⟨Nat.le_of_ble_eq_true rfl, Nat.le_of_ble_eq_true rfl⟩) (preS hK hN hP hD) rfl rfl hl.1 rfl (lv_room (Nat.le_of_ble_eq_true rfl)) dX7_taken_11 ⟨Nat.zero_le _, Nat.zero_le _⟩) hS hD hA (fun H locs hP hD hS n_3 => ?_)
    refine lv_if_ne (tgt := 20) hx hb dX7_taken_14 (by decide) (fun c_4 => ?_) (fun c_4 => ?_)
    · have hR := (if_neg c_4).symm.trans hR
      refine lv_aload_n hx hb dX7_taken_20 rfl (lv_at hl 0 rfl) ?_
      refine bw_get (ci := 6) (v := .int (gI st 5)) (C := RX7) (T := TX7) (N := 28) hx hb hts i_X7 hown hK hP 0 rfl rfl 5 (by decide) f_71 rfl dX7_taken_21 ?_
      refine lv_if_ne (tgt := 30) hx hb dX7_taken_24 (by decide) (fun c_5 => ?_) (fun c_5 => ?_)
      · have hR := (if_neg c_5).symm.trans hR
        refine lv_bipush (v := (-9)) hx hb dX7_taken_30 (by decide) ?_
        refine lv_istore_n (lv' := [(3, .int (-9)), (0, .ref (ad 0)), (1, .int x1), (2, .int x2)]) hx hb dX7_taken_32 rfl hl (by decide) rfl (fun ls hl => ?_)
        refine lv_iconst (v := 0) hx hb dX7_taken_33 (by decide) ?_
        refine lv_istore (lv' := [(4, .int 0), (3, .int (-9)), (0, .ref (ad 0)), (1, .int x1), (2, .int x2)]) hx hb dX7_taken_34 hl (by decide) rfl (fun ls hl => ?_)
        refine lv_iconst (v := 0) hx hb dX7_taken_36 (by decide) ?_
        refine lv_istore (lv' := [(5, .int 0), (4, .int 0), (3, .int (-9)), (0, .ref (ad 0)), (1, .int x1), (2, .int x2)]) hx hb dX7_taken_37 hl (by decide) rfl (fun ls hl => ?_)
        have lp_39 : ∀ (n_39 : Nat) (y3_39 : Int32) (y4_39 : Int32) (y5_39 : Int32) (H : Heap) (locs : List Loc) (ls : Array Slot), L_X7_taken_39 st x1 x2 (fun y3_39 y4_39 y5_39 => some y3_39) n_39 y3_39 y4_39 y5_39 = some r → va_P D vwCl (MW cI ad st) H → va_D A (MW cI ad st) → va_S A s.heap H locs → lv_has ls 7 [(0, .ref (ad 0)), (1, .int x1), (2, .int x2), (3, .int y3_39), (4, .int y4_39), (5, .int y5_39)] → W p l e rm_X7_taken s m args below meth c H locs 0 0 Q (F0 m 39 ls []) := by
          intro n_39
          induction n_39 with
          | zero => intro y3_39 y4_39 y5_39 H locs ls hR; exact absurd (L_X7_taken_39_z.symm.trans hR) (fun h => nomatch h)
          | succ n_39 ih_39 =>
            intro y3_39 y4_39 y5_39 H locs ls hR hP hD hS hl
            have hR := L_X7_taken_39_s.symm.trans hR
            refine lv_iload hx hb dX7_taken_39 (lv_at hl 5 rfl) ?_
            refine lv_aload_n hx hb dX7_taken_41 rfl (lv_at hl 0 rfl) ?_
            refine bw_get (ci := 6) (v := .int (gI st 5)) (C := RX7) (T := TX7) (N := 28) hx hb hts i_X7 hown hK hP 0 rfl rfl 5 (by decide) f_71 rfl dX7_taken_42 ?_
            refine lv_icmp_ge (tgt := 103) hx hb dX7_taken_45 (by decide) (fun c_6 => ?_) (fun c_6 => ?_)
            · have hR := (if_pos c_6).symm.trans hR
              refine lv_iload_n hx hb dX7_taken_103 rfl (lv_at hl 3 rfl) ?_
              exact ret_ _ _ _ _ _ _ dX7_taken_104  (Option.some.inj hR) rfl hP hD hS
            · have hR := (if_neg c_6).symm.trans hR
              refine lv_aload_n hx hb dX7_taken_48 rfl (lv_at hl 0 rfl) ?_
              refine lv_iload hx hb dX7_taken_49 (lv_at hl 5 rfl) ?_
              refine lv_aload_n hx hb dX7_taken_51 rfl (lv_at hl 0 rfl) ?_
              refine bw_get (ci := 6) (v := .ref (ad 7)) (C := RX7) (T := TX7) (N := 28) hx hb hts i_X7 hown hK hP 0 rfl rfl 11 (by decide) f_28 rfl dX7_taken_52 ?_
              refine lv_iload hx hb dX7_taken_55 (lv_at hl 5 rfl) ?_
              obtain ⟨h_7, hR⟩ := ck_some hR
              refine bw_ald (v := gA st 11 y5_39) hx hb hK hP 7 rfl h_7 rfl dX7_taken_57 ?_
              obtain ⟨v_8, e_8, hR⟩ := b1_some hR
              refine bc_i (va_runV (As := [.int y5_39, .int (gA st 11 y5_39)]) (rest := []) ⟨hx, hb, hml, hown, hts⟩ (c_X7_soundIn l D cI cO ad _ e_8) (cwV 2 hts gX7_taken_X7_soundIn rfl rfl rfl (by decide +kernel) ⟨Nat.le_of_ble_eq_true rfl, Nat.le_of_ble_eq_true rfl⟩) (preV hK hN hP hD (va_recv hK hP (ci := 6) (q0 := 0) rfl rfl)) rfl rfl hl.1 rfl (lv_room (Nat.le_of_ble_eq_true rfl)) dX7_taken_58 ⟨Nat.zero_le _, Nat.zero_le _⟩) hS hD hA (fun H locs hP hD hS => ?_)
              refine lv_iload_n hx hb dX7_taken_61 rfl (lv_at hl 2 rfl) ?_
              obtain ⟨v_9, e_9, hR⟩ := b1_some hR
              refine bc_i (va_runS (As := [.int v_8, .int x2]) (rest := []) ⟨hx, hb, hml, hown, hts⟩ (c_X7_apart l D cI cO ad _ e_9) (va_cwS 2 hts gX7_taken_X7_apart rfl rfl rfl (by decide +kernel) ⟨Nat.le_of_ble_eq_true rfl, Nat.le_of_ble_eq_true rfl⟩) (preS hK hN hP hD) rfl rfl hl.1 rfl (lv_room (Nat.le_of_ble_eq_true rfl)) dX7_taken_62 ⟨Nat.zero_le _, Nat.zero_le _⟩) hS hD hA (fun H locs hP hD hS => ?_)
              refine lv_istore (lv' := [(6, .int v_9), (0, .ref (ad 0)), (1, .int x1), (2, .int x2), (3, .int y3_39), (4, .int y4_39), (5, .int y5_39)]) hx hb dX7_taken_65 hl (by decide) rfl (fun ls hl => ?_)
              refine lv_aload_n hx hb dX7_taken_67 rfl (lv_at hl 1 rfl) ?_
              refine lv_iload hx hb dX7_taken_68 (lv_at hl 6 rfl) ?_
              refine lv_iload_n hx hb dX7_taken_70 rfl (lv_at hl 2 rfl) ?_
              obtain ⟨v_10, e_10, hR⟩ := b1_some hR
              refine bc_z (va_runV (As := [.int y5_39, .int x1]) (rest := []) ⟨hx, hb, hml, hown, hts⟩ (c_X7_isHeard l D cI cO ad _ e_10) (cwV 2 hts gX7_taken_X7_isHeard rfl rfl rfl (by decide +kernel) ⟨Nat.le_of_ble_eq_true rfl, Nat.le_of_ble_eq_true rfl⟩) (preV hK hN hP hD (va_recv hK hP (ci := 6) (q0 := 0) rfl rfl)) rfl rfl hl.1 rfl (lv_room (Nat.le_of_ble_eq_true rfl)) dX7_taken_71 ⟨Nat.zero_le _, Nat.zero_le _⟩) hS hD hA (fun H locs hP hD hS n_10 => ?_)
              refine lv_if_eq (tgt := 97) hx hb dX7_taken_74 (by decide) (fun c_11 => ?_) (fun c_11 => ?_)
              · have hR := (if_pos c_11).symm.trans hR
                refine lv_iinc (v := y5_39 + 1) (lv' := [(5, .int (y5_39 + 1)), (6, .int v_9), (0, .ref (ad 0)), (1, .int x1), (2, .int x2), (3, .int y3_39), (4, .int y4_39)]) hx hb dX7_taken_97 hl (k := 6) rfl rfl (by decide) rfl (fun ls hl => ?_)
                refine lv_goto (tgt := 39) hx hb dX7_taken_100 (by decide) ?_
                exact ih_39 _ _ _ _ _ _ hR hP hD hS (lv_sub hl [2, 3, 4, 5, 6, 0] rfl)
              · have hR := (if_neg c_11).symm.trans hR
                refine lv_iload_n hx hb dX7_taken_77 rfl (lv_at hl 4 rfl) ?_
                refine lv_bipush (v := (-9)) hx hb dX7_taken_78 (by decide) ?_
                refine lv_icmp_eq (tgt := 90) hx hb dX7_taken_80 (by decide) (fun c_12 => ?_) (fun c_12 => ?_)
                · have hR := (if_pos c_12).symm.trans hR
                  refine lv_iload hx hb dX7_taken_90 (lv_at hl 6 rfl) ?_
                  refine lv_istore_n (lv' := [(3, .int y5_39), (6, .int v_9), (0, .ref (ad 0)), (1, .int x1), (2, .int x2), (4, .int y4_39), (5, .int y5_39)]) hx hb dX7_taken_92 rfl hl (by decide) rfl (fun ls hl => ?_)
                  refine lv_iload hx hb dX7_taken_93 (lv_at hl 1 rfl) ?_
                  refine lv_istore (lv' := [(4, .int v_9), (3, .int y5_39), (6, .int v_9), (0, .ref (ad 0)), (1, .int x1), (2, .int x2), (5, .int y5_39)]) hx hb dX7_taken_95 hl (by decide) rfl (fun ls hl => ?_)
                  refine lv_iinc (v := y5_39 + 1) (lv' := [(5, .int (y5_39 + 1)), (4, .int v_9), (3, .int y5_39), (6, .int v_9), (0, .ref (ad 0)), (1, .int x1), (2, .int x2)]) hx hb dX7_taken_97 hl (k := 6) rfl rfl (by decide) rfl (fun ls hl => ?_)
                  refine lv_goto (tgt := 39) hx hb dX7_taken_100 (by decide) ?_
                  exact ih_39 _ _ _ _ _ _ hR hP hD hS (lv_sub hl [4, 5, 6, 2, 1, 0] rfl)
                · have hR := (if_neg c_12).symm.trans hR
                  refine lv_iload hx hb dX7_taken_83 (lv_at hl 0 rfl) ?_
                  refine lv_iload hx hb dX7_taken_85 (lv_at hl 5 rfl) ?_
                  refine lv_icmp_ge (tgt := 97) hx hb dX7_taken_87 (by decide) (fun c_13 => ?_) (fun c_13 => ?_)
                  · have hR := (if_pos c_13).symm.trans hR
                    refine lv_iinc (v := y5_39 + 1) (lv' := [(5, .int (y5_39 + 1)), (6, .int v_9), (0, .ref (ad 0)), (1, .int x1), (2, .int x2), (3, .int y3_39), (4, .int y4_39)]) hx hb dX7_taken_97 hl (k := 6) rfl rfl (by decide) rfl (fun ls hl => ?_)
                    refine lv_goto (tgt := 39) hx hb dX7_taken_100 (by decide) ?_
                    exact ih_39 _ _ _ _ _ _ hR hP hD hS (lv_sub hl [2, 3, 4, 5, 6, 0] rfl)
                  · have hR := (if_neg c_13).symm.trans hR
                    refine lv_iload hx hb dX7_taken_90 (lv_at hl 6 rfl) ?_
                    refine lv_istore_n (lv' := [(3, .int y5_39), (6, .int v_9), (0, .ref (ad 0)), (1, .int x1), (2, .int x2), (4, .int y4_39), (5, .int y5_39)]) hx hb dX7_taken_92 rfl hl (by decide) rfl (fun ls hl => ?_)
                    refine lv_iload hx hb dX7_taken_93 (lv_at hl 1 rfl) ?_
                    refine lv_istore (lv' := [(4, .int v_9), (3, .int y5_39), (6, .int v_9), (0, .ref (ad 0)), (1, .int x1), (2, .int x2), (5, .int y5_39)]) hx hb dX7_taken_95 hl (by decide) rfl (fun ls hl => ?_)
                    refine lv_iinc (v := y5_39 + 1) (lv' := [(5, .int (y5_39 + 1)), (4, .int v_9), (3, .int y5_39), (6, .int v_9), (0, .ref (ad 0)), (1, .int x1), (2, .int x2)]) hx hb dX7_taken_97 hl (k := 6) rfl rfl (by decide) rfl (fun ls hl => ?_)
                    refine lv_goto (tgt := 39) hx hb dX7_taken_100 (by decide) ?_
                    exact ih_39 _ _ _ _ _ _ hR hP hD hS (lv_sub hl [4, 5, 6, 2, 1, 0] rfl)
        exact lp_39 _ _ _ _ _ _ _ hR hP hD hS (lv_sub hl [3, 4, 5, 2, 1, 0] rfl)
      · have hR := (if_pos c_5).symm.trans hR
        refine lv_bipush (v := (-3)) hx hb dX7_taken_27 (by decide) ?_
        exact ret_ _ _ _ _ _ _ dX7_taken_29  (Option.some.inj hR) rfl hP hD hS
    · have hR := (if_pos c_4).symm.trans hR
      refine lv_bipush (v := (-2)) hx hb dX7_taken_17 (by decide) ?_
      exact ret_ _ _ _ _ _ _ dX7_taken_19  (Option.some.inj hR) rfl hP hD hS
abbrev rm_X7_canSound : Room := { frames := 1, cells := 0, slots := 0, locals := 23 }
set_option maxHeartbeats 4000000 in
set_option maxRecDepth 100000 in
theorem c_X7_canSound (l : Launch) (D : va_G) (cI cO : ClassId) (ad : Nat → Nat) (sz : Nat) {st : St} {x1 : Int32} {x2 : Int32} {r : Int32} (hR : F_X7_canSound st x1 x2 = some r) : CZ l yX7_canSound wsX7_canSound rm_X7_canSound D cI cO [.ref (ad 0), .int x1, .int x2] (MW cI ad st) (MW cI ad st) sz r := by
  refine mk_z (cc := cX7_canSound) (maxL := 4) (own := RX7) rfl (by decide) rfl (Nat.le_of_ble_eq_true rfl) ?_
  intro p e s m args below meth c A Q ls hx hb hml hown hts hK hN hA ret_ hP hD hS hl
  have hl : lv_has ls 4 [(0, .ref (ad 0)), (1, .int x1), (2, .int x2)] := hl
  unfold F_X7_canSound at hR
  refine lv_iconst (v := 0) hx hb dX7_canSound_0 (by decide) ?_
  refine lv_istore_n (lv' := [(3, .int 0), (0, .ref (ad 0)), (1, .int x1), (2, .int x2)]) hx hb dX7_canSound_1 rfl hl (by decide) rfl (fun ls hl => ?_)
  have lp_2 : ∀ (n_2 : Nat) (y3_2 : Int32) (H : Heap) (locs : List Loc) (ls : Array Slot), L_X7_canSound_2 st x1 x2 (fun y3_2 => some 0) n_2 y3_2 = some r → va_P D vwCl (MW cI ad st) H → va_D A (MW cI ad st) → va_S A s.heap H locs → lv_has ls 4 [(0, .ref (ad 0)), (1, .int x1), (2, .int x2), (3, .int y3_2)] → W p l e rm_X7_canSound s m args below meth c H locs 0 0 Q (F0 m 2 ls []) := by
    intro n_2
    induction n_2 with
    | zero => intro y3_2 H locs ls hR; exact absurd (L_X7_canSound_2_z.symm.trans hR) (fun h => nomatch h)
    | succ n_2 ih_2 =>
      intro y3_2 H locs ls hR hP hD hS hl
      have hR := L_X7_canSound_2_s.symm.trans hR
      refine lv_iload_n hx hb dX7_canSound_2 rfl (lv_at hl 3 rfl) ?_
      refine lv_iconst (v := 4) hx hb dX7_canSound_3 (by decide) ?_
      refine lv_icmp_ge (tgt := 25) hx hb dX7_canSound_4 (by decide) (fun c_1 => ?_) (fun c_1 => ?_)
      · have hR := (if_pos c_1).symm.trans hR
        refine lv_iconst (v := 0) hx hb dX7_canSound_25 (by decide) ?_
        exact ret_ _ _ _ _ _ _ dX7_canSound_26 (by decide) (Option.some.inj hR) rfl hP hD hS
      · have hR := (if_neg c_1).symm.trans hR
        refine lv_aload_n hx hb dX7_canSound_7 rfl (lv_at hl 0 rfl) ?_
        refine lv_iload_n hx hb dX7_canSound_8 rfl (lv_at hl 1 rfl) ?_
        refine lv_iload_n hx hb dX7_canSound_9 rfl (lv_at hl 3 rfl) ?_
        obtain ⟨v_2, e_2, hR⟩ := b1_some hR
        refine bc_i (va_runV (As := [.int x1, .int y3_2]) (rest := []) ⟨hx, hb, hml, hown, hts⟩ (c_X7_soundIn l D cI cO ad _ e_2) (cwV 2 hts gX7_canSound_X7_soundIn rfl rfl rfl (by decide +kernel) ⟨Nat.le_of_ble_eq_true rfl, Nat.le_of_ble_eq_true rfl⟩) (preV hK hN hP hD (va_recv hK hP (ci := 6) (q0 := 0) rfl rfl)) rfl rfl hl.1 rfl (lv_room (Nat.le_of_ble_eq_true rfl)) dX7_canSound_10 ⟨Nat.zero_le _, Nat.zero_le _⟩) hS hD hA (fun H locs hP hD hS => ?_)
        refine lv_iload_n hx hb dX7_canSound_13 rfl (lv_at hl 2 rfl) ?_
        refine lv_icmp_ne (tgt := 19) hx hb dX7_canSound_14 (by decide) (fun c_3 => ?_) (fun c_3 => ?_)
        · have hR := (if_neg c_3).symm.trans hR
          refine lv_iinc (v := y3_2 + 1) (lv' := [(3, .int (y3_2 + 1)), (0, .ref (ad 0)), (1, .int x1), (2, .int x2)]) hx hb dX7_canSound_19 hl (k := 3) rfl rfl (by decide) rfl (fun ls hl => ?_)
          refine lv_goto (tgt := 2) hx hb dX7_canSound_22 (by decide) ?_
          exact ih_2 _ _ _ _ hR hP hD hS (lv_sub hl [1, 2, 3, 0] rfl)
        · have hR := (if_pos c_3).symm.trans hR
          refine lv_iconst (v := 1) hx hb dX7_canSound_17 (by decide) ?_
          exact ret_ _ _ _ _ _ _ dX7_canSound_18 (by decide) (Option.some.inj hR) rfl hP hD hS
  exact lp_2 _ _ _ _ _ hR hP hD hS (lv_sub hl [1, 2, 3, 0] rfl)
abbrev rm_X7_meant : Room := { frames := 2, cells := 0, slots := 0, locals := 46 }
set_option maxHeartbeats 4000000 in
set_option maxRecDepth 100000 in
theorem c_X7_meant (l : Launch) (D : va_G) (cI cO : ClassId) (ad : Nat → Nat) (sz : Nat) {st : St} {x1 : Int32} {x2 : Int32} {r : Int32} (hR : F_X7_meant st x1 x2 = some r) : CI l yX7_meant wsX7_meant rm_X7_meant D cI cO [.ref (ad 0), .int x1, .int x2] (MW cI ad st) (MW cI ad st) sz r := by
  refine mk_i (cc := cX7_meant) (maxL := 5) (own := RX7) rfl (by decide) rfl (Nat.le_of_ble_eq_true rfl) ?_
  intro p e s m args below meth c A Q ls hx hb hml hown hts hK hN hA ret_ hP hD hS hl
  have i_X7 : ∀ w ∈ u_ws RX7 TX7 28, w ∈ wsX7_meant := (fun _ h => List.mem_cons_of_mem _ (List.mem_append_right _ h))
  have f_71 := hts (.fieldLink RX7 71 "BellNamesModel" "bells" "I") (by decide +kernel)
  have hl : lv_has ls 5 [(0, .ref (ad 0)), (1, .int x1), (2, .int x2)] := hl
  unfold F_X7_meant at hR
  refine lv_iload_n hx hb dX7_meant_0 rfl (lv_at hl 1 rfl) ?_
  obtain ⟨v_1, e_1, hR⟩ := b1_some hR
  refine bc_z (va_runS (As := [.int x1]) (rest := []) ⟨hx, hb, hml, hown, hts⟩ (c_X7_isDigit l D cI cO ad _ e_1) (va_cwS 1 hts gX7_meant_X7_isDigit rfl rfl rfl (by decide +kernel) ⟨Nat.le_of_ble_eq_true rfl, Nat.le_of_ble_eq_true rfl⟩) (preS hK hN hP hD) rfl rfl hl.1 rfl (lv_room (Nat.le_of_ble_eq_true rfl)) dX7_meant_1 ⟨Nat.zero_le _, Nat.zero_le _⟩) hS hD hA (fun H locs hP hD hS n_1 => ?_)
  refine lv_if_eq (tgt := 17) hx hb dX7_meant_4 (by decide) (fun c_2 => ?_) (fun c_2 => ?_)
  · have hR := (if_pos c_2).symm.trans hR
    refine lv_bipush (v := (-2)) hx hb dX7_meant_17 (by decide) ?_
    exact ret_ _ _ _ _ _ _ dX7_meant_19  (Option.some.inj hR) rfl hP hD hS
  · have hR := (if_neg c_2).symm.trans hR
    refine lv_iload_n hx hb dX7_meant_7 rfl (lv_at hl 2 rfl) ?_
    refine lv_iconst (v := 0) hx hb dX7_meant_8 (by decide) ?_
    refine lv_bipush (v := 19) hx hb dX7_meant_9 (by decide) ?_
    obtain ⟨v_3, e_3, hR⟩ := b1_some hR
    refine bc_z (va_runS (As := [.int x2, .int 0, .int 19]) (rest := []) ⟨hx, hb, hml, hown, hts⟩ (c_X7_within l D cI cO ad _ e_3) (va_cwS 3 hts gX7_meant_X7_within rfl rfl rfl (by decide +kernel) ⟨Nat.le_of_ble_eq_true rfl, Nat.le_of_ble_eq_true rfl⟩) (preS hK hN hP hD) rfl rfl hl.1 rfl (lv_room (Nat.le_of_ble_eq_true rfl)) dX7_meant_11 ⟨Nat.zero_le _, Nat.zero_le _⟩) hS hD hA (fun H locs hP hD hS n_3 => ?_)
    refine lv_if_ne (tgt := 20) hx hb dX7_meant_14 (by decide) (fun c_4 => ?_) (fun c_4 => ?_)
    · have hR := (if_neg c_4).symm.trans hR
      refine lv_aload_n hx hb dX7_meant_20 rfl (lv_at hl 0 rfl) ?_
      refine bw_get (ci := 6) (v := .int (gI st 5)) (C := RX7) (T := TX7) (N := 28) hx hb hts i_X7 hown hK hP 0 rfl rfl 5 (by decide) f_71 rfl dX7_meant_21 ?_
      refine lv_if_ne (tgt := 30) hx hb dX7_meant_24 (by decide) (fun c_5 => ?_) (fun c_5 => ?_)
      · have hR := (if_neg c_5).symm.trans hR
        refine lv_iconst (v := 0) hx hb dX7_meant_30 (by decide) ?_
        refine lv_istore_n (lv' := [(3, .int 0), (0, .ref (ad 0)), (1, .int x1), (2, .int x2)]) hx hb dX7_meant_31 rfl hl (by decide) rfl (fun ls hl => ?_)
        refine lv_iconst (v := 0) hx hb dX7_meant_32 (by decide) ?_
        refine lv_istore (lv' := [(4, .int 0), (3, .int 0), (0, .ref (ad 0)), (1, .int x1), (2, .int x2)]) hx hb dX7_meant_33 hl (by decide) rfl (fun ls hl => ?_)
        have lp_35 : ∀ (n_35 : Nat) (y3_35 : Int32) (y4_35 : Int32) (H : Heap) (locs : List Loc) (ls : Array Slot), L_X7_meant_35 st x1 x2 (fun y3_35 y4_35 => some y3_35) n_35 y3_35 y4_35 = some r → va_P D vwCl (MW cI ad st) H → va_D A (MW cI ad st) → va_S A s.heap H locs → lv_has ls 5 [(0, .ref (ad 0)), (1, .int x1), (2, .int x2), (3, .int y3_35), (4, .int y4_35)] → W p l e rm_X7_meant s m args below meth c H locs 0 0 Q (F0 m 35 ls []) := by
          intro n_35
          induction n_35 with
          | zero => intro y3_35 y4_35 H locs ls hR; exact absurd (L_X7_meant_35_z.symm.trans hR) (fun h => nomatch h)
          | succ n_35 ih_35 =>
            intro y3_35 y4_35 H locs ls hR hP hD hS hl
            have hR := L_X7_meant_35_s.symm.trans hR
            refine lv_iload hx hb dX7_meant_35 (lv_at hl 4 rfl) ?_
            refine lv_aload_n hx hb dX7_meant_37 rfl (lv_at hl 0 rfl) ?_
            refine bw_get (ci := 6) (v := .int (gI st 5)) (C := RX7) (T := TX7) (N := 28) hx hb hts i_X7 hown hK hP 0 rfl rfl 5 (by decide) f_71 rfl dX7_meant_38 ?_
            refine lv_icmp_ge (tgt := 81) hx hb dX7_meant_41 (by decide) (fun c_6 => ?_) (fun c_6 => ?_)
            · have hR := (if_pos c_6).symm.trans hR
              refine lv_iload_n hx hb dX7_meant_81 rfl (lv_at hl 3 rfl) ?_
              exact ret_ _ _ _ _ _ _ dX7_meant_82  (Option.some.inj hR) rfl hP hD hS
            · have hR := (if_neg c_6).symm.trans hR
              refine lv_iload_n hx hb dX7_meant_44 rfl (lv_at hl 3 rfl) ?_
              refine lv_aload_n hx hb dX7_meant_45 rfl (lv_at hl 0 rfl) ?_
              refine lv_iload hx hb dX7_meant_46 (lv_at hl 4 rfl) ?_
              refine lv_iload_n hx hb dX7_meant_48 rfl (lv_at hl 1 rfl) ?_
              obtain ⟨v_7, e_7, hR⟩ := b1_some hR
              refine bc_z (va_runV (As := [.int y4_35, .int x1]) (rest := [.int y3_35]) ⟨hx, hb, hml, hown, hts⟩ (c_X7_isHeard l D cI cO ad _ e_7) (cwV 2 hts gX7_meant_X7_isHeard rfl rfl rfl (by decide +kernel) ⟨Nat.le_of_ble_eq_true rfl, Nat.le_of_ble_eq_true rfl⟩) (preV hK hN hP hD (va_recv hK hP (ci := 6) (q0 := 0) rfl rfl)) rfl rfl hl.1 rfl (lv_room (Nat.le_of_ble_eq_true rfl)) dX7_meant_49 ⟨Nat.zero_le _, Nat.zero_le _⟩) hS hD hA (fun H locs hP hD hS n_7 => ?_)
              refine lv_if_eq (tgt := 72) hx hb dX7_meant_52 (by decide) (fun c_8 => ?_) (fun c_8 => ?_)
              · have hR := (if_pos c_8).symm.trans hR
                refine lv_iconst (v := 0) hx hb dX7_meant_72 (by decide) ?_
                refine lv_ior hx hb dX7_meant_73 ?_
                refine lv_istore_n (lv' := [(3, .int (y3_35 ||| 0)), (0, .ref (ad 0)), (1, .int x1), (2, .int x2), (4, .int y4_35)]) hx hb dX7_meant_74 rfl hl (by decide) rfl (fun ls hl => ?_)
                refine lv_iinc (v := y4_35 + 1) (lv' := [(4, .int (y4_35 + 1)), (3, .int (y3_35 ||| 0)), (0, .ref (ad 0)), (1, .int x1), (2, .int x2)]) hx hb dX7_meant_75 hl (k := 4) rfl rfl (by decide) rfl (fun ls hl => ?_)
                refine lv_goto (tgt := 35) hx hb dX7_meant_78 (by decide) ?_
                exact ih_35 _ _ _ _ _ hR hP hD hS (lv_sub hl [2, 3, 4, 1, 0] rfl)
              · have hR := (if_neg c_8).symm.trans hR
                refine lv_aload_n hx hb dX7_meant_55 rfl (lv_at hl 0 rfl) ?_
                refine lv_iload hx hb dX7_meant_56 (lv_at hl 4 rfl) ?_
                refine lv_iload_n hx hb dX7_meant_58 rfl (lv_at hl 2 rfl) ?_
                obtain ⟨v_9, e_9, hR⟩ := b1_some hR
                refine bc_z (va_runV (As := [.int y4_35, .int x2]) (rest := [.int y3_35]) ⟨hx, hb, hml, hown, hts⟩ (c_X7_canSound l D cI cO ad _ e_9) (cwV 2 hts gX7_meant_X7_canSound rfl rfl rfl (by decide +kernel) ⟨Nat.le_of_ble_eq_true rfl, Nat.le_of_ble_eq_true rfl⟩) (preV hK hN hP hD (va_recv hK hP (ci := 6) (q0 := 0) rfl rfl)) rfl rfl hl.1 rfl (lv_room (Nat.le_of_ble_eq_true rfl)) dX7_meant_59 ⟨Nat.zero_le _, Nat.zero_le _⟩) hS hD hA (fun H locs hP hD hS n_9 => ?_)
                refine lv_if_eq (tgt := 72) hx hb dX7_meant_62 (by decide) (fun c_10 => ?_) (fun c_10 => ?_)
                · have hR := (if_pos c_10).symm.trans hR
                  refine lv_iconst (v := 0) hx hb dX7_meant_72 (by decide) ?_
                  refine lv_ior hx hb dX7_meant_73 ?_
                  refine lv_istore_n (lv' := [(3, .int (y3_35 ||| 0)), (0, .ref (ad 0)), (1, .int x1), (2, .int x2), (4, .int y4_35)]) hx hb dX7_meant_74 rfl hl (by decide) rfl (fun ls hl => ?_)
                  refine lv_iinc (v := y4_35 + 1) (lv' := [(4, .int (y4_35 + 1)), (3, .int (y3_35 ||| 0)), (0, .ref (ad 0)), (1, .int x1), (2, .int x2)]) hx hb dX7_meant_75 hl (k := 4) rfl rfl (by decide) rfl (fun ls hl => ?_)
                  refine lv_goto (tgt := 35) hx hb dX7_meant_78 (by decide) ?_
                  exact ih_35 _ _ _ _ _ hR hP hD hS (lv_sub hl [2, 3, 4, 1, 0] rfl)
                · have hR := (if_neg c_10).symm.trans hR
                  refine lv_iconst (v := 1) hx hb dX7_meant_65 (by decide) ?_
                  refine lv_iload hx hb dX7_meant_66 (lv_at hl 4 rfl) ?_
                  refine lv_ishl hx hb dX7_meant_68 ?_
                  refine W.eq (g2 := F0 m 69 ls (.int (jshl 1 y4_35) :: [.int y3_35])) rfl ?_
                  refine lv_goto (tgt := 73) hx hb dX7_meant_69 (by decide) ?_
                  refine lv_ior hx hb dX7_meant_73 ?_
                  refine lv_istore_n (lv' := [(3, .int (y3_35 ||| (jshl 1 y4_35))), (0, .ref (ad 0)), (1, .int x1), (2, .int x2), (4, .int y4_35)]) hx hb dX7_meant_74 rfl hl (by decide) rfl (fun ls hl => ?_)
                  refine lv_iinc (v := y4_35 + 1) (lv' := [(4, .int (y4_35 + 1)), (3, .int (y3_35 ||| (jshl 1 y4_35))), (0, .ref (ad 0)), (1, .int x1), (2, .int x2)]) hx hb dX7_meant_75 hl (k := 4) rfl rfl (by decide) rfl (fun ls hl => ?_)
                  refine lv_goto (tgt := 35) hx hb dX7_meant_78 (by decide) ?_
                  exact ih_35 _ _ _ _ _ hR hP hD hS (lv_sub hl [2, 3, 4, 1, 0] rfl)
        exact lp_35 _ _ _ _ _ _ hR hP hD hS (lv_sub hl [2, 3, 4, 1, 0] rfl)
      · have hR := (if_pos c_5).symm.trans hR
        refine lv_bipush (v := (-3)) hx hb dX7_meant_27 (by decide) ?_
        exact ret_ _ _ _ _ _ _ dX7_meant_29  (Option.some.inj hR) rfl hP hD hS
    · have hR := (if_pos c_4).symm.trans hR
      refine lv_bipush (v := (-2)) hx hb dX7_meant_17 (by decide) ?_
      exact ret_ _ _ _ _ _ _ dX7_meant_19  (Option.some.inj hR) rfl hP hD hS
