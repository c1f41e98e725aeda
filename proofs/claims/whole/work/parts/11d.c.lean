abbrev rm_X6_cast : Room := { frames := 3, cells := 0, slots := 0, locals := 69 }
set_option maxHeartbeats 4000000 in
set_option maxRecDepth 100000 in
theorem c_X6_cast (l : Launch) (D : va_G) (cI cO : ClassId) (ad : Nat → Nat) (sz : Nat) {st : St} {x1 : Int32} {r : Int32} (hR : F_X6_cast st x1 = some r) : CI l yX6_cast wsX6_cast rm_X6_cast D cI cO [.ref (ad 0), .int x1] (BW cI cO ad st) (BW cI cO ad st) sz r := by
  refine mk_i (cc := cX6_cast) (maxL := 4) (own := RX6) rfl (by decide) rfl (Nat.le_of_ble_eq_true rfl) ?_
  intro p e s m args below meth c A Q ls hx hb hml hown hts hK hN hA ret_ hP hD hS hl
  have i_X6 : ∀ w ∈ u_ws RX6 TX6 7, w ∈ wsX6_cast := (fun _ h => List.mem_cons_of_mem _ (List.mem_append_left _ (List.mem_append_right _ h)))
  have i_X1 : ∀ w ∈ u_ws RX1 TX1 7, w ∈ wsX6_cast := (fun _ h => List.mem_cons_of_mem _ (List.mem_append_right _ h))
  have f_20 := hts (.fieldLink RX6 20 "BellNames" "herd" "LBellNames$Herd;") (by decide +kernel)
  have f_80 := hts (.fieldLink RX6 80 "BellNames$Herd" "count" "I") (by decide +kernel)
  have f_85 := hts (.fieldLink RX6 85 "BellNames$Herd" "kindOf" "[I") (by decide +kernel)
  have f_89 := hts (.fieldLink RX6 89 "BellNames$Herd" "noteOf" "[I") (by decide +kernel)
  have hl : lv_has ls 4 [(0, .ref (ad 0)), (1, .int x1)] := hl
  unfold F_X6_cast at hR
  refine lv_aload_n hx hb dX6_cast_0 rfl (lv_at hl 0 rfl) ?_
  refine bw_get (ci := 5) (v := .ref (ad 10)) (C := RX6) (T := TX6) (N := 7) hx hb hts i_X6 hown hK hP 0 rfl rfl 1 (by decide) f_20 rfl dX6_cast_1 ?_
  refine lv_iload_n hx hb dX6_cast_4 rfl (lv_at hl 1 rfl) ?_
  obtain ⟨v_1, e_1, hR⟩ := b1_some hR
  refine bc_z (va_runV (As := [.int x1]) (rest := []) ⟨hx, hb, hml, hown, hts⟩ (c_X1_hasBell l D cI cO ad _ e_1) (cwV 1 hts gX6_cast_X1_hasBell rfl rfl rfl (by decide +kernel) ⟨Nat.le_of_ble_eq_true rfl, Nat.le_of_ble_eq_true rfl⟩) (preV hK hN hP hD (va_recv hK hP (ci := 1) (q0 := 10) rfl rfl)) rfl rfl hl.1 rfl (lv_room (Nat.le_of_ble_eq_true rfl)) dX6_cast_5 ⟨Nat.zero_le _, Nat.zero_le _⟩) hS hD hA (fun H locs hP hD hS n_1 => ?_)
  refine lv_if_ne (tgt := 13) hx hb dX6_cast_8 (by decide) (fun c_2 => ?_) (fun c_2 => ?_)
  · have hR := (if_neg c_2).symm.trans hR
    refine lv_iconst (v := 0) hx hb dX6_cast_13 (by decide) ?_
    refine lv_istore_n (lv' := [(2, .int 0), (0, .ref (ad 0)), (1, .int x1)]) hx hb dX6_cast_14 rfl hl (by decide) rfl (fun ls hl => ?_)
    refine lv_iconst (v := 0) hx hb dX6_cast_15 (by decide) ?_
    refine lv_istore_n (lv' := [(3, .int 0), (2, .int 0), (0, .ref (ad 0)), (1, .int x1)]) hx hb dX6_cast_16 rfl hl (by decide) rfl (fun ls hl => ?_)
    have lp_17 : ∀ (n_17 : Nat) (y2_17 : Int32) (y3_17 : Int32) (H : Heap) (locs : List Loc) (ls : Array Slot), L_X6_cast_17 st x1 (fun y2_17 y3_17 => L_X6_cast_69 st x1 y2_17 (fun y3_69 => some (-9)) 70 0) n_17 y2_17 y3_17 = some r → va_P D vwCl (BW cI cO ad st) H → va_D A (BW cI cO ad st) → va_S A s.heap H locs → lv_has ls 4 [(0, .ref (ad 0)), (1, .int x1), (2, .int y2_17), (3, .int y3_17)] → W p l e rm_X6_cast s m args below meth c H locs 0 0 Q (F0 m 17 ls []) := by
      intro n_17
      induction n_17 with
      | zero => intro y2_17 y3_17 H locs ls hR; exact absurd (L_X6_cast_17_z.symm.trans hR) (fun h => nomatch h)
      | succ n_17 ih_17 =>
        intro y2_17 y3_17 H locs ls hR hP hD hS hl
        have hR := L_X6_cast_17_s.symm.trans hR
        refine lv_iload_n hx hb dX6_cast_17 rfl (lv_at hl 3 rfl) ?_
        refine lv_aload_n hx hb dX6_cast_18 rfl (lv_at hl 0 rfl) ?_
        refine bw_get (ci := 5) (v := .ref (ad 10)) (C := RX6) (T := TX6) (N := 7) hx hb hts i_X6 hown hK hP 0 rfl rfl 1 (by decide) f_20 rfl dX6_cast_19 ?_
        refine bw_get (ci := 1) (v := .int (gI st 2)) (C := RX1) (T := TX1) (N := 7) hx hb hts i_X1 hown hK hP 10 rfl rfl 4 (by decide) f_80 rfl dX6_cast_22 ?_
        refine lv_icmp_ge (tgt := 67) hx hb dX6_cast_25 (by decide) (fun c_3 => ?_) (fun c_3 => ?_)
        · have hR := (if_pos c_3).symm.trans hR
          refine lv_iconst (v := 0) hx hb dX6_cast_67 (by decide) ?_
          refine lv_istore_n (lv' := [(3, .int 0), (0, .ref (ad 0)), (1, .int x1), (2, .int y2_17)]) hx hb dX6_cast_68 rfl hl (by decide) rfl (fun ls hl => ?_)
          have lp_69 : ∀ (n_69 : Nat) (y3_69 : Int32) (H : Heap) (locs : List Loc) (ls : Array Slot), L_X6_cast_69 st x1 y2_17 (fun y3_69 => some (-9)) n_69 y3_69 = some r → va_P D vwCl (BW cI cO ad st) H → va_D A (BW cI cO ad st) → va_S A s.heap H locs → lv_has ls 4 [(0, .ref (ad 0)), (1, .int x1), (2, .int y2_17), (3, .int y3_69)] → W p l e rm_X6_cast s m args below meth c H locs 0 0 Q (F0 m 69 ls []) := by
            intro n_69
            induction n_69 with
            | zero => intro y3_69 H locs ls hR; exact absurd (L_X6_cast_69_z.symm.trans hR) (fun h => nomatch h)
            | succ n_69 ih_69 =>
              intro y3_69 H locs ls hR hP hD hS hl
              have hR := L_X6_cast_69_s.symm.trans hR
              refine lv_iload_n hx hb dX6_cast_69 rfl (lv_at hl 3 rfl) ?_
              refine lv_bipush (v := 10) hx hb dX6_cast_70 (by decide) ?_
              refine lv_icmp_ge (tgt := 105) hx hb dX6_cast_72 (by decide) (fun c_4 => ?_) (fun c_4 => ?_)
              · have hR := (if_pos c_4).symm.trans hR
                refine lv_bipush (v := (-9)) hx hb dX6_cast_105 (by decide) ?_
                exact ret_ _ _ _ _ _ _ dX6_cast_107  (Option.some.inj hR) rfl hP hD hS
              · have hR := (if_neg c_4).symm.trans hR
                refine lv_aload_n hx hb dX6_cast_75 rfl (lv_at hl 0 rfl) ?_
                refine bw_get (ci := 5) (v := .ref (ad 10)) (C := RX6) (T := TX6) (N := 7) hx hb hts i_X6 hown hK hP 0 rfl rfl 1 (by decide) f_20 rfl dX6_cast_76 ?_
                refine lv_aload_n hx hb dX6_cast_79 rfl (lv_at hl 0 rfl) ?_
                refine bw_get (ci := 5) (v := .ref (ad 10)) (C := RX6) (T := TX6) (N := 7) hx hb hts i_X6 hown hK hP 0 rfl rfl 1 (by decide) f_20 rfl dX6_cast_80 ?_
                refine bw_get (ci := 1) (v := .ref (ad 11)) (C := RX1) (T := TX1) (N := 7) hx hb hts i_X1 hown hK hP 10 rfl rfl 0 (by decide) f_85 rfl dX6_cast_83 ?_
                refine lv_iload_n hx hb dX6_cast_86 rfl (lv_at hl 1 rfl) ?_
                obtain ⟨h_5, hR⟩ := ck_some hR
                refine bw_ald (v := gA st 0 x1) hx hb hK hP 11 rfl h_5 rfl dX6_cast_87 ?_
                refine lv_iload_n hx hb dX6_cast_88 rfl (lv_at hl 3 rfl) ?_
                obtain ⟨v_6, e_6, hR⟩ := b1_some hR
                refine bc_i (va_runV (As := [.int (gA st 0 x1), .int y3_69]) (rest := []) ⟨hx, hb, hml, hown, hts⟩ (c_X1_soundSet l D cI cO ad _ e_6) (cwV 2 hts gX6_cast_X1_soundSet rfl rfl rfl (by decide +kernel) ⟨Nat.le_of_ble_eq_true rfl, Nat.le_of_ble_eq_true rfl⟩) (preV hK hN hP hD (va_recv hK hP (ci := 1) (q0 := 10) rfl rfl)) rfl rfl hl.1 rfl (lv_room (Nat.le_of_ble_eq_true rfl)) dX6_cast_89 ⟨Nat.zero_le _, Nat.zero_le _⟩) hS hD hA (fun H locs hP hD hS => ?_)
                refine lv_iload_n hx hb dX6_cast_92 rfl (lv_at hl 2 rfl) ?_
                refine lv_iand hx hb dX6_cast_93 ?_
                refine lv_if_ne (tgt := 99) hx hb dX6_cast_94 (by decide) (fun c_7 => ?_) (fun c_7 => ?_)
                · have hR := (if_neg c_7).symm.trans hR
                  refine lv_iinc (v := y3_69 + 1) (lv' := [(3, .int (y3_69 + 1)), (0, .ref (ad 0)), (1, .int x1), (2, .int y2_17)]) hx hb dX6_cast_99 hl (k := 3) rfl rfl (by decide) rfl (fun ls hl => ?_)
                  refine lv_goto (tgt := 69) hx hb dX6_cast_102 (by decide) ?_
                  exact ih_69 _ _ _ _ hR hP hD hS (lv_sub hl [1, 2, 3, 0] rfl)
                · have hR := (if_pos c_7).symm.trans hR
                  refine lv_iload_n hx hb dX6_cast_97 rfl (lv_at hl 3 rfl) ?_
                  exact ret_ _ _ _ _ _ _ dX6_cast_98  (Option.some.inj hR) rfl hP hD hS
          exact lp_69 _ _ _ _ _ hR hP hD hS (lv_sub hl [1, 2, 3, 0] rfl)
        · have hR := (if_neg c_3).symm.trans hR
          refine lv_iload_n hx hb dX6_cast_28 rfl (lv_at hl 3 rfl) ?_
          refine lv_iload_n hx hb dX6_cast_29 rfl (lv_at hl 1 rfl) ?_
          refine lv_icmp_eq (tgt := 61) hx hb dX6_cast_30 (by decide) (fun c_8 => ?_) (fun c_8 => ?_)
          · have hR := (if_pos c_8).symm.trans hR
            refine lv_iinc (v := y3_17 + 1) (lv' := [(3, .int (y3_17 + 1)), (0, .ref (ad 0)), (1, .int x1), (2, .int y2_17)]) hx hb dX6_cast_61 hl (k := 3) rfl rfl (by decide) rfl (fun ls hl => ?_)
            refine lv_goto (tgt := 17) hx hb dX6_cast_64 (by decide) ?_
            exact ih_17 _ _ _ _ _ hR hP hD hS (lv_sub hl [1, 2, 3, 0] rfl)
          · have hR := (if_neg c_8).symm.trans hR
            refine lv_iload_n hx hb dX6_cast_33 rfl (lv_at hl 2 rfl) ?_
            refine lv_aload_n hx hb dX6_cast_34 rfl (lv_at hl 0 rfl) ?_
            refine bw_get (ci := 5) (v := .ref (ad 10)) (C := RX6) (T := TX6) (N := 7) hx hb hts i_X6 hown hK hP 0 rfl rfl 1 (by decide) f_20 rfl dX6_cast_35 ?_
            refine lv_aload_n hx hb dX6_cast_38 rfl (lv_at hl 0 rfl) ?_
            refine bw_get (ci := 5) (v := .ref (ad 10)) (C := RX6) (T := TX6) (N := 7) hx hb hts i_X6 hown hK hP 0 rfl rfl 1 (by decide) f_20 rfl dX6_cast_39 ?_
            refine bw_get (ci := 1) (v := .ref (ad 11)) (C := RX1) (T := TX1) (N := 7) hx hb hts i_X1 hown hK hP 10 rfl rfl 0 (by decide) f_85 rfl dX6_cast_42 ?_
            refine lv_iload_n hx hb dX6_cast_45 rfl (lv_at hl 3 rfl) ?_
            obtain ⟨h_9, hR⟩ := ck_some hR
            refine bw_ald (v := gA st 0 y3_17) hx hb hK hP 11 rfl h_9 rfl dX6_cast_46 ?_
            refine lv_aload_n hx hb dX6_cast_47 rfl (lv_at hl 0 rfl) ?_
            refine bw_get (ci := 5) (v := .ref (ad 10)) (C := RX6) (T := TX6) (N := 7) hx hb hts i_X6 hown hK hP 0 rfl rfl 1 (by decide) f_20 rfl dX6_cast_48 ?_
            refine bw_get (ci := 1) (v := .ref (ad 12)) (C := RX1) (T := TX1) (N := 7) hx hb hts i_X1 hown hK hP 10 rfl rfl 1 (by decide) f_89 rfl dX6_cast_51 ?_
            refine lv_iload_n hx hb dX6_cast_54 rfl (lv_at hl 3 rfl) ?_
            obtain ⟨h_10, hR⟩ := ck_some hR
            refine bw_ald (v := gA st 1 y3_17) hx hb hK hP 12 rfl h_10 rfl dX6_cast_55 ?_
            obtain ⟨v_11, e_11, hR⟩ := b1_some hR
            refine bc_i (va_runV (As := [.int (gA st 0 y3_17), .int (gA st 1 y3_17)]) (rest := [.int y2_17]) ⟨hx, hb, hml, hown, hts⟩ (c_X1_soundSet l D cI cO ad _ e_11) (cwV 2 hts gX6_cast_X1_soundSet rfl rfl rfl (by decide +kernel) ⟨Nat.le_of_ble_eq_true rfl, Nat.le_of_ble_eq_true rfl⟩) (preV hK hN hP hD (va_recv hK hP (ci := 1) (q0 := 10) rfl rfl)) rfl rfl hl.1 rfl (lv_room (Nat.le_of_ble_eq_true rfl)) dX6_cast_56 ⟨Nat.zero_le _, Nat.zero_le _⟩) hS hD hA (fun H locs hP hD hS => ?_)
            refine lv_ior hx hb dX6_cast_59 ?_
            refine lv_istore_n (lv' := [(2, .int (y2_17 ||| v_11)), (0, .ref (ad 0)), (1, .int x1), (3, .int y3_17)]) hx hb dX6_cast_60 rfl hl (by decide) rfl (fun ls hl => ?_)
            refine lv_iinc (v := y3_17 + 1) (lv' := [(3, .int (y3_17 + 1)), (2, .int (y2_17 ||| v_11)), (0, .ref (ad 0)), (1, .int x1)]) hx hb dX6_cast_61 hl (k := 3) rfl rfl (by decide) rfl (fun ls hl => ?_)
            refine lv_goto (tgt := 17) hx hb dX6_cast_64 (by decide) ?_
            exact ih_17 _ _ _ _ _ hR hP hD hS (lv_sub hl [2, 3, 1, 0] rfl)
    exact lp_17 _ _ _ _ _ _ hR hP hD hS (lv_sub hl [2, 3, 1, 0] rfl)
  · have hR := (if_pos c_2).symm.trans hR
    refine lv_iconst (v := (-1)) hx hb dX6_cast_11 (by decide) ?_
    exact ret_ _ _ _ _ _ _ dX6_cast_12  (Option.some.inj hR) rfl hP hD hS
abbrev rm_X6_choir : Room := { frames := 5, cells := 0, slots := 0, locals := 120 }
set_option maxHeartbeats 4000000 in
set_option maxRecDepth 100000 in
theorem c_X6_choir (l : Launch) (D : va_G) (cI cO : ClassId) (ad : Nat → Nat) (sz : Nat) {st : St} {x1 : Int32} {r : Int32} {s2 : St} (hR : F_X6_choir st x1 = some (r, s2)) : CI l yX6_choir wsX6_choir rm_X6_choir D cI cO [.ref (ad 0), .int x1] (BW cI cO ad st) (BW cI cO ad s2) sz r := by
  refine mk_i (cc := cX6_choir) (maxL := 2) (own := RX6) rfl (by decide) rfl (Nat.le_of_ble_eq_true rfl) ?_
  intro p e s m args below meth c A Q ls hx hb hml hown hts hK hN hA ret_ hP hD hS hl
  have i_X6 : ∀ w ∈ u_ws RX6 TX6 7, w ∈ wsX6_choir := (fun _ h => List.mem_cons_of_mem _ (List.mem_append_left _ (List.mem_append_left _ (List.mem_append_right _ h))))
  have i_X1 : ∀ w ∈ u_ws RX1 TX1 7, w ∈ wsX6_choir := (fun _ h => List.mem_cons_of_mem _ (List.mem_append_left _ (List.mem_append_right _ h)))
  have i_X0 : ∀ w ∈ u_ws RX0 TX0 3, w ∈ wsX6_choir := (fun _ h => List.mem_cons_of_mem _ (List.mem_append_right _ h))
  have f_20 := hts (.fieldLink RX6 20 "BellNames" "herd" "LBellNames$Herd;") (by decide +kernel)
  have f_80 := hts (.fieldLink RX6 80 "BellNames$Herd" "count" "I") (by decide +kernel)
  have f_34 := hts (.fieldLink RX6 34 "BellNames" "families" "LBellNames$Families;") (by decide +kernel)
  have f_163 := hts (.fieldLink RX6 163 "BellNames$Families" "moods" "[I") (by decide +kernel)
  have f_160 := hts (.fieldLink RX6 160 "BellNames$Families" "changed" "I") (by decide +kernel)
  have hl : lv_has ls 2 [(0, .ref (ad 0)), (1, .int x1)] := hl
  unfold F_X6_choir at hR
  refine lv_aload_n hx hb dX6_choir_0 rfl (lv_at hl 0 rfl) ?_
  refine bw_get (ci := 5) (v := .ref (ad 10)) (C := RX6) (T := TX6) (N := 7) hx hb hts i_X6 hown hK hP 0 rfl rfl 1 (by decide) f_20 rfl dX6_choir_1 ?_
  obtain ⟨v_1, e_1, hR⟩ := b1_some hR
  refine bc_z (va_runV (As := []) (rest := []) ⟨hx, hb, hml, hown, hts⟩ (c_X1_isNone l D cI cO ad _ e_1) (cwV 0 hts gX6_choir_X1_isNone rfl rfl rfl (by decide +kernel) ⟨Nat.le_of_ble_eq_true rfl, Nat.le_of_ble_eq_true rfl⟩) (preV hK hN hP hD (va_recv hK hP (ci := 1) (q0 := 10) rfl rfl)) rfl rfl hl.1 rfl (lv_room (Nat.le_of_ble_eq_true rfl)) dX6_choir_4 ⟨Nat.zero_le _, Nat.zero_le _⟩) hS hD hA (fun H locs hP hD hS n_1 => ?_)
  refine lv_if_eq (tgt := 13) hx hb dX6_choir_7 (by decide) (fun c_2 => ?_) (fun c_2 => ?_)
  · have hR := (if_pos c_2).symm.trans hR
    refine lv_iload_n hx hb dX6_choir_13 rfl (lv_at hl 1 rfl) ?_
    refine lv_iconst (v := (-1)) hx hb dX6_choir_14 (by decide) ?_
    refine lv_icmp_lt (tgt := 23) hx hb dX6_choir_15 (by decide) (fun c_3 => ?_) (fun c_3 => ?_)
    · have hR := (if_pos c_3).symm.trans hR
      refine lv_bipush (v := (-2)) hx hb dX6_choir_23 (by decide) ?_
      exact ret_ _ _ _ _ _ _ dX6_choir_25  (sp1 hR) (congrArg (fun z => (BW cI cO ad z)) (sp2 hR)) hP hD hS
    · have hR := (if_neg c_3).symm.trans hR
      refine lv_iload_n hx hb dX6_choir_18 rfl (lv_at hl 1 rfl) ?_
      refine lv_iconst (v := 5) hx hb dX6_choir_19 (by decide) ?_
      refine lv_icmp_lt (tgt := 26) hx hb dX6_choir_20 (by decide) (fun c_4 => ?_) (fun c_4 => ?_)
      · have hR := (if_pos c_4).symm.trans hR
        refine lv_iload_n hx hb dX6_choir_26 rfl (lv_at hl 1 rfl) ?_
        refine lv_aload_n hx hb dX6_choir_27 rfl (lv_at hl 0 rfl) ?_
        refine bw_get (ci := 5) (v := .ref (ad 10)) (C := RX6) (T := TX6) (N := 7) hx hb hts i_X6 hown hK hP 0 rfl rfl 1 (by decide) f_20 rfl dX6_choir_28 ?_
        refine bw_get (ci := 1) (v := .int (gI st 2)) (C := RX1) (T := TX1) (N := 7) hx hb hts i_X1 hown hK hP 10 rfl rfl 4 (by decide) f_80 rfl dX6_choir_31 ?_
        refine lv_icmp_ge (tgt := 51) hx hb dX6_choir_34 (by decide) (fun c_5 => ?_) (fun c_5 => ?_)
        · have hR := (if_pos c_5).symm.trans hR
          refine lv_bipush (v := (-9)) hx hb dX6_choir_51 (by decide) ?_
          exact ret_ _ _ _ _ _ _ dX6_choir_53  (sp1 hR) (congrArg (fun z => (BW cI cO ad z)) (sp2 hR)) hP hD hS
        · have hR := (if_neg c_5).symm.trans hR
          refine lv_aload_n hx hb dX6_choir_37 rfl (lv_at hl 0 rfl) ?_
          refine bw_get (ci := 5) (v := .ref (ad 19)) (C := RX6) (T := TX6) (N := 7) hx hb hts i_X6 hown hK hP 0 rfl rfl 3 (by decide) f_34 rfl dX6_choir_38 ?_
          refine lv_aload_n hx hb dX6_choir_41 rfl (lv_at hl 0 rfl) ?_
          refine bw_get (ci := 5) (v := .ref (ad 10)) (C := RX6) (T := TX6) (N := 7) hx hb hts i_X6 hown hK hP 0 rfl rfl 1 (by decide) f_20 rfl dX6_choir_42 ?_
          obtain ⟨v_6, s_6, e_6, hR⟩ := b2_some hR
          refine bc_z (va_runV (As := [.ref (ad 10)]) (rest := []) ⟨hx, hb, hml, hown, hts⟩ (c_X0_findChoir l D cI cO ad _ e_6) (cwV 1 hts gX6_choir_X0_findChoir rfl rfl rfl (by decide +kernel) ⟨Nat.le_of_ble_eq_true rfl, Nat.le_of_ble_eq_true rfl⟩) (preV hK hN hP hD (va_recv hK hP (ci := 0) (q0 := 19) rfl rfl)) rfl rfl hl.1 rfl (lv_room (Nat.le_of_ble_eq_true rfl)) dX6_choir_45 ⟨Nat.zero_le _, Nat.zero_le _⟩) hS hD hA (fun H locs hP hD hS n_6 => ?_)
          refine lv_if_ne (tgt := 54) hx hb dX6_choir_48 (by decide) (fun c_7 => ?_) (fun c_7 => ?_)
          · have hR := (if_neg c_7).symm.trans hR
            refine lv_iload_n hx hb dX6_choir_54 rfl (lv_at hl 1 rfl) ?_
            refine lv_iconst (v := (-1)) hx hb dX6_choir_55 (by decide) ?_
            refine lv_icmp_ne (tgt := 69) hx hb dX6_choir_56 (by decide) (fun c_8 => ?_) (fun c_8 => ?_)
            · have hR := (if_neg c_8).symm.trans hR
              refine lv_aload_n hx hb dX6_choir_69 rfl (lv_at hl 0 rfl) ?_
              refine bw_get (ci := 5) (v := .ref (ad 19)) (C := RX6) (T := TX6) (N := 7) hx hb hts i_X6 hown hK hP 0 rfl rfl 3 (by decide) f_34 rfl dX6_choir_70 ?_
              refine bw_get (ci := 0) (v := .ref (ad 21)) (C := RX0) (T := TX0) (N := 3) hx hb hts i_X0 hown hK hP 19 rfl rfl 1 (by decide) f_163 rfl dX6_choir_73 ?_
              refine lv_iload_n hx hb dX6_choir_76 rfl (lv_at hl 1 rfl) ?_
              obtain ⟨h_9, hR⟩ := ck_some hR
              refine bw_ald (v := gA s_6 8 x1) hx hb hK hP 21 rfl h_9 rfl dX6_choir_77 ?_
              exact ret_ _ _ _ _ _ _ dX6_choir_78  (sp1 hR) (congrArg (fun z => (BW cI cO ad z)) (sp2 hR)) hP hD hS
            · have hR := (if_pos c_8).symm.trans hR
              refine lv_aload_n hx hb dX6_choir_59 rfl (lv_at hl 0 rfl) ?_
              refine bw_get (ci := 5) (v := .ref (ad 19)) (C := RX6) (T := TX6) (N := 7) hx hb hts i_X6 hown hK hP 0 rfl rfl 3 (by decide) f_34 rfl dX6_choir_60 ?_
              refine bw_get (ci := 0) (v := .int (gI s_6 6)) (C := RX0) (T := TX0) (N := 3) hx hb hts i_X0 hown hK hP 19 rfl rfl 2 (by decide) f_160 rfl dX6_choir_63 ?_
              refine lv_goto (tgt := 78) hx hb dX6_choir_66 (by decide) ?_
              exact ret_ _ _ _ _ _ _ dX6_choir_78  (sp1 hR) (congrArg (fun z => (BW cI cO ad z)) (sp2 hR)) hP hD hS
          · have hR := (if_pos c_7).symm.trans hR
            refine lv_bipush (v := (-9)) hx hb dX6_choir_51 (by decide) ?_
            exact ret_ _ _ _ _ _ _ dX6_choir_53  (sp1 hR) (congrArg (fun z => (BW cI cO ad z)) (sp2 hR)) hP hD hS
      · have hR := (if_neg c_4).symm.trans hR
        refine lv_bipush (v := (-2)) hx hb dX6_choir_23 (by decide) ?_
        exact ret_ _ _ _ _ _ _ dX6_choir_25  (sp1 hR) (congrArg (fun z => (BW cI cO ad z)) (sp2 hR)) hP hD hS
  · have hR := (if_neg c_2).symm.trans hR
    refine lv_bipush (v := (-3)) hx hb dX6_choir_10 (by decide) ?_
    exact ret_ _ _ _ _ _ _ dX6_choir_12  (sp1 hR) (congrArg (fun z => (BW cI cO ad z)) (sp2 hR)) hP hD hS
abbrev rm_X6_reading : Room := { frames := 2, cells := 0, slots := 0, locals := 42 }
set_option maxHeartbeats 4000000 in
set_option maxRecDepth 100000 in
theorem c_X6_reading (l : Launch) (D : va_G) (cI cO : ClassId) (ad : Nat → Nat) (sz : Nat) {st : St} {x1 : Int32} {x2 : Int32} {x3 : Int32} {r : Int32} {s2 : St} (hR : F_X6_reading st x1 x2 x3 = some (r, s2)) : CI l yX6_reading wsX6_reading rm_X6_reading D cI cO [.ref (ad 0), .int x1, .int x2, .int x3] (BW cI cO ad st) (BW cI cO ad s2) sz r := by
  refine mk_i (cc := cX6_reading) (maxL := 4) (own := RX6) rfl (by decide) rfl (Nat.le_of_ble_eq_true rfl) ?_
  intro p e s m args below meth c A Q ls hx hb hml hown hts hK hN hA ret_ hP hD hS hl
  have i_X6 : ∀ w ∈ u_ws RX6 TX6 7, w ∈ wsX6_reading := (fun _ h => List.mem_cons_of_mem _ (List.mem_append_left _ (List.mem_append_left _ (List.mem_append_right _ h))))
  have i_X2 : ∀ w ∈ u_ws RX2 TX2 4, w ∈ wsX6_reading := (fun _ h => List.mem_cons_of_mem _ (List.mem_append_left _ (List.mem_append_right _ h)))
  have f_20 := hts (.fieldLink RX6 20 "BellNames" "herd" "LBellNames$Herd;") (by decide +kernel)
  have f_27 := hts (.fieldLink RX6 27 "BellNames" "readings" "LBellNames$Readings;") (by decide +kernel)
  have f_77 := hts (.fieldLink RX6 77 "BellNames$Readings" "count" "I") (by decide +kernel)
  have hl : lv_has ls 4 [(0, .ref (ad 0)), (1, .int x1), (2, .int x2), (3, .int x3)] := hl
  unfold F_X6_reading at hR
  refine lv_aload_n hx hb dX6_reading_0 rfl (lv_at hl 0 rfl) ?_
  refine bw_get (ci := 5) (v := .ref (ad 10)) (C := RX6) (T := TX6) (N := 7) hx hb hts i_X6 hown hK hP 0 rfl rfl 1 (by decide) f_20 rfl dX6_reading_1 ?_
  refine lv_iload_n hx hb dX6_reading_4 rfl (lv_at hl 1 rfl) ?_
  obtain ⟨v_1, e_1, hR⟩ := b1_some hR
  refine bc_z (va_runV (As := [.int x1]) (rest := []) ⟨hx, hb, hml, hown, hts⟩ (c_X1_hasBell l D cI cO ad _ e_1) (cwV 1 hts gX6_reading_X1_hasBell rfl rfl rfl (by decide +kernel) ⟨Nat.le_of_ble_eq_true rfl, Nat.le_of_ble_eq_true rfl⟩) (preV hK hN hP hD (va_recv hK hP (ci := 1) (q0 := 10) rfl rfl)) rfl rfl hl.1 rfl (lv_room (Nat.le_of_ble_eq_true rfl)) dX6_reading_5 ⟨Nat.zero_le _, Nat.zero_le _⟩) hS hD hA (fun H locs hP hD hS n_1 => ?_)
  refine lv_if_ne (tgt := 13) hx hb dX6_reading_8 (by decide) (fun c_2 => ?_) (fun c_2 => ?_)
  · have hR := (if_neg c_2).symm.trans hR
    refine lv_iload_n hx hb dX6_reading_13 rfl (lv_at hl 2 rfl) ?_
    refine lv_iconst (v := 4) hx hb dX6_reading_14 (by decide) ?_
    obtain ⟨v_3, e_3, hR⟩ := b1_some hR
    refine bc_z (va_runS (As := [.int x2, .int 4]) (rest := []) ⟨hx, hb, hml, hown, hts⟩ (c_X6_isBelow l D cI cO ad _ e_3) (va_cwS 2 hts gX6_reading_X6_isBelow rfl rfl rfl (by decide +kernel) ⟨Nat.le_of_ble_eq_true rfl, Nat.le_of_ble_eq_true rfl⟩) (preS hK hN hP hD) rfl rfl hl.1 rfl (lv_room (Nat.le_of_ble_eq_true rfl)) dX6_reading_15 ⟨Nat.zero_le _, Nat.zero_le _⟩) hS hD hA (fun H locs hP hD hS n_3 => ?_)
    refine lv_if_eq (tgt := 30) hx hb dX6_reading_18 (by decide) (fun c_4 => ?_) (fun c_4 => ?_)
    · have hR := (if_pos c_4).symm.trans hR
      refine lv_bipush (v := (-2)) hx hb dX6_reading_30 (by decide) ?_
      exact ret_ _ _ _ _ _ _ dX6_reading_32  (sp1 hR) (congrArg (fun z => (BW cI cO ad z)) (sp2 hR)) hP hD hS
    · have hR := (if_neg c_4).symm.trans hR
      refine lv_iload_n hx hb dX6_reading_21 rfl (lv_at hl 3 rfl) ?_
      refine lv_bipush (v := 20) hx hb dX6_reading_22 (by decide) ?_
      obtain ⟨v_5, e_5, hR⟩ := b1_some hR
      refine bc_z (va_runS (As := [.int x3, .int 20]) (rest := []) ⟨hx, hb, hml, hown, hts⟩ (c_X6_isBelow l D cI cO ad _ e_5) (va_cwS 2 hts gX6_reading_X6_isBelow rfl rfl rfl (by decide +kernel) ⟨Nat.le_of_ble_eq_true rfl, Nat.le_of_ble_eq_true rfl⟩) (preS hK hN hP hD) rfl rfl hl.1 rfl (lv_room (Nat.le_of_ble_eq_true rfl)) dX6_reading_24 ⟨Nat.zero_le _, Nat.zero_le _⟩) hS hD hA (fun H locs hP hD hS n_5 => ?_)
      refine lv_if_ne (tgt := 33) hx hb dX6_reading_27 (by decide) (fun c_6 => ?_) (fun c_6 => ?_)
      · have hR := (if_neg c_6).symm.trans hR
        refine lv_aload_n hx hb dX6_reading_33 rfl (lv_at hl 0 rfl) ?_
        refine bw_get (ci := 5) (v := .ref (ad 15)) (C := RX6) (T := TX6) (N := 7) hx hb hts i_X6 hown hK hP 0 rfl rfl 2 (by decide) f_27 rfl dX6_reading_34 ?_
        refine bw_get (ci := 2) (v := .int (gI st 5)) (C := RX2) (T := TX2) (N := 4) hx hb hts i_X2 hown hK hP 15 rfl rfl 3 (by decide) f_77 rfl dX6_reading_37 ?_
        refine lv_bipush (v := 8) hx hb dX6_reading_40 (by decide) ?_
        refine lv_icmp_lt (tgt := 48) hx hb dX6_reading_42 (by decide) (fun c_7 => ?_) (fun c_7 => ?_)
        · have hR := (if_pos c_7).symm.trans hR
          refine lv_aload_n hx hb dX6_reading_48 rfl (lv_at hl 0 rfl) ?_
          refine bw_get (ci := 5) (v := .ref (ad 15)) (C := RX6) (T := TX6) (N := 7) hx hb hts i_X6 hown hK hP 0 rfl rfl 2 (by decide) f_27 rfl dX6_reading_49 ?_
          refine lv_iload_n hx hb dX6_reading_52 rfl (lv_at hl 1 rfl) ?_
          refine lv_iload_n hx hb dX6_reading_53 rfl (lv_at hl 2 rfl) ?_
          refine lv_iload_n hx hb dX6_reading_54 rfl (lv_at hl 3 rfl) ?_
          obtain ⟨v_8, s_8, e_8, hR⟩ := b2_some hR
          refine bc_i (va_runV (As := [.int x1, .int x2, .int x3]) (rest := []) ⟨hx, hb, hml, hown, hts⟩ (c_X2_keep l D cI cO ad _ e_8) (cwV 3 hts gX6_reading_X2_keep rfl rfl rfl (by decide +kernel) ⟨Nat.le_of_ble_eq_true rfl, Nat.le_of_ble_eq_true rfl⟩) (preV hK hN hP hD (va_recv hK hP (ci := 2) (q0 := 15) rfl rfl)) rfl rfl hl.1 rfl (lv_room (Nat.le_of_ble_eq_true rfl)) dX6_reading_55 ⟨Nat.zero_le _, Nat.zero_le _⟩) hS hD hA (fun H locs hP hD hS => ?_)
          exact ret_ _ _ _ _ _ _ dX6_reading_58  (sp1 hR) (congrArg (fun z => (BW cI cO ad z)) (sp2 hR)) hP hD hS
        · have hR := (if_neg c_7).symm.trans hR
          refine lv_bipush (v := (-4)) hx hb dX6_reading_45 (by decide) ?_
          exact ret_ _ _ _ _ _ _ dX6_reading_47  (sp1 hR) (congrArg (fun z => (BW cI cO ad z)) (sp2 hR)) hP hD hS
      · have hR := (if_pos c_6).symm.trans hR
        refine lv_bipush (v := (-2)) hx hb dX6_reading_30 (by decide) ?_
        exact ret_ _ _ _ _ _ _ dX6_reading_32  (sp1 hR) (congrArg (fun z => (BW cI cO ad z)) (sp2 hR)) hP hD hS
  · have hR := (if_pos c_2).symm.trans hR
    refine lv_iconst (v := (-1)) hx hb dX6_reading_11 (by decide) ?_
    exact ret_ _ _ _ _ _ _ dX6_reading_12  (sp1 hR) (congrArg (fun z => (BW cI cO ad z)) (sp2 hR)) hP hD hS
abbrev rm_X6_back : Room := { frames := 0, cells := 0, slots := 0, locals := 0 }
set_option maxHeartbeats 4000000 in
set_option maxRecDepth 100000 in
theorem c_X6_back (l : Launch) (D : va_G) (cI cO : ClassId) (ad : Nat → Nat) (sz : Nat) {st : St} {x1 : Int32} {r : Int32} {s2 : St} (hR : F_X6_back st x1 = some (r, s2)) : CI l yX6_back wsX6_back rm_X6_back D cI cO [.ref (ad 0), .int x1] (BW cI cO ad st) (BW cI cO ad s2) sz r := by
  refine mk_i (cc := cX6_back) (maxL := 2) (own := RX6) rfl (by decide) rfl (Nat.le_of_ble_eq_true rfl) ?_
  intro p e s m args below meth c A Q ls hx hb hml hown hts hK hN hA ret_ hP hD hS hl
  have i_X6 : ∀ w ∈ u_ws RX6 TX6 7, w ∈ wsX6_back := (fun _ h => List.mem_cons_of_mem _ (List.mem_append_left _ (List.mem_append_right _ h)))
  have i_X2 : ∀ w ∈ u_ws RX2 TX2 4, w ∈ wsX6_back := (fun _ h => List.mem_cons_of_mem _ (List.mem_append_right _ h))
  have f_27 := hts (.fieldLink RX6 27 "BellNames" "readings" "LBellNames$Readings;") (by decide +kernel)
  have f_77 := hts (.fieldLink RX6 77 "BellNames$Readings" "count" "I") (by decide +kernel)
  have hl : lv_has ls 2 [(0, .ref (ad 0)), (1, .int x1)] := hl
  unfold F_X6_back at hR
  refine lv_iload_n hx hb dX6_back_0 rfl (lv_at hl 1 rfl) ?_
  refine lv_if_lt (tgt := 15) hx hb dX6_back_1 (by decide) (fun c_1 => ?_) (fun c_1 => ?_)
  · have hR := (if_pos c_1).symm.trans hR
    refine lv_bipush (v := (-2)) hx hb dX6_back_15 (by decide) ?_
    exact ret_ _ _ _ _ _ _ dX6_back_17  (sp1 hR) (congrArg (fun z => (BW cI cO ad z)) (sp2 hR)) hP hD hS
  · have hR := (if_neg c_1).symm.trans hR
    refine lv_iload_n hx hb dX6_back_4 rfl (lv_at hl 1 rfl) ?_
    refine lv_aload_n hx hb dX6_back_5 rfl (lv_at hl 0 rfl) ?_
    refine bw_get (ci := 5) (v := .ref (ad 15)) (C := RX6) (T := TX6) (N := 7) hx hb hts i_X6 hown hK hP 0 rfl rfl 2 (by decide) f_27 rfl dX6_back_6 ?_
    refine bw_get (ci := 2) (v := .int (gI st 5)) (C := RX2) (T := TX2) (N := 4) hx hb hts i_X2 hown hK hP 15 rfl rfl 3 (by decide) f_77 rfl dX6_back_9 ?_
    refine lv_icmp_le (tgt := 18) hx hb dX6_back_12 (by decide) (fun c_2 => ?_) (fun c_2 => ?_)
    · have hR := (if_pos c_2).symm.trans hR
      refine lv_aload_n hx hb dX6_back_18 rfl (lv_at hl 0 rfl) ?_
      refine bw_get (ci := 5) (v := .ref (ad 15)) (C := RX6) (T := TX6) (N := 7) hx hb hts i_X6 hown hK hP 0 rfl rfl 2 (by decide) f_27 rfl dX6_back_19 ?_
      refine lv_dup hx hb dX6_back_22 rfl ?_
      refine bw_get (ci := 2) (v := .int (gI st 5)) (C := RX2) (T := TX2) (N := 4) hx hb hts i_X2 hown hK hP 15 rfl rfl 3 (by decide) f_77 rfl dX6_back_23 ?_
      refine lv_iload_n hx hb dX6_back_26 rfl (lv_at hl 1 rfl) ?_
      refine lv_isub hx hb dX6_back_27 ?_
      refine bw_put (w' := (BW cI cO ad (sI st 5 ((gI st 5) - x1)))) (ci := 2) (C := RX2) (T := TX2) (N := 4) hx hb hts i_X2 tyX2 tyX2_ok nmX2 hown hK hP hD hS 15 rfl rfl 3 (by decide) f_77 rfl rfl (Nat.le_of_ble_eq_true rfl) (BW_i5 cI cO ad _ _) dX6_back_28 (fun H locs hP hD hS => ?_)
      refine lv_aload_n hx hb dX6_back_31 rfl (lv_at hl 0 rfl) ?_
      refine bw_get (ci := 5) (v := .ref (ad 15)) (C := RX6) (T := TX6) (N := 7) hx hb hts i_X6 hown hK hP 0 rfl rfl 2 (by decide) f_27 rfl dX6_back_32 ?_
      refine bw_get (ci := 2) (v := .int (gI (sI st 5 ((gI st 5) - x1)) 5)) (C := RX2) (T := TX2) (N := 4) hx hb hts i_X2 hown hK hP 15 rfl rfl 3 (by decide) f_77 rfl dX6_back_35 ?_
      exact ret_ _ _ _ _ _ _ dX6_back_38  (sp1 hR) (congrArg (fun z => (BW cI cO ad z)) (sp2 hR)) hP hD hS
    · have hR := (if_neg c_2).symm.trans hR
      refine lv_bipush (v := (-2)) hx hb dX6_back_15 (by decide) ?_
      exact ret_ _ _ _ _ _ _ dX6_back_17  (sp1 hR) (congrArg (fun z => (BW cI cO ad z)) (sp2 hR)) hP hD hS
abbrev rm_X6_notes : Room := { frames := 3, cells := 0, slots := 0, locals := 74 }
set_option maxHeartbeats 4000000 in
set_option maxRecDepth 100000 in
theorem c_X6_notes (l : Launch) (D : va_G) (cI cO : ClassId) (ad : Nat → Nat) (sz : Nat) {st : St} {x1 : Int32} {r : Int32} (hR : F_X6_notes st x1 = some r) : CI l yX6_notes wsX6_notes rm_X6_notes D cI cO [.ref (ad 0), .int x1] (BW cI cO ad st) (BW cI cO ad st) sz r := by
  refine mk_i (cc := cX6_notes) (maxL := 4) (own := RX6) rfl (by decide) rfl (Nat.le_of_ble_eq_true rfl) ?_
  intro p e s m args below meth c A Q ls hx hb hml hown hts hK hN hA ret_ hP hD hS hl
  have i_X6 : ∀ w ∈ u_ws RX6 TX6 7, w ∈ wsX6_notes := (fun _ h => List.mem_cons_of_mem _ (List.mem_append_left _ (List.mem_append_left _ (List.mem_append_right _ h))))
  have i_X1 : ∀ w ∈ u_ws RX1 TX1 7, w ∈ wsX6_notes := (fun _ h => List.mem_cons_of_mem _ (List.mem_append_left _ (List.mem_append_right _ h)))
  have f_20 := hts (.fieldLink RX6 20 "BellNames" "herd" "LBellNames$Herd;") (by decide +kernel)
  have f_27 := hts (.fieldLink RX6 27 "BellNames" "readings" "LBellNames$Readings;") (by decide +kernel)
  have f_85 := hts (.fieldLink RX6 85 "BellNames$Herd" "kindOf" "[I") (by decide +kernel)
  have f_106 := hts (.fieldLink RX6 106 "BellNames$Herd" "wind" "I") (by decide +kernel)
  have hl : lv_has ls 4 [(0, .ref (ad 0)), (1, .int x1)] := hl
  unfold F_X6_notes at hR
  refine lv_aload_n hx hb dX6_notes_0 rfl (lv_at hl 0 rfl) ?_
  refine bw_get (ci := 5) (v := .ref (ad 10)) (C := RX6) (T := TX6) (N := 7) hx hb hts i_X6 hown hK hP 0 rfl rfl 1 (by decide) f_20 rfl dX6_notes_1 ?_
  refine lv_iload_n hx hb dX6_notes_4 rfl (lv_at hl 1 rfl) ?_
  obtain ⟨v_1, e_1, hR⟩ := b1_some hR
  refine bc_z (va_runV (As := [.int x1]) (rest := []) ⟨hx, hb, hml, hown, hts⟩ (c_X1_hasBell l D cI cO ad _ e_1) (cwV 1 hts gX6_notes_X1_hasBell rfl rfl rfl (by decide +kernel) ⟨Nat.le_of_ble_eq_true rfl, Nat.le_of_ble_eq_true rfl⟩) (preV hK hN hP hD (va_recv hK hP (ci := 1) (q0 := 10) rfl rfl)) rfl rfl hl.1 rfl (lv_room (Nat.le_of_ble_eq_true rfl)) dX6_notes_5 ⟨Nat.zero_le _, Nat.zero_le _⟩) hS hD hA (fun H locs hP hD hS n_1 => ?_)
  refine lv_if_ne (tgt := 13) hx hb dX6_notes_8 (by decide) (fun c_2 => ?_) (fun c_2 => ?_)
  · have hR := (if_neg c_2).symm.trans hR
    refine lv_iconst (v := 0) hx hb dX6_notes_13 (by decide) ?_
    refine lv_istore_n (lv' := [(2, .int 0), (0, .ref (ad 0)), (1, .int x1)]) hx hb dX6_notes_14 rfl hl (by decide) rfl (fun ls hl => ?_)
    refine lv_iconst (v := 0) hx hb dX6_notes_15 (by decide) ?_
    refine lv_istore_n (lv' := [(3, .int 0), (2, .int 0), (0, .ref (ad 0)), (1, .int x1)]) hx hb dX6_notes_16 rfl hl (by decide) rfl (fun ls hl => ?_)
    have lp_17 : ∀ (n_17 : Nat) (y2_17 : Int32) (y3_17 : Int32) (H : Heap) (locs : List Loc) (ls : Array Slot), L_X6_notes_17 st x1 (fun y2_17 y3_17 => some y2_17) n_17 y2_17 y3_17 = some r → va_P D vwCl (BW cI cO ad st) H → va_D A (BW cI cO ad st) → va_S A s.heap H locs → lv_has ls 4 [(0, .ref (ad 0)), (1, .int x1), (2, .int y2_17), (3, .int y3_17)] → W p l e rm_X6_notes s m args below meth c H locs 0 0 Q (F0 m 17 ls []) := by
      intro n_17
      induction n_17 with
      | zero => intro y2_17 y3_17 H locs ls hR; exact absurd (L_X6_notes_17_z.symm.trans hR) (fun h => nomatch h)
      | succ n_17 ih_17 =>
        intro y2_17 y3_17 H locs ls hR hP hD hS hl
        have hR := L_X6_notes_17_s.symm.trans hR
        refine lv_iload_n hx hb dX6_notes_17 rfl (lv_at hl 3 rfl) ?_
        refine lv_bipush (v := 10) hx hb dX6_notes_18 (by decide) ?_
        refine lv_icmp_ge (tgt := 67) hx hb dX6_notes_20 (by decide) (fun c_3 => ?_) (fun c_3 => ?_)
        · have hR := (if_pos c_3).symm.trans hR
          refine lv_iload_n hx hb dX6_notes_67 rfl (lv_at hl 2 rfl) ?_
          exact ret_ _ _ _ _ _ _ dX6_notes_68  (Option.some.inj hR) rfl hP hD hS
        · have hR := (if_neg c_3).symm.trans hR
          refine lv_aload_n hx hb dX6_notes_23 rfl (lv_at hl 0 rfl) ?_
          refine bw_get (ci := 5) (v := .ref (ad 15)) (C := RX6) (T := TX6) (N := 7) hx hb hts i_X6 hown hK hP 0 rfl rfl 2 (by decide) f_27 rfl dX6_notes_24 ?_
          refine lv_aload_n hx hb dX6_notes_27 rfl (lv_at hl 0 rfl) ?_
          refine bw_get (ci := 5) (v := .ref (ad 10)) (C := RX6) (T := TX6) (N := 7) hx hb hts i_X6 hown hK hP 0 rfl rfl 1 (by decide) f_20 rfl dX6_notes_28 ?_
          refine lv_iload_n hx hb dX6_notes_31 rfl (lv_at hl 1 rfl) ?_
          refine lv_aload_n hx hb dX6_notes_32 rfl (lv_at hl 0 rfl) ?_
          refine bw_get (ci := 5) (v := .ref (ad 10)) (C := RX6) (T := TX6) (N := 7) hx hb hts i_X6 hown hK hP 0 rfl rfl 1 (by decide) f_20 rfl dX6_notes_33 ?_
          refine bw_get (ci := 1) (v := .ref (ad 11)) (C := RX1) (T := TX1) (N := 7) hx hb hts i_X1 hown hK hP 10 rfl rfl 0 (by decide) f_85 rfl dX6_notes_36 ?_
          refine lv_iload_n hx hb dX6_notes_39 rfl (lv_at hl 1 rfl) ?_
          obtain ⟨h_4, hR⟩ := ck_some hR
          refine bw_ald (v := gA st 0 x1) hx hb hK hP 11 rfl h_4 rfl dX6_notes_40 ?_
          refine lv_iload_n hx hb dX6_notes_41 rfl (lv_at hl 3 rfl) ?_
          refine lv_aload_n hx hb dX6_notes_42 rfl (lv_at hl 0 rfl) ?_
          refine bw_get (ci := 5) (v := .ref (ad 10)) (C := RX6) (T := TX6) (N := 7) hx hb hts i_X6 hown hK hP 0 rfl rfl 1 (by decide) f_20 rfl dX6_notes_43 ?_
          refine bw_get (ci := 1) (v := .int (gI st 3)) (C := RX1) (T := TX1) (N := 7) hx hb hts i_X1 hown hK hP 10 rfl rfl 5 (by decide) f_106 rfl dX6_notes_46 ?_
          obtain ⟨v_5, e_5, hR⟩ := b1_some hR
          refine bc_z (va_runV (As := [.ref (ad 10), .int x1, .int (gA st 0 x1), .int y3_17, .int (gI st 3)]) (rest := []) ⟨hx, hb, hml, hown, hts⟩ (c_X2_areSo l D cI cO ad _ e_5) (cwV 5 hts gX6_notes_X2_areSo rfl rfl rfl (by decide +kernel) ⟨Nat.le_of_ble_eq_true rfl, Nat.le_of_ble_eq_true rfl⟩) (preV hK hN hP hD (va_recv hK hP (ci := 2) (q0 := 15) rfl rfl)) rfl rfl hl.1 rfl (lv_room (Nat.le_of_ble_eq_true rfl)) dX6_notes_49 ⟨Nat.zero_le _, Nat.zero_le _⟩) hS hD hA (fun H locs hP hD hS n_5 => ?_)
          refine lv_if_eq (tgt := 61) hx hb dX6_notes_52 (by decide) (fun c_6 => ?_) (fun c_6 => ?_)
          · have hR := (if_pos c_6).symm.trans hR
            refine lv_iinc (v := y3_17 + 1) (lv' := [(3, .int (y3_17 + 1)), (0, .ref (ad 0)), (1, .int x1), (2, .int y2_17)]) hx hb dX6_notes_61 hl (k := 3) rfl rfl (by decide) rfl (fun ls hl => ?_)
            refine lv_goto (tgt := 17) hx hb dX6_notes_64 (by decide) ?_
            exact ih_17 _ _ _ _ _ hR hP hD hS (lv_sub hl [1, 2, 3, 0] rfl)
          · have hR := (if_neg c_6).symm.trans hR
            refine lv_iload_n hx hb dX6_notes_55 rfl (lv_at hl 2 rfl) ?_
            refine lv_iconst (v := 1) hx hb dX6_notes_56 (by decide) ?_
            refine lv_iload_n hx hb dX6_notes_57 rfl (lv_at hl 3 rfl) ?_
            refine lv_ishl hx hb dX6_notes_58 ?_
            refine W.eq (g2 := F0 m 59 ls (.int (jshl 1 y3_17) :: [.int y2_17])) rfl ?_
            refine lv_ior hx hb dX6_notes_59 ?_
            refine lv_istore_n (lv' := [(2, .int (y2_17 ||| (jshl 1 y3_17))), (0, .ref (ad 0)), (1, .int x1), (3, .int y3_17)]) hx hb dX6_notes_60 rfl hl (by decide) rfl (fun ls hl => ?_)
            refine lv_iinc (v := y3_17 + 1) (lv' := [(3, .int (y3_17 + 1)), (2, .int (y2_17 ||| (jshl 1 y3_17))), (0, .ref (ad 0)), (1, .int x1)]) hx hb dX6_notes_61 hl (k := 3) rfl rfl (by decide) rfl (fun ls hl => ?_)
            refine lv_goto (tgt := 17) hx hb dX6_notes_64 (by decide) ?_
            exact ih_17 _ _ _ _ _ hR hP hD hS (lv_sub hl [2, 3, 1, 0] rfl)
    exact lp_17 _ _ _ _ _ _ hR hP hD hS (lv_sub hl [2, 3, 1, 0] rfl)
  · have hR := (if_pos c_2).symm.trans hR
    refine lv_iconst (v := (-1)) hx hb dX6_notes_11 (by decide) ?_
    exact ret_ _ _ _ _ _ _ dX6_notes_12  (Option.some.inj hR) rfl hP hD hS
abbrev rm_X6_kinds : Room := { frames := 3, cells := 0, slots := 0, locals := 74 }
set_option maxHeartbeats 4000000 in
set_option maxRecDepth 100000 in
theorem c_X6_kinds (l : Launch) (D : va_G) (cI cO : ClassId) (ad : Nat → Nat) (sz : Nat) {st : St} {x1 : Int32} {r : Int32} (hR : F_X6_kinds st x1 = some r) : CI l yX6_kinds wsX6_kinds rm_X6_kinds D cI cO [.ref (ad 0), .int x1] (BW cI cO ad st) (BW cI cO ad st) sz r := by
  refine mk_i (cc := cX6_kinds) (maxL := 4) (own := RX6) rfl (by decide) rfl (Nat.le_of_ble_eq_true rfl) ?_
  intro p e s m args below meth c A Q ls hx hb hml hown hts hK hN hA ret_ hP hD hS hl
  have i_X6 : ∀ w ∈ u_ws RX6 TX6 7, w ∈ wsX6_kinds := (fun _ h => List.mem_cons_of_mem _ (List.mem_append_left _ (List.mem_append_left _ (List.mem_append_right _ h))))
  have i_X1 : ∀ w ∈ u_ws RX1 TX1 7, w ∈ wsX6_kinds := (fun _ h => List.mem_cons_of_mem _ (List.mem_append_left _ (List.mem_append_right _ h)))
  have f_20 := hts (.fieldLink RX6 20 "BellNames" "herd" "LBellNames$Herd;") (by decide +kernel)
  have f_27 := hts (.fieldLink RX6 27 "BellNames" "readings" "LBellNames$Readings;") (by decide +kernel)
  have f_89 := hts (.fieldLink RX6 89 "BellNames$Herd" "noteOf" "[I") (by decide +kernel)
  have f_106 := hts (.fieldLink RX6 106 "BellNames$Herd" "wind" "I") (by decide +kernel)
  have hl : lv_has ls 4 [(0, .ref (ad 0)), (1, .int x1)] := hl
  unfold F_X6_kinds at hR
  refine lv_aload_n hx hb dX6_kinds_0 rfl (lv_at hl 0 rfl) ?_
  refine bw_get (ci := 5) (v := .ref (ad 10)) (C := RX6) (T := TX6) (N := 7) hx hb hts i_X6 hown hK hP 0 rfl rfl 1 (by decide) f_20 rfl dX6_kinds_1 ?_
  refine lv_iload_n hx hb dX6_kinds_4 rfl (lv_at hl 1 rfl) ?_
  obtain ⟨v_1, e_1, hR⟩ := b1_some hR
  refine bc_z (va_runV (As := [.int x1]) (rest := []) ⟨hx, hb, hml, hown, hts⟩ (c_X1_hasBell l D cI cO ad _ e_1) (cwV 1 hts gX6_kinds_X1_hasBell rfl rfl rfl (by decide +kernel) ⟨Nat.le_of_ble_eq_true rfl, Nat.le_of_ble_eq_true rfl⟩) (preV hK hN hP hD (va_recv hK hP (ci := 1) (q0 := 10) rfl rfl)) rfl rfl hl.1 rfl (lv_room (Nat.le_of_ble_eq_true rfl)) dX6_kinds_5 ⟨Nat.zero_le _, Nat.zero_le _⟩) hS hD hA (fun H locs hP hD hS n_1 => ?_)
  refine lv_if_ne (tgt := 13) hx hb dX6_kinds_8 (by decide) (fun c_2 => ?_) (fun c_2 => ?_)
  · have hR := (if_neg c_2).symm.trans hR
    refine lv_iconst (v := 0) hx hb dX6_kinds_13 (by decide) ?_
    refine lv_istore_n (lv' := [(2, .int 0), (0, .ref (ad 0)), (1, .int x1)]) hx hb dX6_kinds_14 rfl hl (by decide) rfl (fun ls hl => ?_)
    refine lv_iconst (v := 0) hx hb dX6_kinds_15 (by decide) ?_
    refine lv_istore_n (lv' := [(3, .int 0), (2, .int 0), (0, .ref (ad 0)), (1, .int x1)]) hx hb dX6_kinds_16 rfl hl (by decide) rfl (fun ls hl => ?_)
    have lp_17 : ∀ (n_17 : Nat) (y2_17 : Int32) (y3_17 : Int32) (H : Heap) (locs : List Loc) (ls : Array Slot), L_X6_kinds_17 st x1 (fun y2_17 y3_17 => some y2_17) n_17 y2_17 y3_17 = some r → va_P D vwCl (BW cI cO ad st) H → va_D A (BW cI cO ad st) → va_S A s.heap H locs → lv_has ls 4 [(0, .ref (ad 0)), (1, .int x1), (2, .int y2_17), (3, .int y3_17)] → W p l e rm_X6_kinds s m args below meth c H locs 0 0 Q (F0 m 17 ls []) := by
      intro n_17
      induction n_17 with
      | zero => intro y2_17 y3_17 H locs ls hR; exact absurd (L_X6_kinds_17_z.symm.trans hR) (fun h => nomatch h)
      | succ n_17 ih_17 =>
        intro y2_17 y3_17 H locs ls hR hP hD hS hl
        have hR := L_X6_kinds_17_s.symm.trans hR
        refine lv_iload_n hx hb dX6_kinds_17 rfl (lv_at hl 3 rfl) ?_
        refine lv_iconst (v := 3) hx hb dX6_kinds_18 (by decide) ?_
        refine lv_icmp_ge (tgt := 66) hx hb dX6_kinds_19 (by decide) (fun c_3 => ?_) (fun c_3 => ?_)
        · have hR := (if_pos c_3).symm.trans hR
          refine lv_iload_n hx hb dX6_kinds_66 rfl (lv_at hl 2 rfl) ?_
          exact ret_ _ _ _ _ _ _ dX6_kinds_67  (Option.some.inj hR) rfl hP hD hS
        · have hR := (if_neg c_3).symm.trans hR
          refine lv_aload_n hx hb dX6_kinds_22 rfl (lv_at hl 0 rfl) ?_
          refine bw_get (ci := 5) (v := .ref (ad 15)) (C := RX6) (T := TX6) (N := 7) hx hb hts i_X6 hown hK hP 0 rfl rfl 2 (by decide) f_27 rfl dX6_kinds_23 ?_
          refine lv_aload_n hx hb dX6_kinds_26 rfl (lv_at hl 0 rfl) ?_
          refine bw_get (ci := 5) (v := .ref (ad 10)) (C := RX6) (T := TX6) (N := 7) hx hb hts i_X6 hown hK hP 0 rfl rfl 1 (by decide) f_20 rfl dX6_kinds_27 ?_
          refine lv_iload_n hx hb dX6_kinds_30 rfl (lv_at hl 1 rfl) ?_
          refine lv_iload_n hx hb dX6_kinds_31 rfl (lv_at hl 3 rfl) ?_
          refine lv_aload_n hx hb dX6_kinds_32 rfl (lv_at hl 0 rfl) ?_
          refine bw_get (ci := 5) (v := .ref (ad 10)) (C := RX6) (T := TX6) (N := 7) hx hb hts i_X6 hown hK hP 0 rfl rfl 1 (by decide) f_20 rfl dX6_kinds_33 ?_
          refine bw_get (ci := 1) (v := .ref (ad 12)) (C := RX1) (T := TX1) (N := 7) hx hb hts i_X1 hown hK hP 10 rfl rfl 1 (by decide) f_89 rfl dX6_kinds_36 ?_
          refine lv_iload_n hx hb dX6_kinds_39 rfl (lv_at hl 1 rfl) ?_
          obtain ⟨h_4, hR⟩ := ck_some hR
          refine bw_ald (v := gA st 1 x1) hx hb hK hP 12 rfl h_4 rfl dX6_kinds_40 ?_
          refine lv_aload_n hx hb dX6_kinds_41 rfl (lv_at hl 0 rfl) ?_
          refine bw_get (ci := 5) (v := .ref (ad 10)) (C := RX6) (T := TX6) (N := 7) hx hb hts i_X6 hown hK hP 0 rfl rfl 1 (by decide) f_20 rfl dX6_kinds_42 ?_
          refine bw_get (ci := 1) (v := .int (gI st 3)) (C := RX1) (T := TX1) (N := 7) hx hb hts i_X1 hown hK hP 10 rfl rfl 5 (by decide) f_106 rfl dX6_kinds_45 ?_
          obtain ⟨v_5, e_5, hR⟩ := b1_some hR
          refine bc_z (va_runV (As := [.ref (ad 10), .int x1, .int y3_17, .int (gA st 1 x1), .int (gI st 3)]) (rest := []) ⟨hx, hb, hml, hown, hts⟩ (c_X2_areSo l D cI cO ad _ e_5) (cwV 5 hts gX6_kinds_X2_areSo rfl rfl rfl (by decide +kernel) ⟨Nat.le_of_ble_eq_true rfl, Nat.le_of_ble_eq_true rfl⟩) (preV hK hN hP hD (va_recv hK hP (ci := 2) (q0 := 15) rfl rfl)) rfl rfl hl.1 rfl (lv_room (Nat.le_of_ble_eq_true rfl)) dX6_kinds_48 ⟨Nat.zero_le _, Nat.zero_le _⟩) hS hD hA (fun H locs hP hD hS n_5 => ?_)
          refine lv_if_eq (tgt := 60) hx hb dX6_kinds_51 (by decide) (fun c_6 => ?_) (fun c_6 => ?_)
          · have hR := (if_pos c_6).symm.trans hR
            refine lv_iinc (v := y3_17 + 1) (lv' := [(3, .int (y3_17 + 1)), (0, .ref (ad 0)), (1, .int x1), (2, .int y2_17)]) hx hb dX6_kinds_60 hl (k := 3) rfl rfl (by decide) rfl (fun ls hl => ?_)
            refine lv_goto (tgt := 17) hx hb dX6_kinds_63 (by decide) ?_
            exact ih_17 _ _ _ _ _ hR hP hD hS (lv_sub hl [1, 2, 3, 0] rfl)
          · have hR := (if_neg c_6).symm.trans hR
            refine lv_iload_n hx hb dX6_kinds_54 rfl (lv_at hl 2 rfl) ?_
            refine lv_iconst (v := 1) hx hb dX6_kinds_55 (by decide) ?_
            refine lv_iload_n hx hb dX6_kinds_56 rfl (lv_at hl 3 rfl) ?_
            refine lv_ishl hx hb dX6_kinds_57 ?_
            refine W.eq (g2 := F0 m 58 ls (.int (jshl 1 y3_17) :: [.int y2_17])) rfl ?_
            refine lv_ior hx hb dX6_kinds_58 ?_
            refine lv_istore_n (lv' := [(2, .int (y2_17 ||| (jshl 1 y3_17))), (0, .ref (ad 0)), (1, .int x1), (3, .int y3_17)]) hx hb dX6_kinds_59 rfl hl (by decide) rfl (fun ls hl => ?_)
            refine lv_iinc (v := y3_17 + 1) (lv' := [(3, .int (y3_17 + 1)), (2, .int (y2_17 ||| (jshl 1 y3_17))), (0, .ref (ad 0)), (1, .int x1)]) hx hb dX6_kinds_60 hl (k := 3) rfl rfl (by decide) rfl (fun ls hl => ?_)
            refine lv_goto (tgt := 17) hx hb dX6_kinds_63 (by decide) ?_
            exact ih_17 _ _ _ _ _ hR hP hD hS (lv_sub hl [2, 3, 1, 0] rfl)
    exact lp_17 _ _ _ _ _ _ hR hP hD hS (lv_sub hl [2, 3, 1, 0] rfl)
  · have hR := (if_pos c_2).symm.trans hR
    refine lv_iconst (v := (-1)) hx hb dX6_kinds_11 (by decide) ?_
    exact ret_ _ _ _ _ _ _ dX6_kinds_12  (Option.some.inj hR) rfl hP hD hS
abbrev rm_X6_winds : Room := { frames := 3, cells := 0, slots := 0, locals := 74 }
set_option maxHeartbeats 4000000 in
set_option maxRecDepth 100000 in
theorem c_X6_winds (l : Launch) (D : va_G) (cI cO : ClassId) (ad : Nat → Nat) (sz : Nat) {st : St} {r : Int32} (hR : F_X6_winds st = some r) : CI l yX6_winds wsX6_winds rm_X6_winds D cI cO [.ref (ad 0)] (BW cI cO ad st) (BW cI cO ad st) sz r := by
  refine mk_i (cc := cX6_winds) (maxL := 3) (own := RX6) rfl (by decide) rfl (Nat.le_of_ble_eq_true rfl) ?_
  intro p e s m args below meth c A Q ls hx hb hml hown hts hK hN hA ret_ hP hD hS hl
  have i_X6 : ∀ w ∈ u_ws RX6 TX6 7, w ∈ wsX6_winds := (fun _ h => List.mem_cons_of_mem _ (List.mem_append_left _ (List.mem_append_left _ (List.mem_append_right _ h))))
  have i_X1 : ∀ w ∈ u_ws RX1 TX1 7, w ∈ wsX6_winds := (fun _ h => List.mem_cons_of_mem _ (List.mem_append_left _ (List.mem_append_right _ h)))
  have f_20 := hts (.fieldLink RX6 20 "BellNames" "herd" "LBellNames$Herd;") (by decide +kernel)
  have f_27 := hts (.fieldLink RX6 27 "BellNames" "readings" "LBellNames$Readings;") (by decide +kernel)
  have f_85 := hts (.fieldLink RX6 85 "BellNames$Herd" "kindOf" "[I") (by decide +kernel)
  have f_89 := hts (.fieldLink RX6 89 "BellNames$Herd" "noteOf" "[I") (by decide +kernel)
  have hl : lv_has ls 3 [(0, .ref (ad 0))] := hl
  unfold F_X6_winds at hR
  refine lv_aload_n hx hb dX6_winds_0 rfl (lv_at hl 0 rfl) ?_
  refine bw_get (ci := 5) (v := .ref (ad 10)) (C := RX6) (T := TX6) (N := 7) hx hb hts i_X6 hown hK hP 0 rfl rfl 1 (by decide) f_20 rfl dX6_winds_1 ?_
  obtain ⟨v_1, e_1, hR⟩ := b1_some hR
  refine bc_z (va_runV (As := []) (rest := []) ⟨hx, hb, hml, hown, hts⟩ (c_X1_isNone l D cI cO ad _ e_1) (cwV 0 hts gX6_winds_X1_isNone rfl rfl rfl (by decide +kernel) ⟨Nat.le_of_ble_eq_true rfl, Nat.le_of_ble_eq_true rfl⟩) (preV hK hN hP hD (va_recv hK hP (ci := 1) (q0 := 10) rfl rfl)) rfl rfl hl.1 rfl (lv_room (Nat.le_of_ble_eq_true rfl)) dX6_winds_4 ⟨Nat.zero_le _, Nat.zero_le _⟩) hS hD hA (fun H locs hP hD hS n_1 => ?_)
  refine lv_if_eq (tgt := 13) hx hb dX6_winds_7 (by decide) (fun c_2 => ?_) (fun c_2 => ?_)
  · have hR := (if_pos c_2).symm.trans hR
    refine lv_iconst (v := 0) hx hb dX6_winds_13 (by decide) ?_
    refine lv_istore_n (lv' := [(1, .int 0), (0, .ref (ad 0))]) hx hb dX6_winds_14 rfl hl (by decide) rfl (fun ls hl => ?_)
    refine lv_iconst (v := 0) hx hb dX6_winds_15 (by decide) ?_
    refine lv_istore_n (lv' := [(2, .int 0), (1, .int 0), (0, .ref (ad 0))]) hx hb dX6_winds_16 rfl hl (by decide) rfl (fun ls hl => ?_)
    have lp_17 : ∀ (n_17 : Nat) (y1_17 : Int32) (y2_17 : Int32) (H : Heap) (locs : List Loc) (ls : Array Slot), L_X6_winds_17 st (fun y1_17 y2_17 => some y1_17) n_17 y1_17 y2_17 = some r → va_P D vwCl (BW cI cO ad st) H → va_D A (BW cI cO ad st) → va_S A s.heap H locs → lv_has ls 3 [(0, .ref (ad 0)), (1, .int y1_17), (2, .int y2_17)] → W p l e rm_X6_winds s m args below meth c H locs 0 0 Q (F0 m 17 ls []) := by
      intro n_17
      induction n_17 with
      | zero => intro y1_17 y2_17 H locs ls hR; exact absurd (L_X6_winds_17_z.symm.trans hR) (fun h => nomatch h)
      | succ n_17 ih_17 =>
        intro y1_17 y2_17 H locs ls hR hP hD hS hl
        have hR := L_X6_winds_17_s.symm.trans hR
        refine lv_iload_n hx hb dX6_winds_17 rfl (lv_at hl 2 rfl) ?_
        refine lv_iconst (v := 3) hx hb dX6_winds_18 (by decide) ?_
        refine lv_icmp_ge (tgt := 68) hx hb dX6_winds_19 (by decide) (fun c_3 => ?_) (fun c_3 => ?_)
        · have hR := (if_pos c_3).symm.trans hR
          refine lv_iload_n hx hb dX6_winds_68 rfl (lv_at hl 1 rfl) ?_
          exact ret_ _ _ _ _ _ _ dX6_winds_69  (Option.some.inj hR) rfl hP hD hS
        · have hR := (if_neg c_3).symm.trans hR
          refine lv_aload_n hx hb dX6_winds_22 rfl (lv_at hl 0 rfl) ?_
          refine bw_get (ci := 5) (v := .ref (ad 15)) (C := RX6) (T := TX6) (N := 7) hx hb hts i_X6 hown hK hP 0 rfl rfl 2 (by decide) f_27 rfl dX6_winds_23 ?_
          refine lv_aload_n hx hb dX6_winds_26 rfl (lv_at hl 0 rfl) ?_
          refine bw_get (ci := 5) (v := .ref (ad 10)) (C := RX6) (T := TX6) (N := 7) hx hb hts i_X6 hown hK hP 0 rfl rfl 1 (by decide) f_20 rfl dX6_winds_27 ?_
          refine lv_iconst (v := 0) hx hb dX6_winds_30 (by decide) ?_
          refine lv_aload_n hx hb dX6_winds_31 rfl (lv_at hl 0 rfl) ?_
          refine bw_get (ci := 5) (v := .ref (ad 10)) (C := RX6) (T := TX6) (N := 7) hx hb hts i_X6 hown hK hP 0 rfl rfl 1 (by decide) f_20 rfl dX6_winds_32 ?_
          refine bw_get (ci := 1) (v := .ref (ad 11)) (C := RX1) (T := TX1) (N := 7) hx hb hts i_X1 hown hK hP 10 rfl rfl 0 (by decide) f_85 rfl dX6_winds_35 ?_
          refine lv_iconst (v := 0) hx hb dX6_winds_38 (by decide) ?_
          obtain ⟨h_4, hR⟩ := ck_some hR
          refine bw_ald (v := gA st 0 0) hx hb hK hP 11 rfl h_4 rfl dX6_winds_39 ?_
          refine lv_aload_n hx hb dX6_winds_40 rfl (lv_at hl 0 rfl) ?_
          refine bw_get (ci := 5) (v := .ref (ad 10)) (C := RX6) (T := TX6) (N := 7) hx hb hts i_X6 hown hK hP 0 rfl rfl 1 (by decide) f_20 rfl dX6_winds_41 ?_
          refine bw_get (ci := 1) (v := .ref (ad 12)) (C := RX1) (T := TX1) (N := 7) hx hb hts i_X1 hown hK hP 10 rfl rfl 1 (by decide) f_89 rfl dX6_winds_44 ?_
          refine lv_iconst (v := 0) hx hb dX6_winds_47 (by decide) ?_
          obtain ⟨h_5, hR⟩ := ck_some hR
          refine bw_ald (v := gA st 1 0) hx hb hK hP 12 rfl h_5 rfl dX6_winds_48 ?_
          refine lv_iload_n hx hb dX6_winds_49 rfl (lv_at hl 2 rfl) ?_
          obtain ⟨v_6, e_6, hR⟩ := b1_some hR
          refine bc_z (va_runV (As := [.ref (ad 10), .int 0, .int (gA st 0 0), .int (gA st 1 0), .int y2_17]) (rest := []) ⟨hx, hb, hml, hown, hts⟩ (c_X2_areSo l D cI cO ad _ e_6) (cwV 5 hts gX6_winds_X2_areSo rfl rfl rfl (by decide +kernel) ⟨Nat.le_of_ble_eq_true rfl, Nat.le_of_ble_eq_true rfl⟩) (preV hK hN hP hD (va_recv hK hP (ci := 2) (q0 := 15) rfl rfl)) rfl rfl hl.1 rfl (lv_room (Nat.le_of_ble_eq_true rfl)) dX6_winds_50 ⟨Nat.zero_le _, Nat.zero_le _⟩) hS hD hA (fun H locs hP hD hS n_6 => ?_)
          refine lv_if_eq (tgt := 62) hx hb dX6_winds_53 (by decide) (fun c_7 => ?_) (fun c_7 => ?_)
          · have hR := (if_pos c_7).symm.trans hR
            refine lv_iinc (v := y2_17 + 1) (lv' := [(2, .int (y2_17 + 1)), (0, .ref (ad 0)), (1, .int y1_17)]) hx hb dX6_winds_62 hl (k := 2) rfl rfl (by decide) rfl (fun ls hl => ?_)
            refine lv_goto (tgt := 17) hx hb dX6_winds_65 (by decide) ?_
            exact ih_17 _ _ _ _ _ hR hP hD hS (lv_sub hl [1, 2, 0] rfl)
          · have hR := (if_neg c_7).symm.trans hR
            refine lv_iload_n hx hb dX6_winds_56 rfl (lv_at hl 1 rfl) ?_
            refine lv_iconst (v := 1) hx hb dX6_winds_57 (by decide) ?_
            refine lv_iload_n hx hb dX6_winds_58 rfl (lv_at hl 2 rfl) ?_
            refine lv_ishl hx hb dX6_winds_59 ?_
            refine W.eq (g2 := F0 m 60 ls (.int (jshl 1 y2_17) :: [.int y1_17])) rfl ?_
            refine lv_ior hx hb dX6_winds_60 ?_
            refine lv_istore_n (lv' := [(1, .int (y1_17 ||| (jshl 1 y2_17))), (0, .ref (ad 0)), (2, .int y2_17)]) hx hb dX6_winds_61 rfl hl (by decide) rfl (fun ls hl => ?_)
            refine lv_iinc (v := y2_17 + 1) (lv' := [(2, .int (y2_17 + 1)), (1, .int (y1_17 ||| (jshl 1 y2_17))), (0, .ref (ad 0))]) hx hb dX6_winds_62 hl (k := 2) rfl rfl (by decide) rfl (fun ls hl => ?_)
            refine lv_goto (tgt := 17) hx hb dX6_winds_65 (by decide) ?_
            exact ih_17 _ _ _ _ _ hR hP hD hS (lv_sub hl [2, 1, 0] rfl)
    exact lp_17 _ _ _ _ _ _ hR hP hD hS (lv_sub hl [2, 1, 0] rfl)
  · have hR := (if_neg c_2).symm.trans hR
    refine lv_bipush (v := (-3)) hx hb dX6_winds_10 (by decide) ?_
    exact ret_ _ _ _ _ _ _ dX6_winds_12  (Option.some.inj hR) rfl hP hD hS
abbrev rm_X6_odds : Room := { frames := 4, cells := 0, slots := 0, locals := 91 }
set_option maxHeartbeats 4000000 in
set_option maxRecDepth 100000 in
theorem c_X6_odds (l : Launch) (D : va_G) (cI cO : ClassId) (ad : Nat → Nat) (sz : Nat) {st : St} {x1 : Int32} {x2 : Int32} {x3 : Int32} {r : Int64} (hR : F_X6_odds st x1 x2 x3 = some r) : CL l yX6_odds wsX6_odds rm_X6_odds D cI cO [.ref (ad 0), .int x1, .int x2, .int x3] (BW cI cO ad st) (BW cI cO ad st) sz r := by
  refine mk_l (cc := cX6_odds) (maxL := 7) (own := RX6) rfl (by decide) rfl (Nat.le_of_ble_eq_true rfl) ?_
  intro p e s m args below meth c A Q ls hx hb hml hown hts hK hN hA ret_ hP hD hS hl
  have i_X6 : ∀ w ∈ u_ws RX6 TX6 7, w ∈ wsX6_odds := (fun _ h => List.mem_cons_of_mem _ (List.mem_append_left _ (List.mem_append_right _ h)))
  have i_X1 : ∀ w ∈ u_ws RX1 TX1 7, w ∈ wsX6_odds := (fun _ h => List.mem_cons_of_mem _ (List.mem_append_right _ h))
  have k_174 := hts (.constantLong RX6 174 (-9223372036854775808)) (by decide +kernel)
  have f_20 := hts (.fieldLink RX6 20 "BellNames" "herd" "LBellNames$Herd;") (by decide +kernel)
  have f_80 := hts (.fieldLink RX6 80 "BellNames$Herd" "count" "I") (by decide +kernel)
  have hl : lv_has ls 7 [(0, .ref (ad 0)), (1, .int x1), (2, .int x2), (3, .int x3)] := hl
  unfold F_X6_odds at hR
  refine lv_iload_n hx hb dX6_odds_0 rfl (lv_at hl 1 rfl) ?_
  refine lv_bipush (v := 10) hx hb dX6_odds_1 (by decide) ?_
  obtain ⟨v_1, e_1, hR⟩ := b1_some hR
  refine bc_z (va_runS (As := [.int x1, .int 10]) (rest := []) ⟨hx, hb, hml, hown, hts⟩ (c_X6_isBelow l D cI cO ad _ e_1) (va_cwS 2 hts gX6_odds_X6_isBelow rfl rfl rfl (by decide +kernel) ⟨Nat.le_of_ble_eq_true rfl, Nat.le_of_ble_eq_true rfl⟩) (preS hK hN hP hD) rfl rfl hl.1 rfl (lv_room (Nat.le_of_ble_eq_true rfl)) dX6_odds_3 ⟨Nat.zero_le _, Nat.zero_le _⟩) hS hD hA (fun H locs hP hD hS n_1 => ?_)
  refine lv_if_eq (tgt := 26) hx hb dX6_odds_6 (by decide) (fun c_2 => ?_) (fun c_2 => ?_)
  · have hR := (if_pos c_2).symm.trans hR
    refine lv_ldc2 hx hb hown k_174 dX6_odds_26 ?_
    exact ret_ _ _ _ _ _ _ dX6_odds_29  (Option.some.inj hR) rfl hP hD hS
  · have hR := (if_neg c_2).symm.trans hR
    refine lv_iload_n hx hb dX6_odds_9 rfl (lv_at hl 2 rfl) ?_
    refine lv_bipush (v := 20) hx hb dX6_odds_10 (by decide) ?_
    obtain ⟨v_3, e_3, hR⟩ := b1_some hR
    refine bc_z (va_runS (As := [.int x2, .int 20]) (rest := []) ⟨hx, hb, hml, hown, hts⟩ (c_X6_isBelow l D cI cO ad _ e_3) (va_cwS 2 hts gX6_odds_X6_isBelow rfl rfl rfl (by decide +kernel) ⟨Nat.le_of_ble_eq_true rfl, Nat.le_of_ble_eq_true rfl⟩) (preS hK hN hP hD) rfl rfl hl.1 rfl (lv_room (Nat.le_of_ble_eq_true rfl)) dX6_odds_12 ⟨Nat.zero_le _, Nat.zero_le _⟩) hS hD hA (fun H locs hP hD hS n_3 => ?_)
    refine lv_if_eq (tgt := 26) hx hb dX6_odds_15 (by decide) (fun c_4 => ?_) (fun c_4 => ?_)
    · have hR := (if_pos c_4).symm.trans hR
      refine lv_ldc2 hx hb hown k_174 dX6_odds_26 ?_
      exact ret_ _ _ _ _ _ _ dX6_odds_29  (Option.some.inj hR) rfl hP hD hS
    · have hR := (if_neg c_4).symm.trans hR
      refine lv_iload_n hx hb dX6_odds_18 rfl (lv_at hl 3 rfl) ?_
      refine lv_iconst (v := 2) hx hb dX6_odds_19 (by decide) ?_
      obtain ⟨v_5, e_5, hR⟩ := b1_some hR
      refine bc_z (va_runS (As := [.int x3, .int 2]) (rest := []) ⟨hx, hb, hml, hown, hts⟩ (c_X6_isBelow l D cI cO ad _ e_5) (va_cwS 2 hts gX6_odds_X6_isBelow rfl rfl rfl (by decide +kernel) ⟨Nat.le_of_ble_eq_true rfl, Nat.le_of_ble_eq_true rfl⟩) (preS hK hN hP hD) rfl rfl hl.1 rfl (lv_room (Nat.le_of_ble_eq_true rfl)) dX6_odds_20 ⟨Nat.zero_le _, Nat.zero_le _⟩) hS hD hA (fun H locs hP hD hS n_5 => ?_)
      refine lv_if_ne (tgt := 30) hx hb dX6_odds_23 (by decide) (fun c_6 => ?_) (fun c_6 => ?_)
      · have hR := (if_neg c_6).symm.trans hR
        refine lv_aload_n hx hb dX6_odds_30 rfl (lv_at hl 0 rfl) ?_
        refine bw_get (ci := 5) (v := .ref (ad 10)) (C := RX6) (T := TX6) (N := 7) hx hb hts i_X6 hown hK hP 0 rfl rfl 1 (by decide) f_20 rfl dX6_odds_31 ?_
        obtain ⟨v_7, e_7, hR⟩ := b1_some hR
        refine bc_z (va_runV (As := []) (rest := []) ⟨hx, hb, hml, hown, hts⟩ (c_X1_isNone l D cI cO ad _ e_7) (cwV 0 hts gX6_odds_X1_isNone rfl rfl rfl (by decide +kernel) ⟨Nat.le_of_ble_eq_true rfl, Nat.le_of_ble_eq_true rfl⟩) (preV hK hN hP hD (va_recv hK hP (ci := 1) (q0 := 10) rfl rfl)) rfl rfl hl.1 rfl (lv_room (Nat.le_of_ble_eq_true rfl)) dX6_odds_34 ⟨Nat.zero_le _, Nat.zero_le _⟩) hS hD hA (fun H locs hP hD hS n_7 => ?_)
        refine lv_if_eq (tgt := 44) hx hb dX6_odds_37 (by decide) (fun c_8 => ?_) (fun c_8 => ?_)
        · have hR := (if_pos c_8).symm.trans hR
          refine lv_iconst (v := 1) hx hb dX6_odds_44 (by decide) ?_
          refine lv_istore (lv' := [(4, .int 1), (0, .ref (ad 0)), (1, .int x1), (2, .int x2), (3, .int x3)]) hx hb dX6_odds_45 hl (by decide) rfl (fun ls hl => ?_)
          refine lv_iconst (v := 1) hx hb dX6_odds_47 (by decide) ?_
          refine lv_istore (lv' := [(5, .int 1), (4, .int 1), (0, .ref (ad 0)), (1, .int x1), (2, .int x2), (3, .int x3)]) hx hb dX6_odds_48 hl (by decide) rfl (fun ls hl => ?_)
          refine lv_iconst (v := 0) hx hb dX6_odds_50 (by decide) ?_
          refine lv_istore (lv' := [(6, .int 0), (5, .int 1), (4, .int 1), (0, .ref (ad 0)), (1, .int x1), (2, .int x2), (3, .int x3)]) hx hb dX6_odds_51 hl (by decide) rfl (fun ls hl => ?_)
          have lp_53 : ∀ (n_53 : Nat) (y4_53 : Int32) (y5_53 : Int32) (y6_53 : Int32) (H : Heap) (locs : List Loc) (ls : Array Slot), L_X6_odds_53 st x1 x2 (fun y4_53 y5_53 y6_53 => L_X6_odds_114 (fun y4_114 y6_114 => if x3 = 0 then some y6_114.toInt64 else some y4_114.toInt64) 70 y4_53 (y4_53 - y5_53)) n_53 y4_53 y5_53 y6_53 = some r → va_P D vwCl (BW cI cO ad st) H → va_D A (BW cI cO ad st) → va_S A s.heap H locs → lv_has ls 7 [(0, .ref (ad 0)), (1, .int x1), (2, .int x2), (3, .int x3), (4, .int y4_53), (5, .int y5_53), (6, .int y6_53)] → W p l e rm_X6_odds s m args below meth c H locs 0 0 Q (F0 m 53 ls []) := by
            intro n_53
            induction n_53 with
            | zero => intro y4_53 y5_53 y6_53 H locs ls hR; exact absurd (L_X6_odds_53_z.symm.trans hR) (fun h => nomatch h)
            | succ n_53 ih_53 =>
              intro y4_53 y5_53 y6_53 H locs ls hR hP hD hS hl
              have hR := L_X6_odds_53_s.symm.trans hR
              refine lv_iload hx hb dX6_odds_53 (lv_at hl 6 rfl) ?_
              refine lv_aload_n hx hb dX6_odds_55 rfl (lv_at hl 0 rfl) ?_
              refine bw_get (ci := 5) (v := .ref (ad 10)) (C := RX6) (T := TX6) (N := 7) hx hb hts i_X6 hown hK hP 0 rfl rfl 1 (by decide) f_20 rfl dX6_odds_56 ?_
              refine bw_get (ci := 1) (v := .int (gI st 2)) (C := RX1) (T := TX1) (N := 7) hx hb hts i_X1 hown hK hP 10 rfl rfl 4 (by decide) f_80 rfl dX6_odds_59 ?_
              refine lv_icmp_ge (tgt := 107) hx hb dX6_odds_62 (by decide) (fun c_9 => ?_) (fun c_9 => ?_)
              · have hR := (if_pos c_9).symm.trans hR
                refine lv_iload hx hb dX6_odds_107 (lv_at hl 4 rfl) ?_
                refine lv_iload hx hb dX6_odds_109 (lv_at hl 5 rfl) ?_
                refine lv_isub hx hb dX6_odds_111 ?_
                refine lv_istore (lv' := [(6, .int (y4_53 - y5_53)), (0, .ref (ad 0)), (1, .int x1), (2, .int x2), (3, .int x3), (4, .int y4_53), (5, .int y5_53)]) hx hb dX6_odds_112 hl (by decide) rfl (fun ls hl => ?_)
                have lp_114 : ∀ (n_114 : Nat) (y4_114 : Int32) (y6_114 : Int32) (H : Heap) (locs : List Loc) (ls : Array Slot), L_X6_odds_114 (fun y4_114 y6_114 => if x3 = 0 then some y6_114.toInt64 else some y4_114.toInt64) n_114 y4_114 y6_114 = some r → va_P D vwCl (BW cI cO ad st) H → va_D A (BW cI cO ad st) → va_S A s.heap H locs → lv_has ls 7 [(3, .int x3), (4, .int y4_114), (6, .int y6_114)] → W p l e rm_X6_odds s m args below meth c H locs 0 0 Q (F0 m 114 ls []) := by
                  intro n_114
                  induction n_114 with
                  | zero => intro y4_114 y6_114 H locs ls hR; exact absurd (L_X6_odds_114_z.symm.trans hR) (fun h => nomatch h)
                  | succ n_114 ih_114 =>
                    intro y4_114 y6_114 H locs ls hR hP hD hS hl
                    have hR := L_X6_odds_114_s.symm.trans hR
                    refine lv_iload hx hb dX6_odds_114 (lv_at hl 1 rfl) ?_
                    refine lv_iconst (v := 1) hx hb dX6_odds_116 (by decide) ?_
                    refine lv_icmp_le (tgt := 142) hx hb dX6_odds_117 (by decide) (fun c_10 => ?_) (fun c_10 => ?_)
                    · have hR := (if_pos c_10).symm.trans hR
                      refine lv_iload_n hx hb dX6_odds_142 rfl (lv_at hl 0 rfl) ?_
                      refine lv_if_ne (tgt := 152) hx hb dX6_odds_143 (by decide) (fun c_11 => ?_) (fun c_11 => ?_)
                      · have hR := (if_neg c_11).symm.trans hR
                        refine lv_iload hx hb dX6_odds_152 (lv_at hl 1 rfl) ?_
                        refine lv_i2l (v := y4_114.toInt64) hx hb dX6_odds_154 rfl ?_
                        exact ret_ _ _ _ _ _ _ dX6_odds_155  (Option.some.inj hR) rfl hP hD hS
                      · have hR := (if_pos c_11).symm.trans hR
                        refine lv_iload hx hb dX6_odds_146 (lv_at hl 2 rfl) ?_
                        refine lv_i2l (v := y6_114.toInt64) hx hb dX6_odds_148 rfl ?_
                        refine lv_goto (tgt := 155) hx hb dX6_odds_149 (by decide) ?_
                        exact ret_ _ _ _ _ _ _ dX6_odds_155  (Option.some.inj hR) rfl hP hD hS
                    · have hR := (if_neg c_10).symm.trans hR
                      refine lv_iload hx hb dX6_odds_120 (lv_at hl 2 rfl) ?_
                      refine lv_iconst (v := 2) hx hb dX6_odds_122 (by decide) ?_
                      refine lv_irem hx hb dX6_odds_123 (by decide) ?_
                      refine W.eq (g2 := F0 m 124 ls (.int (jrem y6_114 2) :: [])) rfl ?_
                      refine lv_if_ne (tgt := 142) hx hb dX6_odds_124 (by decide) (fun c_13 => ?_) (fun c_13 => ?_)
                      · have hR := (if_neg c_13).symm.trans hR
                        refine lv_iload_n hx hb dX6_odds_142 rfl (lv_at hl 0 rfl) ?_
                        refine lv_if_ne (tgt := 152) hx hb dX6_odds_143 (by decide) (fun c_14 => ?_) (fun c_14 => ?_)
                        · have hR := (if_neg c_14).symm.trans hR
                          refine lv_iload hx hb dX6_odds_152 (lv_at hl 1 rfl) ?_
                          refine lv_i2l (v := y4_114.toInt64) hx hb dX6_odds_154 rfl ?_
                          exact ret_ _ _ _ _ _ _ dX6_odds_155  (Option.some.inj hR) rfl hP hD hS
                        · have hR := (if_pos c_14).symm.trans hR
                          refine lv_iload hx hb dX6_odds_146 (lv_at hl 2 rfl) ?_
                          refine lv_i2l (v := y6_114.toInt64) hx hb dX6_odds_148 rfl ?_
                          refine lv_goto (tgt := 155) hx hb dX6_odds_149 (by decide) ?_
                          exact ret_ _ _ _ _ _ _ dX6_odds_155  (Option.some.inj hR) rfl hP hD hS
                      · have hR := (if_pos c_13).symm.trans hR
                        refine lv_iload hx hb dX6_odds_127 (lv_at hl 2 rfl) ?_
                        refine lv_iconst (v := 2) hx hb dX6_odds_129 (by decide) ?_
                        refine lv_idiv hx hb dX6_odds_130 (by decide) ?_
                        refine lv_istore (lv' := [(6, .int (y6_114 / 2)), (3, .int x3), (4, .int y4_114)]) hx hb dX6_odds_131 hl (by decide) rfl (fun ls hl => ?_)
                        refine lv_iload hx hb dX6_odds_133 (lv_at hl 2 rfl) ?_
                        refine lv_iconst (v := 2) hx hb dX6_odds_135 (by decide) ?_
                        refine lv_idiv hx hb dX6_odds_136 (by decide) ?_
                        refine lv_istore (lv' := [(4, .int (y4_114 / 2)), (6, .int (y6_114 / 2)), (3, .int x3)]) hx hb dX6_odds_137 hl (by decide) rfl (fun ls hl => ?_)
                        refine lv_goto (tgt := 114) hx hb dX6_odds_139 (by decide) ?_
                        exact ih_114 _ _ _ _ _ hR hP hD hS (lv_sub hl [2, 0, 1] rfl)
                exact lp_114 _ _ _ _ _ _ hR hP hD hS (lv_sub hl [4, 5, 0] rfl)
              · have hR := (if_neg c_9).symm.trans hR
                refine lv_aload_n hx hb dX6_odds_65 rfl (lv_at hl 0 rfl) ?_
                refine bw_get (ci := 5) (v := .ref (ad 10)) (C := RX6) (T := TX6) (N := 7) hx hb hts i_X6 hown hK hP 0 rfl rfl 1 (by decide) f_20 rfl dX6_odds_66 ?_
                refine lv_iload hx hb dX6_odds_69 (lv_at hl 6 rfl) ?_
                refine lv_iload_n hx hb dX6_odds_71 rfl (lv_at hl 1 rfl) ?_
                obtain ⟨v_17, e_17, hR⟩ := b1_some hR
                refine bc_z (va_runV (As := [.int y6_53, .int x1]) (rest := []) ⟨hx, hb, hml, hown, hts⟩ (c_X1_isHeard l D cI cO ad _ e_17) (cwV 2 hts gX6_odds_X1_isHeard rfl rfl rfl (by decide +kernel) ⟨Nat.le_of_ble_eq_true rfl, Nat.le_of_ble_eq_true rfl⟩) (preV hK hN hP hD (va_recv hK hP (ci := 1) (q0 := 10) rfl rfl)) rfl rfl hl.1 rfl (lv_room (Nat.le_of_ble_eq_true rfl)) dX6_odds_72 ⟨Nat.zero_le _, Nat.zero_le _⟩) hS hD hA (fun H locs hP hD hS n_17 => ?_)
                refine lv_if_eq (tgt := 101) hx hb dX6_odds_75 (by decide) (fun c_18 => ?_) (fun c_18 => ?_)
                · have hR := (if_pos c_18).symm.trans hR
                  refine lv_iinc (v := y6_53 + 1) (lv' := [(6, .int (y6_53 + 1)), (0, .ref (ad 0)), (1, .int x1), (2, .int x2), (3, .int x3), (4, .int y4_53), (5, .int y5_53)]) hx hb dX6_odds_101 hl (k := 6) rfl rfl (by decide) rfl (fun ls hl => ?_)
                  refine lv_goto (tgt := 53) hx hb dX6_odds_104 (by decide) ?_
                  exact ih_53 _ _ _ _ _ _ hR hP hD hS (lv_sub hl [1, 2, 3, 4, 5, 6, 0] rfl)
                · have hR := (if_neg c_18).symm.trans hR
                  refine lv_iload hx hb dX6_odds_78 (lv_at hl 4 rfl) ?_
                  refine lv_iconst (v := 4) hx hb dX6_odds_80 (by decide) ?_
                  refine lv_imul hx hb dX6_odds_81 ?_
                  refine lv_istore (lv' := [(4, .int (y4_53 * 4)), (0, .ref (ad 0)), (1, .int x1), (2, .int x2), (3, .int x3), (5, .int y5_53), (6, .int y6_53)]) hx hb dX6_odds_82 hl (by decide) rfl (fun ls hl => ?_)
                  refine lv_iload hx hb dX6_odds_84 (lv_at hl 5 rfl) ?_
                  refine lv_iconst (v := 4) hx hb dX6_odds_86 (by decide) ?_
                  refine lv_aload_n hx hb dX6_odds_87 rfl (lv_at hl 1 rfl) ?_
                  refine bw_get (ci := 5) (v := .ref (ad 10)) (C := RX6) (T := TX6) (N := 7) hx hb hts i_X6 hown hK hP 0 rfl rfl 1 (by decide) f_20 rfl dX6_odds_88 ?_
                  refine lv_iload hx hb dX6_odds_91 (lv_at hl 6 rfl) ?_
                  refine lv_iload_n hx hb dX6_odds_93 rfl (lv_at hl 3 rfl) ?_
                  obtain ⟨v_19, e_19, hR⟩ := b1_some hR
                  refine bc_i (va_runV (As := [.int y6_53, .int x2]) (rest := [.int 4, .int y5_53]) ⟨hx, hb, hml, hown, hts⟩ (c_X1_moodsSounding l D cI cO ad _ e_19) (cwV 2 hts gX6_odds_X1_moodsSounding rfl rfl rfl (by decide +kernel) ⟨Nat.le_of_ble_eq_true rfl, Nat.le_of_ble_eq_true rfl⟩) (preV hK hN hP hD (va_recv hK hP (ci := 1) (q0 := 10) rfl rfl)) rfl rfl hl.1 rfl (lv_room (Nat.le_of_ble_eq_true rfl)) dX6_odds_94 ⟨Nat.zero_le _, Nat.zero_le _⟩) hS hD hA (fun H locs hP hD hS => ?_)
                  refine lv_isub hx hb dX6_odds_97 ?_
                  refine lv_imul hx hb dX6_odds_98 ?_
                  refine lv_istore (lv' := [(5, .int (y5_53 * (4 - v_19))), (4, .int (y4_53 * 4)), (0, .ref (ad 0)), (1, .int x1), (2, .int x2), (3, .int x3), (6, .int y6_53)]) hx hb dX6_odds_99 hl (by decide) rfl (fun ls hl => ?_)
                  refine lv_iinc (v := y6_53 + 1) (lv' := [(6, .int (y6_53 + 1)), (5, .int (y5_53 * (4 - v_19))), (4, .int (y4_53 * 4)), (0, .ref (ad 0)), (1, .int x1), (2, .int x2), (3, .int x3)]) hx hb dX6_odds_101 hl (k := 6) rfl rfl (by decide) rfl (fun ls hl => ?_)
                  refine lv_goto (tgt := 53) hx hb dX6_odds_104 (by decide) ?_
                  exact ih_53 _ _ _ _ _ _ hR hP hD hS (lv_sub hl [3, 4, 5, 6, 2, 1, 0] rfl)
          exact lp_53 _ _ _ _ _ _ _ hR hP hD hS (lv_sub hl [3, 4, 5, 6, 2, 1, 0] rfl)
        · have hR := (if_neg c_8).symm.trans hR
          refine lv_ldc2 hx hb hown k_174 dX6_odds_40 ?_
          exact ret_ _ _ _ _ _ _ dX6_odds_43  (Option.some.inj hR) rfl hP hD hS
      · have hR := (if_pos c_6).symm.trans hR
        refine lv_ldc2 hx hb hown k_174 dX6_odds_26 ?_
        exact ret_ _ _ _ _ _ _ dX6_odds_29  (Option.some.inj hR) rfl hP hD hS
abbrev rm_X6_sheet : Room := { frames := 1, cells := 0, slots := 0, locals := 23 }
set_option maxHeartbeats 4000000 in
set_option maxRecDepth 100000 in
theorem c_X6_sheet (l : Launch) (D : va_G) (cI cO : ClassId) (ad : Nat → Nat) (sz : Nat) {st : St} {x1 : Int32} {x2 : Int32} {x3 : Int32} {r : Int32} {s2 : St} (hR : F_X6_sheet st x1 x2 x3 = some (r, s2)) : CI l yX6_sheet wsX6_sheet rm_X6_sheet D cI cO [.ref (ad 0), .int x1, .int x2, .int x3] (BW cI cO ad st) (BW cI cO ad s2) sz r := by
  refine mk_i (cc := cX6_sheet) (maxL := 4) (own := RX6) rfl (by decide) rfl (Nat.le_of_ble_eq_true rfl) ?_
  intro p e s m args below meth c A Q ls hx hb hml hown hts hK hN hA ret_ hP hD hS hl
  have i_X6 : ∀ w ∈ u_ws RX6 TX6 7, w ∈ wsX6_sheet := (fun _ h => List.mem_cons_of_mem _ (List.mem_append_left _ (List.mem_append_right _ h)))
  have f_49 := hts (.fieldLink RX6 49 "BellNames" "lastFault" "I") (by decide +kernel)
  have f_13 := hts (.fieldLink RX6 13 "BellNames" "sheets" "[LBellNames$Sheet;") (by decide +kernel)
  have hl : lv_has ls 4 [(0, .ref (ad 0)), (1, .int x1), (2, .int x2), (3, .int x3)] := hl
  unfold F_X6_sheet at hR
  refine lv_aload_n hx hb dX6_sheet_0 rfl (lv_at hl 0 rfl) ?_
  refine lv_iconst (v := 0) hx hb dX6_sheet_1 (by decide) ?_
  refine bw_put (w' := (BW cI cO ad (sI st 1 0))) (ci := 5) (C := RX6) (T := TX6) (N := 7) hx hb hts i_X6 tyX6 tyX6_ok nmX6 hown hK hP hD hS 0 rfl rfl 6 (by decide) f_49 rfl rfl (Nat.le_of_ble_eq_true rfl) (BW_i1 cI cO ad _ _) dX6_sheet_2 (fun H locs hP hD hS => ?_)
  refine lv_iload_n hx hb dX6_sheet_5 rfl (lv_at hl 1 rfl) ?_
  refine lv_iconst (v := 4) hx hb dX6_sheet_6 (by decide) ?_
  obtain ⟨v_1, e_1, hR⟩ := b1_some hR
  refine bc_z (va_runS (As := [.int x1, .int 4]) (rest := []) ⟨hx, hb, hml, hown, hts⟩ (c_X6_isBelow l D cI cO ad _ e_1) (va_cwS 2 hts gX6_sheet_X6_isBelow rfl rfl rfl (by decide +kernel) ⟨Nat.le_of_ble_eq_true rfl, Nat.le_of_ble_eq_true rfl⟩) (preS hK hN hP hD) rfl rfl hl.1 rfl (lv_room (Nat.le_of_ble_eq_true rfl)) dX6_sheet_7 ⟨Nat.zero_le _, Nat.zero_le _⟩) hS hD hA (fun H locs hP hD hS n_1 => ?_)
  refine lv_if_ne (tgt := 15) hx hb dX6_sheet_10 (by decide) (fun c_2 => ?_) (fun c_2 => ?_)
  · have hR := (if_neg c_2).symm.trans hR
    refine lv_iload_n hx hb dX6_sheet_15 rfl (lv_at hl 2 rfl) ?_
    refine lv_iconst (v := 3) hx hb dX6_sheet_16 (by decide) ?_
    obtain ⟨v_3, e_3, hR⟩ := b1_some hR
    refine bc_z (va_runS (As := [.int x2, .int 3]) (rest := []) ⟨hx, hb, hml, hown, hts⟩ (c_X6_isBelow l D cI cO ad _ e_3) (va_cwS 2 hts gX6_sheet_X6_isBelow rfl rfl rfl (by decide +kernel) ⟨Nat.le_of_ble_eq_true rfl, Nat.le_of_ble_eq_true rfl⟩) (preS hK hN hP hD) rfl rfl hl.1 rfl (lv_room (Nat.le_of_ble_eq_true rfl)) dX6_sheet_17 ⟨Nat.zero_le _, Nat.zero_le _⟩) hS hD hA (fun H locs hP hD hS n_3 => ?_)
    refine lv_if_eq (tgt := 29) hx hb dX6_sheet_20 (by decide) (fun c_4 => ?_) (fun c_4 => ?_)
    · have hR := (if_pos c_4).symm.trans hR
      refine lv_bipush (v := (-2)) hx hb dX6_sheet_29 (by decide) ?_
      exact ret_ _ _ _ _ _ _ dX6_sheet_31  (sp1 hR) (congrArg (fun z => (BW cI cO ad z)) (sp2 hR)) hP hD hS
    · have hR := (if_neg c_4).symm.trans hR
      refine lv_iload_n hx hb dX6_sheet_23 rfl (lv_at hl 3 rfl) ?_
      refine lv_bipush (v := 60) hx hb dX6_sheet_24 (by decide) ?_
      refine lv_icmp_le (tgt := 32) hx hb dX6_sheet_26 (by decide) (fun c_5 => ?_) (fun c_5 => ?_)
      · have hR := (if_pos c_5).symm.trans hR
        refine lv_iload_n hx hb dX6_sheet_32 rfl (lv_at hl 3 rfl) ?_
        refine lv_if_ge (tgt := 42) hx hb dX6_sheet_33 (by decide) (fun c_6 => ?_) (fun c_6 => ?_)
        · have hR := (if_pos c_6).symm.trans hR
          refine lv_aload_n hx hb dX6_sheet_42 rfl (lv_at hl 0 rfl) ?_
          refine bw_get (ci := 5) (v := .ref (ad 1)) (C := RX6) (T := TX6) (N := 7) hx hb hts i_X6 hown hK hP 0 rfl rfl 0 (by decide) f_13 rfl dX6_sheet_43 ?_
          refine lv_iload_n hx hb dX6_sheet_46 rfl (lv_at hl 1 rfl) ?_
          obtain ⟨h_7, hR⟩ := ck_some hR
          refine bw_shl (a2 := ad (2 + x1.toNatClampNeg)) hx hb hK hP 1 rfl h_7 rfl dX6_sheet_47 ?_
          refine lv_iload_n hx hb dX6_sheet_48 rfl (lv_at hl 2 rfl) ?_
          refine lv_iload_n hx hb dX6_sheet_49 rfl (lv_at hl 3 rfl) ?_
          obtain ⟨s_8, e_8, hR⟩ := b1_some hR
          refine bc_v (va_runV (As := [.int x2, .int x3]) (rest := []) ⟨hx, hb, hml, hown, hts⟩ (c_X3_renew l D cI cO ad _ (in_lt h_7) e_8) (cwV 2 hts gX6_sheet_X3_renew rfl rfl rfl (by decide +kernel) ⟨Nat.le_of_ble_eq_true rfl, Nat.le_of_ble_eq_true rfl⟩) (preV hK hN hP hD (va_recv hK hP (ci := 3) (q0 := (2 + x1.toNatClampNeg)) rfl (BW_sheet cI cO ad _ (in_lt h_7)))) rfl rfl hl.1 rfl (lv_room (Nat.le_of_ble_eq_true rfl)) dX6_sheet_50 ⟨Nat.zero_le _, Nat.zero_le _⟩) hS hD hA (fun H locs hP hD hS => ?_)
          refine lv_iconst (v := 1) hx hb dX6_sheet_53 (by decide) ?_
          exact ret_ _ _ _ _ _ _ dX6_sheet_54  (sp1 hR) (congrArg (fun z => (BW cI cO ad z)) (sp2 hR)) hP hD hS
        · have hR := (if_neg c_6).symm.trans hR
          refine lv_aload_n hx hb dX6_sheet_36 rfl (lv_at hl 0 rfl) ?_
          refine lv_iconst (v := 4) hx hb dX6_sheet_37 (by decide) ?_
          obtain ⟨v_9, s_9, e_9, hR⟩ := b2_some hR
          refine bc_i (va_runV (As := [.int 4]) (rest := []) ⟨hx, hb, hml, hown, hts⟩ (c_X6_failBy l D cI cO ad _ e_9) (cwV 1 hts gX6_sheet_X6_failBy rfl rfl rfl (by decide +kernel) ⟨Nat.le_of_ble_eq_true rfl, Nat.le_of_ble_eq_true rfl⟩) (preV hK hN hP hD (va_recv hK hP (ci := 5) (q0 := 0) rfl rfl)) rfl rfl hl.1 rfl (lv_room (Nat.le_of_ble_eq_true rfl)) dX6_sheet_38 ⟨Nat.zero_le _, Nat.zero_le _⟩) hS hD hA (fun H locs hP hD hS => ?_)
          exact ret_ _ _ _ _ _ _ dX6_sheet_41  (sp1 hR) (congrArg (fun z => (BW cI cO ad z)) (sp2 hR)) hP hD hS
      · have hR := (if_neg c_5).symm.trans hR
        refine lv_bipush (v := (-2)) hx hb dX6_sheet_29 (by decide) ?_
        exact ret_ _ _ _ _ _ _ dX6_sheet_31  (sp1 hR) (congrArg (fun z => (BW cI cO ad z)) (sp2 hR)) hP hD hS
  · have hR := (if_pos c_2).symm.trans hR
    refine lv_iconst (v := (-1)) hx hb dX6_sheet_13 (by decide) ?_
    exact ret_ _ _ _ _ _ _ dX6_sheet_14  (sp1 hR) (congrArg (fun z => (BW cI cO ad z)) (sp2 hR)) hP hD hS
abbrev rm_X6_lose : Room := { frames := 1, cells := 0, slots := 0, locals := 21 }
set_option maxHeartbeats 4000000 in
set_option maxRecDepth 100000 in
theorem c_X6_lose (l : Launch) (D : va_G) (cI cO : ClassId) (ad : Nat → Nat) (sz : Nat) {st : St} {x1 : Int32} {r : Int32} {s2 : St} (hR : F_X6_lose st x1 = some (r, s2)) : CI l yX6_lose wsX6_lose rm_X6_lose D cI cO [.ref (ad 0), .int x1] (BW cI cO ad st) (BW cI cO ad s2) sz r := by
  refine mk_i (cc := cX6_lose) (maxL := 2) (own := RX6) rfl (by decide) rfl (Nat.le_of_ble_eq_true rfl) ?_
  intro p e s m args below meth c A Q ls hx hb hml hown hts hK hN hA ret_ hP hD hS hl
  have i_X6 : ∀ w ∈ u_ws RX6 TX6 7, w ∈ wsX6_lose := (fun _ h => List.mem_cons_of_mem _ (List.mem_append_left _ (List.mem_append_right _ h)))
  have f_13 := hts (.fieldLink RX6 13 "BellNames" "sheets" "[LBellNames$Sheet;") (by decide +kernel)
  have hl : lv_has ls 2 [(0, .ref (ad 0)), (1, .int x1)] := hl
  unfold F_X6_lose at hR
  refine lv_iload_n hx hb dX6_lose_0 rfl (lv_at hl 1 rfl) ?_
  refine lv_iconst (v := 4) hx hb dX6_lose_1 (by decide) ?_
  obtain ⟨v_1, e_1, hR⟩ := b1_some hR
  refine bc_z (va_runS (As := [.int x1, .int 4]) (rest := []) ⟨hx, hb, hml, hown, hts⟩ (c_X6_isBelow l D cI cO ad _ e_1) (va_cwS 2 hts gX6_lose_X6_isBelow rfl rfl rfl (by decide +kernel) ⟨Nat.le_of_ble_eq_true rfl, Nat.le_of_ble_eq_true rfl⟩) (preS hK hN hP hD) rfl rfl hl.1 rfl (lv_room (Nat.le_of_ble_eq_true rfl)) dX6_lose_2 ⟨Nat.zero_le _, Nat.zero_le _⟩) hS hD hA (fun H locs hP hD hS n_1 => ?_)
  refine lv_if_ne (tgt := 10) hx hb dX6_lose_5 (by decide) (fun c_2 => ?_) (fun c_2 => ?_)
  · have hR := (if_neg c_2).symm.trans hR
    refine lv_aload_n hx hb dX6_lose_10 rfl (lv_at hl 0 rfl) ?_
    refine bw_get (ci := 5) (v := .ref (ad 1)) (C := RX6) (T := TX6) (N := 7) hx hb hts i_X6 hown hK hP 0 rfl rfl 0 (by decide) f_13 rfl dX6_lose_11 ?_
    refine lv_iload_n hx hb dX6_lose_14 rfl (lv_at hl 1 rfl) ?_
    obtain ⟨h_3, hR⟩ := ck_some hR
    refine bw_shl (a2 := ad (2 + x1.toNatClampNeg)) hx hb hK hP 1 rfl h_3 rfl dX6_lose_15 ?_
    obtain ⟨v_4, e_4, hR⟩ := b1_some hR
    refine bc_z (va_runV (As := []) (rest := []) ⟨hx, hb, hml, hown, hts⟩ (c_X3_hasNothing l D cI cO ad _ (in_lt h_3) e_4) (cwV 0 hts gX6_lose_X3_hasNothing rfl rfl rfl (by decide +kernel) ⟨Nat.le_of_ble_eq_true rfl, Nat.le_of_ble_eq_true rfl⟩) (preV hK hN hP hD (va_recv hK hP (ci := 3) (q0 := (2 + x1.toNatClampNeg)) rfl (BW_sheet cI cO ad _ (in_lt h_3)))) rfl rfl hl.1 rfl (lv_room (Nat.le_of_ble_eq_true rfl)) dX6_lose_16 ⟨Nat.zero_le _, Nat.zero_le _⟩) hS hD hA (fun H locs hP hD hS n_4 => ?_)
    refine lv_if_eq (tgt := 24) hx hb dX6_lose_19 (by decide) (fun c_5 => ?_) (fun c_5 => ?_)
    · have hR := (if_pos c_5).symm.trans hR
      refine lv_aload_n hx hb dX6_lose_24 rfl (lv_at hl 0 rfl) ?_
      refine bw_get (ci := 5) (v := .ref (ad 1)) (C := RX6) (T := TX6) (N := 7) hx hb hts i_X6 hown hK hP 0 rfl rfl 0 (by decide) f_13 rfl dX6_lose_25 ?_
      refine lv_iload_n hx hb dX6_lose_28 rfl (lv_at hl 1 rfl) ?_
      obtain ⟨h_6, hR⟩ := ck_some hR
      refine bw_shl (a2 := ad (2 + x1.toNatClampNeg)) hx hb hK hP 1 rfl h_6 rfl dX6_lose_29 ?_
      obtain ⟨s_7, e_7, hR⟩ := b1_some hR
      refine bc_v (va_runV (As := []) (rest := []) ⟨hx, hb, hml, hown, hts⟩ (c_X3_drop l D cI cO ad _ (in_lt h_6) e_7) (cwV 0 hts gX6_lose_X3_drop rfl rfl rfl (by decide +kernel) ⟨Nat.le_of_ble_eq_true rfl, Nat.le_of_ble_eq_true rfl⟩) (preV hK hN hP hD (va_recv hK hP (ci := 3) (q0 := (2 + x1.toNatClampNeg)) rfl (BW_sheet cI cO ad _ (in_lt h_6)))) rfl rfl hl.1 rfl (lv_room (Nat.le_of_ble_eq_true rfl)) dX6_lose_30 ⟨Nat.zero_le _, Nat.zero_le _⟩) hS hD hA (fun H locs hP hD hS => ?_)
      refine lv_iconst (v := 1) hx hb dX6_lose_33 (by decide) ?_
      exact ret_ _ _ _ _ _ _ dX6_lose_34  (sp1 hR) (congrArg (fun z => (BW cI cO ad z)) (sp2 hR)) hP hD hS
    · have hR := (if_neg c_5).symm.trans hR
      refine lv_iconst (v := 0) hx hb dX6_lose_22 (by decide) ?_
      exact ret_ _ _ _ _ _ _ dX6_lose_23  (sp1 hR) (congrArg (fun z => (BW cI cO ad z)) (sp2 hR)) hP hD hS
  · have hR := (if_pos c_2).symm.trans hR
    refine lv_iconst (v := (-1)) hx hb dX6_lose_8 (by decide) ?_
    exact ret_ _ _ _ _ _ _ dX6_lose_9  (sp1 hR) (congrArg (fun z => (BW cI cO ad z)) (sp2 hR)) hP hD hS
abbrev rm_X6_put : Room := { frames := 1, cells := 0, slots := 0, locals := 22 }
set_option maxHeartbeats 4000000 in
set_option maxRecDepth 100000 in
theorem c_X6_put (l : Launch) (D : va_G) (cI cO : ClassId) (ad : Nat → Nat) (sz : Nat) {st : St} {x1 : Int32} {x2 : Int32} {x3 : Int32} {r : Int32} {s2 : St} (hR : F_X6_put st x1 x2 x3 = some (r, s2)) : CI l yX6_put wsX6_put rm_X6_put D cI cO [.ref (ad 0), .int x1, .int x2, .int x3] (BW cI cO ad st) (BW cI cO ad s2) sz r := by
  refine mk_i (cc := cX6_put) (maxL := 4) (own := RX6) rfl (by decide) rfl (Nat.le_of_ble_eq_true rfl) ?_
  intro p e s m args below meth c A Q ls hx hb hml hown hts hK hN hA ret_ hP hD hS hl
  have i_X6 : ∀ w ∈ u_ws RX6 TX6 7, w ∈ wsX6_put := (fun _ h => List.mem_cons_of_mem _ (List.mem_append_left _ (List.mem_append_right _ h)))
  have f_49 := hts (.fieldLink RX6 49 "BellNames" "lastFault" "I") (by decide +kernel)
  have f_13 := hts (.fieldLink RX6 13 "BellNames" "sheets" "[LBellNames$Sheet;") (by decide +kernel)
  have hl : lv_has ls 4 [(0, .ref (ad 0)), (1, .int x1), (2, .int x2), (3, .int x3)] := hl
  unfold F_X6_put at hR
  refine lv_aload_n hx hb dX6_put_0 rfl (lv_at hl 0 rfl) ?_
  refine lv_iconst (v := 0) hx hb dX6_put_1 (by decide) ?_
  refine bw_put (w' := (BW cI cO ad (sI st 1 0))) (ci := 5) (C := RX6) (T := TX6) (N := 7) hx hb hts i_X6 tyX6 tyX6_ok nmX6 hown hK hP hD hS 0 rfl rfl 6 (by decide) f_49 rfl rfl (Nat.le_of_ble_eq_true rfl) (BW_i1 cI cO ad _ _) dX6_put_2 (fun H locs hP hD hS => ?_)
  refine lv_iload_n hx hb dX6_put_5 rfl (lv_at hl 1 rfl) ?_
  refine lv_iconst (v := 4) hx hb dX6_put_6 (by decide) ?_
  obtain ⟨v_1, e_1, hR⟩ := b1_some hR
  refine bc_z (va_runS (As := [.int x1, .int 4]) (rest := []) ⟨hx, hb, hml, hown, hts⟩ (c_X6_isBelow l D cI cO ad _ e_1) (va_cwS 2 hts gX6_put_X6_isBelow rfl rfl rfl (by decide +kernel) ⟨Nat.le_of_ble_eq_true rfl, Nat.le_of_ble_eq_true rfl⟩) (preS hK hN hP hD) rfl rfl hl.1 rfl (lv_room (Nat.le_of_ble_eq_true rfl)) dX6_put_7 ⟨Nat.zero_le _, Nat.zero_le _⟩) hS hD hA (fun H locs hP hD hS n_1 => ?_)
  refine lv_if_ne (tgt := 15) hx hb dX6_put_10 (by decide) (fun c_2 => ?_) (fun c_2 => ?_)
  · have hR := (if_neg c_2).symm.trans hR
    refine lv_aload_n hx hb dX6_put_15 rfl (lv_at hl 0 rfl) ?_
    refine bw_get (ci := 5) (v := .ref (ad 1)) (C := RX6) (T := TX6) (N := 7) hx hb hts i_X6 hown hK hP 0 rfl rfl 0 (by decide) f_13 rfl dX6_put_16 ?_
    refine lv_iload_n hx hb dX6_put_19 rfl (lv_at hl 1 rfl) ?_
    obtain ⟨h_3, hR⟩ := ck_some hR
    refine bw_shl (a2 := ad (2 + x1.toNatClampNeg)) hx hb hK hP 1 rfl h_3 rfl dX6_put_20 ?_
    obtain ⟨v_4, e_4, hR⟩ := b1_some hR
    refine bc_z (va_runV (As := []) (rest := []) ⟨hx, hb, hml, hown, hts⟩ (c_X3_hasNothing l D cI cO ad _ (in_lt h_3) e_4) (cwV 0 hts gX6_put_X3_hasNothing rfl rfl rfl (by decide +kernel) ⟨Nat.le_of_ble_eq_true rfl, Nat.le_of_ble_eq_true rfl⟩) (preV hK hN hP hD (va_recv hK hP (ci := 3) (q0 := (2 + x1.toNatClampNeg)) rfl (BW_sheet cI cO ad _ (in_lt h_3)))) rfl rfl hl.1 rfl (lv_room (Nat.le_of_ble_eq_true rfl)) dX6_put_21 ⟨Nat.zero_le _, Nat.zero_le _⟩) hS hD hA (fun H locs hP hD hS n_4 => ?_)
    refine lv_if_eq (tgt := 33) hx hb dX6_put_24 (by decide) (fun c_5 => ?_) (fun c_5 => ?_)
    · have hR := (if_pos c_5).symm.trans hR
      refine lv_aload_n hx hb dX6_put_33 rfl (lv_at hl 0 rfl) ?_
      refine bw_get (ci := 5) (v := .ref (ad 1)) (C := RX6) (T := TX6) (N := 7) hx hb hts i_X6 hown hK hP 0 rfl rfl 0 (by decide) f_13 rfl dX6_put_34 ?_
      refine lv_iload_n hx hb dX6_put_37 rfl (lv_at hl 1 rfl) ?_
      obtain ⟨h_6, hR⟩ := ck_some hR
      refine bw_shl (a2 := ad (2 + x1.toNatClampNeg)) hx hb hK hP 1 rfl h_6 rfl dX6_put_38 ?_
      refine lv_iload_n hx hb dX6_put_39 rfl (lv_at hl 2 rfl) ?_
      refine lv_iconst (v := 1) hx hb dX6_put_40 (by decide) ?_
      obtain ⟨v_7, e_7, hR⟩ := b1_some hR
      refine bc_z (va_runV (As := [.int x2, .int 1]) (rest := []) ⟨hx, hb, hml, hown, hts⟩ (c_X3_hasCells l D cI cO ad _ (in_lt h_6) e_7) (cwV 2 hts gX6_put_X3_hasCells rfl rfl rfl (by decide +kernel) ⟨Nat.le_of_ble_eq_true rfl, Nat.le_of_ble_eq_true rfl⟩) (preV hK hN hP hD (va_recv hK hP (ci := 3) (q0 := (2 + x1.toNatClampNeg)) rfl (BW_sheet cI cO ad _ (in_lt h_6)))) rfl rfl hl.1 rfl (lv_room (Nat.le_of_ble_eq_true rfl)) dX6_put_41 ⟨Nat.zero_le _, Nat.zero_le _⟩) hS hD hA (fun H locs hP hD hS n_7 => ?_)
      refine lv_if_ne (tgt := 53) hx hb dX6_put_44 (by decide) (fun c_8 => ?_) (fun c_8 => ?_)
      · have hR := (if_neg c_8).symm.trans hR
        refine lv_aload_n hx hb dX6_put_53 rfl (lv_at hl 0 rfl) ?_
        refine bw_get (ci := 5) (v := .ref (ad 1)) (C := RX6) (T := TX6) (N := 7) hx hb hts i_X6 hown hK hP 0 rfl rfl 0 (by decide) f_13 rfl dX6_put_54 ?_
        refine lv_iload_n hx hb dX6_put_57 rfl (lv_at hl 1 rfl) ?_
        obtain ⟨h_9, hR⟩ := ck_some hR
        refine bw_shl (a2 := ad (2 + x1.toNatClampNeg)) hx hb hK hP 1 rfl h_9 rfl dX6_put_58 ?_
        refine lv_iload_n hx hb dX6_put_59 rfl (lv_at hl 2 rfl) ?_
        refine lv_iload_n hx hb dX6_put_60 rfl (lv_at hl 3 rfl) ?_
        obtain ⟨s_10, e_10, hR⟩ := b1_some hR
        refine bc_v (va_runV (As := [.int x2, .int x3]) (rest := []) ⟨hx, hb, hml, hown, hts⟩ (c_X3_write l D cI cO ad _ (in_lt h_9) e_10) (cwV 2 hts gX6_put_X3_write rfl rfl rfl (by decide +kernel) ⟨Nat.le_of_ble_eq_true rfl, Nat.le_of_ble_eq_true rfl⟩) (preV hK hN hP hD (va_recv hK hP (ci := 3) (q0 := (2 + x1.toNatClampNeg)) rfl (BW_sheet cI cO ad _ (in_lt h_9)))) rfl rfl hl.1 rfl (lv_room (Nat.le_of_ble_eq_true rfl)) dX6_put_61 ⟨Nat.zero_le _, Nat.zero_le _⟩) hS hD hA (fun H locs hP hD hS => ?_)
        refine lv_iconst (v := 1) hx hb dX6_put_64 (by decide) ?_
        exact ret_ _ _ _ _ _ _ dX6_put_65  (sp1 hR) (congrArg (fun z => (BW cI cO ad z)) (sp2 hR)) hP hD hS
      · have hR := (if_pos c_8).symm.trans hR
        refine lv_aload_n hx hb dX6_put_47 rfl (lv_at hl 0 rfl) ?_
        refine lv_iconst (v := 3) hx hb dX6_put_48 (by decide) ?_
        obtain ⟨v_11, s_11, e_11, hR⟩ := b2_some hR
        refine bc_i (va_runV (As := [.int 3]) (rest := []) ⟨hx, hb, hml, hown, hts⟩ (c_X6_failBy l D cI cO ad _ e_11) (cwV 1 hts gX6_put_X6_failBy rfl rfl rfl (by decide +kernel) ⟨Nat.le_of_ble_eq_true rfl, Nat.le_of_ble_eq_true rfl⟩) (preV hK hN hP hD (va_recv hK hP (ci := 5) (q0 := 0) rfl rfl)) rfl rfl hl.1 rfl (lv_room (Nat.le_of_ble_eq_true rfl)) dX6_put_49 ⟨Nat.zero_le _, Nat.zero_le _⟩) hS hD hA (fun H locs hP hD hS => ?_)
        exact ret_ _ _ _ _ _ _ dX6_put_52  (sp1 hR) (congrArg (fun z => (BW cI cO ad z)) (sp2 hR)) hP hD hS
    · have hR := (if_neg c_5).symm.trans hR
      refine lv_aload_n hx hb dX6_put_27 rfl (lv_at hl 0 rfl) ?_
      refine lv_iconst (v := 1) hx hb dX6_put_28 (by decide) ?_
      obtain ⟨v_12, s_12, e_12, hR⟩ := b2_some hR
      refine bc_i (va_runV (As := [.int 1]) (rest := []) ⟨hx, hb, hml, hown, hts⟩ (c_X6_failBy l D cI cO ad _ e_12) (cwV 1 hts gX6_put_X6_failBy rfl rfl rfl (by decide +kernel) ⟨Nat.le_of_ble_eq_true rfl, Nat.le_of_ble_eq_true rfl⟩) (preV hK hN hP hD (va_recv hK hP (ci := 5) (q0 := 0) rfl rfl)) rfl rfl hl.1 rfl (lv_room (Nat.le_of_ble_eq_true rfl)) dX6_put_29 ⟨Nat.zero_le _, Nat.zero_le _⟩) hS hD hA (fun H locs hP hD hS => ?_)
      exact ret_ _ _ _ _ _ _ dX6_put_32  (sp1 hR) (congrArg (fun z => (BW cI cO ad z)) (sp2 hR)) hP hD hS
  · have hR := (if_pos c_2).symm.trans hR
    refine lv_iconst (v := (-1)) hx hb dX6_put_13 (by decide) ?_
    exact ret_ _ _ _ _ _ _ dX6_put_14  (sp1 hR) (congrArg (fun z => (BW cI cO ad z)) (sp2 hR)) hP hD hS
abbrev rm_X6_cell : Room := { frames := 2, cells := 0, slots := 0, locals := 41 }
set_option maxHeartbeats 4000000 in
set_option maxRecDepth 100000 in
theorem c_X6_cell (l : Launch) (D : va_G) (cI cO : ClassId) (ad : Nat → Nat) (sz : Nat) {st : St} {x1 : Int32} {x2 : Int32} {x3 : Int32} {r : Int64} {s2 : St} (hR : F_X6_cell st x1 x2 x3 = some (r, s2)) : CL l yX6_cell wsX6_cell rm_X6_cell D cI cO [.ref (ad 0), .int x1, .int x2, .int x3] (BW cI cO ad st) (BW cI cO ad s2) sz r := by
  refine mk_l (cc := cX6_cell) (maxL := 5) (own := RX6) rfl (by decide) rfl (Nat.le_of_ble_eq_true rfl) ?_
  intro p e s m args below meth c A Q ls hx hb hml hown hts hK hN hA ret_ hP hD hS hl
  have i_X6 : ∀ w ∈ u_ws RX6 TX6 7, w ∈ wsX6_cell := (fun _ h => List.mem_cons_of_mem _ (List.mem_append_left _ (List.mem_append_right _ h)))
  have i_X3 : ∀ w ∈ u_ws RX3 TX3 3, w ∈ wsX6_cell := (fun _ h => List.mem_cons_of_mem _ (List.mem_append_right _ h))
  have f_49 := hts (.fieldLink RX6 49 "BellNames" "lastFault" "I") (by decide +kernel)
  have k_174 := hts (.constantLong RX6 174 (-9223372036854775808)) (by decide +kernel)
  have f_13 := hts (.fieldLink RX6 13 "BellNames" "sheets" "[LBellNames$Sheet;") (by decide +kernel)
  have f_189 := hts (.fieldLink RX6 189 "BellNames$Sheet" "row" "[I") (by decide +kernel)
  have hl : lv_has ls 5 [(0, .ref (ad 0)), (1, .int x1), (2, .int x2), (3, .int x3)] := hl
  unfold F_X6_cell at hR
  refine lv_aload_n hx hb dX6_cell_0 rfl (lv_at hl 0 rfl) ?_
  refine lv_iconst (v := 0) hx hb dX6_cell_1 (by decide) ?_
  refine bw_put (w' := (BW cI cO ad (sI st 1 0))) (ci := 5) (C := RX6) (T := TX6) (N := 7) hx hb hts i_X6 tyX6 tyX6_ok nmX6 hown hK hP hD hS 0 rfl rfl 6 (by decide) f_49 rfl rfl (Nat.le_of_ble_eq_true rfl) (BW_i1 cI cO ad _ _) dX6_cell_2 (fun H locs hP hD hS => ?_)
  refine lv_iload_n hx hb dX6_cell_5 rfl (lv_at hl 1 rfl) ?_
  refine lv_iconst (v := 4) hx hb dX6_cell_6 (by decide) ?_
  obtain ⟨v_1, e_1, hR⟩ := b1_some hR
  refine bc_z (va_runS (As := [.int x1, .int 4]) (rest := []) ⟨hx, hb, hml, hown, hts⟩ (c_X6_isBelow l D cI cO ad _ e_1) (va_cwS 2 hts gX6_cell_X6_isBelow rfl rfl rfl (by decide +kernel) ⟨Nat.le_of_ble_eq_true rfl, Nat.le_of_ble_eq_true rfl⟩) (preS hK hN hP hD) rfl rfl hl.1 rfl (lv_room (Nat.le_of_ble_eq_true rfl)) dX6_cell_7 ⟨Nat.zero_le _, Nat.zero_le _⟩) hS hD hA (fun H locs hP hD hS n_1 => ?_)
  refine lv_if_eq (tgt := 21) hx hb dX6_cell_10 (by decide) (fun c_2 => ?_) (fun c_2 => ?_)
  · have hR := (if_pos c_2).symm.trans hR
    refine lv_ldc2 hx hb hown k_174 dX6_cell_21 ?_
    exact ret_ _ _ _ _ _ _ dX6_cell_24  (sp1 hR) (congrArg (fun z => (BW cI cO ad z)) (sp2 hR)) hP hD hS
  · have hR := (if_neg c_2).symm.trans hR
    refine lv_iload_n hx hb dX6_cell_13 rfl (lv_at hl 3 rfl) ?_
    refine lv_iconst (v := 3) hx hb dX6_cell_14 (by decide) ?_
    obtain ⟨v_3, e_3, hR⟩ := b1_some hR
    refine bc_z (va_runS (As := [.int x3, .int 3]) (rest := []) ⟨hx, hb, hml, hown, hts⟩ (c_X6_isBelow l D cI cO ad _ e_3) (va_cwS 2 hts gX6_cell_X6_isBelow rfl rfl rfl (by decide +kernel) ⟨Nat.le_of_ble_eq_true rfl, Nat.le_of_ble_eq_true rfl⟩) (preS hK hN hP hD) rfl rfl hl.1 rfl (lv_room (Nat.le_of_ble_eq_true rfl)) dX6_cell_15 ⟨Nat.zero_le _, Nat.zero_le _⟩) hS hD hA (fun H locs hP hD hS n_3 => ?_)
    refine lv_if_ne (tgt := 25) hx hb dX6_cell_18 (by decide) (fun c_4 => ?_) (fun c_4 => ?_)
    · have hR := (if_neg c_4).symm.trans hR
      refine lv_aload_n hx hb dX6_cell_25 rfl (lv_at hl 0 rfl) ?_
      refine bw_get (ci := 5) (v := .ref (ad 1)) (C := RX6) (T := TX6) (N := 7) hx hb hts i_X6 hown hK hP 0 rfl rfl 0 (by decide) f_13 rfl dX6_cell_26 ?_
      refine lv_iload_n hx hb dX6_cell_29 rfl (lv_at hl 1 rfl) ?_
      obtain ⟨h_5, hR⟩ := ck_some hR
      refine bw_shl (a2 := ad (2 + x1.toNatClampNeg)) hx hb hK hP 1 rfl h_5 rfl dX6_cell_30 ?_
      refine lv_iload_n hx hb dX6_cell_31 rfl (lv_at hl 3 rfl) ?_
      obtain ⟨v_6, e_6, hR⟩ := b1_some hR
      refine bc_i (va_runV (As := [.int x3]) (rest := []) ⟨hx, hb, hml, hown, hts⟩ (c_X3_faultAs l D cI cO ad _ (in_lt h_5) e_6) (cwV 1 hts gX6_cell_X3_faultAs rfl rfl rfl (by decide +kernel) ⟨Nat.le_of_ble_eq_true rfl, Nat.le_of_ble_eq_true rfl⟩) (preV hK hN hP hD (va_recv hK hP (ci := 3) (q0 := (2 + x1.toNatClampNeg)) rfl (BW_sheet cI cO ad _ (in_lt h_5)))) rfl rfl hl.1 rfl (lv_room (Nat.le_of_ble_eq_true rfl)) dX6_cell_32 ⟨Nat.zero_le _, Nat.zero_le _⟩) hS hD hA (fun H locs hP hD hS => ?_)
      refine lv_istore (lv' := [(4, .int v_6), (0, .ref (ad 0)), (1, .int x1), (2, .int x2), (3, .int x3)]) hx hb dX6_cell_35 hl (by decide) rfl (fun ls hl => ?_)
      refine lv_iload hx hb dX6_cell_37 (lv_at hl 0 rfl) ?_
      refine lv_if_ne (tgt := 59) hx hb dX6_cell_39 (by decide) (fun c_7 => ?_) (fun c_7 => ?_)
      · have hR := (if_neg c_7).symm.trans hR
        refine lv_iload hx hb dX6_cell_59 (lv_at hl 0 rfl) ?_
        refine lv_if_eq (tgt := 74) hx hb dX6_cell_61 (by decide) (fun c_8 => ?_) (fun c_8 => ?_)
        · have hR := (if_pos c_8).symm.trans hR
          refine lv_aload_n hx hb dX6_cell_74 rfl (lv_at hl 1 rfl) ?_
          refine bw_get (ci := 5) (v := .ref (ad 1)) (C := RX6) (T := TX6) (N := 7) hx hb hts i_X6 hown hK hP 0 rfl rfl 0 (by decide) f_13 rfl dX6_cell_75 ?_
          refine lv_iload_n hx hb dX6_cell_78 rfl (lv_at hl 2 rfl) ?_
          obtain ⟨h_9, hR⟩ := ck_some hR
          refine bw_shl (a2 := ad (2 + x1.toNatClampNeg)) hx hb hK hP 1 rfl h_9 rfl dX6_cell_79 ?_
          refine bw_get (ci := 3) (v := .ref (ad (6 + x1.toNatClampNeg))) (C := RX3) (T := TX3) (N := 3) hx hb hts i_X3 hown hK hP (2 + x1.toNatClampNeg) (BW_sheet cI cO ad _ (in_lt h_9)) rfl 0 (by decide) f_189 rfl dX6_cell_80 ?_
          refine lv_iload_n hx hb dX6_cell_83 rfl (lv_at hl 3 rfl) ?_
          obtain ⟨h_10, hR⟩ := ck_some hR
          refine bw_ald (v := gA (sI st 1 0) (10 + x1.toNatClampNeg) x2) hx hb hK hP (6 + x1.toNatClampNeg) (BW_row cI cO ad _ (in_lt h_9)) h_10 rfl dX6_cell_84 ?_
          refine lv_i2l (v := (gA (sI st 1 0) (10 + x1.toNatClampNeg) x2).toInt64) hx hb dX6_cell_85 rfl ?_
          exact ret_ _ _ _ _ _ _ dX6_cell_86  (sp1 hR) (congrArg (fun z => (BW cI cO ad z)) (sp2 hR)) hP hD hS
        · have hR := (if_neg c_8).symm.trans hR
          refine lv_aload_n hx hb dX6_cell_64 rfl (lv_at hl 1 rfl) ?_
          refine lv_iload hx hb dX6_cell_65 (lv_at hl 0 rfl) ?_
          refine bw_put (w' := (BW cI cO ad (sI (sI st 1 0) 1 v_6))) (ci := 5) (C := RX6) (T := TX6) (N := 7) hx hb hts i_X6 tyX6 tyX6_ok nmX6 hown hK hP hD hS 0 rfl rfl 6 (by decide) f_49 rfl rfl (Nat.le_of_ble_eq_true rfl) (BW_i1 cI cO ad _ _) dX6_cell_67 (fun H locs hP hD hS => ?_)
          refine lv_ldc2 hx hb hown k_174 dX6_cell_70 ?_
          exact ret_ _ _ _ _ _ _ dX6_cell_73  (sp1 hR) (congrArg (fun z => (BW cI cO ad z)) (sp2 hR)) hP hD hS
      · have hR := (if_pos c_7).symm.trans hR
        refine lv_aload_n hx hb dX6_cell_42 rfl (lv_at hl 1 rfl) ?_
        refine bw_get (ci := 5) (v := .ref (ad 1)) (C := RX6) (T := TX6) (N := 7) hx hb hts i_X6 hown hK hP 0 rfl rfl 0 (by decide) f_13 rfl dX6_cell_43 ?_
        refine lv_iload_n hx hb dX6_cell_46 rfl (lv_at hl 2 rfl) ?_
        obtain ⟨h_11, hR⟩ := ck_some hR
        refine bw_shl (a2 := ad (2 + x1.toNatClampNeg)) hx hb hK hP 1 rfl h_11 rfl dX6_cell_47 ?_
        refine lv_iload_n hx hb dX6_cell_48 rfl (lv_at hl 3 rfl) ?_
        refine lv_iconst (v := 1) hx hb dX6_cell_49 (by decide) ?_
        obtain ⟨v_12, e_12, hR⟩ := b1_some hR
        refine bc_z (va_runV (As := [.int x2, .int 1]) (rest := []) ⟨hx, hb, hml, hown, hts⟩ (c_X3_hasCells l D cI cO ad _ (in_lt h_11) e_12) (cwV 2 hts gX6_cell_X3_hasCells rfl rfl rfl (by decide +kernel) ⟨Nat.le_of_ble_eq_true rfl, Nat.le_of_ble_eq_true rfl⟩) (preV hK hN hP hD (va_recv hK hP (ci := 3) (q0 := (2 + x1.toNatClampNeg)) rfl (BW_sheet cI cO ad _ (in_lt h_11)))) rfl rfl hl.1 rfl (lv_room (Nat.le_of_ble_eq_true rfl)) dX6_cell_50 ⟨Nat.zero_le _, Nat.zero_le _⟩) hS hD hA (fun H locs hP hD hS n_12 => ?_)
        refine lv_if_ne (tgt := 59) hx hb dX6_cell_53 (by decide) (fun c_13 => ?_) (fun c_13 => ?_)
        · have hR := (if_neg c_13).symm.trans hR
          refine lv_iload hx hb dX6_cell_59 (lv_at hl 0 rfl) ?_
          refine lv_if_eq (tgt := 74) hx hb dX6_cell_61 (by decide) (fun c_14 => ?_) (fun c_14 => ?_)
          · have hR := (if_pos c_14).symm.trans hR
            refine lv_aload_n hx hb dX6_cell_74 rfl (lv_at hl 1 rfl) ?_
            refine bw_get (ci := 5) (v := .ref (ad 1)) (C := RX6) (T := TX6) (N := 7) hx hb hts i_X6 hown hK hP 0 rfl rfl 0 (by decide) f_13 rfl dX6_cell_75 ?_
            refine lv_iload_n hx hb dX6_cell_78 rfl (lv_at hl 2 rfl) ?_
            obtain ⟨h_15, hR⟩ := ck_some hR
            refine bw_shl (a2 := ad (2 + x1.toNatClampNeg)) hx hb hK hP 1 rfl h_15 rfl dX6_cell_79 ?_
            refine bw_get (ci := 3) (v := .ref (ad (6 + x1.toNatClampNeg))) (C := RX3) (T := TX3) (N := 3) hx hb hts i_X3 hown hK hP (2 + x1.toNatClampNeg) (BW_sheet cI cO ad _ (in_lt h_15)) rfl 0 (by decide) f_189 rfl dX6_cell_80 ?_
            refine lv_iload_n hx hb dX6_cell_83 rfl (lv_at hl 3 rfl) ?_
            obtain ⟨h_16, hR⟩ := ck_some hR
            refine bw_ald (v := gA (sI st 1 0) (10 + x1.toNatClampNeg) x2) hx hb hK hP (6 + x1.toNatClampNeg) (BW_row cI cO ad _ (in_lt h_15)) h_16 rfl dX6_cell_84 ?_
            refine lv_i2l (v := (gA (sI st 1 0) (10 + x1.toNatClampNeg) x2).toInt64) hx hb dX6_cell_85 rfl ?_
            exact ret_ _ _ _ _ _ _ dX6_cell_86  (sp1 hR) (congrArg (fun z => (BW cI cO ad z)) (sp2 hR)) hP hD hS
          · have hR := (if_neg c_14).symm.trans hR
            refine lv_aload_n hx hb dX6_cell_64 rfl (lv_at hl 1 rfl) ?_
            refine lv_iload hx hb dX6_cell_65 (lv_at hl 0 rfl) ?_
            refine bw_put (w' := (BW cI cO ad (sI (sI st 1 0) 1 v_6))) (ci := 5) (C := RX6) (T := TX6) (N := 7) hx hb hts i_X6 tyX6 tyX6_ok nmX6 hown hK hP hD hS 0 rfl rfl 6 (by decide) f_49 rfl rfl (Nat.le_of_ble_eq_true rfl) (BW_i1 cI cO ad _ _) dX6_cell_67 (fun H locs hP hD hS => ?_)
            refine lv_ldc2 hx hb hown k_174 dX6_cell_70 ?_
            exact ret_ _ _ _ _ _ _ dX6_cell_73  (sp1 hR) (congrArg (fun z => (BW cI cO ad z)) (sp2 hR)) hP hD hS
        · have hR := (if_pos c_13).symm.trans hR
          refine lv_iconst (v := 3) hx hb dX6_cell_56 (by decide) ?_
          refine lv_istore (lv' := [(4, .int 3), (0, .ref (ad 0)), (1, .int x1), (2, .int x2), (3, .int x3)]) hx hb dX6_cell_57 hl (by decide) rfl (fun ls hl => ?_)
          refine lv_iload hx hb dX6_cell_59 (lv_at hl 0 rfl) ?_
          refine lv_if_eq (tgt := 74) hx hb dX6_cell_61 (by decide) (fun c_17 => ?_) (fun c_17 => ?_)
          · exact absurd c_17 (by decide)
          · refine lv_aload_n hx hb dX6_cell_64 rfl (lv_at hl 1 rfl) ?_
            refine lv_iload hx hb dX6_cell_65 (lv_at hl 0 rfl) ?_
            refine bw_put (w' := (BW cI cO ad (sI (sI st 1 0) 1 3))) (ci := 5) (C := RX6) (T := TX6) (N := 7) hx hb hts i_X6 tyX6 tyX6_ok nmX6 hown hK hP hD hS 0 rfl rfl 6 (by decide) f_49 rfl rfl (Nat.le_of_ble_eq_true rfl) (BW_i1 cI cO ad _ _) dX6_cell_67 (fun H locs hP hD hS => ?_)
            refine lv_ldc2 hx hb hown k_174 dX6_cell_70 ?_
            exact ret_ _ _ _ _ _ _ dX6_cell_73  (sp1 hR) (congrArg (fun z => (BW cI cO ad z)) (sp2 hR)) hP hD hS
    · have hR := (if_pos c_4).symm.trans hR
      refine lv_ldc2 hx hb hown k_174 dX6_cell_21 ?_
      exact ret_ _ _ _ _ _ _ dX6_cell_24  (sp1 hR) (congrArg (fun z => (BW cI cO ad z)) (sp2 hR)) hP hD hS
abbrev rm_X6_copy : Room := { frames := 1, cells := 0, slots := 0, locals := 60 }
set_option maxHeartbeats 4000000 in
set_option maxRecDepth 100000 in
theorem c_X6_copy (l : Launch) (D : va_G) (cI cO : ClassId) (ad : Nat → Nat) (sz : Nat) {st : St} {x1 : Int32} {x2 : Int32} {x3 : Int32} {x4 : Int32} {x5 : Int32} {r : Int32} {s2 : St} (hR : F_X6_copy st x1 x2 x3 x4 x5 = some (r, s2)) : CI l yX6_copy wsX6_copy rm_X6_copy D cI cO [.ref (ad 0), .int x1, .int x2, .int x3, .int x4, .int x5] (BW cI cO ad st) (BW cI cO ad s2) sz r := by
  refine mk_i (cc := cX6_copy) (maxL := 8) (own := RX6) rfl (by decide) rfl (Nat.le_of_ble_eq_true rfl) ?_
  intro p e s m args below meth c A Q ls hx hb hml hown hts hK hN hA ret_ hP hD hS hl
  have i_X6 : ∀ w ∈ u_ws RX6 TX6 7, w ∈ wsX6_copy := (fun _ h => List.mem_cons_of_mem _ (List.mem_append_left _ (List.mem_append_right _ h)))
  have i_X3 : ∀ w ∈ u_ws RX3 TX3 3, w ∈ wsX6_copy := (fun _ h => List.mem_cons_of_mem _ (List.mem_append_right _ h))
  have f_49 := hts (.fieldLink RX6 49 "BellNames" "lastFault" "I") (by decide +kernel)
  have f_13 := hts (.fieldLink RX6 13 "BellNames" "sheets" "[LBellNames$Sheet;") (by decide +kernel)
  have f_192 := hts (.fieldLink RX6 192 "BellNames$Sheet" "lane" "I") (by decide +kernel)
  have f_189 := hts (.fieldLink RX6 189 "BellNames$Sheet" "row" "[I") (by decide +kernel)
  have m_195 := hts (.methodLink RX6 195 arraycopyName) (by decide +kernel)
  have an := hts (.native arraycopyName) (by decide +kernel)
  have as_ := hts (.static arraycopyName) (by decide +kernel)
  have ai := hts (.initialized "java/lang/System") (by decide +kernel)
  have hl : lv_has ls 8 [(0, .ref (ad 0)), (1, .int x1), (2, .int x2), (3, .int x3), (4, .int x4), (5, .int x5)] := hl
  unfold F_X6_copy at hR
  refine lv_aload_n hx hb dX6_copy_0 rfl (lv_at hl 0 rfl) ?_
  refine lv_iconst (v := 0) hx hb dX6_copy_1 (by decide) ?_
  refine bw_put (w' := (BW cI cO ad (sI st 1 0))) (ci := 5) (C := RX6) (T := TX6) (N := 7) hx hb hts i_X6 tyX6 tyX6_ok nmX6 hown hK hP hD hS 0 rfl rfl 6 (by decide) f_49 rfl rfl (Nat.le_of_ble_eq_true rfl) (BW_i1 cI cO ad _ _) dX6_copy_2 (fun H locs hP hD hS => ?_)
  refine lv_iload_n hx hb dX6_copy_5 rfl (lv_at hl 1 rfl) ?_
  refine lv_iconst (v := 4) hx hb dX6_copy_6 (by decide) ?_
  obtain ⟨v_1, e_1, hR⟩ := b1_some hR
  refine bc_z (va_runS (As := [.int x1, .int 4]) (rest := []) ⟨hx, hb, hml, hown, hts⟩ (c_X6_isBelow l D cI cO ad _ e_1) (va_cwS 2 hts gX6_copy_X6_isBelow rfl rfl rfl (by decide +kernel) ⟨Nat.le_of_ble_eq_true rfl, Nat.le_of_ble_eq_true rfl⟩) (preS hK hN hP hD) rfl rfl hl.1 rfl (lv_room (Nat.le_of_ble_eq_true rfl)) dX6_copy_7 ⟨Nat.zero_le _, Nat.zero_le _⟩) hS hD hA (fun H locs hP hD hS n_1 => ?_)
  refine lv_if_eq (tgt := 21) hx hb dX6_copy_10 (by decide) (fun c_2 => ?_) (fun c_2 => ?_)
  · have hR := (if_pos c_2).symm.trans hR
    refine lv_iconst (v := (-1)) hx hb dX6_copy_21 (by decide) ?_
    exact ret_ _ _ _ _ _ _ dX6_copy_22  (sp1 hR) (congrArg (fun z => (BW cI cO ad z)) (sp2 hR)) hP hD hS
  · have hR := (if_neg c_2).symm.trans hR
    refine lv_iload_n hx hb dX6_copy_13 rfl (lv_at hl 3 rfl) ?_
    refine lv_iconst (v := 4) hx hb dX6_copy_14 (by decide) ?_
    obtain ⟨v_3, e_3, hR⟩ := b1_some hR
    refine bc_z (va_runS (As := [.int x3, .int 4]) (rest := []) ⟨hx, hb, hml, hown, hts⟩ (c_X6_isBelow l D cI cO ad _ e_3) (va_cwS 2 hts gX6_copy_X6_isBelow rfl rfl rfl (by decide +kernel) ⟨Nat.le_of_ble_eq_true rfl, Nat.le_of_ble_eq_true rfl⟩) (preS hK hN hP hD) rfl rfl hl.1 rfl (lv_room (Nat.le_of_ble_eq_true rfl)) dX6_copy_15 ⟨Nat.zero_le _, Nat.zero_le _⟩) hS hD hA (fun H locs hP hD hS n_3 => ?_)
    refine lv_if_ne (tgt := 23) hx hb dX6_copy_18 (by decide) (fun c_4 => ?_) (fun c_4 => ?_)
    · have hR := (if_neg c_4).symm.trans hR
      refine lv_aload_n hx hb dX6_copy_23 rfl (lv_at hl 0 rfl) ?_
      refine bw_get (ci := 5) (v := .ref (ad 1)) (C := RX6) (T := TX6) (N := 7) hx hb hts i_X6 hown hK hP 0 rfl rfl 0 (by decide) f_13 rfl dX6_copy_24 ?_
      refine lv_iload_n hx hb dX6_copy_27 rfl (lv_at hl 1 rfl) ?_
      obtain ⟨h_5, hR⟩ := ck_some hR
      refine bw_shl (a2 := ad (2 + x1.toNatClampNeg)) hx hb hK hP 1 rfl h_5 rfl dX6_copy_28 ?_
      refine lv_astore (lv' := [(6, .ref (ad (2 + x1.toNatClampNeg))), (0, .ref (ad 0)), (1, .int x1), (2, .int x2), (3, .int x3), (4, .int x4), (5, .int x5)]) hx hb dX6_copy_29 hl (by decide) rfl (fun ls hl => ?_)
      refine lv_aload_n hx hb dX6_copy_31 rfl (lv_at hl 1 rfl) ?_
      refine bw_get (ci := 5) (v := .ref (ad 1)) (C := RX6) (T := TX6) (N := 7) hx hb hts i_X6 hown hK hP 0 rfl rfl 0 (by decide) f_13 rfl dX6_copy_32 ?_
      refine lv_iload_n hx hb dX6_copy_35 rfl (lv_at hl 4 rfl) ?_
      obtain ⟨h_6, hR⟩ := ck_some hR
      refine bw_shl (a2 := ad (2 + x3.toNatClampNeg)) hx hb hK hP 1 rfl h_6 rfl dX6_copy_36 ?_
      refine lv_astore (lv' := [(7, .ref (ad (2 + x3.toNatClampNeg))), (6, .ref (ad (2 + x1.toNatClampNeg))), (0, .ref (ad 0)), (1, .int x1), (2, .int x2), (3, .int x3), (4, .int x4), (5, .int x5)]) hx hb dX6_copy_37 hl (by decide) rfl (fun ls hl => ?_)
      refine lv_aload hx hb dX6_copy_39 (lv_at hl 1 rfl) ?_
      obtain ⟨v_7, e_7, hR⟩ := b1_some hR
      refine bc_z (va_runV (As := []) (rest := []) ⟨hx, hb, hml, hown, hts⟩ (c_X3_hasNothing l D cI cO ad _ (in_lt h_5) e_7) (cwV 0 hts gX6_copy_X3_hasNothing rfl rfl rfl (by decide +kernel) ⟨Nat.le_of_ble_eq_true rfl, Nat.le_of_ble_eq_true rfl⟩) (preV hK hN hP hD (va_recv hK hP (ci := 3) (q0 := (2 + x1.toNatClampNeg)) rfl (BW_sheet cI cO ad _ (in_lt h_5)))) rfl rfl hl.1 rfl (lv_room (Nat.le_of_ble_eq_true rfl)) dX6_copy_41 ⟨Nat.zero_le _, Nat.zero_le _⟩) hS hD hA (fun H locs hP hD hS n_7 => ?_)
      refine lv_if_ne (tgt := 55) hx hb dX6_copy_44 (by decide) (fun c_8 => ?_) (fun c_8 => ?_)
      · have hR := (if_neg c_8).symm.trans hR
        refine lv_aload_n hx hb dX6_copy_55 rfl (lv_at hl 2 rfl) ?_
        refine lv_iconst (v := 1) hx hb dX6_copy_56 (by decide) ?_
        obtain ⟨v_9, s_9, e_9, hR⟩ := b2_some hR
        refine bc_i (va_runV (As := [.int 1]) (rest := []) ⟨hx, hb, hml, hown, hts⟩ (c_X6_failBy l D cI cO ad _ e_9) (cwV 1 hts gX6_copy_X6_failBy rfl rfl rfl (by decide +kernel) ⟨Nat.le_of_ble_eq_true rfl, Nat.le_of_ble_eq_true rfl⟩) (preV hK hN hP hD (va_recv hK hP (ci := 5) (q0 := 0) rfl rfl)) rfl rfl hl.1 rfl (lv_room (Nat.le_of_ble_eq_true rfl)) dX6_copy_57 ⟨Nat.zero_le _, Nat.zero_le _⟩) hS hD hA (fun H locs hP hD hS => ?_)
        exact ret_ _ _ _ _ _ _ dX6_copy_60  (sp1 hR) (congrArg (fun z => (BW cI cO ad z)) (sp2 hR)) hP hD hS
      · have hR := (if_pos c_8).symm.trans hR
        refine lv_aload hx hb dX6_copy_47 (lv_at hl 0 rfl) ?_
        obtain ⟨v_10, e_10, hR⟩ := b1_some hR
        refine bc_z (va_runV (As := []) (rest := []) ⟨hx, hb, hml, hown, hts⟩ (c_X3_hasNothing l D cI cO ad _ (in_lt h_6) e_10) (cwV 0 hts gX6_copy_X3_hasNothing rfl rfl rfl (by decide +kernel) ⟨Nat.le_of_ble_eq_true rfl, Nat.le_of_ble_eq_true rfl⟩) (preV hK hN hP hD (va_recv hK hP (ci := 3) (q0 := (2 + x3.toNatClampNeg)) rfl (BW_sheet cI cO ad _ (in_lt h_6)))) rfl rfl hl.1 rfl (lv_room (Nat.le_of_ble_eq_true rfl)) dX6_copy_49 ⟨Nat.zero_le _, Nat.zero_le _⟩) hS hD hA (fun H locs hP hD hS n_10 => ?_)
        refine lv_if_eq (tgt := 61) hx hb dX6_copy_52 (by decide) (fun c_11 => ?_) (fun c_11 => ?_)
        · have hR := (if_pos c_11).symm.trans hR
          refine lv_aload hx hb dX6_copy_61 (lv_at hl 1 rfl) ?_
          refine bw_get (ci := 3) (v := .int (gI (sI st 1 0) (10 + x1.toNatClampNeg))) (C := RX3) (T := TX3) (N := 3) hx hb hts i_X3 hown hK hP (2 + x1.toNatClampNeg) (BW_sheet cI cO ad _ (in_lt h_5)) rfl 1 (by decide) f_192 rfl dX6_copy_63 ?_
          refine lv_aload hx hb dX6_copy_66 (lv_at hl 0 rfl) ?_
          refine bw_get (ci := 3) (v := .int (gI (sI st 1 0) (10 + x3.toNatClampNeg))) (C := RX3) (T := TX3) (N := 3) hx hb hts i_X3 hown hK hP (2 + x3.toNatClampNeg) (BW_sheet cI cO ad _ (in_lt h_6)) rfl 1 (by decide) f_192 rfl dX6_copy_68 ?_
          refine lv_icmp_eq (tgt := 80) hx hb dX6_copy_71 (by decide) (fun c_12 => ?_) (fun c_12 => ?_)
          · have hR := (if_pos c_12).symm.trans hR
            refine lv_aload hx hb dX6_copy_80 (lv_at hl 1 rfl) ?_
            refine lv_iload_n hx hb dX6_copy_82 rfl (lv_at hl 4 rfl) ?_
            refine lv_iload hx hb dX6_copy_83 (lv_at hl 7 rfl) ?_
            obtain ⟨v_13, e_13, hR⟩ := b1_some hR
            refine bc_z (va_runV (As := [.int x2, .int x5]) (rest := []) ⟨hx, hb, hml, hown, hts⟩ (c_X3_hasCells l D cI cO ad _ (in_lt h_5) e_13) (cwV 2 hts gX6_copy_X3_hasCells rfl rfl rfl (by decide +kernel) ⟨Nat.le_of_ble_eq_true rfl, Nat.le_of_ble_eq_true rfl⟩) (preV hK hN hP hD (va_recv hK hP (ci := 3) (q0 := (2 + x1.toNatClampNeg)) rfl (BW_sheet cI cO ad _ (in_lt h_5)))) rfl rfl hl.1 rfl (lv_room (Nat.le_of_ble_eq_true rfl)) dX6_copy_85 ⟨Nat.zero_le _, Nat.zero_le _⟩) hS hD hA (fun H locs hP hD hS n_13 => ?_)
            refine lv_if_eq (tgt := 103) hx hb dX6_copy_88 (by decide) (fun c_14 => ?_) (fun c_14 => ?_)
            · have hR := (if_pos c_14).symm.trans hR
              refine lv_aload_n hx hb dX6_copy_103 rfl (lv_at hl 2 rfl) ?_
              refine lv_iconst (v := 3) hx hb dX6_copy_104 (by decide) ?_
              obtain ⟨v_15, s_15, e_15, hR⟩ := b2_some hR
              refine bc_i (va_runV (As := [.int 3]) (rest := []) ⟨hx, hb, hml, hown, hts⟩ (c_X6_failBy l D cI cO ad _ e_15) (cwV 1 hts gX6_copy_X6_failBy rfl rfl rfl (by decide +kernel) ⟨Nat.le_of_ble_eq_true rfl, Nat.le_of_ble_eq_true rfl⟩) (preV hK hN hP hD (va_recv hK hP (ci := 5) (q0 := 0) rfl rfl)) rfl rfl hl.1 rfl (lv_room (Nat.le_of_ble_eq_true rfl)) dX6_copy_105 ⟨Nat.zero_le _, Nat.zero_le _⟩) hS hD hA (fun H locs hP hD hS => ?_)
              exact ret_ _ _ _ _ _ _ dX6_copy_108  (sp1 hR) (congrArg (fun z => (BW cI cO ad z)) (sp2 hR)) hP hD hS
            · have hR := (if_neg c_14).symm.trans hR
              refine lv_aload hx hb dX6_copy_91 (lv_at hl 0 rfl) ?_
              refine lv_iload hx hb dX6_copy_93 (lv_at hl 6 rfl) ?_
              refine lv_iload hx hb dX6_copy_95 (lv_at hl 7 rfl) ?_
              obtain ⟨v_16, e_16, hR⟩ := b1_some hR
              refine bc_z (va_runV (As := [.int x4, .int x5]) (rest := []) ⟨hx, hb, hml, hown, hts⟩ (c_X3_hasCells l D cI cO ad _ (in_lt h_6) e_16) (cwV 2 hts gX6_copy_X3_hasCells rfl rfl rfl (by decide +kernel) ⟨Nat.le_of_ble_eq_true rfl, Nat.le_of_ble_eq_true rfl⟩) (preV hK hN hP hD (va_recv hK hP (ci := 3) (q0 := (2 + x3.toNatClampNeg)) rfl (BW_sheet cI cO ad _ (in_lt h_6)))) rfl rfl hl.1 rfl (lv_room (Nat.le_of_ble_eq_true rfl)) dX6_copy_97 ⟨Nat.zero_le _, Nat.zero_le _⟩) hS hD hA (fun H locs hP hD hS n_16 => ?_)
              refine lv_if_ne (tgt := 109) hx hb dX6_copy_100 (by decide) (fun c_17 => ?_) (fun c_17 => ?_)
              · have hR := (if_neg c_17).symm.trans hR
                refine lv_aload hx hb dX6_copy_109 (lv_at hl 1 rfl) ?_
                refine bw_get (ci := 3) (v := .ref (ad (6 + x1.toNatClampNeg))) (C := RX3) (T := TX3) (N := 3) hx hb hts i_X3 hown hK hP (2 + x1.toNatClampNeg) (BW_sheet cI cO ad _ (in_lt h_5)) rfl 0 (by decide) f_189 rfl dX6_copy_111 ?_
                refine lv_iload_n hx hb dX6_copy_114 rfl (lv_at hl 4 rfl) ?_
                refine lv_aload hx hb dX6_copy_115 (lv_at hl 0 rfl) ?_
                refine bw_get (ci := 3) (v := .ref (ad (6 + x3.toNatClampNeg))) (C := RX3) (T := TX3) (N := 3) hx hb hts i_X3 hown hK hP (2 + x3.toNatClampNeg) (BW_sheet cI cO ad _ (in_lt h_6)) rfl 0 (by decide) f_189 rfl dX6_copy_117 ?_
                refine lv_iload hx hb dX6_copy_120 (lv_at hl 6 rfl) ?_
                refine lv_iload hx hb dX6_copy_122 (lv_at hl 7 rfl) ?_
                obtain ⟨h_18, hR⟩ := cc5_some hR
                refine bw_cpy (w' := (BW cI cO ad (sC (sI st 1 0) (10 + x1.toNatClampNeg) (10 + x3.toNatClampNeg) x2 x4 x5))) hx hb (hml.trans hl.1.symm) hown m_195 an as_ ai hK hP hD hS (6 + x1.toNatClampNeg) (6 + x3.toNatClampNeg) (BW_row cI cO ad _ (in_lt h_5)) (BW_row cI cO ad _ (in_lt h_6)) h_18 (Nat.le_of_ble_eq_true rfl) (by decide +kernel) (BW_setRow cI cO ad _ (in_lt h_6) _) dX6_copy_124 (fun H locs hP hD hS => ?_)
                refine lv_iload hx hb dX6_copy_127 (lv_at hl 7 rfl) ?_
                exact ret_ _ _ _ _ _ _ dX6_copy_129  (sp1 hR) (congrArg (fun z => (BW cI cO ad z)) (sp2 hR)) hP hD hS
              · have hR := (if_pos c_17).symm.trans hR
                refine lv_aload_n hx hb dX6_copy_103 rfl (lv_at hl 2 rfl) ?_
                refine lv_iconst (v := 3) hx hb dX6_copy_104 (by decide) ?_
                obtain ⟨v_19, s_19, e_19, hR⟩ := b2_some hR
                refine bc_i (va_runV (As := [.int 3]) (rest := []) ⟨hx, hb, hml, hown, hts⟩ (c_X6_failBy l D cI cO ad _ e_19) (cwV 1 hts gX6_copy_X6_failBy rfl rfl rfl (by decide +kernel) ⟨Nat.le_of_ble_eq_true rfl, Nat.le_of_ble_eq_true rfl⟩) (preV hK hN hP hD (va_recv hK hP (ci := 5) (q0 := 0) rfl rfl)) rfl rfl hl.1 rfl (lv_room (Nat.le_of_ble_eq_true rfl)) dX6_copy_105 ⟨Nat.zero_le _, Nat.zero_le _⟩) hS hD hA (fun H locs hP hD hS => ?_)
                exact ret_ _ _ _ _ _ _ dX6_copy_108  (sp1 hR) (congrArg (fun z => (BW cI cO ad z)) (sp2 hR)) hP hD hS
          · have hR := (if_neg c_12).symm.trans hR
            refine lv_aload_n hx hb dX6_copy_74 rfl (lv_at hl 2 rfl) ?_
            refine lv_iconst (v := 2) hx hb dX6_copy_75 (by decide) ?_
            obtain ⟨v_20, s_20, e_20, hR⟩ := b2_some hR
            refine bc_i (va_runV (As := [.int 2]) (rest := []) ⟨hx, hb, hml, hown, hts⟩ (c_X6_failBy l D cI cO ad _ e_20) (cwV 1 hts gX6_copy_X6_failBy rfl rfl rfl (by decide +kernel) ⟨Nat.le_of_ble_eq_true rfl, Nat.le_of_ble_eq_true rfl⟩) (preV hK hN hP hD (va_recv hK hP (ci := 5) (q0 := 0) rfl rfl)) rfl rfl hl.1 rfl (lv_room (Nat.le_of_ble_eq_true rfl)) dX6_copy_76 ⟨Nat.zero_le _, Nat.zero_le _⟩) hS hD hA (fun H locs hP hD hS => ?_)
            exact ret_ _ _ _ _ _ _ dX6_copy_79  (sp1 hR) (congrArg (fun z => (BW cI cO ad z)) (sp2 hR)) hP hD hS
        · have hR := (if_neg c_11).symm.trans hR
          refine lv_aload_n hx hb dX6_copy_55 rfl (lv_at hl 2 rfl) ?_
          refine lv_iconst (v := 1) hx hb dX6_copy_56 (by decide) ?_
          obtain ⟨v_21, s_21, e_21, hR⟩ := b2_some hR
          refine bc_i (va_runV (As := [.int 1]) (rest := []) ⟨hx, hb, hml, hown, hts⟩ (c_X6_failBy l D cI cO ad _ e_21) (cwV 1 hts gX6_copy_X6_failBy rfl rfl rfl (by decide +kernel) ⟨Nat.le_of_ble_eq_true rfl, Nat.le_of_ble_eq_true rfl⟩) (preV hK hN hP hD (va_recv hK hP (ci := 5) (q0 := 0) rfl rfl)) rfl rfl hl.1 rfl (lv_room (Nat.le_of_ble_eq_true rfl)) dX6_copy_57 ⟨Nat.zero_le _, Nat.zero_le _⟩) hS hD hA (fun H locs hP hD hS => ?_)
          exact ret_ _ _ _ _ _ _ dX6_copy_60  (sp1 hR) (congrArg (fun z => (BW cI cO ad z)) (sp2 hR)) hP hD hS
    · have hR := (if_pos c_4).symm.trans hR
      refine lv_iconst (v := (-1)) hx hb dX6_copy_21 (by decide) ?_
      exact ret_ _ _ _ _ _ _ dX6_copy_22  (sp1 hR) (congrArg (fun z => (BW cI cO ad z)) (sp2 hR)) hP hD hS
