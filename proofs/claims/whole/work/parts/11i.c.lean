abbrev rm_X7_sheet : Room := { frames := 2, cells := 0, slots := 0, locals := 42 }
set_option maxHeartbeats 4000000 in
set_option maxRecDepth 100000 in
theorem c_X7_sheet (l : Launch) (D : va_G) (cI cO : ClassId) (ad : Nat → Nat) (sz : Nat) {st : St} {x1 : Int32} {x2 : Int32} {x3 : Int32} {r : Int32} {s2 : St} (hR : F_X7_sheet st x1 x2 x3 = some (r, s2)) : CI l yX7_sheet wsX7_sheet rm_X7_sheet D cI cO [.ref (ad 0), .int x1, .int x2, .int x3] (MW cI ad st) (MW cI ad s2) sz r := by
  refine mk_i (cc := cX7_sheet) (maxL := 5) (own := RX7) rfl (by decide) rfl (Nat.le_of_ble_eq_true rfl) ?_
  intro p e s m args below meth c A Q ls hx hb hml hown hts hK hN hA ret_ hP hD hS hl
  have i_X7 : ∀ w ∈ u_ws RX7 TX7 28, w ∈ wsX7_sheet := (fun _ h => List.mem_cons_of_mem _ (List.mem_append_right _ h))
  have f_61 := hts (.fieldLink RX7 61 "BellNamesModel" "fault" "I") (by decide +kernel)
  have f_9 := hts (.fieldLink RX7 9 "BellNamesModel" "sorts" "[I") (by decide +kernel)
  have f_13 := hts (.fieldLink RX7 13 "BellNamesModel" "sheetLong" "[I") (by decide +kernel)
  have f_16 := hts (.fieldLink RX7 16 "BellNamesModel" "cells" "[I") (by decide +kernel)
  have hl : lv_has ls 5 [(0, .ref (ad 0)), (1, .int x1), (2, .int x2), (3, .int x3)] := hl
  unfold F_X7_sheet at hR
  refine lv_aload_n hx hb dX7_sheet_0 rfl (lv_at hl 0 rfl) ?_
  refine lv_iconst (v := 0) hx hb dX7_sheet_1 (by decide) ?_
  refine bw_put (w' := (MW cI ad (sI st 0 0))) (ci := 6) (C := RX7) (T := TX7) (N := 28) hx hb hts i_X7 tyX7 tyX7_ok nmX7 hown hK hP hD hS 0 rfl rfl 0 (by decide) f_61 rfl rfl (Nat.le_of_ble_eq_true rfl) (MW_i0 cI ad _ _) dX7_sheet_2 (fun H locs hP hD hS => ?_)
  refine lv_iload_n hx hb dX7_sheet_5 rfl (lv_at hl 1 rfl) ?_
  obtain ⟨v_1, e_1, hR⟩ := b1_some hR
  refine bc_z (va_runS (As := [.int x1]) (rest := []) ⟨hx, hb, hml, hown, hts⟩ (c_X7_isSheet l D cI cO ad _ e_1) (va_cwS 1 hts gX7_sheet_X7_isSheet rfl rfl rfl (by decide +kernel) ⟨Nat.le_of_ble_eq_true rfl, Nat.le_of_ble_eq_true rfl⟩) (preS hK hN hP hD) rfl rfl hl.1 rfl (lv_room (Nat.le_of_ble_eq_true rfl)) dX7_sheet_6 ⟨Nat.zero_le _, Nat.zero_le _⟩) hS hD hA (fun H locs hP hD hS n_1 => ?_)
  refine lv_if_ne (tgt := 14) hx hb dX7_sheet_9 (by decide) (fun c_2 => ?_) (fun c_2 => ?_)
  · have hR := (if_neg c_2).symm.trans hR
    refine lv_iload_n hx hb dX7_sheet_14 rfl (lv_at hl 2 rfl) ?_
    obtain ⟨v_3, e_3, hR⟩ := b1_some hR
    refine bc_z (va_runS (As := [.int x2]) (rest := []) ⟨hx, hb, hml, hown, hts⟩ (c_X7_isSort l D cI cO ad _ e_3) (va_cwS 1 hts gX7_sheet_X7_isSort rfl rfl rfl (by decide +kernel) ⟨Nat.le_of_ble_eq_true rfl, Nat.le_of_ble_eq_true rfl⟩) (preS hK hN hP hD) rfl rfl hl.1 rfl (lv_room (Nat.le_of_ble_eq_true rfl)) dX7_sheet_15 ⟨Nat.zero_le _, Nat.zero_le _⟩) hS hD hA (fun H locs hP hD hS n_3 => ?_)
    refine lv_if_eq (tgt := 27) hx hb dX7_sheet_18 (by decide) (fun c_4 => ?_) (fun c_4 => ?_)
    · have hR := (if_pos c_4).symm.trans hR
      refine lv_bipush (v := (-2)) hx hb dX7_sheet_27 (by decide) ?_
      exact ret_ _ _ _ _ _ _ dX7_sheet_29  (sp1 hR) (congrArg (fun z => (MW cI ad z)) (sp2 hR)) hP hD hS
    · have hR := (if_neg c_4).symm.trans hR
      refine lv_iload_n hx hb dX7_sheet_21 rfl (lv_at hl 3 rfl) ?_
      refine lv_bipush (v := 60) hx hb dX7_sheet_22 (by decide) ?_
      refine lv_icmp_le (tgt := 30) hx hb dX7_sheet_24 (by decide) (fun c_5 => ?_) (fun c_5 => ?_)
      · have hR := (if_pos c_5).symm.trans hR
        refine lv_iload_n hx hb dX7_sheet_30 rfl (lv_at hl 3 rfl) ?_
        refine lv_if_ge (tgt := 40) hx hb dX7_sheet_31 (by decide) (fun c_6 => ?_) (fun c_6 => ?_)
        · have hR := (if_pos c_6).symm.trans hR
          refine lv_aload_n hx hb dX7_sheet_40 rfl (lv_at hl 0 rfl) ?_
          refine bw_get (ci := 6) (v := .ref (ad 1)) (C := RX7) (T := TX7) (N := 28) hx hb hts i_X7 hown hK hP 0 rfl rfl 2 (by decide) f_9 rfl dX7_sheet_41 ?_
          refine lv_iload_n hx hb dX7_sheet_44 rfl (lv_at hl 1 rfl) ?_
          refine lv_iload_n hx hb dX7_sheet_45 rfl (lv_at hl 2 rfl) ?_
          obtain ⟨h_7, hR⟩ := ck_some hR
          refine bw_ast (w' := (MW cI ad (sA (sI st 0 0) 2 x1 x2))) hx hb hK hP hD hS 1 rfl h_7 (MW_a2 cI ad _ _) dX7_sheet_46 (fun H locs hP hD hS => ?_)
          refine lv_aload_n hx hb dX7_sheet_47 rfl (lv_at hl 0 rfl) ?_
          refine bw_get (ci := 6) (v := .ref (ad 2)) (C := RX7) (T := TX7) (N := 28) hx hb hts i_X7 hown hK hP 0 rfl rfl 3 (by decide) f_13 rfl dX7_sheet_48 ?_
          refine lv_iload_n hx hb dX7_sheet_51 rfl (lv_at hl 1 rfl) ?_
          refine lv_iload_n hx hb dX7_sheet_52 rfl (lv_at hl 3 rfl) ?_
          obtain ⟨h_8, hR⟩ := ck_some hR
          refine bw_ast (w' := (MW cI ad (sA (sA (sI st 0 0) 2 x1 x2) 3 x1 x3))) hx hb hK hP hD hS 2 rfl h_8 (MW_a3 cI ad _ _) dX7_sheet_53 (fun H locs hP hD hS => ?_)
          refine lv_iconst (v := 0) hx hb dX7_sheet_54 (by decide) ?_
          refine lv_istore (lv' := [(4, .int 0), (0, .ref (ad 0)), (1, .int x1), (2, .int x2), (3, .int x3)]) hx hb dX7_sheet_55 hl (by decide) rfl (fun ls hl => ?_)
          have lp_57 : ∀ (n_57 : Nat) (y4_57 : Int32) (z_57 : St) (H : Heap) (locs : List Loc) (ls : Array Slot), L_X7_sheet_57 x1 (fun y4_57 z_57 => some (1, z_57)) n_57 y4_57 z_57 = some (r, s2) → va_P D vwCl (MW cI ad z_57) H → va_D A (MW cI ad z_57) → va_S A s.heap H locs → lv_has ls 5 [(0, .ref (ad 0)), (1, .int x1), (4, .int y4_57)] → W p l e rm_X7_sheet s m args below meth c H locs 0 0 Q (F0 m 57 ls []) := by
            intro n_57
            induction n_57 with
            | zero => intro y4_57 z_57 H locs ls hR; exact absurd (L_X7_sheet_57_z.symm.trans hR) (fun h => nomatch h)
            | succ n_57 ih_57 =>
              intro y4_57 z_57 H locs ls hR hP hD hS hl
              have hR := L_X7_sheet_57_s.symm.trans hR
              refine lv_iload hx hb dX7_sheet_57 (lv_at hl 2 rfl) ?_
              refine lv_bipush (v := 60) hx hb dX7_sheet_59 (by decide) ?_
              refine lv_icmp_ge (tgt := 83) hx hb dX7_sheet_61 (by decide) (fun c_9 => ?_) (fun c_9 => ?_)
              · have hR := (if_pos c_9).symm.trans hR
                refine lv_iconst (v := 1) hx hb dX7_sheet_83 (by decide) ?_
                exact ret_ _ _ _ _ _ _ dX7_sheet_84  (sp1 hR) (congrArg (fun z => (MW cI ad z)) (sp2 hR)) hP hD hS
              · have hR := (if_neg c_9).symm.trans hR
                refine lv_aload_n hx hb dX7_sheet_64 rfl (lv_at hl 0 rfl) ?_
                refine bw_get (ci := 6) (v := .ref (ad 3)) (C := RX7) (T := TX7) (N := 28) hx hb hts i_X7 hown hK hP 0 rfl rfl 4 (by decide) f_16 rfl dX7_sheet_65 ?_
                refine lv_bipush (v := 60) hx hb dX7_sheet_68 (by decide) ?_
                refine lv_iload_n hx hb dX7_sheet_70 rfl (lv_at hl 1 rfl) ?_
                refine lv_imul hx hb dX7_sheet_71 ?_
                refine lv_iload hx hb dX7_sheet_72 (lv_at hl 2 rfl) ?_
                refine lv_iadd hx hb dX7_sheet_74 ?_
                refine lv_iconst (v := 0) hx hb dX7_sheet_75 (by decide) ?_
                obtain ⟨h_10, hR⟩ := ck_some hR
                refine bw_ast (w' := (MW cI ad (sA z_57 4 ((60 * x1) + y4_57) 0))) hx hb hK hP hD hS 3 rfl h_10 (MW_a4 cI ad _ _) dX7_sheet_76 (fun H locs hP hD hS => ?_)
                refine lv_iinc (v := y4_57 + 1) (lv' := [(4, .int (y4_57 + 1)), (0, .ref (ad 0)), (1, .int x1)]) hx hb dX7_sheet_77 hl (k := 2) rfl rfl (by decide) rfl (fun ls hl => ?_)
                refine lv_goto (tgt := 57) hx hb dX7_sheet_80 (by decide) ?_
                exact ih_57 _ _ _ _ _ hR hP hD hS (lv_sub hl [1, 2, 0] rfl)
          exact lp_57 _ _ _ _ _ _ hR hP hD hS (lv_sub hl [1, 2, 0] rfl)
        · have hR := (if_neg c_6).symm.trans hR
          refine lv_aload_n hx hb dX7_sheet_34 rfl (lv_at hl 0 rfl) ?_
          refine lv_iconst (v := 4) hx hb dX7_sheet_35 (by decide) ?_
          obtain ⟨v_11, s_11, e_11, hR⟩ := b2_some hR
          refine bc_i (va_runV (As := [.int 4]) (rest := []) ⟨hx, hb, hml, hown, hts⟩ (c_X7_fails l D cI cO ad _ e_11) (cwV 1 hts gX7_sheet_X7_fails rfl rfl rfl (by decide +kernel) ⟨Nat.le_of_ble_eq_true rfl, Nat.le_of_ble_eq_true rfl⟩) (preV hK hN hP hD (va_recv hK hP (ci := 6) (q0 := 0) rfl rfl)) rfl rfl hl.1 rfl (lv_room (Nat.le_of_ble_eq_true rfl)) dX7_sheet_36 ⟨Nat.zero_le _, Nat.zero_le _⟩) hS hD hA (fun H locs hP hD hS => ?_)
          exact ret_ _ _ _ _ _ _ dX7_sheet_39  (sp1 hR) (congrArg (fun z => (MW cI ad z)) (sp2 hR)) hP hD hS
      · have hR := (if_neg c_5).symm.trans hR
        refine lv_bipush (v := (-2)) hx hb dX7_sheet_27 (by decide) ?_
        exact ret_ _ _ _ _ _ _ dX7_sheet_29  (sp1 hR) (congrArg (fun z => (MW cI ad z)) (sp2 hR)) hP hD hS
  · have hR := (if_pos c_2).symm.trans hR
    refine lv_iconst (v := (-1)) hx hb dX7_sheet_12 (by decide) ?_
    exact ret_ _ _ _ _ _ _ dX7_sheet_13  (sp1 hR) (congrArg (fun z => (MW cI ad z)) (sp2 hR)) hP hD hS
abbrev rm_X7_lose : Room := { frames := 2, cells := 0, slots := 0, locals := 42 }
set_option maxHeartbeats 4000000 in
set_option maxRecDepth 100000 in
theorem c_X7_lose (l : Launch) (D : va_G) (cI cO : ClassId) (ad : Nat → Nat) (sz : Nat) {st : St} {x1 : Int32} {r : Int32} {s2 : St} (hR : F_X7_lose st x1 = some (r, s2)) : CI l yX7_lose wsX7_lose rm_X7_lose D cI cO [.ref (ad 0), .int x1] (MW cI ad st) (MW cI ad s2) sz r := by
  refine mk_i (cc := cX7_lose) (maxL := 3) (own := RX7) rfl (by decide) rfl (Nat.le_of_ble_eq_true rfl) ?_
  intro p e s m args below meth c A Q ls hx hb hml hown hts hK hN hA ret_ hP hD hS hl
  have i_X7 : ∀ w ∈ u_ws RX7 TX7 28, w ∈ wsX7_lose := (fun _ h => List.mem_cons_of_mem _ (List.mem_append_right _ h))
  have f_9 := hts (.fieldLink RX7 9 "BellNamesModel" "sorts" "[I") (by decide +kernel)
  have hl : lv_has ls 3 [(0, .ref (ad 0)), (1, .int x1)] := hl
  unfold F_X7_lose at hR
  refine lv_iload_n hx hb dX7_lose_0 rfl (lv_at hl 1 rfl) ?_
  obtain ⟨v_1, e_1, hR⟩ := b1_some hR
  refine bc_z (va_runS (As := [.int x1]) (rest := []) ⟨hx, hb, hml, hown, hts⟩ (c_X7_isSheet l D cI cO ad _ e_1) (va_cwS 1 hts gX7_lose_X7_isSheet rfl rfl rfl (by decide +kernel) ⟨Nat.le_of_ble_eq_true rfl, Nat.le_of_ble_eq_true rfl⟩) (preS hK hN hP hD) rfl rfl hl.1 rfl (lv_room (Nat.le_of_ble_eq_true rfl)) dX7_lose_1 ⟨Nat.zero_le _, Nat.zero_le _⟩) hS hD hA (fun H locs hP hD hS n_1 => ?_)
  refine lv_if_ne (tgt := 9) hx hb dX7_lose_4 (by decide) (fun c_2 => ?_) (fun c_2 => ?_)
  · have hR := (if_neg c_2).symm.trans hR
    refine lv_aload_n hx hb dX7_lose_9 rfl (lv_at hl 0 rfl) ?_
    refine bw_get (ci := 6) (v := .ref (ad 1)) (C := RX7) (T := TX7) (N := 28) hx hb hts i_X7 hown hK hP 0 rfl rfl 2 (by decide) f_9 rfl dX7_lose_10 ?_
    refine lv_iload_n hx hb dX7_lose_13 rfl (lv_at hl 1 rfl) ?_
    obtain ⟨h_3, hR⟩ := ck_some hR
    refine bw_ald (v := gA st 2 x1) hx hb hK hP 1 rfl h_3 rfl dX7_lose_14 ?_
    refine lv_bipush (v := (-9)) hx hb dX7_lose_15 (by decide) ?_
    refine lv_icmp_ne (tgt := 24) hx hb dX7_lose_17 (by decide) (fun c_4 => ?_) (fun c_4 => ?_)
    · have hR := (if_neg c_4).symm.trans hR
      refine lv_iconst (v := 1) hx hb dX7_lose_24 (by decide) ?_
      refine lv_istore_n (lv' := [(2, .int 1), (0, .ref (ad 0)), (1, .int x1)]) hx hb dX7_lose_25 rfl hl (by decide) rfl (fun ls hl => ?_)
      refine lv_aload_n hx hb dX7_lose_26 rfl (lv_at hl 1 rfl) ?_
      refine bw_get (ci := 6) (v := .ref (ad 1)) (C := RX7) (T := TX7) (N := 28) hx hb hts i_X7 hown hK hP 0 rfl rfl 2 (by decide) f_9 rfl dX7_lose_27 ?_
      refine lv_iload_n hx hb dX7_lose_30 rfl (lv_at hl 2 rfl) ?_
      refine lv_bipush (v := (-9)) hx hb dX7_lose_31 (by decide) ?_
      obtain ⟨h_5, hR⟩ := ck_some hR
      refine bw_ast (w' := (MW cI ad (sA st 2 x1 (-9)))) hx hb hK hP hD hS 1 rfl h_5 (MW_a2 cI ad _ _) dX7_lose_33 (fun H locs hP hD hS => ?_)
      refine lv_iload_n hx hb dX7_lose_34 rfl (lv_at hl 0 rfl) ?_
      exact ret_ _ _ _ _ _ _ dX7_lose_35  (sp1 hR) (congrArg (fun z => (MW cI ad z)) (sp2 hR)) hP hD hS
    · have hR := (if_pos c_4).symm.trans hR
      refine lv_iconst (v := 0) hx hb dX7_lose_20 (by decide) ?_
      refine lv_goto (tgt := 25) hx hb dX7_lose_21 (by decide) ?_
      refine lv_istore_n (lv' := [(2, .int 0), (0, .ref (ad 0)), (1, .int x1)]) hx hb dX7_lose_25 rfl hl (by decide) rfl (fun ls hl => ?_)
      refine lv_aload_n hx hb dX7_lose_26 rfl (lv_at hl 1 rfl) ?_
      refine bw_get (ci := 6) (v := .ref (ad 1)) (C := RX7) (T := TX7) (N := 28) hx hb hts i_X7 hown hK hP 0 rfl rfl 2 (by decide) f_9 rfl dX7_lose_27 ?_
      refine lv_iload_n hx hb dX7_lose_30 rfl (lv_at hl 2 rfl) ?_
      refine lv_bipush (v := (-9)) hx hb dX7_lose_31 (by decide) ?_
      obtain ⟨h_6, hR⟩ := ck_some hR
      refine bw_ast (w' := (MW cI ad (sA st 2 x1 (-9)))) hx hb hK hP hD hS 1 rfl h_6 (MW_a2 cI ad _ _) dX7_lose_33 (fun H locs hP hD hS => ?_)
      refine lv_iload_n hx hb dX7_lose_34 rfl (lv_at hl 0 rfl) ?_
      exact ret_ _ _ _ _ _ _ dX7_lose_35  (sp1 hR) (congrArg (fun z => (MW cI ad z)) (sp2 hR)) hP hD hS
  · have hR := (if_pos c_2).symm.trans hR
    refine lv_iconst (v := (-1)) hx hb dX7_lose_7 (by decide) ?_
    exact ret_ _ _ _ _ _ _ dX7_lose_8  (sp1 hR) (congrArg (fun z => (MW cI ad z)) (sp2 hR)) hP hD hS
abbrev rm_X7_put : Room := { frames := 2, cells := 0, slots := 0, locals := 42 }
set_option maxHeartbeats 4000000 in
set_option maxRecDepth 100000 in
theorem c_X7_put (l : Launch) (D : va_G) (cI cO : ClassId) (ad : Nat → Nat) (sz : Nat) {st : St} {x1 : Int32} {x2 : Int32} {x3 : Int32} {r : Int32} {s2 : St} (hR : F_X7_put st x1 x2 x3 = some (r, s2)) : CI l yX7_put wsX7_put rm_X7_put D cI cO [.ref (ad 0), .int x1, .int x2, .int x3] (MW cI ad st) (MW cI ad s2) sz r := by
  refine mk_i (cc := cX7_put) (maxL := 4) (own := RX7) rfl (by decide) rfl (Nat.le_of_ble_eq_true rfl) ?_
  intro p e s m args below meth c A Q ls hx hb hml hown hts hK hN hA ret_ hP hD hS hl
  have i_X7 : ∀ w ∈ u_ws RX7 TX7 28, w ∈ wsX7_put := (fun _ h => List.mem_cons_of_mem _ (List.mem_append_right _ h))
  have f_61 := hts (.fieldLink RX7 61 "BellNamesModel" "fault" "I") (by decide +kernel)
  have f_9 := hts (.fieldLink RX7 9 "BellNamesModel" "sorts" "[I") (by decide +kernel)
  have f_13 := hts (.fieldLink RX7 13 "BellNamesModel" "sheetLong" "[I") (by decide +kernel)
  have f_16 := hts (.fieldLink RX7 16 "BellNamesModel" "cells" "[I") (by decide +kernel)
  have hl : lv_has ls 4 [(0, .ref (ad 0)), (1, .int x1), (2, .int x2), (3, .int x3)] := hl
  unfold F_X7_put at hR
  refine lv_aload_n hx hb dX7_put_0 rfl (lv_at hl 0 rfl) ?_
  refine lv_iconst (v := 0) hx hb dX7_put_1 (by decide) ?_
  refine bw_put (w' := (MW cI ad (sI st 0 0))) (ci := 6) (C := RX7) (T := TX7) (N := 28) hx hb hts i_X7 tyX7 tyX7_ok nmX7 hown hK hP hD hS 0 rfl rfl 0 (by decide) f_61 rfl rfl (Nat.le_of_ble_eq_true rfl) (MW_i0 cI ad _ _) dX7_put_2 (fun H locs hP hD hS => ?_)
  refine lv_iload_n hx hb dX7_put_5 rfl (lv_at hl 1 rfl) ?_
  obtain ⟨v_1, e_1, hR⟩ := b1_some hR
  refine bc_z (va_runS (As := [.int x1]) (rest := []) ⟨hx, hb, hml, hown, hts⟩ (c_X7_isSheet l D cI cO ad _ e_1) (va_cwS 1 hts gX7_put_X7_isSheet rfl rfl rfl (by decide +kernel) ⟨Nat.le_of_ble_eq_true rfl, Nat.le_of_ble_eq_true rfl⟩) (preS hK hN hP hD) rfl rfl hl.1 rfl (lv_room (Nat.le_of_ble_eq_true rfl)) dX7_put_6 ⟨Nat.zero_le _, Nat.zero_le _⟩) hS hD hA (fun H locs hP hD hS n_1 => ?_)
  refine lv_if_ne (tgt := 14) hx hb dX7_put_9 (by decide) (fun c_2 => ?_) (fun c_2 => ?_)
  · have hR := (if_neg c_2).symm.trans hR
    refine lv_aload_n hx hb dX7_put_14 rfl (lv_at hl 0 rfl) ?_
    refine bw_get (ci := 6) (v := .ref (ad 1)) (C := RX7) (T := TX7) (N := 28) hx hb hts i_X7 hown hK hP 0 rfl rfl 2 (by decide) f_9 rfl dX7_put_15 ?_
    refine lv_iload_n hx hb dX7_put_18 rfl (lv_at hl 1 rfl) ?_
    obtain ⟨h_3, hR⟩ := ck_some hR
    refine bw_ald (v := gA (sI st 0 0) 2 x1) hx hb hK hP 1 rfl h_3 rfl dX7_put_19 ?_
    refine lv_bipush (v := (-9)) hx hb dX7_put_20 (by decide) ?_
    refine lv_icmp_ne (tgt := 31) hx hb dX7_put_22 (by decide) (fun c_4 => ?_) (fun c_4 => ?_)
    · have hR := (if_neg c_4).symm.trans hR
      refine lv_iload_n hx hb dX7_put_31 rfl (lv_at hl 2 rfl) ?_
      refine lv_iconst (v := 0) hx hb dX7_put_32 (by decide) ?_
      refine lv_aload_n hx hb dX7_put_33 rfl (lv_at hl 0 rfl) ?_
      refine bw_get (ci := 6) (v := .ref (ad 2)) (C := RX7) (T := TX7) (N := 28) hx hb hts i_X7 hown hK hP 0 rfl rfl 3 (by decide) f_13 rfl dX7_put_34 ?_
      refine lv_iload_n hx hb dX7_put_37 rfl (lv_at hl 1 rfl) ?_
      obtain ⟨h_5, hR⟩ := ck_some hR
      refine bw_ald (v := gA (sI st 0 0) 3 x1) hx hb hK hP 2 rfl h_5 rfl dX7_put_38 ?_
      refine lv_iconst (v := 1) hx hb dX7_put_39 (by decide) ?_
      refine lv_isub hx hb dX7_put_40 ?_
      obtain ⟨v_6, e_6, hR⟩ := b1_some hR
      refine bc_z (va_runS (As := [.int x2, .int 0, .int ((gA (sI st 0 0) 3 x1) - 1)]) (rest := []) ⟨hx, hb, hml, hown, hts⟩ (c_X7_within l D cI cO ad _ e_6) (va_cwS 3 hts gX7_put_X7_within rfl rfl rfl (by decide +kernel) ⟨Nat.le_of_ble_eq_true rfl, Nat.le_of_ble_eq_true rfl⟩) (preS hK hN hP hD) rfl rfl hl.1 rfl (lv_room (Nat.le_of_ble_eq_true rfl)) dX7_put_41 ⟨Nat.zero_le _, Nat.zero_le _⟩) hS hD hA (fun H locs hP hD hS n_6 => ?_)
      refine lv_if_ne (tgt := 53) hx hb dX7_put_44 (by decide) (fun c_7 => ?_) (fun c_7 => ?_)
      · have hR := (if_neg c_7).symm.trans hR
        refine lv_aload_n hx hb dX7_put_53 rfl (lv_at hl 0 rfl) ?_
        refine bw_get (ci := 6) (v := .ref (ad 3)) (C := RX7) (T := TX7) (N := 28) hx hb hts i_X7 hown hK hP 0 rfl rfl 4 (by decide) f_16 rfl dX7_put_54 ?_
        refine lv_bipush (v := 60) hx hb dX7_put_57 (by decide) ?_
        refine lv_iload_n hx hb dX7_put_59 rfl (lv_at hl 1 rfl) ?_
        refine lv_imul hx hb dX7_put_60 ?_
        refine lv_iload_n hx hb dX7_put_61 rfl (lv_at hl 2 rfl) ?_
        refine lv_iadd hx hb dX7_put_62 ?_
        refine lv_aload_n hx hb dX7_put_63 rfl (lv_at hl 0 rfl) ?_
        refine bw_get (ci := 6) (v := .ref (ad 1)) (C := RX7) (T := TX7) (N := 28) hx hb hts i_X7 hown hK hP 0 rfl rfl 2 (by decide) f_9 rfl dX7_put_64 ?_
        refine lv_iload_n hx hb dX7_put_67 rfl (lv_at hl 1 rfl) ?_
        obtain ⟨h_8, hR⟩ := ck_some hR
        refine bw_ald (v := gA (sI st 0 0) 2 x1) hx hb hK hP 1 rfl h_8 rfl dX7_put_68 ?_
        refine lv_if_ne (tgt := 77) hx hb dX7_put_69 (by decide) (fun c_9 => ?_) (fun c_9 => ?_)
        · have hR := (if_neg c_9).symm.trans hR
          refine lv_aload_n hx hb dX7_put_77 rfl (lv_at hl 0 rfl) ?_
          refine bw_get (ci := 6) (v := .ref (ad 1)) (C := RX7) (T := TX7) (N := 28) hx hb hts i_X7 hown hK hP 0 rfl rfl 2 (by decide) f_9 rfl dX7_put_78 ?_
          refine lv_iload_n hx hb dX7_put_81 rfl (lv_at hl 1 rfl) ?_
          obtain ⟨h_10, hR⟩ := ck_some hR
          refine bw_ald (v := gA (sI st 0 0) 2 x1) hx hb hK hP 1 rfl h_10 rfl dX7_put_82 ?_
          refine lv_iconst (v := 1) hx hb dX7_put_83 (by decide) ?_
          refine lv_icmp_ne (tgt := 92) hx hb dX7_put_84 (by decide) (fun c_11 => ?_) (fun c_11 => ?_)
          · have hR := (if_neg c_11).symm.trans hR
            refine lv_iload_n hx hb dX7_put_92 rfl (lv_at hl 3 rfl) ?_
            obtain ⟨h_12, hR⟩ := ck_some hR
            refine bw_ast (w' := (MW cI ad (sA (sI st 0 0) 4 ((60 * x1) + x2) x3))) hx hb hK hP hD hS 3 rfl h_12 (MW_a4 cI ad _ _) dX7_put_93 (fun H locs hP hD hS => ?_)
            refine lv_iconst (v := 1) hx hb dX7_put_94 (by decide) ?_
            exact ret_ _ _ _ _ _ _ dX7_put_95  (sp1 hR) (congrArg (fun z => (MW cI ad z)) (sp2 hR)) hP hD hS
          · have hR := (if_pos c_11).symm.trans hR
            refine lv_iload_n hx hb dX7_put_87 rfl (lv_at hl 3 rfl) ?_
            refine lv_i2s (v := x3.toInt16.toInt32) hx hb dX7_put_88 rfl ?_
            refine lv_goto (tgt := 93) hx hb dX7_put_89 (by decide) ?_
            obtain ⟨h_13, hR⟩ := ck_some hR
            refine bw_ast (w' := (MW cI ad (sA (sI st 0 0) 4 ((60 * x1) + x2) x3.toInt16.toInt32))) hx hb hK hP hD hS 3 rfl h_13 (MW_a4 cI ad _ _) dX7_put_93 (fun H locs hP hD hS => ?_)
            refine lv_iconst (v := 1) hx hb dX7_put_94 (by decide) ?_
            exact ret_ _ _ _ _ _ _ dX7_put_95  (sp1 hR) (congrArg (fun z => (MW cI ad z)) (sp2 hR)) hP hD hS
        · have hR := (if_pos c_9).symm.trans hR
          refine lv_iload_n hx hb dX7_put_72 rfl (lv_at hl 3 rfl) ?_
          refine lv_i2b (v := x3.toInt8.toInt32) hx hb dX7_put_73 rfl ?_
          refine lv_goto (tgt := 93) hx hb dX7_put_74 (by decide) ?_
          obtain ⟨h_14, hR⟩ := ck_some hR
          refine bw_ast (w' := (MW cI ad (sA (sI st 0 0) 4 ((60 * x1) + x2) x3.toInt8.toInt32))) hx hb hK hP hD hS 3 rfl h_14 (MW_a4 cI ad _ _) dX7_put_93 (fun H locs hP hD hS => ?_)
          refine lv_iconst (v := 1) hx hb dX7_put_94 (by decide) ?_
          exact ret_ _ _ _ _ _ _ dX7_put_95  (sp1 hR) (congrArg (fun z => (MW cI ad z)) (sp2 hR)) hP hD hS
      · have hR := (if_pos c_7).symm.trans hR
        refine lv_aload_n hx hb dX7_put_47 rfl (lv_at hl 0 rfl) ?_
        refine lv_iconst (v := 3) hx hb dX7_put_48 (by decide) ?_
        obtain ⟨v_15, s_15, e_15, hR⟩ := b2_some hR
        refine bc_i (va_runV (As := [.int 3]) (rest := []) ⟨hx, hb, hml, hown, hts⟩ (c_X7_fails l D cI cO ad _ e_15) (cwV 1 hts gX7_put_X7_fails rfl rfl rfl (by decide +kernel) ⟨Nat.le_of_ble_eq_true rfl, Nat.le_of_ble_eq_true rfl⟩) (preV hK hN hP hD (va_recv hK hP (ci := 6) (q0 := 0) rfl rfl)) rfl rfl hl.1 rfl (lv_room (Nat.le_of_ble_eq_true rfl)) dX7_put_49 ⟨Nat.zero_le _, Nat.zero_le _⟩) hS hD hA (fun H locs hP hD hS => ?_)
        exact ret_ _ _ _ _ _ _ dX7_put_52  (sp1 hR) (congrArg (fun z => (MW cI ad z)) (sp2 hR)) hP hD hS
    · have hR := (if_pos c_4).symm.trans hR
      refine lv_aload_n hx hb dX7_put_25 rfl (lv_at hl 0 rfl) ?_
      refine lv_iconst (v := 1) hx hb dX7_put_26 (by decide) ?_
      obtain ⟨v_16, s_16, e_16, hR⟩ := b2_some hR
      refine bc_i (va_runV (As := [.int 1]) (rest := []) ⟨hx, hb, hml, hown, hts⟩ (c_X7_fails l D cI cO ad _ e_16) (cwV 1 hts gX7_put_X7_fails rfl rfl rfl (by decide +kernel) ⟨Nat.le_of_ble_eq_true rfl, Nat.le_of_ble_eq_true rfl⟩) (preV hK hN hP hD (va_recv hK hP (ci := 6) (q0 := 0) rfl rfl)) rfl rfl hl.1 rfl (lv_room (Nat.le_of_ble_eq_true rfl)) dX7_put_27 ⟨Nat.zero_le _, Nat.zero_le _⟩) hS hD hA (fun H locs hP hD hS => ?_)
      exact ret_ _ _ _ _ _ _ dX7_put_30  (sp1 hR) (congrArg (fun z => (MW cI ad z)) (sp2 hR)) hP hD hS
  · have hR := (if_pos c_2).symm.trans hR
    refine lv_iconst (v := (-1)) hx hb dX7_put_12 (by decide) ?_
    exact ret_ _ _ _ _ _ _ dX7_put_13  (sp1 hR) (congrArg (fun z => (MW cI ad z)) (sp2 hR)) hP hD hS
abbrev rm_X7_cell : Room := { frames := 2, cells := 0, slots := 0, locals := 42 }
set_option maxHeartbeats 4000000 in
set_option maxRecDepth 100000 in
theorem c_X7_cell (l : Launch) (D : va_G) (cI cO : ClassId) (ad : Nat → Nat) (sz : Nat) {st : St} {x1 : Int32} {x2 : Int32} {x3 : Int32} {r : Int64} {s2 : St} (hR : F_X7_cell st x1 x2 x3 = some (r, s2)) : CL l yX7_cell wsX7_cell rm_X7_cell D cI cO [.ref (ad 0), .int x1, .int x2, .int x3] (MW cI ad st) (MW cI ad s2) sz r := by
  refine mk_l (cc := cX7_cell) (maxL := 4) (own := RX7) rfl (by decide) rfl (Nat.le_of_ble_eq_true rfl) ?_
  intro p e s m args below meth c A Q ls hx hb hml hown hts hK hN hA ret_ hP hD hS hl
  have i_X7 : ∀ w ∈ u_ws RX7 TX7 28, w ∈ wsX7_cell := (fun _ h => List.mem_cons_of_mem _ (List.mem_append_right _ h))
  have f_61 := hts (.fieldLink RX7 61 "BellNamesModel" "fault" "I") (by decide +kernel)
  have k_65 := hts (.constantLong RX7 65 (-9223372036854775808)) (by decide +kernel)
  have f_9 := hts (.fieldLink RX7 9 "BellNamesModel" "sorts" "[I") (by decide +kernel)
  have f_13 := hts (.fieldLink RX7 13 "BellNamesModel" "sheetLong" "[I") (by decide +kernel)
  have f_16 := hts (.fieldLink RX7 16 "BellNamesModel" "cells" "[I") (by decide +kernel)
  have hl : lv_has ls 4 [(0, .ref (ad 0)), (1, .int x1), (2, .int x2), (3, .int x3)] := hl
  unfold F_X7_cell at hR
  refine lv_aload_n hx hb dX7_cell_0 rfl (lv_at hl 0 rfl) ?_
  refine lv_iconst (v := 0) hx hb dX7_cell_1 (by decide) ?_
  refine bw_put (w' := (MW cI ad (sI st 0 0))) (ci := 6) (C := RX7) (T := TX7) (N := 28) hx hb hts i_X7 tyX7 tyX7_ok nmX7 hown hK hP hD hS 0 rfl rfl 0 (by decide) f_61 rfl rfl (Nat.le_of_ble_eq_true rfl) (MW_i0 cI ad _ _) dX7_cell_2 (fun H locs hP hD hS => ?_)
  refine lv_iload_n hx hb dX7_cell_5 rfl (lv_at hl 1 rfl) ?_
  obtain ⟨v_1, e_1, hR⟩ := b1_some hR
  refine bc_z (va_runS (As := [.int x1]) (rest := []) ⟨hx, hb, hml, hown, hts⟩ (c_X7_isSheet l D cI cO ad _ e_1) (va_cwS 1 hts gX7_cell_X7_isSheet rfl rfl rfl (by decide +kernel) ⟨Nat.le_of_ble_eq_true rfl, Nat.le_of_ble_eq_true rfl⟩) (preS hK hN hP hD) rfl rfl hl.1 rfl (lv_room (Nat.le_of_ble_eq_true rfl)) dX7_cell_6 ⟨Nat.zero_le _, Nat.zero_le _⟩) hS hD hA (fun H locs hP hD hS n_1 => ?_)
  refine lv_if_eq (tgt := 19) hx hb dX7_cell_9 (by decide) (fun c_2 => ?_) (fun c_2 => ?_)
  · have hR := (if_pos c_2).symm.trans hR
    refine lv_ldc2 hx hb hown k_65 dX7_cell_19 ?_
    exact ret_ _ _ _ _ _ _ dX7_cell_22  (sp1 hR) (congrArg (fun z => (MW cI ad z)) (sp2 hR)) hP hD hS
  · have hR := (if_neg c_2).symm.trans hR
    refine lv_iload_n hx hb dX7_cell_12 rfl (lv_at hl 3 rfl) ?_
    obtain ⟨v_3, e_3, hR⟩ := b1_some hR
    refine bc_z (va_runS (As := [.int x3]) (rest := []) ⟨hx, hb, hml, hown, hts⟩ (c_X7_isSort l D cI cO ad _ e_3) (va_cwS 1 hts gX7_cell_X7_isSort rfl rfl rfl (by decide +kernel) ⟨Nat.le_of_ble_eq_true rfl, Nat.le_of_ble_eq_true rfl⟩) (preS hK hN hP hD) rfl rfl hl.1 rfl (lv_room (Nat.le_of_ble_eq_true rfl)) dX7_cell_13 ⟨Nat.zero_le _, Nat.zero_le _⟩) hS hD hA (fun H locs hP hD hS n_3 => ?_)
    refine lv_if_ne (tgt := 23) hx hb dX7_cell_16 (by decide) (fun c_4 => ?_) (fun c_4 => ?_)
    · have hR := (if_neg c_4).symm.trans hR
      refine lv_aload_n hx hb dX7_cell_23 rfl (lv_at hl 0 rfl) ?_
      refine bw_get (ci := 6) (v := .ref (ad 1)) (C := RX7) (T := TX7) (N := 28) hx hb hts i_X7 hown hK hP 0 rfl rfl 2 (by decide) f_9 rfl dX7_cell_24 ?_
      refine lv_iload_n hx hb dX7_cell_27 rfl (lv_at hl 1 rfl) ?_
      obtain ⟨h_5, hR⟩ := ck_some hR
      refine bw_ald (v := gA (sI st 0 0) 2 x1) hx hb hK hP 1 rfl h_5 rfl dX7_cell_28 ?_
      refine lv_bipush (v := (-9)) hx hb dX7_cell_29 (by decide) ?_
      refine lv_icmp_eq (tgt := 50) hx hb dX7_cell_31 (by decide) (fun c_6 => ?_) (fun c_6 => ?_)
      · have hR := (if_pos c_6).symm.trans hR
        refine lv_aload_n hx hb dX7_cell_50 rfl (lv_at hl 0 rfl) ?_
        refine bw_get (ci := 6) (v := .ref (ad 1)) (C := RX7) (T := TX7) (N := 28) hx hb hts i_X7 hown hK hP 0 rfl rfl 2 (by decide) f_9 rfl dX7_cell_51 ?_
        refine lv_iload_n hx hb dX7_cell_54 rfl (lv_at hl 1 rfl) ?_
        obtain ⟨h_7, hR⟩ := ck_some hR
        refine bw_ald (v := gA (sI st 0 0) 2 x1) hx hb hK hP 1 rfl h_7 rfl dX7_cell_55 ?_
        refine lv_bipush (v := (-9)) hx hb dX7_cell_56 (by decide) ?_
        refine lv_icmp_ne (tgt := 67) hx hb dX7_cell_58 (by decide) (fun c_8 => ?_) (fun c_8 => ?_)
        · have hR := (if_neg c_8).symm.trans hR
          refine lv_iload_n hx hb dX7_cell_67 rfl (lv_at hl 2 rfl) ?_
          refine lv_iconst (v := 0) hx hb dX7_cell_68 (by decide) ?_
          refine lv_aload_n hx hb dX7_cell_69 rfl (lv_at hl 0 rfl) ?_
          refine bw_get (ci := 6) (v := .ref (ad 2)) (C := RX7) (T := TX7) (N := 28) hx hb hts i_X7 hown hK hP 0 rfl rfl 3 (by decide) f_13 rfl dX7_cell_70 ?_
          refine lv_iload_n hx hb dX7_cell_73 rfl (lv_at hl 1 rfl) ?_
          obtain ⟨h_9, hR⟩ := ck_some hR
          refine bw_ald (v := gA (sI st 0 0) 3 x1) hx hb hK hP 2 rfl h_9 rfl dX7_cell_74 ?_
          refine lv_iconst (v := 1) hx hb dX7_cell_75 (by decide) ?_
          refine lv_isub hx hb dX7_cell_76 ?_
          obtain ⟨v_10, e_10, hR⟩ := b1_some hR
          refine bc_z (va_runS (As := [.int x2, .int 0, .int ((gA (sI st 0 0) 3 x1) - 1)]) (rest := []) ⟨hx, hb, hml, hown, hts⟩ (c_X7_within l D cI cO ad _ e_10) (va_cwS 3 hts gX7_cell_X7_within rfl rfl rfl (by decide +kernel) ⟨Nat.le_of_ble_eq_true rfl, Nat.le_of_ble_eq_true rfl⟩) (preS hK hN hP hD) rfl rfl hl.1 rfl (lv_room (Nat.le_of_ble_eq_true rfl)) dX7_cell_77 ⟨Nat.zero_le _, Nat.zero_le _⟩) hS hD hA (fun H locs hP hD hS n_10 => ?_)
          refine lv_if_ne (tgt := 89) hx hb dX7_cell_80 (by decide) (fun c_11 => ?_) (fun c_11 => ?_)
          · have hR := (if_neg c_11).symm.trans hR
            refine lv_aload_n hx hb dX7_cell_89 rfl (lv_at hl 0 rfl) ?_
            refine bw_get (ci := 6) (v := .ref (ad 3)) (C := RX7) (T := TX7) (N := 28) hx hb hts i_X7 hown hK hP 0 rfl rfl 4 (by decide) f_16 rfl dX7_cell_90 ?_
            refine lv_bipush (v := 60) hx hb dX7_cell_93 (by decide) ?_
            refine lv_iload_n hx hb dX7_cell_95 rfl (lv_at hl 1 rfl) ?_
            refine lv_imul hx hb dX7_cell_96 ?_
            refine lv_iload_n hx hb dX7_cell_97 rfl (lv_at hl 2 rfl) ?_
            refine lv_iadd hx hb dX7_cell_98 ?_
            obtain ⟨h_12, hR⟩ := ck_some hR
            refine bw_ald (v := gA (sI st 0 0) 4 ((60 * x1) + x2)) hx hb hK hP 3 rfl h_12 rfl dX7_cell_99 ?_
            refine lv_i2l (v := (gA (sI st 0 0) 4 ((60 * x1) + x2)).toInt64) hx hb dX7_cell_100 rfl ?_
            exact ret_ _ _ _ _ _ _ dX7_cell_101  (sp1 hR) (congrArg (fun z => (MW cI ad z)) (sp2 hR)) hP hD hS
          · have hR := (if_pos c_11).symm.trans hR
            refine lv_aload_n hx hb dX7_cell_83 rfl (lv_at hl 0 rfl) ?_
            refine lv_iconst (v := 3) hx hb dX7_cell_84 (by decide) ?_
            obtain ⟨v_13, s_13, e_13, hR⟩ := b2_some hR
            refine bc_l (va_runV (As := [.int 3]) (rest := []) ⟨hx, hb, hml, hown, hts⟩ (c_X7_lost l D cI cO ad _ e_13) (cwV 1 hts gX7_cell_X7_lost rfl rfl rfl (by decide +kernel) ⟨Nat.le_of_ble_eq_true rfl, Nat.le_of_ble_eq_true rfl⟩) (preV hK hN hP hD (va_recv hK hP (ci := 6) (q0 := 0) rfl rfl)) rfl rfl hl.1 rfl (lv_room (Nat.le_of_ble_eq_true rfl)) dX7_cell_85 ⟨Nat.zero_le _, Nat.zero_le _⟩) hS hD hA (fun H locs hP hD hS => ?_)
            exact ret_ _ _ _ _ _ _ dX7_cell_88  (sp1 hR) (congrArg (fun z => (MW cI ad z)) (sp2 hR)) hP hD hS
        · have hR := (if_pos c_8).symm.trans hR
          refine lv_aload_n hx hb dX7_cell_61 rfl (lv_at hl 0 rfl) ?_
          refine lv_iconst (v := 1) hx hb dX7_cell_62 (by decide) ?_
          obtain ⟨v_14, s_14, e_14, hR⟩ := b2_some hR
          refine bc_l (va_runV (As := [.int 1]) (rest := []) ⟨hx, hb, hml, hown, hts⟩ (c_X7_lost l D cI cO ad _ e_14) (cwV 1 hts gX7_cell_X7_lost rfl rfl rfl (by decide +kernel) ⟨Nat.le_of_ble_eq_true rfl, Nat.le_of_ble_eq_true rfl⟩) (preV hK hN hP hD (va_recv hK hP (ci := 6) (q0 := 0) rfl rfl)) rfl rfl hl.1 rfl (lv_room (Nat.le_of_ble_eq_true rfl)) dX7_cell_63 ⟨Nat.zero_le _, Nat.zero_le _⟩) hS hD hA (fun H locs hP hD hS => ?_)
          exact ret_ _ _ _ _ _ _ dX7_cell_66  (sp1 hR) (congrArg (fun z => (MW cI ad z)) (sp2 hR)) hP hD hS
      · have hR := (if_neg c_6).symm.trans hR
        refine lv_aload_n hx hb dX7_cell_34 rfl (lv_at hl 0 rfl) ?_
        refine bw_get (ci := 6) (v := .ref (ad 1)) (C := RX7) (T := TX7) (N := 28) hx hb hts i_X7 hown hK hP 0 rfl rfl 2 (by decide) f_9 rfl dX7_cell_35 ?_
        refine lv_iload_n hx hb dX7_cell_38 rfl (lv_at hl 1 rfl) ?_
        obtain ⟨h_15, hR⟩ := ck_some hR
        refine bw_ald (v := gA (sI st 0 0) 2 x1) hx hb hK hP 1 rfl h_15 rfl dX7_cell_39 ?_
        refine lv_iload_n hx hb dX7_cell_40 rfl (lv_at hl 3 rfl) ?_
        refine lv_icmp_eq (tgt := 50) hx hb dX7_cell_41 (by decide) (fun c_16 => ?_) (fun c_16 => ?_)
        · have hR := (if_pos c_16).symm.trans hR
          refine lv_aload_n hx hb dX7_cell_50 rfl (lv_at hl 0 rfl) ?_
          refine bw_get (ci := 6) (v := .ref (ad 1)) (C := RX7) (T := TX7) (N := 28) hx hb hts i_X7 hown hK hP 0 rfl rfl 2 (by decide) f_9 rfl dX7_cell_51 ?_
          refine lv_iload_n hx hb dX7_cell_54 rfl (lv_at hl 1 rfl) ?_
          obtain ⟨h_17, hR⟩ := ck_some hR
          refine bw_ald (v := gA (sI st 0 0) 2 x1) hx hb hK hP 1 rfl h_17 rfl dX7_cell_55 ?_
          refine lv_bipush (v := (-9)) hx hb dX7_cell_56 (by decide) ?_
          refine lv_icmp_ne (tgt := 67) hx hb dX7_cell_58 (by decide) (fun c_18 => ?_) (fun c_18 => ?_)
          · have hR := (if_neg c_18).symm.trans hR
            refine lv_iload_n hx hb dX7_cell_67 rfl (lv_at hl 2 rfl) ?_
            refine lv_iconst (v := 0) hx hb dX7_cell_68 (by decide) ?_
            refine lv_aload_n hx hb dX7_cell_69 rfl (lv_at hl 0 rfl) ?_
            refine bw_get (ci := 6) (v := .ref (ad 2)) (C := RX7) (T := TX7) (N := 28) hx hb hts i_X7 hown hK hP 0 rfl rfl 3 (by decide) f_13 rfl dX7_cell_70 ?_
            refine lv_iload_n hx hb dX7_cell_73 rfl (lv_at hl 1 rfl) ?_
            obtain ⟨h_19, hR⟩ := ck_some hR
            refine bw_ald (v := gA (sI st 0 0) 3 x1) hx hb hK hP 2 rfl h_19 rfl dX7_cell_74 ?_
            refine lv_iconst (v := 1) hx hb dX7_cell_75 (by decide) ?_
            refine lv_isub hx hb dX7_cell_76 ?_
            obtain ⟨v_20, e_20, hR⟩ := b1_some hR
            refine bc_z (va_runS (As := [.int x2, .int 0, .int ((gA (sI st 0 0) 3 x1) - 1)]) (rest := []) ⟨hx, hb, hml, hown, hts⟩ (c_X7_within l D cI cO ad _ e_20) (va_cwS 3 hts gX7_cell_X7_within rfl rfl rfl (by decide +kernel) ⟨Nat.le_of_ble_eq_true rfl, Nat.le_of_ble_eq_true rfl⟩) (preS hK hN hP hD) rfl rfl hl.1 rfl (lv_room (Nat.le_of_ble_eq_true rfl)) dX7_cell_77 ⟨Nat.zero_le _, Nat.zero_le _⟩) hS hD hA (fun H locs hP hD hS n_20 => ?_)
            refine lv_if_ne (tgt := 89) hx hb dX7_cell_80 (by decide) (fun c_21 => ?_) (fun c_21 => ?_)
            · have hR := (if_neg c_21).symm.trans hR
              refine lv_aload_n hx hb dX7_cell_89 rfl (lv_at hl 0 rfl) ?_
              refine bw_get (ci := 6) (v := .ref (ad 3)) (C := RX7) (T := TX7) (N := 28) hx hb hts i_X7 hown hK hP 0 rfl rfl 4 (by decide) f_16 rfl dX7_cell_90 ?_
              refine lv_bipush (v := 60) hx hb dX7_cell_93 (by decide) ?_
              refine lv_iload_n hx hb dX7_cell_95 rfl (lv_at hl 1 rfl) ?_
              refine lv_imul hx hb dX7_cell_96 ?_
              refine lv_iload_n hx hb dX7_cell_97 rfl (lv_at hl 2 rfl) ?_
              refine lv_iadd hx hb dX7_cell_98 ?_
              obtain ⟨h_22, hR⟩ := ck_some hR
              refine bw_ald (v := gA (sI st 0 0) 4 ((60 * x1) + x2)) hx hb hK hP 3 rfl h_22 rfl dX7_cell_99 ?_
              refine lv_i2l (v := (gA (sI st 0 0) 4 ((60 * x1) + x2)).toInt64) hx hb dX7_cell_100 rfl ?_
              exact ret_ _ _ _ _ _ _ dX7_cell_101  (sp1 hR) (congrArg (fun z => (MW cI ad z)) (sp2 hR)) hP hD hS
            · have hR := (if_pos c_21).symm.trans hR
              refine lv_aload_n hx hb dX7_cell_83 rfl (lv_at hl 0 rfl) ?_
              refine lv_iconst (v := 3) hx hb dX7_cell_84 (by decide) ?_
              obtain ⟨v_23, s_23, e_23, hR⟩ := b2_some hR
              refine bc_l (va_runV (As := [.int 3]) (rest := []) ⟨hx, hb, hml, hown, hts⟩ (c_X7_lost l D cI cO ad _ e_23) (cwV 1 hts gX7_cell_X7_lost rfl rfl rfl (by decide +kernel) ⟨Nat.le_of_ble_eq_true rfl, Nat.le_of_ble_eq_true rfl⟩) (preV hK hN hP hD (va_recv hK hP (ci := 6) (q0 := 0) rfl rfl)) rfl rfl hl.1 rfl (lv_room (Nat.le_of_ble_eq_true rfl)) dX7_cell_85 ⟨Nat.zero_le _, Nat.zero_le _⟩) hS hD hA (fun H locs hP hD hS => ?_)
              exact ret_ _ _ _ _ _ _ dX7_cell_88  (sp1 hR) (congrArg (fun z => (MW cI ad z)) (sp2 hR)) hP hD hS
          · have hR := (if_pos c_18).symm.trans hR
            refine lv_aload_n hx hb dX7_cell_61 rfl (lv_at hl 0 rfl) ?_
            refine lv_iconst (v := 1) hx hb dX7_cell_62 (by decide) ?_
            obtain ⟨v_24, s_24, e_24, hR⟩ := b2_some hR
            refine bc_l (va_runV (As := [.int 1]) (rest := []) ⟨hx, hb, hml, hown, hts⟩ (c_X7_lost l D cI cO ad _ e_24) (cwV 1 hts gX7_cell_X7_lost rfl rfl rfl (by decide +kernel) ⟨Nat.le_of_ble_eq_true rfl, Nat.le_of_ble_eq_true rfl⟩) (preV hK hN hP hD (va_recv hK hP (ci := 6) (q0 := 0) rfl rfl)) rfl rfl hl.1 rfl (lv_room (Nat.le_of_ble_eq_true rfl)) dX7_cell_63 ⟨Nat.zero_le _, Nat.zero_le _⟩) hS hD hA (fun H locs hP hD hS => ?_)
            exact ret_ _ _ _ _ _ _ dX7_cell_66  (sp1 hR) (congrArg (fun z => (MW cI ad z)) (sp2 hR)) hP hD hS
        · have hR := (if_neg c_16).symm.trans hR
          refine lv_aload_n hx hb dX7_cell_44 rfl (lv_at hl 0 rfl) ?_
          refine lv_iconst (v := 2) hx hb dX7_cell_45 (by decide) ?_
          obtain ⟨v_25, s_25, e_25, hR⟩ := b2_some hR
          refine bc_l (va_runV (As := [.int 2]) (rest := []) ⟨hx, hb, hml, hown, hts⟩ (c_X7_lost l D cI cO ad _ e_25) (cwV 1 hts gX7_cell_X7_lost rfl rfl rfl (by decide +kernel) ⟨Nat.le_of_ble_eq_true rfl, Nat.le_of_ble_eq_true rfl⟩) (preV hK hN hP hD (va_recv hK hP (ci := 6) (q0 := 0) rfl rfl)) rfl rfl hl.1 rfl (lv_room (Nat.le_of_ble_eq_true rfl)) dX7_cell_46 ⟨Nat.zero_le _, Nat.zero_le _⟩) hS hD hA (fun H locs hP hD hS => ?_)
          exact ret_ _ _ _ _ _ _ dX7_cell_49  (sp1 hR) (congrArg (fun z => (MW cI ad z)) (sp2 hR)) hP hD hS
    · have hR := (if_pos c_4).symm.trans hR
      refine lv_ldc2 hx hb hown k_65 dX7_cell_19 ?_
      exact ret_ _ _ _ _ _ _ dX7_cell_22  (sp1 hR) (congrArg (fun z => (MW cI ad z)) (sp2 hR)) hP hD hS
abbrev rm_X7_copy : Room := { frames := 2, cells := 0, slots := 0, locals := 42 }
set_option maxHeartbeats 4000000 in
set_option maxRecDepth 100000 in
theorem c_X7_copy (l : Launch) (D : va_G) (cI cO : ClassId) (ad : Nat → Nat) (sz : Nat) {st : St} {x1 : Int32} {x2 : Int32} {x3 : Int32} {x4 : Int32} {x5 : Int32} {r : Int32} {s2 : St} (hR : F_X7_copy st x1 x2 x3 x4 x5 = some (r, s2)) : CI l yX7_copy wsX7_copy rm_X7_copy D cI cO [.ref (ad 0), .int x1, .int x2, .int x3, .int x4, .int x5] (MW cI ad st) (MW cI ad s2) sz r := by
  refine mk_i (cc := cX7_copy) (maxL := 10) (own := RX7) rfl (by decide) rfl (Nat.le_of_ble_eq_true rfl) ?_
  intro p e s m args below meth c A Q ls hx hb hml hown hts hK hN hA ret_ hP hD hS hl
  have i_X7 : ∀ w ∈ u_ws RX7 TX7 28, w ∈ wsX7_copy := (fun _ h => List.mem_cons_of_mem _ (List.mem_append_right _ h))
  have f_61 := hts (.fieldLink RX7 61 "BellNamesModel" "fault" "I") (by decide +kernel)
  have f_9 := hts (.fieldLink RX7 9 "BellNamesModel" "sorts" "[I") (by decide +kernel)
  have f_13 := hts (.fieldLink RX7 13 "BellNamesModel" "sheetLong" "[I") (by decide +kernel)
  have f_16 := hts (.fieldLink RX7 16 "BellNamesModel" "cells" "[I") (by decide +kernel)
  have hl : lv_has ls 10 [(0, .ref (ad 0)), (1, .int x1), (2, .int x2), (3, .int x3), (4, .int x4), (5, .int x5)] := hl
  unfold F_X7_copy at hR
  refine lv_aload_n hx hb dX7_copy_0 rfl (lv_at hl 0 rfl) ?_
  refine lv_iconst (v := 0) hx hb dX7_copy_1 (by decide) ?_
  refine bw_put (w' := (MW cI ad (sI st 0 0))) (ci := 6) (C := RX7) (T := TX7) (N := 28) hx hb hts i_X7 tyX7 tyX7_ok nmX7 hown hK hP hD hS 0 rfl rfl 0 (by decide) f_61 rfl rfl (Nat.le_of_ble_eq_true rfl) (MW_i0 cI ad _ _) dX7_copy_2 (fun H locs hP hD hS => ?_)
  refine lv_iload_n hx hb dX7_copy_5 rfl (lv_at hl 1 rfl) ?_
  obtain ⟨v_1, e_1, hR⟩ := b1_some hR
  refine bc_z (va_runS (As := [.int x1]) (rest := []) ⟨hx, hb, hml, hown, hts⟩ (c_X7_isSheet l D cI cO ad _ e_1) (va_cwS 1 hts gX7_copy_X7_isSheet rfl rfl rfl (by decide +kernel) ⟨Nat.le_of_ble_eq_true rfl, Nat.le_of_ble_eq_true rfl⟩) (preS hK hN hP hD) rfl rfl hl.1 rfl (lv_room (Nat.le_of_ble_eq_true rfl)) dX7_copy_6 ⟨Nat.zero_le _, Nat.zero_le _⟩) hS hD hA (fun H locs hP hD hS n_1 => ?_)
  refine lv_if_eq (tgt := 19) hx hb dX7_copy_9 (by decide) (fun c_2 => ?_) (fun c_2 => ?_)
  · have hR := (if_pos c_2).symm.trans hR
    refine lv_iconst (v := (-1)) hx hb dX7_copy_19 (by decide) ?_
    exact ret_ _ _ _ _ _ _ dX7_copy_20  (sp1 hR) (congrArg (fun z => (MW cI ad z)) (sp2 hR)) hP hD hS
  · have hR := (if_neg c_2).symm.trans hR
    refine lv_iload_n hx hb dX7_copy_12 rfl (lv_at hl 3 rfl) ?_
    obtain ⟨v_3, e_3, hR⟩ := b1_some hR
    refine bc_z (va_runS (As := [.int x3]) (rest := []) ⟨hx, hb, hml, hown, hts⟩ (c_X7_isSheet l D cI cO ad _ e_3) (va_cwS 1 hts gX7_copy_X7_isSheet rfl rfl rfl (by decide +kernel) ⟨Nat.le_of_ble_eq_true rfl, Nat.le_of_ble_eq_true rfl⟩) (preS hK hN hP hD) rfl rfl hl.1 rfl (lv_room (Nat.le_of_ble_eq_true rfl)) dX7_copy_13 ⟨Nat.zero_le _, Nat.zero_le _⟩) hS hD hA (fun H locs hP hD hS n_3 => ?_)
    refine lv_if_ne (tgt := 21) hx hb dX7_copy_16 (by decide) (fun c_4 => ?_) (fun c_4 => ?_)
    · have hR := (if_neg c_4).symm.trans hR
      refine lv_aload_n hx hb dX7_copy_21 rfl (lv_at hl 0 rfl) ?_
      refine bw_get (ci := 6) (v := .ref (ad 1)) (C := RX7) (T := TX7) (N := 28) hx hb hts i_X7 hown hK hP 0 rfl rfl 2 (by decide) f_9 rfl dX7_copy_22 ?_
      refine lv_iload_n hx hb dX7_copy_25 rfl (lv_at hl 1 rfl) ?_
      obtain ⟨h_5, hR⟩ := ck_some hR
      refine bw_ald (v := gA (sI st 0 0) 2 x1) hx hb hK hP 1 rfl h_5 rfl dX7_copy_26 ?_
      refine lv_bipush (v := (-9)) hx hb dX7_copy_27 (by decide) ?_
      refine lv_icmp_eq (tgt := 43) hx hb dX7_copy_29 (by decide) (fun c_6 => ?_) (fun c_6 => ?_)
      · have hR := (if_pos c_6).symm.trans hR
        refine lv_aload_n hx hb dX7_copy_43 rfl (lv_at hl 0 rfl) ?_
        refine lv_iconst (v := 1) hx hb dX7_copy_44 (by decide) ?_
        obtain ⟨v_7, s_7, e_7, hR⟩ := b2_some hR
        refine bc_i (va_runV (As := [.int 1]) (rest := []) ⟨hx, hb, hml, hown, hts⟩ (c_X7_fails l D cI cO ad _ e_7) (cwV 1 hts gX7_copy_X7_fails rfl rfl rfl (by decide +kernel) ⟨Nat.le_of_ble_eq_true rfl, Nat.le_of_ble_eq_true rfl⟩) (preV hK hN hP hD (va_recv hK hP (ci := 6) (q0 := 0) rfl rfl)) rfl rfl hl.1 rfl (lv_room (Nat.le_of_ble_eq_true rfl)) dX7_copy_45 ⟨Nat.zero_le _, Nat.zero_le _⟩) hS hD hA (fun H locs hP hD hS => ?_)
        exact ret_ _ _ _ _ _ _ dX7_copy_48  (sp1 hR) (congrArg (fun z => (MW cI ad z)) (sp2 hR)) hP hD hS
      · have hR := (if_neg c_6).symm.trans hR
        refine lv_aload_n hx hb dX7_copy_32 rfl (lv_at hl 0 rfl) ?_
        refine bw_get (ci := 6) (v := .ref (ad 1)) (C := RX7) (T := TX7) (N := 28) hx hb hts i_X7 hown hK hP 0 rfl rfl 2 (by decide) f_9 rfl dX7_copy_33 ?_
        refine lv_iload_n hx hb dX7_copy_36 rfl (lv_at hl 3 rfl) ?_
        obtain ⟨h_8, hR⟩ := ck_some hR
        refine bw_ald (v := gA (sI st 0 0) 2 x3) hx hb hK hP 1 rfl h_8 rfl dX7_copy_37 ?_
        refine lv_bipush (v := (-9)) hx hb dX7_copy_38 (by decide) ?_
        refine lv_icmp_ne (tgt := 49) hx hb dX7_copy_40 (by decide) (fun c_9 => ?_) (fun c_9 => ?_)
        · have hR := (if_neg c_9).symm.trans hR
          refine lv_aload_n hx hb dX7_copy_49 rfl (lv_at hl 0 rfl) ?_
          refine bw_get (ci := 6) (v := .ref (ad 1)) (C := RX7) (T := TX7) (N := 28) hx hb hts i_X7 hown hK hP 0 rfl rfl 2 (by decide) f_9 rfl dX7_copy_50 ?_
          refine lv_iload_n hx hb dX7_copy_53 rfl (lv_at hl 1 rfl) ?_
          obtain ⟨h_10, hR⟩ := ck_some hR
          refine bw_ald (v := gA (sI st 0 0) 2 x1) hx hb hK hP 1 rfl h_10 rfl dX7_copy_54 ?_
          refine lv_aload_n hx hb dX7_copy_55 rfl (lv_at hl 0 rfl) ?_
          refine bw_get (ci := 6) (v := .ref (ad 1)) (C := RX7) (T := TX7) (N := 28) hx hb hts i_X7 hown hK hP 0 rfl rfl 2 (by decide) f_9 rfl dX7_copy_56 ?_
          refine lv_iload_n hx hb dX7_copy_59 rfl (lv_at hl 3 rfl) ?_
          obtain ⟨h_11, hR⟩ := ck_some hR
          refine bw_ald (v := gA (sI st 0 0) 2 x3) hx hb hK hP 1 rfl h_11 rfl dX7_copy_60 ?_
          refine lv_icmp_eq (tgt := 70) hx hb dX7_copy_61 (by decide) (fun c_12 => ?_) (fun c_12 => ?_)
          · have hR := (if_pos c_12).symm.trans hR
            refine lv_iload_n hx hb dX7_copy_70 rfl (lv_at hl 2 rfl) ?_
            refine lv_if_lt (tgt := 109) hx hb dX7_copy_71 (by decide) (fun c_13 => ?_) (fun c_13 => ?_)
            · have hR := (if_pos c_13).symm.trans hR
              refine lv_iconst (v := 0) hx hb dX7_copy_109 (by decide) ?_
              refine lv_istore (lv' := [(6, .int 0), (0, .ref (ad 0)), (1, .int x1), (2, .int x2), (3, .int x3), (4, .int x4), (5, .int x5)]) hx hb dX7_copy_110 hl (by decide) rfl (fun ls hl => ?_)
              refine lv_iload hx hb dX7_copy_112 (lv_at hl 0 rfl) ?_
              refine lv_if_eq (tgt := 144) hx hb dX7_copy_114 (by decide) (fun c_14 => ?_) (fun c_14 => ?_)
              · refine lv_aload_n hx hb dX7_copy_144 rfl (lv_at hl 1 rfl) ?_
                refine lv_iconst (v := 3) hx hb dX7_copy_145 (by decide) ?_
                obtain ⟨v_15, s_15, e_15, hR⟩ := b2_some hR
                refine bc_i (va_runV (As := [.int 3]) (rest := []) ⟨hx, hb, hml, hown, hts⟩ (c_X7_fails l D cI cO ad _ e_15) (cwV 1 hts gX7_copy_X7_fails rfl rfl rfl (by decide +kernel) ⟨Nat.le_of_ble_eq_true rfl, Nat.le_of_ble_eq_true rfl⟩) (preV hK hN hP hD (va_recv hK hP (ci := 6) (q0 := 0) rfl rfl)) rfl rfl hl.1 rfl (lv_room (Nat.le_of_ble_eq_true rfl)) dX7_copy_146 ⟨Nat.zero_le _, Nat.zero_le _⟩) hS hD hA (fun H locs hP hD hS => ?_)
                exact ret_ _ _ _ _ _ _ dX7_copy_149  (sp1 hR) (congrArg (fun z => (MW cI ad z)) (sp2 hR)) hP hD hS
              · exact absurd c_14 (by decide)
            · have hR := (if_neg c_13).symm.trans hR
              refine lv_iload hx hb dX7_copy_74 (lv_at hl 4 rfl) ?_
              refine lv_if_lt (tgt := 109) hx hb dX7_copy_76 (by decide) (fun c_16 => ?_) (fun c_16 => ?_)
              · have hR := (if_pos c_16).symm.trans hR
                refine lv_iconst (v := 0) hx hb dX7_copy_109 (by decide) ?_
                refine lv_istore (lv' := [(6, .int 0), (0, .ref (ad 0)), (1, .int x1), (2, .int x2), (3, .int x3), (4, .int x4), (5, .int x5)]) hx hb dX7_copy_110 hl (by decide) rfl (fun ls hl => ?_)
                refine lv_iload hx hb dX7_copy_112 (lv_at hl 0 rfl) ?_
                refine lv_if_eq (tgt := 144) hx hb dX7_copy_114 (by decide) (fun c_17 => ?_) (fun c_17 => ?_)
                · refine lv_aload_n hx hb dX7_copy_144 rfl (lv_at hl 1 rfl) ?_
                  refine lv_iconst (v := 3) hx hb dX7_copy_145 (by decide) ?_
                  obtain ⟨v_18, s_18, e_18, hR⟩ := b2_some hR
                  refine bc_i (va_runV (As := [.int 3]) (rest := []) ⟨hx, hb, hml, hown, hts⟩ (c_X7_fails l D cI cO ad _ e_18) (cwV 1 hts gX7_copy_X7_fails rfl rfl rfl (by decide +kernel) ⟨Nat.le_of_ble_eq_true rfl, Nat.le_of_ble_eq_true rfl⟩) (preV hK hN hP hD (va_recv hK hP (ci := 6) (q0 := 0) rfl rfl)) rfl rfl hl.1 rfl (lv_room (Nat.le_of_ble_eq_true rfl)) dX7_copy_146 ⟨Nat.zero_le _, Nat.zero_le _⟩) hS hD hA (fun H locs hP hD hS => ?_)
                  exact ret_ _ _ _ _ _ _ dX7_copy_149  (sp1 hR) (congrArg (fun z => (MW cI ad z)) (sp2 hR)) hP hD hS
                · exact absurd c_17 (by decide)
              · have hR := (if_neg c_16).symm.trans hR
                refine lv_iload hx hb dX7_copy_79 (lv_at hl 5 rfl) ?_
                refine lv_if_lt (tgt := 109) hx hb dX7_copy_81 (by decide) (fun c_19 => ?_) (fun c_19 => ?_)
                · have hR := (if_pos c_19).symm.trans hR
                  refine lv_iconst (v := 0) hx hb dX7_copy_109 (by decide) ?_
                  refine lv_istore (lv' := [(6, .int 0), (0, .ref (ad 0)), (1, .int x1), (2, .int x2), (3, .int x3), (4, .int x4), (5, .int x5)]) hx hb dX7_copy_110 hl (by decide) rfl (fun ls hl => ?_)
                  refine lv_iload hx hb dX7_copy_112 (lv_at hl 0 rfl) ?_
                  refine lv_if_eq (tgt := 144) hx hb dX7_copy_114 (by decide) (fun c_20 => ?_) (fun c_20 => ?_)
                  · refine lv_aload_n hx hb dX7_copy_144 rfl (lv_at hl 1 rfl) ?_
                    refine lv_iconst (v := 3) hx hb dX7_copy_145 (by decide) ?_
                    obtain ⟨v_21, s_21, e_21, hR⟩ := b2_some hR
                    refine bc_i (va_runV (As := [.int 3]) (rest := []) ⟨hx, hb, hml, hown, hts⟩ (c_X7_fails l D cI cO ad _ e_21) (cwV 1 hts gX7_copy_X7_fails rfl rfl rfl (by decide +kernel) ⟨Nat.le_of_ble_eq_true rfl, Nat.le_of_ble_eq_true rfl⟩) (preV hK hN hP hD (va_recv hK hP (ci := 6) (q0 := 0) rfl rfl)) rfl rfl hl.1 rfl (lv_room (Nat.le_of_ble_eq_true rfl)) dX7_copy_146 ⟨Nat.zero_le _, Nat.zero_le _⟩) hS hD hA (fun H locs hP hD hS => ?_)
                    exact ret_ _ _ _ _ _ _ dX7_copy_149  (sp1 hR) (congrArg (fun z => (MW cI ad z)) (sp2 hR)) hP hD hS
                  · exact absurd c_20 (by decide)
                · have hR := (if_neg c_19).symm.trans hR
                  refine lv_iload_n hx hb dX7_copy_84 rfl (lv_at hl 2 rfl) ?_
                  refine lv_aload_n hx hb dX7_copy_85 rfl (lv_at hl 0 rfl) ?_
                  refine bw_get (ci := 6) (v := .ref (ad 2)) (C := RX7) (T := TX7) (N := 28) hx hb hts i_X7 hown hK hP 0 rfl rfl 3 (by decide) f_13 rfl dX7_copy_86 ?_
                  refine lv_iload_n hx hb dX7_copy_89 rfl (lv_at hl 1 rfl) ?_
                  obtain ⟨h_22, hR⟩ := ck_some hR
                  refine bw_ald (v := gA (sI st 0 0) 3 x1) hx hb hK hP 2 rfl h_22 rfl dX7_copy_90 ?_
                  refine lv_icmp_gt (tgt := 109) hx hb dX7_copy_91 (by decide) (fun c_23 => ?_) (fun c_23 => ?_)
                  · have hR := (if_pos c_23).symm.trans hR
                    refine lv_iconst (v := 0) hx hb dX7_copy_109 (by decide) ?_
                    refine lv_istore (lv' := [(6, .int 0), (0, .ref (ad 0)), (1, .int x1), (2, .int x2), (3, .int x3), (4, .int x4), (5, .int x5)]) hx hb dX7_copy_110 hl (by decide) rfl (fun ls hl => ?_)
                    refine lv_iload hx hb dX7_copy_112 (lv_at hl 0 rfl) ?_
                    refine lv_if_eq (tgt := 144) hx hb dX7_copy_114 (by decide) (fun c_24 => ?_) (fun c_24 => ?_)
                    · refine lv_aload_n hx hb dX7_copy_144 rfl (lv_at hl 1 rfl) ?_
                      refine lv_iconst (v := 3) hx hb dX7_copy_145 (by decide) ?_
                      obtain ⟨v_25, s_25, e_25, hR⟩ := b2_some hR
                      refine bc_i (va_runV (As := [.int 3]) (rest := []) ⟨hx, hb, hml, hown, hts⟩ (c_X7_fails l D cI cO ad _ e_25) (cwV 1 hts gX7_copy_X7_fails rfl rfl rfl (by decide +kernel) ⟨Nat.le_of_ble_eq_true rfl, Nat.le_of_ble_eq_true rfl⟩) (preV hK hN hP hD (va_recv hK hP (ci := 6) (q0 := 0) rfl rfl)) rfl rfl hl.1 rfl (lv_room (Nat.le_of_ble_eq_true rfl)) dX7_copy_146 ⟨Nat.zero_le _, Nat.zero_le _⟩) hS hD hA (fun H locs hP hD hS => ?_)
                      exact ret_ _ _ _ _ _ _ dX7_copy_149  (sp1 hR) (congrArg (fun z => (MW cI ad z)) (sp2 hR)) hP hD hS
                    · exact absurd c_24 (by decide)
                  · have hR := (if_neg c_23).symm.trans hR
                    refine lv_iload hx hb dX7_copy_94 (lv_at hl 4 rfl) ?_
                    refine lv_aload_n hx hb dX7_copy_96 rfl (lv_at hl 0 rfl) ?_
                    refine bw_get (ci := 6) (v := .ref (ad 2)) (C := RX7) (T := TX7) (N := 28) hx hb hts i_X7 hown hK hP 0 rfl rfl 3 (by decide) f_13 rfl dX7_copy_97 ?_
                    refine lv_iload_n hx hb dX7_copy_100 rfl (lv_at hl 3 rfl) ?_
                    obtain ⟨h_26, hR⟩ := ck_some hR
                    refine bw_ald (v := gA (sI st 0 0) 3 x3) hx hb hK hP 2 rfl h_26 rfl dX7_copy_101 ?_
                    refine lv_icmp_gt (tgt := 109) hx hb dX7_copy_102 (by decide) (fun c_27 => ?_) (fun c_27 => ?_)
                    · have hR := (if_pos c_27).symm.trans hR
                      refine lv_iconst (v := 0) hx hb dX7_copy_109 (by decide) ?_
                      refine lv_istore (lv' := [(6, .int 0), (0, .ref (ad 0)), (1, .int x1), (2, .int x2), (3, .int x3), (4, .int x4), (5, .int x5)]) hx hb dX7_copy_110 hl (by decide) rfl (fun ls hl => ?_)
                      refine lv_iload hx hb dX7_copy_112 (lv_at hl 0 rfl) ?_
                      refine lv_if_eq (tgt := 144) hx hb dX7_copy_114 (by decide) (fun c_28 => ?_) (fun c_28 => ?_)
                      · refine lv_aload_n hx hb dX7_copy_144 rfl (lv_at hl 1 rfl) ?_
                        refine lv_iconst (v := 3) hx hb dX7_copy_145 (by decide) ?_
                        obtain ⟨v_29, s_29, e_29, hR⟩ := b2_some hR
                        refine bc_i (va_runV (As := [.int 3]) (rest := []) ⟨hx, hb, hml, hown, hts⟩ (c_X7_fails l D cI cO ad _ e_29) (cwV 1 hts gX7_copy_X7_fails rfl rfl rfl (by decide +kernel) ⟨Nat.le_of_ble_eq_true rfl, Nat.le_of_ble_eq_true rfl⟩) (preV hK hN hP hD (va_recv hK hP (ci := 6) (q0 := 0) rfl rfl)) rfl rfl hl.1 rfl (lv_room (Nat.le_of_ble_eq_true rfl)) dX7_copy_146 ⟨Nat.zero_le _, Nat.zero_le _⟩) hS hD hA (fun H locs hP hD hS => ?_)
                        exact ret_ _ _ _ _ _ _ dX7_copy_149  (sp1 hR) (congrArg (fun z => (MW cI ad z)) (sp2 hR)) hP hD hS
                      · exact absurd c_28 (by decide)
                    · have hR := (if_neg c_27).symm.trans hR
                      refine lv_iconst (v := 1) hx hb dX7_copy_105 (by decide) ?_
                      refine lv_goto (tgt := 110) hx hb dX7_copy_106 (by decide) ?_
                      refine lv_istore (lv' := [(6, .int 1), (0, .ref (ad 0)), (1, .int x1), (2, .int x2), (3, .int x3), (4, .int x4), (5, .int x5)]) hx hb dX7_copy_110 hl (by decide) rfl (fun ls hl => ?_)
                      refine lv_iload hx hb dX7_copy_112 (lv_at hl 0 rfl) ?_
                      refine lv_if_eq (tgt := 144) hx hb dX7_copy_114 (by decide) (fun c_30 => ?_) (fun c_30 => ?_)
                      · exact absurd c_30 (by decide)
                      · refine lv_iload hx hb dX7_copy_117 (lv_at hl 6 rfl) ?_
                        refine lv_aload_n hx hb dX7_copy_119 rfl (lv_at hl 1 rfl) ?_
                        refine bw_get (ci := 6) (v := .ref (ad 2)) (C := RX7) (T := TX7) (N := 28) hx hb hts i_X7 hown hK hP 0 rfl rfl 3 (by decide) f_13 rfl dX7_copy_120 ?_
                        refine lv_iload_n hx hb dX7_copy_123 rfl (lv_at hl 2 rfl) ?_
                        obtain ⟨h_31, hR⟩ := ck_some hR
                        refine bw_ald (v := gA (sI st 0 0) 3 x1) hx hb hK hP 2 rfl h_31 rfl dX7_copy_124 ?_
                        refine lv_iload_n hx hb dX7_copy_125 rfl (lv_at hl 3 rfl) ?_
                        refine lv_isub hx hb dX7_copy_126 ?_
                        refine lv_icmp_gt (tgt := 144) hx hb dX7_copy_127 (by decide) (fun c_32 => ?_) (fun c_32 => ?_)
                        · have hR := (if_pos c_32).symm.trans hR
                          refine lv_aload_n hx hb dX7_copy_144 rfl (lv_at hl 1 rfl) ?_
                          refine lv_iconst (v := 3) hx hb dX7_copy_145 (by decide) ?_
                          obtain ⟨v_33, s_33, e_33, hR⟩ := b2_some hR
                          refine bc_i (va_runV (As := [.int 3]) (rest := []) ⟨hx, hb, hml, hown, hts⟩ (c_X7_fails l D cI cO ad _ e_33) (cwV 1 hts gX7_copy_X7_fails rfl rfl rfl (by decide +kernel) ⟨Nat.le_of_ble_eq_true rfl, Nat.le_of_ble_eq_true rfl⟩) (preV hK hN hP hD (va_recv hK hP (ci := 6) (q0 := 0) rfl rfl)) rfl rfl hl.1 rfl (lv_room (Nat.le_of_ble_eq_true rfl)) dX7_copy_146 ⟨Nat.zero_le _, Nat.zero_le _⟩) hS hD hA (fun H locs hP hD hS => ?_)
                          exact ret_ _ _ _ _ _ _ dX7_copy_149  (sp1 hR) (congrArg (fun z => (MW cI ad z)) (sp2 hR)) hP hD hS
                        · have hR := (if_neg c_32).symm.trans hR
                          refine lv_iload hx hb dX7_copy_130 (lv_at hl 6 rfl) ?_
                          refine lv_aload_n hx hb dX7_copy_132 rfl (lv_at hl 1 rfl) ?_
                          refine bw_get (ci := 6) (v := .ref (ad 2)) (C := RX7) (T := TX7) (N := 28) hx hb hts i_X7 hown hK hP 0 rfl rfl 3 (by decide) f_13 rfl dX7_copy_133 ?_
                          refine lv_iload_n hx hb dX7_copy_136 rfl (lv_at hl 4 rfl) ?_
                          obtain ⟨h_34, hR⟩ := ck_some hR
                          refine bw_ald (v := gA (sI st 0 0) 3 x3) hx hb hK hP 2 rfl h_34 rfl dX7_copy_137 ?_
                          refine lv_iload hx hb dX7_copy_138 (lv_at hl 5 rfl) ?_
                          refine lv_isub hx hb dX7_copy_140 ?_
                          refine lv_icmp_le (tgt := 150) hx hb dX7_copy_141 (by decide) (fun c_35 => ?_) (fun c_35 => ?_)
                          · have hR := (if_pos c_35).symm.trans hR
                            refine lv_iload_n hx hb dX7_copy_150 rfl (lv_at hl 3 rfl) ?_
                            refine lv_iload hx hb dX7_copy_151 (lv_at hl 5 rfl) ?_
                            refine lv_icmp_ge (tgt := 160) hx hb dX7_copy_153 (by decide) (fun c_36 => ?_) (fun c_36 => ?_)
                            · have hR := (if_pos c_36).symm.trans hR
                              refine lv_iconst (v := 0) hx hb dX7_copy_160 (by decide) ?_
                              refine lv_istore (lv' := [(7, .int 0), (6, .int 1), (0, .ref (ad 0)), (1, .int x1), (2, .int x2), (3, .int x3), (4, .int x4), (5, .int x5)]) hx hb dX7_copy_161 hl (by decide) rfl (fun ls hl => ?_)
                              refine lv_iconst (v := 0) hx hb dX7_copy_163 (by decide) ?_
                              refine lv_istore (lv' := [(8, .int 0), (7, .int 0), (6, .int 1), (0, .ref (ad 0)), (1, .int x1), (2, .int x2), (3, .int x3), (4, .int x4), (5, .int x5)]) hx hb dX7_copy_164 hl (by decide) rfl (fun ls hl => ?_)
                              have lp_166 : ∀ (n_166 : Nat) (y8_166 : Int32) (z_166 : St) (H : Heap) (locs : List Loc) (ls : Array Slot), L_X7_copy_166 x1 x2 x3 x4 x5 (fun y8_166 z_166 => some (x5, z_166)) n_166 y8_166 z_166 = some (r, s2) → va_P D vwCl (MW cI ad z_166) H → va_D A (MW cI ad z_166) → va_S A s.heap H locs → lv_has ls 10 [(0, .ref (ad 0)), (1, .int x1), (2, .int x2), (3, .int x3), (4, .int x4), (5, .int x5), (7, .int 0), (8, .int y8_166)] → W p l e rm_X7_copy s m args below meth c H locs 0 0 Q (F0 m 166 ls []) := by
                                intro n_166
                                induction n_166 with
                                | zero => intro y8_166 z_166 H locs ls hR; exact absurd (L_X7_copy_166_z.symm.trans hR) (fun h => nomatch h)
                                | succ n_166 ih_166 =>
                                  intro y8_166 z_166 H locs ls hR hP hD hS hl
                                  have hR := L_X7_copy_166_s.symm.trans hR
                                  refine lv_iload hx hb dX7_copy_166 (lv_at hl 7 rfl) ?_
                                  refine lv_iload hx hb dX7_copy_168 (lv_at hl 5 rfl) ?_
                                  refine lv_icmp_ge (tgt := 227) hx hb dX7_copy_170 (by decide) (fun c_37 => ?_) (fun c_37 => ?_)
                                  · have hR := (if_pos c_37).symm.trans hR
                                    refine lv_iload hx hb dX7_copy_227 (lv_at hl 5 rfl) ?_
                                    exact ret_ _ _ _ _ _ _ dX7_copy_229  (sp1 hR) (congrArg (fun z => (MW cI ad z)) (sp2 hR)) hP hD hS
                                  · have hR := (if_neg c_37).symm.trans hR
                                    refine lv_iload hx hb dX7_copy_173 (lv_at hl 6 rfl) ?_
                                    refine lv_if_eq (tgt := 188) hx hb dX7_copy_175 (by decide) (fun c_38 => ?_) (fun c_38 => ?_)
                                    · refine lv_iload hx hb dX7_copy_188 (lv_at hl 7 rfl) ?_
                                      refine lv_istore (lv' := [(9, .int y8_166), (0, .ref (ad 0)), (1, .int x1), (2, .int x2), (3, .int x3), (4, .int x4), (5, .int x5), (7, .int 0), (8, .int y8_166)]) hx hb dX7_copy_190 hl (by decide) rfl (fun ls hl => ?_)
                                      refine lv_aload_n hx hb dX7_copy_192 rfl (lv_at hl 1 rfl) ?_
                                      refine bw_get (ci := 6) (v := .ref (ad 3)) (C := RX7) (T := TX7) (N := 28) hx hb hts i_X7 hown hK hP 0 rfl rfl 4 (by decide) f_16 rfl dX7_copy_193 ?_
                                      refine lv_bipush (v := 60) hx hb dX7_copy_196 (by decide) ?_
                                      refine lv_iload_n hx hb dX7_copy_198 rfl (lv_at hl 4 rfl) ?_
                                      refine lv_imul hx hb dX7_copy_199 ?_
                                      refine lv_iload hx hb dX7_copy_200 (lv_at hl 5 rfl) ?_
                                      refine lv_iadd hx hb dX7_copy_202 ?_
                                      refine lv_iload hx hb dX7_copy_203 (lv_at hl 0 rfl) ?_
                                      refine lv_iadd hx hb dX7_copy_205 ?_
                                      refine lv_aload_n hx hb dX7_copy_206 rfl (lv_at hl 1 rfl) ?_
                                      refine bw_get (ci := 6) (v := .ref (ad 3)) (C := RX7) (T := TX7) (N := 28) hx hb hts i_X7 hown hK hP 0 rfl rfl 4 (by decide) f_16 rfl dX7_copy_207 ?_
                                      refine lv_bipush (v := 60) hx hb dX7_copy_210 (by decide) ?_
                                      refine lv_iload_n hx hb dX7_copy_212 rfl (lv_at hl 2 rfl) ?_
                                      refine lv_imul hx hb dX7_copy_213 ?_
                                      refine lv_iload_n hx hb dX7_copy_214 rfl (lv_at hl 3 rfl) ?_
                                      refine lv_iadd hx hb dX7_copy_215 ?_
                                      refine lv_iload hx hb dX7_copy_216 (lv_at hl 0 rfl) ?_
                                      refine lv_iadd hx hb dX7_copy_218 ?_
                                      obtain ⟨h_39, hR⟩ := ck_some hR
                                      refine bw_ald (v := gA z_166 4 (((60 * x1) + x2) + y8_166)) hx hb hK hP 3 rfl h_39 rfl dX7_copy_219 ?_
                                      obtain ⟨h_40, hR⟩ := ck_some hR
                                      refine bw_ast (w' := (MW cI ad (sA z_166 4 (((60 * x3) + x4) + y8_166) (gA z_166 4 (((60 * x1) + x2) + y8_166))))) hx hb hK hP hD hS 3 rfl h_40 (MW_a4 cI ad _ _) dX7_copy_220 (fun H locs hP hD hS => ?_)
                                      refine lv_iinc (v := y8_166 + 1) (lv' := [(8, .int (y8_166 + 1)), (9, .int y8_166), (0, .ref (ad 0)), (1, .int x1), (2, .int x2), (3, .int x3), (4, .int x4), (5, .int x5), (7, .int 0)]) hx hb dX7_copy_221 hl (k := 8) rfl rfl (by decide) rfl (fun ls hl => ?_)
                                      refine lv_goto (tgt := 166) hx hb dX7_copy_224 (by decide) ?_
                                      exact ih_166 _ _ _ _ _ hR hP hD hS (lv_sub hl [2, 3, 4, 5, 6, 7, 8, 0] rfl)
                                    · exact absurd c_38 (by decide)
                              exact lp_166 _ _ _ _ _ _ hR hP hD hS (lv_sub hl [3, 4, 5, 6, 7, 8, 1, 0] rfl)
                            · have hR := (if_neg c_36).symm.trans hR
                              refine lv_iconst (v := 1) hx hb dX7_copy_156 (by decide) ?_
                              refine lv_goto (tgt := 161) hx hb dX7_copy_157 (by decide) ?_
                              refine lv_istore (lv' := [(7, .int 1), (6, .int 1), (0, .ref (ad 0)), (1, .int x1), (2, .int x2), (3, .int x3), (4, .int x4), (5, .int x5)]) hx hb dX7_copy_161 hl (by decide) rfl (fun ls hl => ?_)
                              refine lv_iconst (v := 0) hx hb dX7_copy_163 (by decide) ?_
                              refine lv_istore (lv' := [(8, .int 0), (7, .int 1), (6, .int 1), (0, .ref (ad 0)), (1, .int x1), (2, .int x2), (3, .int x3), (4, .int x4), (5, .int x5)]) hx hb dX7_copy_164 hl (by decide) rfl (fun ls hl => ?_)
                              have lp_166 : ∀ (n_166 : Nat) (y8_166 : Int32) (z_166 : St) (H : Heap) (locs : List Loc) (ls : Array Slot), L_X7_copy_166b x1 x2 x3 x4 x5 (fun y8_166 z_166 => some (x5, z_166)) n_166 y8_166 z_166 = some (r, s2) → va_P D vwCl (MW cI ad z_166) H → va_D A (MW cI ad z_166) → va_S A s.heap H locs → lv_has ls 10 [(0, .ref (ad 0)), (1, .int x1), (2, .int x2), (3, .int x3), (4, .int x4), (5, .int x5), (7, .int 1), (8, .int y8_166)] → W p l e rm_X7_copy s m args below meth c H locs 0 0 Q (F0 m 166 ls []) := by
                                intro n_166
                                induction n_166 with
                                | zero => intro y8_166 z_166 H locs ls hR; exact absurd (L_X7_copy_166b_z.symm.trans hR) (fun h => nomatch h)
                                | succ n_166 ih_166 =>
                                  intro y8_166 z_166 H locs ls hR hP hD hS hl
                                  have hR := L_X7_copy_166b_s.symm.trans hR
                                  refine lv_iload hx hb dX7_copy_166 (lv_at hl 7 rfl) ?_
                                  refine lv_iload hx hb dX7_copy_168 (lv_at hl 5 rfl) ?_
                                  refine lv_icmp_ge (tgt := 227) hx hb dX7_copy_170 (by decide) (fun c_41 => ?_) (fun c_41 => ?_)
                                  · have hR := (if_pos c_41).symm.trans hR
                                    refine lv_iload hx hb dX7_copy_227 (lv_at hl 5 rfl) ?_
                                    exact ret_ _ _ _ _ _ _ dX7_copy_229  (sp1 hR) (congrArg (fun z => (MW cI ad z)) (sp2 hR)) hP hD hS
                                  · have hR := (if_neg c_41).symm.trans hR
                                    refine lv_iload hx hb dX7_copy_173 (lv_at hl 6 rfl) ?_
                                    refine lv_if_eq (tgt := 188) hx hb dX7_copy_175 (by decide) (fun c_42 => ?_) (fun c_42 => ?_)
                                    · exact absurd c_42 (by decide)
                                    · refine lv_iload hx hb dX7_copy_178 (lv_at hl 5 rfl) ?_
                                      refine lv_iconst (v := 1) hx hb dX7_copy_180 (by decide) ?_
                                      refine lv_isub hx hb dX7_copy_181 ?_
                                      refine lv_iload hx hb dX7_copy_182 (lv_at hl 7 rfl) ?_
                                      refine lv_isub hx hb dX7_copy_184 ?_
                                      refine lv_goto (tgt := 190) hx hb dX7_copy_185 (by decide) ?_
                                      refine lv_istore (lv' := [(9, .int ((x5 - 1) - y8_166)), (0, .ref (ad 0)), (1, .int x1), (2, .int x2), (3, .int x3), (4, .int x4), (5, .int x5), (7, .int 1), (8, .int y8_166)]) hx hb dX7_copy_190 hl (by decide) rfl (fun ls hl => ?_)
                                      refine lv_aload_n hx hb dX7_copy_192 rfl (lv_at hl 1 rfl) ?_
                                      refine bw_get (ci := 6) (v := .ref (ad 3)) (C := RX7) (T := TX7) (N := 28) hx hb hts i_X7 hown hK hP 0 rfl rfl 4 (by decide) f_16 rfl dX7_copy_193 ?_
                                      refine lv_bipush (v := 60) hx hb dX7_copy_196 (by decide) ?_
                                      refine lv_iload_n hx hb dX7_copy_198 rfl (lv_at hl 4 rfl) ?_
                                      refine lv_imul hx hb dX7_copy_199 ?_
                                      refine lv_iload hx hb dX7_copy_200 (lv_at hl 5 rfl) ?_
                                      refine lv_iadd hx hb dX7_copy_202 ?_
                                      refine lv_iload hx hb dX7_copy_203 (lv_at hl 0 rfl) ?_
                                      refine lv_iadd hx hb dX7_copy_205 ?_
                                      refine lv_aload_n hx hb dX7_copy_206 rfl (lv_at hl 1 rfl) ?_
                                      refine bw_get (ci := 6) (v := .ref (ad 3)) (C := RX7) (T := TX7) (N := 28) hx hb hts i_X7 hown hK hP 0 rfl rfl 4 (by decide) f_16 rfl dX7_copy_207 ?_
                                      refine lv_bipush (v := 60) hx hb dX7_copy_210 (by decide) ?_
                                      refine lv_iload_n hx hb dX7_copy_212 rfl (lv_at hl 2 rfl) ?_
                                      refine lv_imul hx hb dX7_copy_213 ?_
                                      refine lv_iload_n hx hb dX7_copy_214 rfl (lv_at hl 3 rfl) ?_
                                      refine lv_iadd hx hb dX7_copy_215 ?_
                                      refine lv_iload hx hb dX7_copy_216 (lv_at hl 0 rfl) ?_
                                      refine lv_iadd hx hb dX7_copy_218 ?_
                                      obtain ⟨h_43, hR⟩ := ck_some hR
                                      refine bw_ald (v := gA z_166 4 (((60 * x1) + x2) + ((x5 - 1) - y8_166))) hx hb hK hP 3 rfl h_43 rfl dX7_copy_219 ?_
                                      obtain ⟨h_44, hR⟩ := ck_some hR
                                      refine bw_ast (w' := (MW cI ad (sA z_166 4 (((60 * x3) + x4) + ((x5 - 1) - y8_166)) (gA z_166 4 (((60 * x1) + x2) + ((x5 - 1) - y8_166)))))) hx hb hK hP hD hS 3 rfl h_44 (MW_a4 cI ad _ _) dX7_copy_220 (fun H locs hP hD hS => ?_)
                                      refine lv_iinc (v := y8_166 + 1) (lv' := [(8, .int (y8_166 + 1)), (9, .int ((x5 - 1) - y8_166)), (0, .ref (ad 0)), (1, .int x1), (2, .int x2), (3, .int x3), (4, .int x4), (5, .int x5), (7, .int 1)]) hx hb dX7_copy_221 hl (k := 8) rfl rfl (by decide) rfl (fun ls hl => ?_)
                                      refine lv_goto (tgt := 166) hx hb dX7_copy_224 (by decide) ?_
                                      exact ih_166 _ _ _ _ _ hR hP hD hS (lv_sub hl [2, 3, 4, 5, 6, 7, 8, 0] rfl)
                              exact lp_166 _ _ _ _ _ _ hR hP hD hS (lv_sub hl [3, 4, 5, 6, 7, 8, 1, 0] rfl)
                          · have hR := (if_neg c_35).symm.trans hR
                            refine lv_aload_n hx hb dX7_copy_144 rfl (lv_at hl 1 rfl) ?_
                            refine lv_iconst (v := 3) hx hb dX7_copy_145 (by decide) ?_
                            obtain ⟨v_45, s_45, e_45, hR⟩ := b2_some hR
                            refine bc_i (va_runV (As := [.int 3]) (rest := []) ⟨hx, hb, hml, hown, hts⟩ (c_X7_fails l D cI cO ad _ e_45) (cwV 1 hts gX7_copy_X7_fails rfl rfl rfl (by decide +kernel) ⟨Nat.le_of_ble_eq_true rfl, Nat.le_of_ble_eq_true rfl⟩) (preV hK hN hP hD (va_recv hK hP (ci := 6) (q0 := 0) rfl rfl)) rfl rfl hl.1 rfl (lv_room (Nat.le_of_ble_eq_true rfl)) dX7_copy_146 ⟨Nat.zero_le _, Nat.zero_le _⟩) hS hD hA (fun H locs hP hD hS => ?_)
                            exact ret_ _ _ _ _ _ _ dX7_copy_149  (sp1 hR) (congrArg (fun z => (MW cI ad z)) (sp2 hR)) hP hD hS
          · have hR := (if_neg c_12).symm.trans hR
            refine lv_aload_n hx hb dX7_copy_64 rfl (lv_at hl 0 rfl) ?_
            refine lv_iconst (v := 2) hx hb dX7_copy_65 (by decide) ?_
            obtain ⟨v_46, s_46, e_46, hR⟩ := b2_some hR
            refine bc_i (va_runV (As := [.int 2]) (rest := []) ⟨hx, hb, hml, hown, hts⟩ (c_X7_fails l D cI cO ad _ e_46) (cwV 1 hts gX7_copy_X7_fails rfl rfl rfl (by decide +kernel) ⟨Nat.le_of_ble_eq_true rfl, Nat.le_of_ble_eq_true rfl⟩) (preV hK hN hP hD (va_recv hK hP (ci := 6) (q0 := 0) rfl rfl)) rfl rfl hl.1 rfl (lv_room (Nat.le_of_ble_eq_true rfl)) dX7_copy_66 ⟨Nat.zero_le _, Nat.zero_le _⟩) hS hD hA (fun H locs hP hD hS => ?_)
            exact ret_ _ _ _ _ _ _ dX7_copy_69  (sp1 hR) (congrArg (fun z => (MW cI ad z)) (sp2 hR)) hP hD hS
        · have hR := (if_pos c_9).symm.trans hR
          refine lv_aload_n hx hb dX7_copy_43 rfl (lv_at hl 0 rfl) ?_
          refine lv_iconst (v := 1) hx hb dX7_copy_44 (by decide) ?_
          obtain ⟨v_47, s_47, e_47, hR⟩ := b2_some hR
          refine bc_i (va_runV (As := [.int 1]) (rest := []) ⟨hx, hb, hml, hown, hts⟩ (c_X7_fails l D cI cO ad _ e_47) (cwV 1 hts gX7_copy_X7_fails rfl rfl rfl (by decide +kernel) ⟨Nat.le_of_ble_eq_true rfl, Nat.le_of_ble_eq_true rfl⟩) (preV hK hN hP hD (va_recv hK hP (ci := 6) (q0 := 0) rfl rfl)) rfl rfl hl.1 rfl (lv_room (Nat.le_of_ble_eq_true rfl)) dX7_copy_45 ⟨Nat.zero_le _, Nat.zero_le _⟩) hS hD hA (fun H locs hP hD hS => ?_)
          exact ret_ _ _ _ _ _ _ dX7_copy_48  (sp1 hR) (congrArg (fun z => (MW cI ad z)) (sp2 hR)) hP hD hS
    · have hR := (if_pos c_4).symm.trans hR
      refine lv_iconst (v := (-1)) hx hb dX7_copy_19 (by decide) ?_
      exact ret_ _ _ _ _ _ _ dX7_copy_20  (sp1 hR) (congrArg (fun z => (MW cI ad z)) (sp2 hR)) hP hD hS
abbrev rm_X7_begins : Room := { frames := 0, cells := 0, slots := 0, locals := 0 }
set_option maxHeartbeats 4000000 in
set_option maxRecDepth 100000 in
theorem c_X7_begins (l : Launch) (D : va_G) (cI cO : ClassId) (ad : Nat → Nat) (sz : Nat) {st : St} {x1 : Int32} {s2 : St} (hR : F_X7_begins st x1 = some s2) : CV l yX7_begins wsX7_begins rm_X7_begins D cI cO [.ref (ad 0), .int x1] (MW cI ad st) (MW cI ad s2) sz := by
  refine mk_v (cc := cX7_begins) (maxL := 2) (own := RX7) rfl (by decide) rfl (Nat.le_of_ble_eq_true rfl) ?_
  intro p e s m args below meth c A Q ls hx hb hml hown hts hK hN hA ret_ hP hD hS hl
  have i_X7 : ∀ w ∈ u_ws RX7 TX7 28, w ∈ wsX7_begins := (fun _ h => List.mem_cons_of_mem _ (List.mem_append_right _ h))
  have f_193 := hts (.fieldLink RX7 193 "BellNamesModel" "trace" "I") (by decide +kernel)
  have hl : lv_has ls 2 [(0, .ref (ad 0)), (1, .int x1)] := hl
  unfold F_X7_begins at hR
  refine lv_aload_n hx hb dX7_begins_0 rfl (lv_at hl 0 rfl) ?_
  refine lv_bipush (v := 31) hx hb dX7_begins_1 (by decide) ?_
  refine lv_aload_n hx hb dX7_begins_3 rfl (lv_at hl 0 rfl) ?_
  refine bw_get (ci := 6) (v := .int (gI st 1)) (C := RX7) (T := TX7) (N := 28) hx hb hts i_X7 hown hK hP 0 rfl rfl 1 (by decide) f_193 rfl dX7_begins_4 ?_
  refine lv_imul hx hb dX7_begins_7 ?_
  refine lv_iload_n hx hb dX7_begins_8 rfl (lv_at hl 1 rfl) ?_
  refine lv_iadd hx hb dX7_begins_9 ?_
  refine bw_put (w' := (MW cI ad (sI st 1 ((31 * (gI st 1)) + x1)))) (ci := 6) (C := RX7) (T := TX7) (N := 28) hx hb hts i_X7 tyX7 tyX7_ok nmX7 hown hK hP hD hS 0 rfl rfl 1 (by decide) f_193 rfl rfl (Nat.le_of_ble_eq_true rfl) (MW_i1 cI ad _ _) dX7_begins_10 (fun H locs hP hD hS => ?_)
  exact ret_ _ _ _ _ _ dX7_begins_13 (congrArg (fun z => (MW cI ad z)) (Option.some.inj hR)) hP hD hS
abbrev rm_X7_tell : Room := { frames := 1, cells := 0, slots := 0, locals := 21 }
set_option maxHeartbeats 4000000 in
set_option maxRecDepth 100000 in
theorem c_X7_tell (l : Launch) (D : va_G) (cI cO : ClassId) (ad : Nat → Nat) (sz : Nat) {st : St} {x1 : Int32} {r : Int32} {s2 : St} (hR : F_X7_tell st x1 = some (r, s2)) : CI l yX7_tell wsX7_tell rm_X7_tell D cI cO [.ref (ad 0), .int x1] (MW cI ad st) (MW cI ad s2) sz r := by
  refine mk_i (cc := cX7_tell) (maxL := 3) (own := RX7) rfl (by decide) rfl (Nat.le_of_ble_eq_true rfl) ?_
  intro p e s m args below meth c A Q ls hx hb hml hown hts hK hN hA ret_ hP hD hS hl
  have i_X7 : ∀ w ∈ u_ws RX7 TX7 28, w ∈ wsX7_tell := (fun _ h => List.mem_cons_of_mem _ (List.mem_append_right _ h))
  have f_22 := hts (.fieldLink RX7 22 "BellNamesModel" "note" "[I") (by decide +kernel)
  have f_19 := hts (.fieldLink RX7 19 "BellNamesModel" "kind" "[I") (by decide +kernel)
  have hl : lv_has ls 3 [(0, .ref (ad 0)), (1, .int x1)] := hl
  unfold F_X7_tell at hR
  refine lv_aload_n hx hb dX7_tell_0 rfl (lv_at hl 0 rfl) ?_
  refine lv_iload_n hx hb dX7_tell_1 rfl (lv_at hl 1 rfl) ?_
  obtain ⟨v_1, e_1, hR⟩ := b1_some hR
  refine bc_z (va_runV (As := [.int x1]) (rest := []) ⟨hx, hb, hml, hown, hts⟩ (c_X7_isBell l D cI cO ad _ e_1) (cwV 1 hts gX7_tell_X7_isBell rfl rfl rfl (by decide +kernel) ⟨Nat.le_of_ble_eq_true rfl, Nat.le_of_ble_eq_true rfl⟩) (preV hK hN hP hD (va_recv hK hP (ci := 6) (q0 := 0) rfl rfl)) rfl rfl hl.1 rfl (lv_room (Nat.le_of_ble_eq_true rfl)) dX7_tell_2 ⟨Nat.zero_le _, Nat.zero_le _⟩) hS hD hA (fun H locs hP hD hS n_1 => ?_)
  refine lv_if_ne (tgt := 10) hx hb dX7_tell_5 (by decide) (fun c_2 => ?_) (fun c_2 => ?_)
  · have hR := (if_neg c_2).symm.trans hR
    refine lv_aload_n hx hb dX7_tell_10 rfl (lv_at hl 0 rfl) ?_
    refine bw_get (ci := 6) (v := .ref (ad 5)) (C := RX7) (T := TX7) (N := 28) hx hb hts i_X7 hown hK hP 0 rfl rfl 9 (by decide) f_22 rfl dX7_tell_11 ?_
    refine lv_iload_n hx hb dX7_tell_14 rfl (lv_at hl 1 rfl) ?_
    obtain ⟨h_3, hR⟩ := ck_some hR
    refine bw_ald (v := gA st 9 x1) hx hb hK hP 5 rfl h_3 rfl dX7_tell_15 ?_
    refine lv_istore_n (lv' := [(2, .int (gA st 9 x1)), (0, .ref (ad 0)), (1, .int x1)]) hx hb dX7_tell_16 rfl hl (by decide) rfl (fun ls hl => ?_)
    refine lv_aload_n hx hb dX7_tell_17 rfl (lv_at hl 1 rfl) ?_
    refine bw_get (ci := 6) (v := .ref (ad 4)) (C := RX7) (T := TX7) (N := 28) hx hb hts i_X7 hown hK hP 0 rfl rfl 8 (by decide) f_19 rfl dX7_tell_18 ?_
    refine lv_iload_n hx hb dX7_tell_21 rfl (lv_at hl 2 rfl) ?_
    obtain ⟨h_4, hR⟩ := ck_some hR
    refine bw_ald (v := gA st 8 x1) hx hb hK hP 4 rfl h_4 rfl dX7_tell_22 ?_
    by_cases w_5_0 : (gA st 8 x1) = 1
    · have hR := (if_pos w_5_0).symm.trans hR
      refine lv_lookup (off := 25) (tgt := 48) hx hb dX7_tell_23 (by decide) (by rw [w_5_0]; rfl) (by decide) ?_
      refine lv_aload_n hx hb dX7_tell_48 rfl (lv_at hl 1 rfl) ?_
      refine lv_iconst (v := 2) hx hb dX7_tell_49 (by decide) ?_
      obtain ⟨s_6, e_6, hR⟩ := b1_some hR
      refine bc_v (va_runV (As := [.int 2]) (rest := []) ⟨hx, hb, hml, hown, hts⟩ (c_X7_begins l D cI cO ad _ e_6) (cwV 1 hts gX7_tell_X7_begins rfl rfl rfl (by decide +kernel) ⟨Nat.le_of_ble_eq_true rfl, Nat.le_of_ble_eq_true rfl⟩) (preV hK hN hP hD (va_recv hK hP (ci := 6) (q0 := 0) rfl rfl)) rfl rfl hl.1 rfl (lv_room (Nat.le_of_ble_eq_true rfl)) dX7_tell_50 ⟨Nat.zero_le _, Nat.zero_le _⟩) hS hD hA (fun H locs hP hD hS => ?_)
      refine lv_aload_n hx hb dX7_tell_53 rfl (lv_at hl 1 rfl) ?_
      refine lv_iconst (v := 1) hx hb dX7_tell_54 (by decide) ?_
      obtain ⟨s_7, e_7, hR⟩ := b1_some hR
      refine bc_v (va_runV (As := [.int 1]) (rest := []) ⟨hx, hb, hml, hown, hts⟩ (c_X7_begins l D cI cO ad _ e_7) (cwV 1 hts gX7_tell_X7_begins rfl rfl rfl (by decide +kernel) ⟨Nat.le_of_ble_eq_true rfl, Nat.le_of_ble_eq_true rfl⟩) (preV hK hN hP hD (va_recv hK hP (ci := 6) (q0 := 0) rfl rfl)) rfl rfl hl.1 rfl (lv_room (Nat.le_of_ble_eq_true rfl)) dX7_tell_55 ⟨Nat.zero_le _, Nat.zero_le _⟩) hS hD hA (fun H locs hP hD hS => ?_)
      refine lv_iload_n hx hb dX7_tell_58 rfl (lv_at hl 0 rfl) ?_
      refine lv_bipush (v := 100) hx hb dX7_tell_59 (by decide) ?_
      refine lv_iadd hx hb dX7_tell_61 ?_
      exact ret_ _ _ _ _ _ _ dX7_tell_62  (sp1 hR) (congrArg (fun z => (MW cI ad z)) (sp2 hR)) hP hD hS
    have hR := (if_neg w_5_0).symm.trans hR
    by_cases w_5_1 : (gA st 8 x1) = 2
    · have hR := (if_pos w_5_1).symm.trans hR
      refine lv_lookup (off := 40) (tgt := 63) hx hb dX7_tell_23 (by decide) (by rw [w_5_1]; rfl) (by decide) ?_
      refine lv_aload_n hx hb dX7_tell_63 rfl (lv_at hl 1 rfl) ?_
      refine lv_iconst (v := 3) hx hb dX7_tell_64 (by decide) ?_
      obtain ⟨s_8, e_8, hR⟩ := b1_some hR
      refine bc_v (va_runV (As := [.int 3]) (rest := []) ⟨hx, hb, hml, hown, hts⟩ (c_X7_begins l D cI cO ad _ e_8) (cwV 1 hts gX7_tell_X7_begins rfl rfl rfl (by decide +kernel) ⟨Nat.le_of_ble_eq_true rfl, Nat.le_of_ble_eq_true rfl⟩) (preV hK hN hP hD (va_recv hK hP (ci := 6) (q0 := 0) rfl rfl)) rfl rfl hl.1 rfl (lv_room (Nat.le_of_ble_eq_true rfl)) dX7_tell_65 ⟨Nat.zero_le _, Nat.zero_le _⟩) hS hD hA (fun H locs hP hD hS => ?_)
      refine lv_aload_n hx hb dX7_tell_68 rfl (lv_at hl 1 rfl) ?_
      refine lv_iconst (v := 2) hx hb dX7_tell_69 (by decide) ?_
      obtain ⟨s_9, e_9, hR⟩ := b1_some hR
      refine bc_v (va_runV (As := [.int 2]) (rest := []) ⟨hx, hb, hml, hown, hts⟩ (c_X7_begins l D cI cO ad _ e_9) (cwV 1 hts gX7_tell_X7_begins rfl rfl rfl (by decide +kernel) ⟨Nat.le_of_ble_eq_true rfl, Nat.le_of_ble_eq_true rfl⟩) (preV hK hN hP hD (va_recv hK hP (ci := 6) (q0 := 0) rfl rfl)) rfl rfl hl.1 rfl (lv_room (Nat.le_of_ble_eq_true rfl)) dX7_tell_70 ⟨Nat.zero_le _, Nat.zero_le _⟩) hS hD hA (fun H locs hP hD hS => ?_)
      refine lv_aload_n hx hb dX7_tell_73 rfl (lv_at hl 1 rfl) ?_
      refine lv_iconst (v := 1) hx hb dX7_tell_74 (by decide) ?_
      obtain ⟨s_10, e_10, hR⟩ := b1_some hR
      refine bc_v (va_runV (As := [.int 1]) (rest := []) ⟨hx, hb, hml, hown, hts⟩ (c_X7_begins l D cI cO ad _ e_10) (cwV 1 hts gX7_tell_X7_begins rfl rfl rfl (by decide +kernel) ⟨Nat.le_of_ble_eq_true rfl, Nat.le_of_ble_eq_true rfl⟩) (preV hK hN hP hD (va_recv hK hP (ci := 6) (q0 := 0) rfl rfl)) rfl rfl hl.1 rfl (lv_room (Nat.le_of_ble_eq_true rfl)) dX7_tell_75 ⟨Nat.zero_le _, Nat.zero_le _⟩) hS hD hA (fun H locs hP hD hS => ?_)
      refine lv_aload_n hx hb dX7_tell_78 rfl (lv_at hl 1 rfl) ?_
      refine lv_iconst (v := 1) hx hb dX7_tell_79 (by decide) ?_
      obtain ⟨s_11, e_11, hR⟩ := b1_some hR
      refine bc_v (va_runV (As := [.int 1]) (rest := []) ⟨hx, hb, hml, hown, hts⟩ (c_X7_begins l D cI cO ad _ e_11) (cwV 1 hts gX7_tell_X7_begins rfl rfl rfl (by decide +kernel) ⟨Nat.le_of_ble_eq_true rfl, Nat.le_of_ble_eq_true rfl⟩) (preV hK hN hP hD (va_recv hK hP (ci := 6) (q0 := 0) rfl rfl)) rfl rfl hl.1 rfl (lv_room (Nat.le_of_ble_eq_true rfl)) dX7_tell_80 ⟨Nat.zero_le _, Nat.zero_le _⟩) hS hD hA (fun H locs hP hD hS => ?_)
      refine lv_iconst (v := 2) hx hb dX7_tell_83 (by decide) ?_
      refine lv_iload_n hx hb dX7_tell_84 rfl (lv_at hl 0 rfl) ?_
      refine lv_imul hx hb dX7_tell_85 ?_
      refine lv_bipush (v := 100) hx hb dX7_tell_86 (by decide) ?_
      refine lv_iadd hx hb dX7_tell_88 ?_
      exact ret_ _ _ _ _ _ _ dX7_tell_89  (sp1 hR) (congrArg (fun z => (MW cI ad z)) (sp2 hR)) hP hD hS
    have hR := (if_neg w_5_1).symm.trans hR
    refine lv_lookup (off := 67) (tgt := 90) hx hb dX7_tell_23 (by decide) ((lv_osw w_5_0 rfl).trans ((lv_osw w_5_1 rfl).trans rfl)) (by decide) ?_
    refine lv_aload_n hx hb dX7_tell_90 rfl (lv_at hl 1 rfl) ?_
    refine lv_iconst (v := 1) hx hb dX7_tell_91 (by decide) ?_
    obtain ⟨s_12, e_12, hR⟩ := b1_some hR
    refine bc_v (va_runV (As := [.int 1]) (rest := []) ⟨hx, hb, hml, hown, hts⟩ (c_X7_begins l D cI cO ad _ e_12) (cwV 1 hts gX7_tell_X7_begins rfl rfl rfl (by decide +kernel) ⟨Nat.le_of_ble_eq_true rfl, Nat.le_of_ble_eq_true rfl⟩) (preV hK hN hP hD (va_recv hK hP (ci := 6) (q0 := 0) rfl rfl)) rfl rfl hl.1 rfl (lv_room (Nat.le_of_ble_eq_true rfl)) dX7_tell_92 ⟨Nat.zero_le _, Nat.zero_le _⟩) hS hD hA (fun H locs hP hD hS => ?_)
    refine lv_iload_n hx hb dX7_tell_95 rfl (lv_at hl 0 rfl) ?_
    exact ret_ _ _ _ _ _ _ dX7_tell_96  (sp1 hR) (congrArg (fun z => (MW cI ad z)) (sp2 hR)) hP hD hS
  · have hR := (if_pos c_2).symm.trans hR
    refine lv_iconst (v := (-1)) hx hb dX7_tell_8 (by decide) ?_
    exact ret_ _ _ _ _ _ _ dX7_tell_9  (sp1 hR) (congrArg (fun z => (MW cI ad z)) (sp2 hR)) hP hD hS
abbrev rm_X7_echo : Room := { frames := 1, cells := 0, slots := 0, locals := 21 }
set_option maxHeartbeats 4000000 in
set_option maxRecDepth 100000 in
theorem c_X7_echo (l : Launch) (D : va_G) (cI cO : ClassId) (ad : Nat → Nat) (sz : Nat) {st : St} {x1 : Int32} {r : Int32} {s2 : St} (hR : F_X7_echo st x1 = some (r, s2)) : CI l yX7_echo wsX7_echo rm_X7_echo D cI cO [.ref (ad 0), .int x1] (MW cI ad st) (MW cI ad s2) sz r := by
  refine mk_i (cc := cX7_echo) (maxL := 2) (own := RX7) rfl (by decide) rfl (Nat.le_of_ble_eq_true rfl) ?_
  intro p e s m args below meth c A Q ls hx hb hml hown hts hK hN hA ret_ hP hD hS hl
  have i_X7 : ∀ w ∈ u_ws RX7 TX7 28, w ∈ wsX7_echo := (fun _ h => List.mem_cons_of_mem _ (List.mem_append_right _ h))
  have f_19 := hts (.fieldLink RX7 19 "BellNamesModel" "kind" "[I") (by decide +kernel)
  have hl : lv_has ls 2 [(0, .ref (ad 0)), (1, .int x1)] := hl
  unfold F_X7_echo at hR
  refine lv_aload_n hx hb dX7_echo_0 rfl (lv_at hl 0 rfl) ?_
  refine lv_iload_n hx hb dX7_echo_1 rfl (lv_at hl 1 rfl) ?_
  obtain ⟨v_1, e_1, hR⟩ := b1_some hR
  refine bc_z (va_runV (As := [.int x1]) (rest := []) ⟨hx, hb, hml, hown, hts⟩ (c_X7_isBell l D cI cO ad _ e_1) (cwV 1 hts gX7_echo_X7_isBell rfl rfl rfl (by decide +kernel) ⟨Nat.le_of_ble_eq_true rfl, Nat.le_of_ble_eq_true rfl⟩) (preV hK hN hP hD (va_recv hK hP (ci := 6) (q0 := 0) rfl rfl)) rfl rfl hl.1 rfl (lv_room (Nat.le_of_ble_eq_true rfl)) dX7_echo_2 ⟨Nat.zero_le _, Nat.zero_le _⟩) hS hD hA (fun H locs hP hD hS n_1 => ?_)
  refine lv_if_ne (tgt := 10) hx hb dX7_echo_5 (by decide) (fun c_2 => ?_) (fun c_2 => ?_)
  · have hR := (if_neg c_2).symm.trans hR
    refine lv_aload_n hx hb dX7_echo_10 rfl (lv_at hl 0 rfl) ?_
    refine lv_aload_n hx hb dX7_echo_11 rfl (lv_at hl 0 rfl) ?_
    refine bw_get (ci := 6) (v := .ref (ad 4)) (C := RX7) (T := TX7) (N := 28) hx hb hts i_X7 hown hK hP 0 rfl rfl 8 (by decide) f_19 rfl dX7_echo_12 ?_
    refine lv_iload_n hx hb dX7_echo_15 rfl (lv_at hl 1 rfl) ?_
    obtain ⟨h_3, hR⟩ := ck_some hR
    refine bw_ald (v := gA st 8 x1) hx hb hK hP 4 rfl h_3 rfl dX7_echo_16 ?_
    refine lv_iconst (v := 2) hx hb dX7_echo_17 (by decide) ?_
    refine lv_icmp_ne (tgt := 25) hx hb dX7_echo_18 (by decide) (fun c_4 => ?_) (fun c_4 => ?_)
    · have hR := (if_neg c_4).symm.trans hR
      refine lv_iconst (v := 4) hx hb dX7_echo_25 (by decide) ?_
      obtain ⟨s_5, e_5, hR⟩ := b1_some hR
      refine bc_v (va_runV (As := [.int 4]) (rest := []) ⟨hx, hb, hml, hown, hts⟩ (c_X7_begins l D cI cO ad _ e_5) (cwV 1 hts gX7_echo_X7_begins rfl rfl rfl (by decide +kernel) ⟨Nat.le_of_ble_eq_true rfl, Nat.le_of_ble_eq_true rfl⟩) (preV hK hN hP hD (va_recv hK hP (ci := 6) (q0 := 0) rfl rfl)) rfl rfl hl.1 rfl (lv_room (Nat.le_of_ble_eq_true rfl)) dX7_echo_26 ⟨Nat.zero_le _, Nat.zero_le _⟩) hS hD hA (fun H locs hP hD hS => ?_)
      refine lv_aload_n hx hb dX7_echo_29 rfl (lv_at hl 0 rfl) ?_
      refine bw_get (ci := 6) (v := .ref (ad 4)) (C := RX7) (T := TX7) (N := 28) hx hb hts i_X7 hown hK hP 0 rfl rfl 8 (by decide) f_19 rfl dX7_echo_30 ?_
      refine lv_iload_n hx hb dX7_echo_33 rfl (lv_at hl 1 rfl) ?_
      obtain ⟨h_6, hR⟩ := ck_some hR
      refine bw_ald (v := gA s_5 8 x1) hx hb hK hP 4 rfl h_6 rfl dX7_echo_34 ?_
      refine lv_iconst (v := 2) hx hb dX7_echo_35 (by decide) ?_
      refine lv_icmp_ne (tgt := 44) hx hb dX7_echo_36 (by decide) (fun c_7 => ?_) (fun c_7 => ?_)
      · have hR := (if_neg c_7).symm.trans hR
        refine lv_iload_n hx hb dX7_echo_44 rfl (lv_at hl 1 rfl) ?_
        exact ret_ _ _ _ _ _ _ dX7_echo_45  (sp1 hR) (congrArg (fun z => (MW cI ad z)) (sp2 hR)) hP hD hS
      · have hR := (if_pos c_7).symm.trans hR
        refine lv_bipush (v := 20) hx hb dX7_echo_39 (by decide) ?_
        refine lv_goto (tgt := 45) hx hb dX7_echo_41 (by decide) ?_
        exact ret_ _ _ _ _ _ _ dX7_echo_45  (sp1 hR) (congrArg (fun z => (MW cI ad z)) (sp2 hR)) hP hD hS
    · have hR := (if_pos c_4).symm.trans hR
      refine lv_iconst (v := 5) hx hb dX7_echo_21 (by decide) ?_
      refine lv_goto (tgt := 26) hx hb dX7_echo_22 (by decide) ?_
      obtain ⟨s_8, e_8, hR⟩ := b1_some hR
      refine bc_v (va_runV (As := [.int 5]) (rest := []) ⟨hx, hb, hml, hown, hts⟩ (c_X7_begins l D cI cO ad _ e_8) (cwV 1 hts gX7_echo_X7_begins rfl rfl rfl (by decide +kernel) ⟨Nat.le_of_ble_eq_true rfl, Nat.le_of_ble_eq_true rfl⟩) (preV hK hN hP hD (va_recv hK hP (ci := 6) (q0 := 0) rfl rfl)) rfl rfl hl.1 rfl (lv_room (Nat.le_of_ble_eq_true rfl)) dX7_echo_26 ⟨Nat.zero_le _, Nat.zero_le _⟩) hS hD hA (fun H locs hP hD hS => ?_)
      refine lv_aload_n hx hb dX7_echo_29 rfl (lv_at hl 0 rfl) ?_
      refine bw_get (ci := 6) (v := .ref (ad 4)) (C := RX7) (T := TX7) (N := 28) hx hb hts i_X7 hown hK hP 0 rfl rfl 8 (by decide) f_19 rfl dX7_echo_30 ?_
      refine lv_iload_n hx hb dX7_echo_33 rfl (lv_at hl 1 rfl) ?_
      obtain ⟨h_9, hR⟩ := ck_some hR
      refine bw_ald (v := gA s_8 8 x1) hx hb hK hP 4 rfl h_9 rfl dX7_echo_34 ?_
      refine lv_iconst (v := 2) hx hb dX7_echo_35 (by decide) ?_
      refine lv_icmp_ne (tgt := 44) hx hb dX7_echo_36 (by decide) (fun c_10 => ?_) (fun c_10 => ?_)
      · have hR := (if_neg c_10).symm.trans hR
        refine lv_iload_n hx hb dX7_echo_44 rfl (lv_at hl 1 rfl) ?_
        exact ret_ _ _ _ _ _ _ dX7_echo_45  (sp1 hR) (congrArg (fun z => (MW cI ad z)) (sp2 hR)) hP hD hS
      · have hR := (if_pos c_10).symm.trans hR
        refine lv_bipush (v := 20) hx hb dX7_echo_39 (by decide) ?_
        refine lv_goto (tgt := 45) hx hb dX7_echo_41 (by decide) ?_
        exact ret_ _ _ _ _ _ _ dX7_echo_45  (sp1 hR) (congrArg (fun z => (MW cI ad z)) (sp2 hR)) hP hD hS
  · have hR := (if_pos c_2).symm.trans hR
    refine lv_iconst (v := (-1)) hx hb dX7_echo_8 (by decide) ?_
    exact ret_ _ _ _ _ _ _ dX7_echo_9  (sp1 hR) (congrArg (fun z => (MW cI ad z)) (sp2 hR)) hP hD hS
abbrev rm_X7_as : Room := { frames := 1, cells := 0, slots := 0, locals := 22 }
set_option maxHeartbeats 4000000 in
set_option maxRecDepth 100000 in
theorem c_X7_as (l : Launch) (D : va_G) (cI cO : ClassId) (ad : Nat → Nat) (sz : Nat) {st : St} {x1 : Int32} {x2 : Int32} {r : Int32} {s2 : St} (hR : F_X7_as st x1 x2 = some (r, s2)) : CI l yX7_as wsX7_as rm_X7_as D cI cO [.ref (ad 0), .int x1, .int x2] (MW cI ad st) (MW cI ad s2) sz r := by
  refine mk_i (cc := cX7_as) (maxL := 3) (own := RX7) rfl (by decide) rfl (Nat.le_of_ble_eq_true rfl) ?_
  intro p e s m args below meth c A Q ls hx hb hml hown hts hK hN hA ret_ hP hD hS hl
  have i_X7 : ∀ w ∈ u_ws RX7 TX7 28, w ∈ wsX7_as := (fun _ h => List.mem_cons_of_mem _ (List.mem_append_right _ h))
  have f_61 := hts (.fieldLink RX7 61 "BellNamesModel" "fault" "I") (by decide +kernel)
  have f_19 := hts (.fieldLink RX7 19 "BellNamesModel" "kind" "[I") (by decide +kernel)
  have hl : lv_has ls 3 [(0, .ref (ad 0)), (1, .int x1), (2, .int x2)] := hl
  unfold F_X7_as at hR
  refine lv_aload_n hx hb dX7_as_0 rfl (lv_at hl 0 rfl) ?_
  refine lv_iconst (v := 0) hx hb dX7_as_1 (by decide) ?_
  refine bw_put (w' := (MW cI ad (sI st 0 0))) (ci := 6) (C := RX7) (T := TX7) (N := 28) hx hb hts i_X7 tyX7 tyX7_ok nmX7 hown hK hP hD hS 0 rfl rfl 0 (by decide) f_61 rfl rfl (Nat.le_of_ble_eq_true rfl) (MW_i0 cI ad _ _) dX7_as_2 (fun H locs hP hD hS => ?_)
  refine lv_aload_n hx hb dX7_as_5 rfl (lv_at hl 0 rfl) ?_
  refine lv_iload_n hx hb dX7_as_6 rfl (lv_at hl 1 rfl) ?_
  obtain ⟨v_1, e_1, hR⟩ := b1_some hR
  refine bc_z (va_runV (As := [.int x1]) (rest := []) ⟨hx, hb, hml, hown, hts⟩ (c_X7_isBell l D cI cO ad _ e_1) (cwV 1 hts gX7_as_X7_isBell rfl rfl rfl (by decide +kernel) ⟨Nat.le_of_ble_eq_true rfl, Nat.le_of_ble_eq_true rfl⟩) (preV hK hN hP hD (va_recv hK hP (ci := 6) (q0 := 0) rfl rfl)) rfl rfl hl.1 rfl (lv_room (Nat.le_of_ble_eq_true rfl)) dX7_as_7 ⟨Nat.zero_le _, Nat.zero_le _⟩) hS hD hA (fun H locs hP hD hS n_1 => ?_)
  refine lv_if_ne (tgt := 15) hx hb dX7_as_10 (by decide) (fun c_2 => ?_) (fun c_2 => ?_)
  · have hR := (if_neg c_2).symm.trans hR
    refine lv_iload_n hx hb dX7_as_15 rfl (lv_at hl 2 rfl) ?_
    refine lv_iconst (v := 0) hx hb dX7_as_16 (by decide) ?_
    refine lv_iconst (v := 2) hx hb dX7_as_17 (by decide) ?_
    obtain ⟨v_3, e_3, hR⟩ := b1_some hR
    refine bc_z (va_runS (As := [.int x2, .int 0, .int 2]) (rest := []) ⟨hx, hb, hml, hown, hts⟩ (c_X7_within l D cI cO ad _ e_3) (va_cwS 3 hts gX7_as_X7_within rfl rfl rfl (by decide +kernel) ⟨Nat.le_of_ble_eq_true rfl, Nat.le_of_ble_eq_true rfl⟩) (preS hK hN hP hD) rfl rfl hl.1 rfl (lv_room (Nat.le_of_ble_eq_true rfl)) dX7_as_18 ⟨Nat.zero_le _, Nat.zero_le _⟩) hS hD hA (fun H locs hP hD hS n_3 => ?_)
    refine lv_if_ne (tgt := 27) hx hb dX7_as_21 (by decide) (fun c_4 => ?_) (fun c_4 => ?_)
    · have hR := (if_neg c_4).symm.trans hR
      refine lv_aload_n hx hb dX7_as_27 rfl (lv_at hl 0 rfl) ?_
      refine bw_get (ci := 6) (v := .ref (ad 4)) (C := RX7) (T := TX7) (N := 28) hx hb hts i_X7 hown hK hP 0 rfl rfl 8 (by decide) f_19 rfl dX7_as_28 ?_
      refine lv_iload_n hx hb dX7_as_31 rfl (lv_at hl 1 rfl) ?_
      obtain ⟨h_5, hR⟩ := ck_some hR
      refine bw_ald (v := gA (sI st 0 0) 8 x1) hx hb hK hP 4 rfl h_5 rfl dX7_as_32 ?_
      refine lv_iload_n hx hb dX7_as_33 rfl (lv_at hl 2 rfl) ?_
      refine lv_icmp_lt (tgt := 41) hx hb dX7_as_34 (by decide) (fun c_6 => ?_) (fun c_6 => ?_)
      · have hR := (if_pos c_6).symm.trans hR
        refine lv_aload_n hx hb dX7_as_41 rfl (lv_at hl 0 rfl) ?_
        refine lv_iconst (v := 2) hx hb dX7_as_42 (by decide) ?_
        obtain ⟨v_7, s_7, e_7, hR⟩ := b2_some hR
        refine bc_i (va_runV (As := [.int 2]) (rest := []) ⟨hx, hb, hml, hown, hts⟩ (c_X7_fails l D cI cO ad _ e_7) (cwV 1 hts gX7_as_X7_fails rfl rfl rfl (by decide +kernel) ⟨Nat.le_of_ble_eq_true rfl, Nat.le_of_ble_eq_true rfl⟩) (preV hK hN hP hD (va_recv hK hP (ci := 6) (q0 := 0) rfl rfl)) rfl rfl hl.1 rfl (lv_room (Nat.le_of_ble_eq_true rfl)) dX7_as_43 ⟨Nat.zero_le _, Nat.zero_le _⟩) hS hD hA (fun H locs hP hD hS => ?_)
        exact ret_ _ _ _ _ _ _ dX7_as_46  (sp1 hR) (congrArg (fun z => (MW cI ad z)) (sp2 hR)) hP hD hS
      · have hR := (if_neg c_6).symm.trans hR
        refine lv_iconst (v := 1) hx hb dX7_as_37 (by decide) ?_
        refine lv_goto (tgt := 46) hx hb dX7_as_38 (by decide) ?_
        exact ret_ _ _ _ _ _ _ dX7_as_46  (sp1 hR) (congrArg (fun z => (MW cI ad z)) (sp2 hR)) hP hD hS
    · have hR := (if_pos c_4).symm.trans hR
      refine lv_bipush (v := (-2)) hx hb dX7_as_24 (by decide) ?_
      exact ret_ _ _ _ _ _ _ dX7_as_26  (sp1 hR) (congrArg (fun z => (MW cI ad z)) (sp2 hR)) hP hD hS
  · have hR := (if_pos c_2).symm.trans hR
    refine lv_iconst (v := (-1)) hx hb dX7_as_13 (by decide) ?_
    exact ret_ _ _ _ _ _ _ dX7_as_14  (sp1 hR) (congrArg (fun z => (MW cI ad z)) (sp2 hR)) hP hD hS
abbrev rm_X7_trace : Room := { frames := 0, cells := 0, slots := 0, locals := 0 }
set_option maxHeartbeats 4000000 in
set_option maxRecDepth 100000 in
theorem c_X7_trace (l : Launch) (D : va_G) (cI cO : ClassId) (ad : Nat → Nat) (sz : Nat) {st : St} {r : Int32} (hR : F_X7_trace st = some r) : CI l yX7_trace wsX7_trace rm_X7_trace D cI cO [.ref (ad 0)] (MW cI ad st) (MW cI ad st) sz r := by
  refine mk_i (cc := cX7_trace) (maxL := 1) (own := RX7) rfl (by decide) rfl (Nat.le_of_ble_eq_true rfl) ?_
  intro p e s m args below meth c A Q ls hx hb hml hown hts hK hN hA ret_ hP hD hS hl
  have i_X7 : ∀ w ∈ u_ws RX7 TX7 28, w ∈ wsX7_trace := (fun _ h => List.mem_cons_of_mem _ (List.mem_append_right _ h))
  have f_193 := hts (.fieldLink RX7 193 "BellNamesModel" "trace" "I") (by decide +kernel)
  have hl : lv_has ls 1 [(0, .ref (ad 0))] := hl
  unfold F_X7_trace at hR
  refine lv_aload_n hx hb dX7_trace_0 rfl (lv_at hl 0 rfl) ?_
  refine bw_get (ci := 6) (v := .int (gI st 1)) (C := RX7) (T := TX7) (N := 28) hx hb hts i_X7 hown hK hP 0 rfl rfl 1 (by decide) f_193 rfl dX7_trace_1 ?_
  exact ret_ _ _ _ _ _ _ dX7_trace_4  (Option.some.inj hR) rfl hP hD hS
abbrev rm_X7_fault : Room := { frames := 0, cells := 0, slots := 0, locals := 0 }
set_option maxHeartbeats 4000000 in
set_option maxRecDepth 100000 in
theorem c_X7_fault (l : Launch) (D : va_G) (cI cO : ClassId) (ad : Nat → Nat) (sz : Nat) {st : St} {r : Int32} (hR : F_X7_fault st = some r) : CI l yX7_fault wsX7_fault rm_X7_fault D cI cO [.ref (ad 0)] (MW cI ad st) (MW cI ad st) sz r := by
  refine mk_i (cc := cX7_fault) (maxL := 1) (own := RX7) rfl (by decide) rfl (Nat.le_of_ble_eq_true rfl) ?_
  intro p e s m args below meth c A Q ls hx hb hml hown hts hK hN hA ret_ hP hD hS hl
  have i_X7 : ∀ w ∈ u_ws RX7 TX7 28, w ∈ wsX7_fault := (fun _ h => List.mem_cons_of_mem _ (List.mem_append_right _ h))
  have f_61 := hts (.fieldLink RX7 61 "BellNamesModel" "fault" "I") (by decide +kernel)
  have hl : lv_has ls 1 [(0, .ref (ad 0))] := hl
  unfold F_X7_fault at hR
  refine lv_aload_n hx hb dX7_fault_0 rfl (lv_at hl 0 rfl) ?_
  refine bw_get (ci := 6) (v := .int (gI st 0)) (C := RX7) (T := TX7) (N := 28) hx hb hts i_X7 hown hK hP 0 rfl rfl 0 (by decide) f_61 rfl dX7_fault_1 ?_
  exact ret_ _ _ _ _ _ _ dX7_fault_4  (Option.some.inj hR) rfl hP hD hS
abbrev rm_X7_many : Room := { frames := 0, cells := 0, slots := 0, locals := 0 }
set_option maxHeartbeats 4000000 in
set_option maxRecDepth 100000 in
theorem c_X7_many (l : Launch) (D : va_G) (cI cO : ClassId) (ad : Nat → Nat) (sz : Nat) {st : St} {x1 : Int32} {r : Int32} (hR : F_X7_many st x1 = some r) : CI l yX7_many wsX7_many rm_X7_many D cI cO [.ref (ad 0), .int x1] (MW cI ad st) (MW cI ad st) sz r := by
  refine mk_i (cc := cX7_many) (maxL := 2) (own := RX7) rfl (by decide) rfl (Nat.le_of_ble_eq_true rfl) ?_
  intro p e s m args below meth c A Q ls hx hb hml hown hts hK hN hA ret_ hP hD hS hl
  have i_X7 : ∀ w ∈ u_ws RX7 TX7 28, w ∈ wsX7_many := (fun _ h => List.mem_cons_of_mem _ (List.mem_append_right _ h))
  have f_110 := hts (.fieldLink RX7 110 "BellNamesModel" "readings" "I") (by decide +kernel)
  have f_104 := hts (.fieldLink RX7 104 "BellNamesModel" "reach" "I") (by decide +kernel)
  have f_98 := hts (.fieldLink RX7 98 "BellNamesModel" "wind" "I") (by decide +kernel)
  have f_71 := hts (.fieldLink RX7 71 "BellNamesModel" "bells" "I") (by decide +kernel)
  have hl : lv_has ls 2 [(0, .ref (ad 0)), (1, .int x1)] := hl
  unfold F_X7_many at hR
  refine lv_iload_n hx hb dX7_many_0 rfl (lv_at hl 1 rfl) ?_
  refine lv_if_ne (tgt := 11) hx hb dX7_many_1 (by decide) (fun c_1 => ?_) (fun c_1 => ?_)
  · have hR := (if_neg c_1).symm.trans hR
    refine lv_iload_n hx hb dX7_many_11 rfl (lv_at hl 1 rfl) ?_
    refine lv_iconst (v := 1) hx hb dX7_many_12 (by decide) ?_
    refine lv_icmp_ne (tgt := 23) hx hb dX7_many_13 (by decide) (fun c_2 => ?_) (fun c_2 => ?_)
    · have hR := (if_neg c_2).symm.trans hR
      refine lv_iload_n hx hb dX7_many_23 rfl (lv_at hl 1 rfl) ?_
      refine lv_iconst (v := 2) hx hb dX7_many_24 (by decide) ?_
      refine lv_icmp_ne (tgt := 35) hx hb dX7_many_25 (by decide) (fun c_3 => ?_) (fun c_3 => ?_)
      · have hR := (if_neg c_3).symm.trans hR
        refine lv_iload_n hx hb dX7_many_35 rfl (lv_at hl 1 rfl) ?_
        refine lv_iconst (v := 3) hx hb dX7_many_36 (by decide) ?_
        refine lv_icmp_ne (tgt := 47) hx hb dX7_many_37 (by decide) (fun c_4 => ?_) (fun c_4 => ?_)
        · have hR := (if_neg c_4).symm.trans hR
          refine lv_bipush (v := (-2)) hx hb dX7_many_47 (by decide) ?_
          exact ret_ _ _ _ _ _ _ dX7_many_49  (Option.some.inj hR) rfl hP hD hS
        · have hR := (if_pos c_4).symm.trans hR
          refine lv_aload_n hx hb dX7_many_40 rfl (lv_at hl 0 rfl) ?_
          refine bw_get (ci := 6) (v := .int (gI st 24)) (C := RX7) (T := TX7) (N := 28) hx hb hts i_X7 hown hK hP 0 rfl rfl 24 (by decide) f_110 rfl dX7_many_41 ?_
          refine lv_goto (tgt := 49) hx hb dX7_many_44 (by decide) ?_
          exact ret_ _ _ _ _ _ _ dX7_many_49  (Option.some.inj hR) rfl hP hD hS
      · have hR := (if_pos c_3).symm.trans hR
        refine lv_aload_n hx hb dX7_many_28 rfl (lv_at hl 0 rfl) ?_
        refine bw_get (ci := 6) (v := .int (gI st 7)) (C := RX7) (T := TX7) (N := 28) hx hb hts i_X7 hown hK hP 0 rfl rfl 7 (by decide) f_104 rfl dX7_many_29 ?_
        refine lv_goto (tgt := 49) hx hb dX7_many_32 (by decide) ?_
        exact ret_ _ _ _ _ _ _ dX7_many_49  (Option.some.inj hR) rfl hP hD hS
    · have hR := (if_pos c_2).symm.trans hR
      refine lv_aload_n hx hb dX7_many_16 rfl (lv_at hl 0 rfl) ?_
      refine bw_get (ci := 6) (v := .int (gI st 6)) (C := RX7) (T := TX7) (N := 28) hx hb hts i_X7 hown hK hP 0 rfl rfl 6 (by decide) f_98 rfl dX7_many_17 ?_
      refine lv_goto (tgt := 49) hx hb dX7_many_20 (by decide) ?_
      exact ret_ _ _ _ _ _ _ dX7_many_49  (Option.some.inj hR) rfl hP hD hS
  · have hR := (if_pos c_1).symm.trans hR
    refine lv_aload_n hx hb dX7_many_4 rfl (lv_at hl 0 rfl) ?_
    refine bw_get (ci := 6) (v := .int (gI st 5)) (C := RX7) (T := TX7) (N := 28) hx hb hts i_X7 hown hK hP 0 rfl rfl 5 (by decide) f_71 rfl dX7_many_5 ?_
    refine lv_goto (tgt := 49) hx hb dX7_many_8 (by decide) ?_
    exact ret_ _ _ _ _ _ _ dX7_many_49  (Option.some.inj hR) rfl hP hD hS
