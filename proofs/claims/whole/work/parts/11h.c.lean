abbrev rm_X7_cast : Room := { frames := 3, cells := 0, slots := 0, locals := 69 }
set_option maxHeartbeats 4000000 in
set_option maxRecDepth 100000 in
theorem c_X7_cast (l : Launch) (D : va_G) (cI cO : ClassId) (ad : Nat → Nat) (sz : Nat) {st : St} {x1 : Int32} {r : Int32} {s2 : St} (hR : F_X7_cast st x1 = some (r, s2)) : CI l yX7_cast wsX7_cast rm_X7_cast D cI cO [.ref (ad 0), .int x1] (MW cI ad st) (MW cI ad s2) sz r := by
  refine mk_i (cc := cX7_cast) (maxL := 5) (own := RX7) rfl (by decide) rfl (Nat.le_of_ble_eq_true rfl) ?_
  intro p e s m args below meth c A Q ls hx hb hml hown hts hK hN hA ret_ hP hD hS hl
  have i_X7 : ∀ w ∈ u_ws RX7 TX7 28, w ∈ wsX7_cast := (fun _ h => List.mem_cons_of_mem _ (List.mem_append_right _ h))
  have f_22 := hts (.fieldLink RX7 22 "BellNamesModel" "note" "[I") (by decide +kernel)
  have hl : lv_has ls 5 [(0, .ref (ad 0)), (1, .int x1)] := hl
  unfold F_X7_cast at hR
  refine lv_aload_n hx hb dX7_cast_0 rfl (lv_at hl 0 rfl) ?_
  refine lv_iload_n hx hb dX7_cast_1 rfl (lv_at hl 1 rfl) ?_
  obtain ⟨v_1, e_1, hR⟩ := b1_some hR
  refine bc_z (va_runV (As := [.int x1]) (rest := []) ⟨hx, hb, hml, hown, hts⟩ (c_X7_isBell l D cI cO ad _ e_1) (cwV 1 hts gX7_cast_X7_isBell rfl rfl rfl (by decide +kernel) ⟨Nat.le_of_ble_eq_true rfl, Nat.le_of_ble_eq_true rfl⟩) (preV hK hN hP hD (va_recv hK hP (ci := 6) (q0 := 0) rfl rfl)) rfl rfl hl.1 rfl (lv_room (Nat.le_of_ble_eq_true rfl)) dX7_cast_2 ⟨Nat.zero_le _, Nat.zero_le _⟩) hS hD hA (fun H locs hP hD hS n_1 => ?_)
  refine lv_if_ne (tgt := 10) hx hb dX7_cast_5 (by decide) (fun c_2 => ?_) (fun c_2 => ?_)
  · have hR := (if_neg c_2).symm.trans hR
    refine lv_aload_n hx hb dX7_cast_10 rfl (lv_at hl 0 rfl) ?_
    refine bw_get (ci := 6) (v := .ref (ad 5)) (C := RX7) (T := TX7) (N := 28) hx hb hts i_X7 hown hK hP 0 rfl rfl 9 (by decide) f_22 rfl dX7_cast_11 ?_
    refine lv_iload_n hx hb dX7_cast_14 rfl (lv_at hl 1 rfl) ?_
    obtain ⟨h_3, hR⟩ := ck_some hR
    refine bw_ald (v := gA st 9 x1) hx hb hK hP 5 rfl h_3 rfl dX7_cast_15 ?_
    refine lv_istore_n (lv' := [(2, .int (gA st 9 x1)), (0, .ref (ad 0)), (1, .int x1)]) hx hb dX7_cast_16 rfl hl (by decide) rfl (fun ls hl => ?_)
    refine lv_bipush (v := (-9)) hx hb dX7_cast_17 (by decide) ?_
    refine lv_istore_n (lv' := [(3, .int (-9)), (2, .int (gA st 9 x1)), (0, .ref (ad 0)), (1, .int x1)]) hx hb dX7_cast_19 rfl hl (by decide) rfl (fun ls hl => ?_)
    refine lv_bipush (v := 9) hx hb dX7_cast_20 (by decide) ?_
    refine lv_istore (lv' := [(4, .int 9), (3, .int (-9)), (2, .int (gA st 9 x1)), (0, .ref (ad 0)), (1, .int x1)]) hx hb dX7_cast_22 hl (by decide) rfl (fun ls hl => ?_)
    have lp_24 : ∀ (n_24 : Nat) (y3_24 : Int32) (y4_24 : Int32) (z_24 : St) (H : Heap) (locs : List Loc) (ls : Array Slot), L_X7_cast_24 x1 (fun y3_24 y4_24 z_24 => ck x1 5 (some (y3_24, sA z_24 9 x1 (gA st 9 x1)))) n_24 y3_24 y4_24 z_24 = some (r, s2) → va_P D vwCl (MW cI ad z_24) H → va_D A (MW cI ad z_24) → va_S A s.heap H locs → lv_has ls 5 [(0, .ref (ad 0)), (1, .int x1), (2, .int (gA st 9 x1)), (3, .int y3_24), (4, .int y4_24)] → W p l e rm_X7_cast s m args below meth c H locs 0 0 Q (F0 m 24 ls []) := by
      intro n_24
      induction n_24 with
      | zero => intro y3_24 y4_24 z_24 H locs ls hR; exact absurd (L_X7_cast_24_z.symm.trans hR) (fun h => nomatch h)
      | succ n_24 ih_24 =>
        intro y3_24 y4_24 z_24 H locs ls hR hP hD hS hl
        have hR := L_X7_cast_24_s.symm.trans hR
        refine lv_iload hx hb dX7_cast_24 (lv_at hl 4 rfl) ?_
        refine lv_if_lt (tgt := 58) hx hb dX7_cast_26 (by decide) (fun c_4 => ?_) (fun c_4 => ?_)
        · have hR := (if_pos c_4).symm.trans hR
          refine lv_aload_n hx hb dX7_cast_58 rfl (lv_at hl 0 rfl) ?_
          refine bw_get (ci := 6) (v := .ref (ad 5)) (C := RX7) (T := TX7) (N := 28) hx hb hts i_X7 hown hK hP 0 rfl rfl 9 (by decide) f_22 rfl dX7_cast_59 ?_
          refine lv_iload_n hx hb dX7_cast_62 rfl (lv_at hl 1 rfl) ?_
          refine lv_iload_n hx hb dX7_cast_63 rfl (lv_at hl 2 rfl) ?_
          obtain ⟨h_5, hR⟩ := ck_some hR
          refine bw_ast (w' := (MW cI ad (sA z_24 9 x1 (gA st 9 x1)))) hx hb hK hP hD hS 5 rfl h_5 (MW_a9 cI ad _ _) dX7_cast_64 (fun H locs hP hD hS => ?_)
          refine lv_iload_n hx hb dX7_cast_65 rfl (lv_at hl 3 rfl) ?_
          exact ret_ _ _ _ _ _ _ dX7_cast_66  (sp1 hR) (congrArg (fun z => (MW cI ad z)) (sp2 hR)) hP hD hS
        · have hR := (if_neg c_4).symm.trans hR
          refine lv_aload_n hx hb dX7_cast_29 rfl (lv_at hl 0 rfl) ?_
          refine bw_get (ci := 6) (v := .ref (ad 5)) (C := RX7) (T := TX7) (N := 28) hx hb hts i_X7 hown hK hP 0 rfl rfl 9 (by decide) f_22 rfl dX7_cast_30 ?_
          refine lv_iload_n hx hb dX7_cast_33 rfl (lv_at hl 1 rfl) ?_
          refine lv_iload hx hb dX7_cast_34 (lv_at hl 4 rfl) ?_
          obtain ⟨h_6, hR⟩ := ck_some hR
          refine bw_ast (w' := (MW cI ad (sA z_24 9 x1 y4_24))) hx hb hK hP hD hS 5 rfl h_6 (MW_a9 cI ad _ _) dX7_cast_36 (fun H locs hP hD hS => ?_)
          refine lv_aload_n hx hb dX7_cast_37 rfl (lv_at hl 0 rfl) ?_
          refine lv_iload_n hx hb dX7_cast_38 rfl (lv_at hl 1 rfl) ?_
          obtain ⟨v_7, e_7, hR⟩ := b1_some hR
          refine bc_z (va_runV (As := [.int x1]) (rest := []) ⟨hx, hb, hml, hown, hts⟩ (c_X7_isAlone l D cI cO ad _ e_7) (cwV 1 hts gX7_cast_X7_isAlone rfl rfl rfl (by decide +kernel) ⟨Nat.le_of_ble_eq_true rfl, Nat.le_of_ble_eq_true rfl⟩) (preV hK hN hP hD (va_recv hK hP (ci := 6) (q0 := 0) rfl rfl)) rfl rfl hl.1 rfl (lv_room (Nat.le_of_ble_eq_true rfl)) dX7_cast_39 ⟨Nat.zero_le _, Nat.zero_le _⟩) hS hD hA (fun H locs hP hD hS n_7 => ?_)
          refine lv_if_eq (tgt := 50) hx hb dX7_cast_42 (by decide) (fun c_8 => ?_) (fun c_8 => ?_)
          · have hR := (if_pos c_8).symm.trans hR
            refine lv_iload_n hx hb dX7_cast_50 rfl (lv_at hl 3 rfl) ?_
            refine lv_istore_n (lv' := [(3, .int y3_24), (0, .ref (ad 0)), (1, .int x1), (2, .int (gA st 9 x1)), (4, .int y4_24)]) hx hb dX7_cast_51 rfl hl (by decide) rfl (fun ls hl => ?_)
            refine lv_iinc (v := y4_24 + (-1)) (lv' := [(4, .int (y4_24 + (-1))), (3, .int y3_24), (0, .ref (ad 0)), (1, .int x1), (2, .int (gA st 9 x1))]) hx hb dX7_cast_52 hl (k := 4) rfl rfl (by decide) rfl (fun ls hl => ?_)
            refine lv_goto (tgt := 24) hx hb dX7_cast_55 (by decide) ?_
            exact ih_24 _ _ _ _ _ _ hR hP hD hS (lv_sub hl [2, 3, 4, 1, 0] rfl)
          · have hR := (if_neg c_8).symm.trans hR
            refine lv_iload hx hb dX7_cast_45 (lv_at hl 4 rfl) ?_
            refine lv_goto (tgt := 51) hx hb dX7_cast_47 (by decide) ?_
            refine lv_istore_n (lv' := [(3, .int y4_24), (0, .ref (ad 0)), (1, .int x1), (2, .int (gA st 9 x1)), (4, .int y4_24)]) hx hb dX7_cast_51 rfl hl (by decide) rfl (fun ls hl => ?_)
            refine lv_iinc (v := y4_24 + (-1)) (lv' := [(4, .int (y4_24 + (-1))), (3, .int y4_24), (0, .ref (ad 0)), (1, .int x1), (2, .int (gA st 9 x1))]) hx hb dX7_cast_52 hl (k := 4) rfl rfl (by decide) rfl (fun ls hl => ?_)
            refine lv_goto (tgt := 24) hx hb dX7_cast_55 (by decide) ?_
            exact ih_24 _ _ _ _ _ _ hR hP hD hS (lv_sub hl [2, 3, 4, 1, 0] rfl)
    exact lp_24 _ _ _ _ _ _ _ hR hP hD hS (lv_sub hl [3, 4, 2, 1, 0] rfl)
  · have hR := (if_pos c_2).symm.trans hR
    refine lv_iconst (v := (-1)) hx hb dX7_cast_8 (by decide) ?_
    exact ret_ _ _ _ _ _ _ dX7_cast_9  (sp1 hR) (congrArg (fun z => (MW cI ad z)) (sp2 hR)) hP hD hS
abbrev rm_X7_changes : Room := { frames := 0, cells := 0, slots := 0, locals := 0 }
set_option maxHeartbeats 4000000 in
set_option maxRecDepth 100000 in
theorem c_X7_changes (l : Launch) (D : va_G) (cI cO : ClassId) (ad : Nat → Nat) (sz : Nat) {st : St} {r : Int32} (hR : F_X7_changes st = some r) : CI l yX7_changes wsX7_changes rm_X7_changes D cI cO [.ref (ad 0)] (MW cI ad st) (MW cI ad st) sz r := by
  refine mk_i (cc := cX7_changes) (maxL := 3) (own := RX7) rfl (by decide) rfl (Nat.le_of_ble_eq_true rfl) ?_
  intro p e s m args below meth c A Q ls hx hb hml hown hts hK hN hA ret_ hP hD hS hl
  have i_X7 : ∀ w ∈ u_ws RX7 TX7 28, w ∈ wsX7_changes := (fun _ h => List.mem_cons_of_mem _ (List.mem_append_right _ h))
  have f_71 := hts (.fieldLink RX7 71 "BellNamesModel" "bells" "I") (by decide +kernel)
  have f_28 := hts (.fieldLink RX7 28 "BellNamesModel" "mood" "[I") (by decide +kernel)
  have f_46 := hts (.fieldLink RX7 46 "BellNamesModel" "kept" "[I") (by decide +kernel)
  have hl : lv_has ls 3 [(0, .ref (ad 0))] := hl
  unfold F_X7_changes at hR
  refine lv_iconst (v := 0) hx hb dX7_changes_0 (by decide) ?_
  refine lv_istore_n (lv' := [(1, .int 0), (0, .ref (ad 0))]) hx hb dX7_changes_1 rfl hl (by decide) rfl (fun ls hl => ?_)
  refine lv_iconst (v := 0) hx hb dX7_changes_2 (by decide) ?_
  refine lv_istore_n (lv' := [(2, .int 0), (1, .int 0), (0, .ref (ad 0))]) hx hb dX7_changes_3 rfl hl (by decide) rfl (fun ls hl => ?_)
  have lp_4 : ∀ (n_4 : Nat) (y1_4 : Int32) (y2_4 : Int32) (H : Heap) (locs : List Loc) (ls : Array Slot), L_X7_changes_4 st (fun y1_4 y2_4 => some y1_4) n_4 y1_4 y2_4 = some r → va_P D vwCl (MW cI ad st) H → va_D A (MW cI ad st) → va_S A s.heap H locs → lv_has ls 3 [(0, .ref (ad 0)), (1, .int y1_4), (2, .int y2_4)] → W p l e rm_X7_changes s m args below meth c H locs 0 0 Q (F0 m 4 ls []) := by
    intro n_4
    induction n_4 with
    | zero => intro y1_4 y2_4 H locs ls hR; exact absurd (L_X7_changes_4_z.symm.trans hR) (fun h => nomatch h)
    | succ n_4 ih_4 =>
      intro y1_4 y2_4 H locs ls hR hP hD hS hl
      have hR := L_X7_changes_4_s.symm.trans hR
      refine lv_iload_n hx hb dX7_changes_4 rfl (lv_at hl 2 rfl) ?_
      refine lv_aload_n hx hb dX7_changes_5 rfl (lv_at hl 0 rfl) ?_
      refine bw_get (ci := 6) (v := .int (gI st 5)) (C := RX7) (T := TX7) (N := 28) hx hb hts i_X7 hown hK hP 0 rfl rfl 5 (by decide) f_71 rfl dX7_changes_6 ?_
      refine lv_icmp_ge (tgt := 41) hx hb dX7_changes_9 (by decide) (fun c_1 => ?_) (fun c_1 => ?_)
      · have hR := (if_pos c_1).symm.trans hR
        refine lv_iload_n hx hb dX7_changes_41 rfl (lv_at hl 1 rfl) ?_
        exact ret_ _ _ _ _ _ _ dX7_changes_42  (Option.some.inj hR) rfl hP hD hS
      · have hR := (if_neg c_1).symm.trans hR
        refine lv_iload_n hx hb dX7_changes_12 rfl (lv_at hl 1 rfl) ?_
        refine lv_aload_n hx hb dX7_changes_13 rfl (lv_at hl 0 rfl) ?_
        refine bw_get (ci := 6) (v := .ref (ad 7)) (C := RX7) (T := TX7) (N := 28) hx hb hts i_X7 hown hK hP 0 rfl rfl 11 (by decide) f_28 rfl dX7_changes_14 ?_
        refine lv_iload_n hx hb dX7_changes_17 rfl (lv_at hl 2 rfl) ?_
        obtain ⟨h_2, hR⟩ := ck_some hR
        refine bw_ald (v := gA st 11 y2_4) hx hb hK hP 7 rfl h_2 rfl dX7_changes_18 ?_
        refine lv_aload_n hx hb dX7_changes_19 rfl (lv_at hl 0 rfl) ?_
        refine bw_get (ci := 6) (v := .ref (ad 13)) (C := RX7) (T := TX7) (N := 28) hx hb hts i_X7 hown hK hP 0 rfl rfl 22 (by decide) f_46 rfl dX7_changes_20 ?_
        refine lv_iload_n hx hb dX7_changes_23 rfl (lv_at hl 2 rfl) ?_
        obtain ⟨h_3, hR⟩ := ck_some hR
        refine bw_ald (v := gA st 22 y2_4) hx hb hK hP 13 rfl h_3 rfl dX7_changes_24 ?_
        refine lv_icmp_ne (tgt := 32) hx hb dX7_changes_25 (by decide) (fun c_4 => ?_) (fun c_4 => ?_)
        · have hR := (if_neg c_4).symm.trans hR
          refine lv_iconst (v := 1) hx hb dX7_changes_32 (by decide) ?_
          refine lv_iadd hx hb dX7_changes_33 ?_
          refine lv_istore_n (lv' := [(1, .int (y1_4 + 1)), (0, .ref (ad 0)), (2, .int y2_4)]) hx hb dX7_changes_34 rfl hl (by decide) rfl (fun ls hl => ?_)
          refine lv_iinc (v := y2_4 + 1) (lv' := [(2, .int (y2_4 + 1)), (1, .int (y1_4 + 1)), (0, .ref (ad 0))]) hx hb dX7_changes_35 hl (k := 2) rfl rfl (by decide) rfl (fun ls hl => ?_)
          refine lv_goto (tgt := 4) hx hb dX7_changes_38 (by decide) ?_
          exact ih_4 _ _ _ _ _ hR hP hD hS (lv_sub hl [2, 1, 0] rfl)
        · have hR := (if_pos c_4).symm.trans hR
          refine lv_iconst (v := 0) hx hb dX7_changes_28 (by decide) ?_
          refine lv_goto (tgt := 33) hx hb dX7_changes_29 (by decide) ?_
          refine lv_iadd hx hb dX7_changes_33 ?_
          refine lv_istore_n (lv' := [(1, .int (y1_4 + 0)), (0, .ref (ad 0)), (2, .int y2_4)]) hx hb dX7_changes_34 rfl hl (by decide) rfl (fun ls hl => ?_)
          refine lv_iinc (v := y2_4 + 1) (lv' := [(2, .int (y2_4 + 1)), (1, .int (y1_4 + 0)), (0, .ref (ad 0))]) hx hb dX7_changes_35 hl (k := 2) rfl rfl (by decide) rfl (fun ls hl => ?_)
          refine lv_goto (tgt := 4) hx hb dX7_changes_38 (by decide) ?_
          exact ih_4 _ _ _ _ _ hR hP hD hS (lv_sub hl [2, 1, 0] rfl)
  exact lp_4 _ _ _ _ _ _ hR hP hD hS (lv_sub hl [2, 1, 0] rfl)
abbrev rm_X7_findChoir : Room := { frames := 2, cells := 0, slots := 0, locals := 49 }
set_option maxHeartbeats 4000000 in
set_option maxRecDepth 100000 in
theorem c_X7_findChoir (l : Launch) (D : va_G) (cI cO : ClassId) (ad : Nat → Nat) (sz : Nat) {st : St} {r : Int32} {s2 : St} (hR : F_X7_findChoir st = some (r, s2)) : CI l yX7_findChoir wsX7_findChoir rm_X7_findChoir D cI cO [.ref (ad 0)] (MW cI ad st) (MW cI ad s2) sz r := by
  refine mk_i (cc := cX7_findChoir) (maxL := 6) (own := RX7) rfl (by decide) rfl (Nat.le_of_ble_eq_true rfl) ?_
  intro p e s m args below meth c A Q ls hx hb hml hown hts hK hN hA ret_ hP hD hS hl
  have i_X7 : ∀ w ∈ u_ws RX7 TX7 28, w ∈ wsX7_findChoir := (fun _ h => List.mem_cons_of_mem _ (List.mem_append_right _ h))
  have f_71 := hts (.fieldLink RX7 71 "BellNamesModel" "bells" "I") (by decide +kernel)
  have f_28 := hts (.fieldLink RX7 28 "BellNamesModel" "mood" "[I") (by decide +kernel)
  have f_46 := hts (.fieldLink RX7 46 "BellNamesModel" "kept" "[I") (by decide +kernel)
  have f_49 := hts (.fieldLink RX7 49 "BellNamesModel" "found" "[I") (by decide +kernel)
  have hl : lv_has ls 6 [(0, .ref (ad 0))] := hl
  unfold F_X7_findChoir at hR
  refine lv_iconst (v := 1) hx hb dX7_findChoir_0 (by decide) ?_
  refine lv_istore_n (lv' := [(1, .int 1), (0, .ref (ad 0))]) hx hb dX7_findChoir_1 rfl hl (by decide) rfl (fun ls hl => ?_)
  refine lv_iconst (v := 0) hx hb dX7_findChoir_2 (by decide) ?_
  refine lv_istore_n (lv' := [(2, .int 0), (1, .int 1), (0, .ref (ad 0))]) hx hb dX7_findChoir_3 rfl hl (by decide) rfl (fun ls hl => ?_)
  have lp_4 : ∀ (n_4 : Nat) (y1_4 : Int32) (y2_4 : Int32) (z_4 : St) (H : Heap) (locs : List Loc) (ls : Array Slot), L_X7_findChoir_4 (fun y1_4 y2_4 z_4 => L_X7_findChoir_39 y1_4 (fun y2_39 y3_39 z_39 => L_X7_findChoir_158 (fun y3_158 z_158 => some (y2_39, z_158)) 1100 0 z_39) 1100 (-9) 0 z_4) n_4 y1_4 y2_4 z_4 = some (r, s2) → va_P D vwCl (MW cI ad z_4) H → va_D A (MW cI ad z_4) → va_S A s.heap H locs → lv_has ls 6 [(0, .ref (ad 0)), (1, .int y1_4), (2, .int y2_4)] → W p l e rm_X7_findChoir s m args below meth c H locs 0 0 Q (F0 m 4 ls []) := by
    intro n_4
    induction n_4 with
    | zero => intro y1_4 y2_4 z_4 H locs ls hR; exact absurd (L_X7_findChoir_4_z.symm.trans hR) (fun h => nomatch h)
    | succ n_4 ih_4 =>
      intro y1_4 y2_4 z_4 H locs ls hR hP hD hS hl
      have hR := L_X7_findChoir_4_s.symm.trans hR
      refine lv_iload_n hx hb dX7_findChoir_4 rfl (lv_at hl 2 rfl) ?_
      refine lv_aload_n hx hb dX7_findChoir_5 rfl (lv_at hl 0 rfl) ?_
      refine bw_get (ci := 6) (v := .int (gI z_4 5)) (C := RX7) (T := TX7) (N := 28) hx hb hts i_X7 hown hK hP 0 rfl rfl 5 (by decide) f_71 rfl dX7_findChoir_6 ?_
      refine lv_icmp_ge (tgt := 34) hx hb dX7_findChoir_9 (by decide) (fun c_1 => ?_) (fun c_1 => ?_)
      · have hR := (if_pos c_1).symm.trans hR
        refine lv_bipush (v := (-9)) hx hb dX7_findChoir_34 (by decide) ?_
        refine lv_istore_n (lv' := [(2, .int (-9)), (0, .ref (ad 0)), (1, .int y1_4)]) hx hb dX7_findChoir_36 rfl hl (by decide) rfl (fun ls hl => ?_)
        refine lv_iconst (v := 0) hx hb dX7_findChoir_37 (by decide) ?_
        refine lv_istore_n (lv' := [(3, .int 0), (2, .int (-9)), (0, .ref (ad 0)), (1, .int y1_4)]) hx hb dX7_findChoir_38 rfl hl (by decide) rfl (fun ls hl => ?_)
        have lp_39 : ∀ (n_39 : Nat) (y2_39 : Int32) (y3_39 : Int32) (z_39 : St) (H : Heap) (locs : List Loc) (ls : Array Slot), L_X7_findChoir_39 y1_4 (fun y2_39 y3_39 z_39 => L_X7_findChoir_158 (fun y3_158 z_158 => some (y2_39, z_158)) 1100 0 z_39) n_39 y2_39 y3_39 z_39 = some (r, s2) → va_P D vwCl (MW cI ad z_39) H → va_D A (MW cI ad z_39) → va_S A s.heap H locs → lv_has ls 6 [(0, .ref (ad 0)), (1, .int y1_4), (2, .int y2_39), (3, .int y3_39)] → W p l e rm_X7_findChoir s m args below meth c H locs 0 0 Q (F0 m 39 ls []) := by
          intro n_39
          induction n_39 with
          | zero => intro y2_39 y3_39 z_39 H locs ls hR; exact absurd (L_X7_findChoir_39_z.symm.trans hR) (fun h => nomatch h)
          | succ n_39 ih_39 =>
            intro y2_39 y3_39 z_39 H locs ls hR hP hD hS hl
            have hR := L_X7_findChoir_39_s.symm.trans hR
            refine lv_iload_n hx hb dX7_findChoir_39 rfl (lv_at hl 3 rfl) ?_
            refine lv_iload_n hx hb dX7_findChoir_40 rfl (lv_at hl 1 rfl) ?_
            refine lv_icmp_ge (tgt := 156) hx hb dX7_findChoir_41 (by decide) (fun c_2 => ?_) (fun c_2 => ?_)
            · have hR := (if_pos c_2).symm.trans hR
              refine lv_iconst (v := 0) hx hb dX7_findChoir_156 (by decide) ?_
              refine lv_istore_n (lv' := [(3, .int 0), (0, .ref (ad 0)), (1, .int y1_4), (2, .int y2_39)]) hx hb dX7_findChoir_157 rfl hl (by decide) rfl (fun ls hl => ?_)
              have lp_158 : ∀ (n_158 : Nat) (y3_158 : Int32) (z_158 : St) (H : Heap) (locs : List Loc) (ls : Array Slot), L_X7_findChoir_158 (fun y3_158 z_158 => some (y2_39, z_158)) n_158 y3_158 z_158 = some (r, s2) → va_P D vwCl (MW cI ad z_158) H → va_D A (MW cI ad z_158) → va_S A s.heap H locs → lv_has ls 6 [(0, .ref (ad 0)), (2, .int y2_39), (3, .int y3_158)] → W p l e rm_X7_findChoir s m args below meth c H locs 0 0 Q (F0 m 158 ls []) := by
                intro n_158
                induction n_158 with
                | zero => intro y3_158 z_158 H locs ls hR; exact absurd (L_X7_findChoir_158_z.symm.trans hR) (fun h => nomatch h)
                | succ n_158 ih_158 =>
                  intro y3_158 z_158 H locs ls hR hP hD hS hl
                  have hR := L_X7_findChoir_158_s.symm.trans hR
                  refine lv_iload_n hx hb dX7_findChoir_158 rfl (lv_at hl 2 rfl) ?_
                  refine lv_aload_n hx hb dX7_findChoir_159 rfl (lv_at hl 0 rfl) ?_
                  refine bw_get (ci := 6) (v := .int (gI z_158 5)) (C := RX7) (T := TX7) (N := 28) hx hb hts i_X7 hown hK hP 0 rfl rfl 5 (by decide) f_71 rfl dX7_findChoir_160 ?_
                  refine lv_icmp_ge (tgt := 184) hx hb dX7_findChoir_163 (by decide) (fun c_3 => ?_) (fun c_3 => ?_)
                  · have hR := (if_pos c_3).symm.trans hR
                    refine lv_iload_n hx hb dX7_findChoir_184 rfl (lv_at hl 1 rfl) ?_
                    exact ret_ _ _ _ _ _ _ dX7_findChoir_185  (sp1 hR) (congrArg (fun z => (MW cI ad z)) (sp2 hR)) hP hD hS
                  · have hR := (if_neg c_3).symm.trans hR
                    refine lv_aload_n hx hb dX7_findChoir_166 rfl (lv_at hl 0 rfl) ?_
                    refine bw_get (ci := 6) (v := .ref (ad 7)) (C := RX7) (T := TX7) (N := 28) hx hb hts i_X7 hown hK hP 0 rfl rfl 11 (by decide) f_28 rfl dX7_findChoir_167 ?_
                    refine lv_iload_n hx hb dX7_findChoir_170 rfl (lv_at hl 2 rfl) ?_
                    refine lv_aload_n hx hb dX7_findChoir_171 rfl (lv_at hl 0 rfl) ?_
                    refine bw_get (ci := 6) (v := .ref (ad 13)) (C := RX7) (T := TX7) (N := 28) hx hb hts i_X7 hown hK hP 0 rfl rfl 22 (by decide) f_46 rfl dX7_findChoir_172 ?_
                    refine lv_iload_n hx hb dX7_findChoir_175 rfl (lv_at hl 2 rfl) ?_
                    obtain ⟨h_4, hR⟩ := ck_some hR
                    refine bw_ald (v := gA z_158 22 y3_158) hx hb hK hP 13 rfl h_4 rfl dX7_findChoir_176 ?_
                    obtain ⟨h_5, hR⟩ := ck_some hR
                    refine bw_ast (w' := (MW cI ad (sA z_158 11 y3_158 (gA z_158 22 y3_158)))) hx hb hK hP hD hS 7 rfl h_5 (MW_a11 cI ad _ _) dX7_findChoir_177 (fun H locs hP hD hS => ?_)
                    refine lv_iinc (v := y3_158 + 1) (lv' := [(3, .int (y3_158 + 1)), (0, .ref (ad 0)), (2, .int y2_39)]) hx hb dX7_findChoir_178 hl (k := 2) rfl rfl (by decide) rfl (fun ls hl => ?_)
                    refine lv_goto (tgt := 158) hx hb dX7_findChoir_181 (by decide) ?_
                    exact ih_158 _ _ _ _ _ hR hP hD hS (lv_sub hl [1, 2, 0] rfl)
              exact lp_158 _ _ _ _ _ _ hR hP hD hS (lv_sub hl [1, 3, 0] rfl)
            · have hR := (if_neg c_2).symm.trans hR
              refine lv_iload_n hx hb dX7_findChoir_44 rfl (lv_at hl 3 rfl) ?_
              refine lv_istore (lv' := [(4, .int y3_39), (0, .ref (ad 0)), (1, .int y1_4), (2, .int y2_39), (3, .int y3_39)]) hx hb dX7_findChoir_45 hl (by decide) rfl (fun ls hl => ?_)
              refine lv_aload_n hx hb dX7_findChoir_47 rfl (lv_at hl 1 rfl) ?_
              refine bw_get (ci := 6) (v := .int (gI z_39 5)) (C := RX7) (T := TX7) (N := 28) hx hb hts i_X7 hown hK hP 0 rfl rfl 5 (by decide) f_71 rfl dX7_findChoir_48 ?_
              refine lv_iconst (v := 1) hx hb dX7_findChoir_51 (by decide) ?_
              refine lv_isub hx hb dX7_findChoir_52 ?_
              refine lv_istore (lv' := [(5, .int ((gI z_39 5) - 1)), (4, .int y3_39), (0, .ref (ad 0)), (1, .int y1_4), (2, .int y2_39), (3, .int y3_39)]) hx hb dX7_findChoir_53 hl (by decide) rfl (fun ls hl => ?_)
              have lp_55 : ∀ (n_55 : Nat) (y4_55 : Int32) (y5_55 : Int32) (z_55 : St) (H : Heap) (locs : List Loc) (ls : Array Slot), L_X7_findChoir_55 (fun y4_55 y5_55 z_55 => if y2_39 = (-9) then b1 (F_X7_familyOf z_55 0) (fun v_8 => if v_8 = ((jshl 1 (gI z_55 5)) - 1) then b1 (F_X7_changes z_55) (fun v_10 => L_X7_findChoir_121 (fun y5_121 z_121 => L_X7_findChoir_39 y1_4 (fun y2_39 y3_39 z_39 => L_X7_findChoir_158 (fun y3_158 z_158 => some (y2_39, z_158)) 1100 0 z_39) n_39 v_10 (y3_39 + 1) z_121) 1100 0 z_55) else L_X7_findChoir_39 y1_4 (fun y2_39 y3_39 z_39 => L_X7_findChoir_158 (fun y3_158 z_158 => some (y2_39, z_158)) 1100 0 z_39) n_39 y2_39 (y3_39 + 1) z_55) else b1 (F_X7_changes z_55) (fun v_14 => if y2_39 ≤ v_14 then L_X7_findChoir_39 y1_4 (fun y2_39 y3_39 z_39 => L_X7_findChoir_158 (fun y3_158 z_158 => some (y2_39, z_158)) 1100 0 z_39) n_39 y2_39 (y3_39 + 1) z_55 else b1 (F_X7_familyOf z_55 0) (fun v_16 => if v_16 = ((jshl 1 (gI z_55 5)) - 1) then b1 (F_X7_changes z_55) (fun v_18 => L_X7_findChoir_121b (fun y5_121 z_121 => L_X7_findChoir_39 y1_4 (fun y2_39 y3_39 z_39 => L_X7_findChoir_158 (fun y3_158 z_158 => some (y2_39, z_158)) 1100 0 z_39) n_39 v_18 (y3_39 + 1) z_121) 1100 0 z_55) else L_X7_findChoir_39 y1_4 (fun y2_39 y3_39 z_39 => L_X7_findChoir_158 (fun y3_158 z_158 => some (y2_39, z_158)) 1100 0 z_39) n_39 y2_39 (y3_39 + 1) z_55))) n_55 y4_55 y5_55 z_55 = some (r, s2) → va_P D vwCl (MW cI ad z_55) H → va_D A (MW cI ad z_55) → va_S A s.heap H locs → lv_has ls 6 [(0, .ref (ad 0)), (1, .int y1_4), (2, .int y2_39), (3, .int y3_39), (4, .int y4_55), (5, .int y5_55)] → W p l e rm_X7_findChoir s m args below meth c H locs 0 0 Q (F0 m 55 ls []) := by
                intro n_55
                induction n_55 with
                | zero => intro y4_55 y5_55 z_55 H locs ls hR; exact absurd (L_X7_findChoir_55_z.symm.trans hR) (fun h => nomatch h)
                | succ n_55 ih_55 =>
                  intro y4_55 y5_55 z_55 H locs ls hR hP hD hS hl
                  have hR := L_X7_findChoir_55_s.symm.trans hR
                  refine lv_iload hx hb dX7_findChoir_55 (lv_at hl 5 rfl) ?_
                  refine lv_if_lt (tgt := 83) hx hb dX7_findChoir_57 (by decide) (fun c_6 => ?_) (fun c_6 => ?_)
                  · have hR := (if_pos c_6).symm.trans hR
                    refine lv_iload_n hx hb dX7_findChoir_83 rfl (lv_at hl 2 rfl) ?_
                    refine lv_bipush (v := (-9)) hx hb dX7_findChoir_84 (by decide) ?_
                    refine lv_icmp_eq (tgt := 97) hx hb dX7_findChoir_86 (by decide) (fun c_7 => ?_) (fun c_7 => ?_)
                    · have hR := (if_pos c_7).symm.trans hR
                      refine lv_aload_n hx hb dX7_findChoir_97 rfl (lv_at hl 0 rfl) ?_
                      refine lv_iconst (v := 0) hx hb dX7_findChoir_98 (by decide) ?_
                      obtain ⟨v_8, e_8, hR⟩ := b1_some hR
                      refine bc_i (va_runV (As := [.int 0]) (rest := []) ⟨hx, hb, hml, hown, hts⟩ (c_X7_familyOf l D cI cO ad _ e_8) (cwV 1 hts gX7_findChoir_X7_familyOf rfl rfl rfl (by decide +kernel) ⟨Nat.le_of_ble_eq_true rfl, Nat.le_of_ble_eq_true rfl⟩) (preV hK hN hP hD (va_recv hK hP (ci := 6) (q0 := 0) rfl rfl)) rfl rfl hl.1 rfl (lv_room (Nat.le_of_ble_eq_true rfl)) dX7_findChoir_99 ⟨Nat.zero_le _, Nat.zero_le _⟩) hS hD hA (fun H locs hP hD hS => ?_)
                      refine lv_iconst (v := 1) hx hb dX7_findChoir_102 (by decide) ?_
                      refine lv_aload_n hx hb dX7_findChoir_103 rfl (lv_at hl 0 rfl) ?_
                      refine bw_get (ci := 6) (v := .int (gI z_55 5)) (C := RX7) (T := TX7) (N := 28) hx hb hts i_X7 hown hK hP 0 rfl rfl 5 (by decide) f_71 rfl dX7_findChoir_104 ?_
                      refine lv_ishl hx hb dX7_findChoir_107 ?_
                      refine W.eq (g2 := F0 m 108 ls (.int (jshl 1 (gI z_55 5)) :: [.int v_8])) rfl ?_
                      refine lv_iconst (v := 1) hx hb dX7_findChoir_108 (by decide) ?_
                      refine lv_isub hx hb dX7_findChoir_109 ?_
                      refine lv_icmp_ne (tgt := 150) hx hb dX7_findChoir_110 (by decide) (fun c_9 => ?_) (fun c_9 => ?_)
                      · have hR := (if_neg c_9).symm.trans hR
                        refine lv_iinc (v := y3_39 + 1) (lv' := [(3, .int (y3_39 + 1)), (0, .ref (ad 0)), (1, .int y1_4), (2, .int y2_39), (4, .int y4_55), (5, .int y5_55)]) hx hb dX7_findChoir_150 hl (k := 3) rfl rfl (by decide) rfl (fun ls hl => ?_)
                        refine lv_goto (tgt := 39) hx hb dX7_findChoir_153 (by decide) ?_
                        exact ih_39 _ _ _ _ _ _ hR hP hD hS (lv_sub hl [1, 2, 3, 0] rfl)
                      · have hR := (if_pos c_9).symm.trans hR
                        refine lv_aload_n hx hb dX7_findChoir_113 rfl (lv_at hl 0 rfl) ?_
                        obtain ⟨v_10, e_10, hR⟩ := b1_some hR
                        refine bc_i (va_runV (As := []) (rest := []) ⟨hx, hb, hml, hown, hts⟩ (c_X7_changes l D cI cO ad _ e_10) (cwV 0 hts gX7_findChoir_X7_changes rfl rfl rfl (by decide +kernel) ⟨Nat.le_of_ble_eq_true rfl, Nat.le_of_ble_eq_true rfl⟩) (preV hK hN hP hD (va_recv hK hP (ci := 6) (q0 := 0) rfl rfl)) rfl rfl hl.1 rfl (lv_room (Nat.le_of_ble_eq_true rfl)) dX7_findChoir_114 ⟨Nat.zero_le _, Nat.zero_le _⟩) hS hD hA (fun H locs hP hD hS => ?_)
                        refine lv_istore_n (lv' := [(2, .int v_10), (0, .ref (ad 0)), (1, .int y1_4), (3, .int y3_39), (4, .int y4_55), (5, .int y5_55)]) hx hb dX7_findChoir_117 rfl hl (by decide) rfl (fun ls hl => ?_)
                        refine lv_iconst (v := 0) hx hb dX7_findChoir_118 (by decide) ?_
                        refine lv_istore (lv' := [(5, .int 0), (2, .int v_10), (0, .ref (ad 0)), (1, .int y1_4), (3, .int y3_39), (4, .int y4_55)]) hx hb dX7_findChoir_119 hl (by decide) rfl (fun ls hl => ?_)
                        have lp_121 : ∀ (n_121 : Nat) (y5_121 : Int32) (z_121 : St) (H : Heap) (locs : List Loc) (ls : Array Slot), L_X7_findChoir_121 (fun y5_121 z_121 => L_X7_findChoir_39 y1_4 (fun y2_39 y3_39 z_39 => L_X7_findChoir_158 (fun y3_158 z_158 => some (y2_39, z_158)) 1100 0 z_39) n_39 v_10 (y3_39 + 1) z_121) n_121 y5_121 z_121 = some (r, s2) → va_P D vwCl (MW cI ad z_121) H → va_D A (MW cI ad z_121) → va_S A s.heap H locs → lv_has ls 6 [(0, .ref (ad 0)), (1, .int y1_4), (2, .int v_10), (3, .int y3_39), (5, .int y5_121)] → W p l e rm_X7_findChoir s m args below meth c H locs 0 0 Q (F0 m 121 ls []) := by
                          intro n_121
                          induction n_121 with
                          | zero => intro y5_121 z_121 H locs ls hR; exact absurd (L_X7_findChoir_121_z.symm.trans hR) (fun h => nomatch h)
                          | succ n_121 ih_121 =>
                            intro y5_121 z_121 H locs ls hR hP hD hS hl
                            have hR := L_X7_findChoir_121_s.symm.trans hR
                            refine lv_iload hx hb dX7_findChoir_121 (lv_at hl 4 rfl) ?_
                            refine lv_aload_n hx hb dX7_findChoir_123 rfl (lv_at hl 0 rfl) ?_
                            refine bw_get (ci := 6) (v := .int (gI z_121 5)) (C := RX7) (T := TX7) (N := 28) hx hb hts i_X7 hown hK hP 0 rfl rfl 5 (by decide) f_71 rfl dX7_findChoir_124 ?_
                            refine lv_icmp_ge (tgt := 150) hx hb dX7_findChoir_127 (by decide) (fun c_11 => ?_) (fun c_11 => ?_)
                            · have hR := (if_pos c_11).symm.trans hR
                              refine lv_iinc (v := y3_39 + 1) (lv' := [(3, .int (y3_39 + 1)), (0, .ref (ad 0)), (1, .int y1_4), (2, .int v_10), (5, .int y5_121)]) hx hb dX7_findChoir_150 hl (k := 3) rfl rfl (by decide) rfl (fun ls hl => ?_)
                              refine lv_goto (tgt := 39) hx hb dX7_findChoir_153 (by decide) ?_
                              exact ih_39 _ _ _ _ _ _ hR hP hD hS (lv_sub hl [1, 2, 3, 0] rfl)
                            · have hR := (if_neg c_11).symm.trans hR
                              refine lv_aload_n hx hb dX7_findChoir_130 rfl (lv_at hl 0 rfl) ?_
                              refine bw_get (ci := 6) (v := .ref (ad 14)) (C := RX7) (T := TX7) (N := 28) hx hb hts i_X7 hown hK hP 0 rfl rfl 23 (by decide) f_49 rfl dX7_findChoir_131 ?_
                              refine lv_iload hx hb dX7_findChoir_134 (lv_at hl 4 rfl) ?_
                              refine lv_aload_n hx hb dX7_findChoir_136 rfl (lv_at hl 0 rfl) ?_
                              refine bw_get (ci := 6) (v := .ref (ad 7)) (C := RX7) (T := TX7) (N := 28) hx hb hts i_X7 hown hK hP 0 rfl rfl 11 (by decide) f_28 rfl dX7_findChoir_137 ?_
                              refine lv_iload hx hb dX7_findChoir_140 (lv_at hl 4 rfl) ?_
                              obtain ⟨h_12, hR⟩ := ck_some hR
                              refine bw_ald (v := gA z_121 11 y5_121) hx hb hK hP 7 rfl h_12 rfl dX7_findChoir_142 ?_
                              obtain ⟨h_13, hR⟩ := ck_some hR
                              refine bw_ast (w' := (MW cI ad (sA z_121 23 y5_121 (gA z_121 11 y5_121)))) hx hb hK hP hD hS 14 rfl h_13 (MW_a23 cI ad _ _) dX7_findChoir_143 (fun H locs hP hD hS => ?_)
                              refine lv_iinc (v := y5_121 + 1) (lv' := [(5, .int (y5_121 + 1)), (0, .ref (ad 0)), (1, .int y1_4), (2, .int v_10), (3, .int y3_39)]) hx hb dX7_findChoir_144 hl (k := 4) rfl rfl (by decide) rfl (fun ls hl => ?_)
                              refine lv_goto (tgt := 121) hx hb dX7_findChoir_147 (by decide) ?_
                              exact ih_121 _ _ _ _ _ hR hP hD hS (lv_sub hl [1, 2, 3, 4, 0] rfl)
                        exact lp_121 _ _ _ _ _ _ hR hP hD hS (lv_sub hl [2, 3, 1, 4, 0] rfl)
                    · have hR := (if_neg c_7).symm.trans hR
                      refine lv_aload_n hx hb dX7_findChoir_89 rfl (lv_at hl 0 rfl) ?_
                      obtain ⟨v_14, e_14, hR⟩ := b1_some hR
                      refine bc_i (va_runV (As := []) (rest := []) ⟨hx, hb, hml, hown, hts⟩ (c_X7_changes l D cI cO ad _ e_14) (cwV 0 hts gX7_findChoir_X7_changes rfl rfl rfl (by decide +kernel) ⟨Nat.le_of_ble_eq_true rfl, Nat.le_of_ble_eq_true rfl⟩) (preV hK hN hP hD (va_recv hK hP (ci := 6) (q0 := 0) rfl rfl)) rfl rfl hl.1 rfl (lv_room (Nat.le_of_ble_eq_true rfl)) dX7_findChoir_90 ⟨Nat.zero_le _, Nat.zero_le _⟩) hS hD hA (fun H locs hP hD hS => ?_)
                      refine lv_iload_n hx hb dX7_findChoir_93 rfl (lv_at hl 2 rfl) ?_
                      refine lv_icmp_ge (tgt := 150) hx hb dX7_findChoir_94 (by decide) (fun c_15 => ?_) (fun c_15 => ?_)
                      · have hR := (if_pos c_15).symm.trans hR
                        refine lv_iinc (v := y3_39 + 1) (lv' := [(3, .int (y3_39 + 1)), (0, .ref (ad 0)), (1, .int y1_4), (2, .int y2_39), (4, .int y4_55), (5, .int y5_55)]) hx hb dX7_findChoir_150 hl (k := 3) rfl rfl (by decide) rfl (fun ls hl => ?_)
                        refine lv_goto (tgt := 39) hx hb dX7_findChoir_153 (by decide) ?_
                        exact ih_39 _ _ _ _ _ _ hR hP hD hS (lv_sub hl [1, 2, 3, 0] rfl)
                      · have hR := (if_neg c_15).symm.trans hR
                        refine lv_aload_n hx hb dX7_findChoir_97 rfl (lv_at hl 0 rfl) ?_
                        refine lv_iconst (v := 0) hx hb dX7_findChoir_98 (by decide) ?_
                        obtain ⟨v_16, e_16, hR⟩ := b1_some hR
                        refine bc_i (va_runV (As := [.int 0]) (rest := []) ⟨hx, hb, hml, hown, hts⟩ (c_X7_familyOf l D cI cO ad _ e_16) (cwV 1 hts gX7_findChoir_X7_familyOf rfl rfl rfl (by decide +kernel) ⟨Nat.le_of_ble_eq_true rfl, Nat.le_of_ble_eq_true rfl⟩) (preV hK hN hP hD (va_recv hK hP (ci := 6) (q0 := 0) rfl rfl)) rfl rfl hl.1 rfl (lv_room (Nat.le_of_ble_eq_true rfl)) dX7_findChoir_99 ⟨Nat.zero_le _, Nat.zero_le _⟩) hS hD hA (fun H locs hP hD hS => ?_)
                        refine lv_iconst (v := 1) hx hb dX7_findChoir_102 (by decide) ?_
                        refine lv_aload_n hx hb dX7_findChoir_103 rfl (lv_at hl 0 rfl) ?_
                        refine bw_get (ci := 6) (v := .int (gI z_55 5)) (C := RX7) (T := TX7) (N := 28) hx hb hts i_X7 hown hK hP 0 rfl rfl 5 (by decide) f_71 rfl dX7_findChoir_104 ?_
                        refine lv_ishl hx hb dX7_findChoir_107 ?_
                        refine W.eq (g2 := F0 m 108 ls (.int (jshl 1 (gI z_55 5)) :: [.int v_16])) rfl ?_
                        refine lv_iconst (v := 1) hx hb dX7_findChoir_108 (by decide) ?_
                        refine lv_isub hx hb dX7_findChoir_109 ?_
                        refine lv_icmp_ne (tgt := 150) hx hb dX7_findChoir_110 (by decide) (fun c_17 => ?_) (fun c_17 => ?_)
                        · have hR := (if_neg c_17).symm.trans hR
                          refine lv_iinc (v := y3_39 + 1) (lv' := [(3, .int (y3_39 + 1)), (0, .ref (ad 0)), (1, .int y1_4), (2, .int y2_39), (4, .int y4_55), (5, .int y5_55)]) hx hb dX7_findChoir_150 hl (k := 3) rfl rfl (by decide) rfl (fun ls hl => ?_)
                          refine lv_goto (tgt := 39) hx hb dX7_findChoir_153 (by decide) ?_
                          exact ih_39 _ _ _ _ _ _ hR hP hD hS (lv_sub hl [1, 2, 3, 0] rfl)
                        · have hR := (if_pos c_17).symm.trans hR
                          refine lv_aload_n hx hb dX7_findChoir_113 rfl (lv_at hl 0 rfl) ?_
                          obtain ⟨v_18, e_18, hR⟩ := b1_some hR
                          refine bc_i (va_runV (As := []) (rest := []) ⟨hx, hb, hml, hown, hts⟩ (c_X7_changes l D cI cO ad _ e_18) (cwV 0 hts gX7_findChoir_X7_changes rfl rfl rfl (by decide +kernel) ⟨Nat.le_of_ble_eq_true rfl, Nat.le_of_ble_eq_true rfl⟩) (preV hK hN hP hD (va_recv hK hP (ci := 6) (q0 := 0) rfl rfl)) rfl rfl hl.1 rfl (lv_room (Nat.le_of_ble_eq_true rfl)) dX7_findChoir_114 ⟨Nat.zero_le _, Nat.zero_le _⟩) hS hD hA (fun H locs hP hD hS => ?_)
                          refine lv_istore_n (lv' := [(2, .int v_18), (0, .ref (ad 0)), (1, .int y1_4), (3, .int y3_39), (4, .int y4_55), (5, .int y5_55)]) hx hb dX7_findChoir_117 rfl hl (by decide) rfl (fun ls hl => ?_)
                          refine lv_iconst (v := 0) hx hb dX7_findChoir_118 (by decide) ?_
                          refine lv_istore (lv' := [(5, .int 0), (2, .int v_18), (0, .ref (ad 0)), (1, .int y1_4), (3, .int y3_39), (4, .int y4_55)]) hx hb dX7_findChoir_119 hl (by decide) rfl (fun ls hl => ?_)
                          have lp_121 : ∀ (n_121 : Nat) (y5_121 : Int32) (z_121 : St) (H : Heap) (locs : List Loc) (ls : Array Slot), L_X7_findChoir_121b (fun y5_121 z_121 => L_X7_findChoir_39 y1_4 (fun y2_39 y3_39 z_39 => L_X7_findChoir_158 (fun y3_158 z_158 => some (y2_39, z_158)) 1100 0 z_39) n_39 v_18 (y3_39 + 1) z_121) n_121 y5_121 z_121 = some (r, s2) → va_P D vwCl (MW cI ad z_121) H → va_D A (MW cI ad z_121) → va_S A s.heap H locs → lv_has ls 6 [(0, .ref (ad 0)), (1, .int y1_4), (2, .int v_18), (3, .int y3_39), (5, .int y5_121)] → W p l e rm_X7_findChoir s m args below meth c H locs 0 0 Q (F0 m 121 ls []) := by
                            intro n_121
                            induction n_121 with
                            | zero => intro y5_121 z_121 H locs ls hR; exact absurd (L_X7_findChoir_121b_z.symm.trans hR) (fun h => nomatch h)
                            | succ n_121 ih_121 =>
                              intro y5_121 z_121 H locs ls hR hP hD hS hl
                              have hR := L_X7_findChoir_121b_s.symm.trans hR
                              refine lv_iload hx hb dX7_findChoir_121 (lv_at hl 4 rfl) ?_
                              refine lv_aload_n hx hb dX7_findChoir_123 rfl (lv_at hl 0 rfl) ?_
                              refine bw_get (ci := 6) (v := .int (gI z_121 5)) (C := RX7) (T := TX7) (N := 28) hx hb hts i_X7 hown hK hP 0 rfl rfl 5 (by decide) f_71 rfl dX7_findChoir_124 ?_
                              refine lv_icmp_ge (tgt := 150) hx hb dX7_findChoir_127 (by decide) (fun c_19 => ?_) (fun c_19 => ?_)
                              · have hR := (if_pos c_19).symm.trans hR
                                refine lv_iinc (v := y3_39 + 1) (lv' := [(3, .int (y3_39 + 1)), (0, .ref (ad 0)), (1, .int y1_4), (2, .int v_18), (5, .int y5_121)]) hx hb dX7_findChoir_150 hl (k := 3) rfl rfl (by decide) rfl (fun ls hl => ?_)
                                refine lv_goto (tgt := 39) hx hb dX7_findChoir_153 (by decide) ?_
                                exact ih_39 _ _ _ _ _ _ hR hP hD hS (lv_sub hl [1, 2, 3, 0] rfl)
                              · have hR := (if_neg c_19).symm.trans hR
                                refine lv_aload_n hx hb dX7_findChoir_130 rfl (lv_at hl 0 rfl) ?_
                                refine bw_get (ci := 6) (v := .ref (ad 14)) (C := RX7) (T := TX7) (N := 28) hx hb hts i_X7 hown hK hP 0 rfl rfl 23 (by decide) f_49 rfl dX7_findChoir_131 ?_
                                refine lv_iload hx hb dX7_findChoir_134 (lv_at hl 4 rfl) ?_
                                refine lv_aload_n hx hb dX7_findChoir_136 rfl (lv_at hl 0 rfl) ?_
                                refine bw_get (ci := 6) (v := .ref (ad 7)) (C := RX7) (T := TX7) (N := 28) hx hb hts i_X7 hown hK hP 0 rfl rfl 11 (by decide) f_28 rfl dX7_findChoir_137 ?_
                                refine lv_iload hx hb dX7_findChoir_140 (lv_at hl 4 rfl) ?_
                                obtain ⟨h_20, hR⟩ := ck_some hR
                                refine bw_ald (v := gA z_121 11 y5_121) hx hb hK hP 7 rfl h_20 rfl dX7_findChoir_142 ?_
                                obtain ⟨h_21, hR⟩ := ck_some hR
                                refine bw_ast (w' := (MW cI ad (sA z_121 23 y5_121 (gA z_121 11 y5_121)))) hx hb hK hP hD hS 14 rfl h_21 (MW_a23 cI ad _ _) dX7_findChoir_143 (fun H locs hP hD hS => ?_)
                                refine lv_iinc (v := y5_121 + 1) (lv' := [(5, .int (y5_121 + 1)), (0, .ref (ad 0)), (1, .int y1_4), (2, .int v_18), (3, .int y3_39)]) hx hb dX7_findChoir_144 hl (k := 4) rfl rfl (by decide) rfl (fun ls hl => ?_)
                                refine lv_goto (tgt := 121) hx hb dX7_findChoir_147 (by decide) ?_
                                exact ih_121 _ _ _ _ _ hR hP hD hS (lv_sub hl [1, 2, 3, 4, 0] rfl)
                          exact lp_121 _ _ _ _ _ _ hR hP hD hS (lv_sub hl [2, 3, 1, 4, 0] rfl)
                  · have hR := (if_neg c_6).symm.trans hR
                    refine lv_aload_n hx hb dX7_findChoir_60 rfl (lv_at hl 0 rfl) ?_
                    refine bw_get (ci := 6) (v := .ref (ad 7)) (C := RX7) (T := TX7) (N := 28) hx hb hts i_X7 hown hK hP 0 rfl rfl 11 (by decide) f_28 rfl dX7_findChoir_61 ?_
                    refine lv_iload hx hb dX7_findChoir_64 (lv_at hl 5 rfl) ?_
                    refine lv_iload hx hb dX7_findChoir_66 (lv_at hl 4 rfl) ?_
                    refine lv_iconst (v := 4) hx hb dX7_findChoir_68 (by decide) ?_
                    refine lv_irem hx hb dX7_findChoir_69 (by decide) ?_
                    refine W.eq (g2 := F0 m 70 ls (.int (jrem y4_55 4) :: [.int y5_55, .ref (ad 7)])) rfl ?_
                    obtain ⟨h_23, hR⟩ := ck_some hR
                    refine bw_ast (w' := (MW cI ad (sA z_55 11 y5_55 (jrem y4_55 4)))) hx hb hK hP hD hS 7 rfl h_23 (MW_a11 cI ad _ _) dX7_findChoir_70 (fun H locs hP hD hS => ?_)
                    refine lv_iload hx hb dX7_findChoir_71 (lv_at hl 4 rfl) ?_
                    refine lv_iconst (v := 4) hx hb dX7_findChoir_73 (by decide) ?_
                    refine lv_idiv hx hb dX7_findChoir_74 (by decide) ?_
                    refine lv_istore (lv' := [(4, .int (y4_55 / 4)), (0, .ref (ad 0)), (1, .int y1_4), (2, .int y2_39), (3, .int y3_39), (5, .int y5_55)]) hx hb dX7_findChoir_75 hl (by decide) rfl (fun ls hl => ?_)
                    refine lv_iinc (v := y5_55 + (-1)) (lv' := [(5, .int (y5_55 + (-1))), (4, .int (y4_55 / 4)), (0, .ref (ad 0)), (1, .int y1_4), (2, .int y2_39), (3, .int y3_39)]) hx hb dX7_findChoir_77 hl (k := 5) rfl rfl (by decide) rfl (fun ls hl => ?_)
                    refine lv_goto (tgt := 55) hx hb dX7_findChoir_80 (by decide) ?_
                    exact ih_55 _ _ _ _ _ _ hR hP hD hS (lv_sub hl [2, 3, 4, 5, 1, 0] rfl)
              exact lp_55 _ _ _ _ _ _ _ hR hP hD hS (lv_sub hl [2, 3, 4, 5, 1, 0] rfl)
        exact lp_39 _ _ _ _ _ _ _ hR hP hD hS (lv_sub hl [2, 3, 1, 0] rfl)
      · have hR := (if_neg c_1).symm.trans hR
        refine lv_aload_n hx hb dX7_findChoir_12 rfl (lv_at hl 0 rfl) ?_
        refine bw_get (ci := 6) (v := .ref (ad 13)) (C := RX7) (T := TX7) (N := 28) hx hb hts i_X7 hown hK hP 0 rfl rfl 22 (by decide) f_46 rfl dX7_findChoir_13 ?_
        refine lv_iload_n hx hb dX7_findChoir_16 rfl (lv_at hl 2 rfl) ?_
        refine lv_aload_n hx hb dX7_findChoir_17 rfl (lv_at hl 0 rfl) ?_
        refine bw_get (ci := 6) (v := .ref (ad 7)) (C := RX7) (T := TX7) (N := 28) hx hb hts i_X7 hown hK hP 0 rfl rfl 11 (by decide) f_28 rfl dX7_findChoir_18 ?_
        refine lv_iload_n hx hb dX7_findChoir_21 rfl (lv_at hl 2 rfl) ?_
        obtain ⟨h_25, hR⟩ := ck_some hR
        refine bw_ald (v := gA z_4 11 y2_4) hx hb hK hP 7 rfl h_25 rfl dX7_findChoir_22 ?_
        obtain ⟨h_26, hR⟩ := ck_some hR
        refine bw_ast (w' := (MW cI ad (sA z_4 22 y2_4 (gA z_4 11 y2_4)))) hx hb hK hP hD hS 13 rfl h_26 (MW_a22 cI ad _ _) dX7_findChoir_23 (fun H locs hP hD hS => ?_)
        refine lv_iload_n hx hb dX7_findChoir_24 rfl (lv_at hl 1 rfl) ?_
        refine lv_iconst (v := 4) hx hb dX7_findChoir_25 (by decide) ?_
        refine lv_imul hx hb dX7_findChoir_26 ?_
        refine lv_istore_n (lv' := [(1, .int (y1_4 * 4)), (0, .ref (ad 0)), (2, .int y2_4)]) hx hb dX7_findChoir_27 rfl hl (by decide) rfl (fun ls hl => ?_)
        refine lv_iinc (v := y2_4 + 1) (lv' := [(2, .int (y2_4 + 1)), (1, .int (y1_4 * 4)), (0, .ref (ad 0))]) hx hb dX7_findChoir_28 hl (k := 2) rfl rfl (by decide) rfl (fun ls hl => ?_)
        refine lv_goto (tgt := 4) hx hb dX7_findChoir_31 (by decide) ?_
        exact ih_4 _ _ _ _ _ _ hR hP hD hS (lv_sub hl [2, 1, 0] rfl)
  exact lp_4 _ _ _ _ _ _ _ hR hP hD hS (lv_sub hl [2, 1, 0] rfl)
abbrev rm_X7_choir : Room := { frames := 3, cells := 0, slots := 0, locals := 74 }
set_option maxHeartbeats 4000000 in
set_option maxRecDepth 100000 in
theorem c_X7_choir (l : Launch) (D : va_G) (cI cO : ClassId) (ad : Nat → Nat) (sz : Nat) {st : St} {x1 : Int32} {r : Int32} {s2 : St} (hR : F_X7_choir st x1 = some (r, s2)) : CI l yX7_choir wsX7_choir rm_X7_choir D cI cO [.ref (ad 0), .int x1] (MW cI ad st) (MW cI ad s2) sz r := by
  refine mk_i (cc := cX7_choir) (maxL := 3) (own := RX7) rfl (by decide) rfl (Nat.le_of_ble_eq_true rfl) ?_
  intro p e s m args below meth c A Q ls hx hb hml hown hts hK hN hA ret_ hP hD hS hl
  have i_X7 : ∀ w ∈ u_ws RX7 TX7 28, w ∈ wsX7_choir := (fun _ h => List.mem_cons_of_mem _ (List.mem_append_right _ h))
  have f_71 := hts (.fieldLink RX7 71 "BellNamesModel" "bells" "I") (by decide +kernel)
  have f_49 := hts (.fieldLink RX7 49 "BellNamesModel" "found" "[I") (by decide +kernel)
  have hl : lv_has ls 3 [(0, .ref (ad 0)), (1, .int x1)] := hl
  unfold F_X7_choir at hR
  refine lv_aload_n hx hb dX7_choir_0 rfl (lv_at hl 0 rfl) ?_
  refine bw_get (ci := 6) (v := .int (gI st 5)) (C := RX7) (T := TX7) (N := 28) hx hb hts i_X7 hown hK hP 0 rfl rfl 5 (by decide) f_71 rfl dX7_choir_1 ?_
  refine lv_if_ne (tgt := 10) hx hb dX7_choir_4 (by decide) (fun c_1 => ?_) (fun c_1 => ?_)
  · have hR := (if_neg c_1).symm.trans hR
    refine lv_iload_n hx hb dX7_choir_10 rfl (lv_at hl 1 rfl) ?_
    refine lv_iconst (v := (-1)) hx hb dX7_choir_11 (by decide) ?_
    refine lv_iconst (v := 4) hx hb dX7_choir_12 (by decide) ?_
    obtain ⟨v_2, e_2, hR⟩ := b1_some hR
    refine bc_z (va_runS (As := [.int x1, .int (-1), .int 4]) (rest := []) ⟨hx, hb, hml, hown, hts⟩ (c_X7_within l D cI cO ad _ e_2) (va_cwS 3 hts gX7_choir_X7_within rfl rfl rfl (by decide +kernel) ⟨Nat.le_of_ble_eq_true rfl, Nat.le_of_ble_eq_true rfl⟩) (preS hK hN hP hD) rfl rfl hl.1 rfl (lv_room (Nat.le_of_ble_eq_true rfl)) dX7_choir_13 ⟨Nat.zero_le _, Nat.zero_le _⟩) hS hD hA (fun H locs hP hD hS n_2 => ?_)
    refine lv_if_ne (tgt := 22) hx hb dX7_choir_16 (by decide) (fun c_3 => ?_) (fun c_3 => ?_)
    · have hR := (if_neg c_3).symm.trans hR
      refine lv_aload_n hx hb dX7_choir_22 rfl (lv_at hl 0 rfl) ?_
      obtain ⟨v_4, s_4, e_4, hR⟩ := b2_some hR
      refine bc_i (va_runV (As := []) (rest := []) ⟨hx, hb, hml, hown, hts⟩ (c_X7_findChoir l D cI cO ad _ e_4) (cwV 0 hts gX7_choir_X7_findChoir rfl rfl rfl (by decide +kernel) ⟨Nat.le_of_ble_eq_true rfl, Nat.le_of_ble_eq_true rfl⟩) (preV hK hN hP hD (va_recv hK hP (ci := 6) (q0 := 0) rfl rfl)) rfl rfl hl.1 rfl (lv_room (Nat.le_of_ble_eq_true rfl)) dX7_choir_23 ⟨Nat.zero_le _, Nat.zero_le _⟩) hS hD hA (fun H locs hP hD hS => ?_)
      refine lv_istore_n (lv' := [(2, .int v_4), (0, .ref (ad 0)), (1, .int x1)]) hx hb dX7_choir_26 rfl hl (by decide) rfl (fun ls hl => ?_)
      refine lv_iload_n hx hb dX7_choir_27 rfl (lv_at hl 2 rfl) ?_
      refine lv_iconst (v := (-1)) hx hb dX7_choir_28 (by decide) ?_
      refine lv_icmp_ne (tgt := 34) hx hb dX7_choir_29 (by decide) (fun c_5 => ?_) (fun c_5 => ?_)
      · have hR := (if_neg c_5).symm.trans hR
        refine lv_iload_n hx hb dX7_choir_34 rfl (lv_at hl 0 rfl) ?_
        refine lv_bipush (v := (-9)) hx hb dX7_choir_35 (by decide) ?_
        refine lv_icmp_eq (tgt := 57) hx hb dX7_choir_37 (by decide) (fun c_6 => ?_) (fun c_6 => ?_)
        · have hR := (if_pos c_6).symm.trans hR
          refine lv_bipush (v := (-9)) hx hb dX7_choir_57 (by decide) ?_
          exact ret_ _ _ _ _ _ _ dX7_choir_59  (sp1 hR) (congrArg (fun z => (MW cI ad z)) (sp2 hR)) hP hD hS
        · have hR := (if_neg c_6).symm.trans hR
          refine lv_iload_n hx hb dX7_choir_40 rfl (lv_at hl 2 rfl) ?_
          refine lv_aload_n hx hb dX7_choir_41 rfl (lv_at hl 1 rfl) ?_
          refine bw_get (ci := 6) (v := .int (gI s_4 5)) (C := RX7) (T := TX7) (N := 28) hx hb hts i_X7 hown hK hP 0 rfl rfl 5 (by decide) f_71 rfl dX7_choir_42 ?_
          refine lv_icmp_ge (tgt := 57) hx hb dX7_choir_45 (by decide) (fun c_7 => ?_) (fun c_7 => ?_)
          · have hR := (if_pos c_7).symm.trans hR
            refine lv_bipush (v := (-9)) hx hb dX7_choir_57 (by decide) ?_
            exact ret_ _ _ _ _ _ _ dX7_choir_59  (sp1 hR) (congrArg (fun z => (MW cI ad z)) (sp2 hR)) hP hD hS
          · have hR := (if_neg c_7).symm.trans hR
            refine lv_aload_n hx hb dX7_choir_48 rfl (lv_at hl 1 rfl) ?_
            refine bw_get (ci := 6) (v := .ref (ad 14)) (C := RX7) (T := TX7) (N := 28) hx hb hts i_X7 hown hK hP 0 rfl rfl 23 (by decide) f_49 rfl dX7_choir_49 ?_
            refine lv_iload_n hx hb dX7_choir_52 rfl (lv_at hl 2 rfl) ?_
            obtain ⟨h_8, hR⟩ := ck_some hR
            refine bw_ald (v := gA s_4 23 x1) hx hb hK hP 14 rfl h_8 rfl dX7_choir_53 ?_
            refine lv_goto (tgt := 59) hx hb dX7_choir_54 (by decide) ?_
            exact ret_ _ _ _ _ _ _ dX7_choir_59  (sp1 hR) (congrArg (fun z => (MW cI ad z)) (sp2 hR)) hP hD hS
      · have hR := (if_pos c_5).symm.trans hR
        refine lv_iload_n hx hb dX7_choir_32 rfl (lv_at hl 0 rfl) ?_
        exact ret_ _ _ _ _ _ _ dX7_choir_33  (sp1 hR) (congrArg (fun z => (MW cI ad z)) (sp2 hR)) hP hD hS
    · have hR := (if_pos c_3).symm.trans hR
      refine lv_bipush (v := (-2)) hx hb dX7_choir_19 (by decide) ?_
      exact ret_ _ _ _ _ _ _ dX7_choir_21  (sp1 hR) (congrArg (fun z => (MW cI ad z)) (sp2 hR)) hP hD hS
  · have hR := (if_pos c_1).symm.trans hR
    refine lv_bipush (v := (-3)) hx hb dX7_choir_7 (by decide) ?_
    exact ret_ _ _ _ _ _ _ dX7_choir_9  (sp1 hR) (congrArg (fun z => (MW cI ad z)) (sp2 hR)) hP hD hS
abbrev rm_X7_reading : Room := { frames := 2, cells := 0, slots := 0, locals := 42 }
set_option maxHeartbeats 4000000 in
set_option maxRecDepth 100000 in
theorem c_X7_reading (l : Launch) (D : va_G) (cI cO : ClassId) (ad : Nat → Nat) (sz : Nat) {st : St} {x1 : Int32} {x2 : Int32} {x3 : Int32} {r : Int32} {s2 : St} (hR : F_X7_reading st x1 x2 x3 = some (r, s2)) : CI l yX7_reading wsX7_reading rm_X7_reading D cI cO [.ref (ad 0), .int x1, .int x2, .int x3] (MW cI ad st) (MW cI ad s2) sz r := by
  refine mk_i (cc := cX7_reading) (maxL := 4) (own := RX7) rfl (by decide) rfl (Nat.le_of_ble_eq_true rfl) ?_
  intro p e s m args below meth c A Q ls hx hb hml hown hts hK hN hA ret_ hP hD hS hl
  have i_X7 : ∀ w ∈ u_ws RX7 TX7 28, w ∈ wsX7_reading := (fun _ h => List.mem_cons_of_mem _ (List.mem_append_right _ h))
  have f_110 := hts (.fieldLink RX7 110 "BellNamesModel" "readings" "I") (by decide +kernel)
  have f_52 := hts (.fieldLink RX7 52 "BellNamesModel" "readWho" "[I") (by decide +kernel)
  have f_55 := hts (.fieldLink RX7 55 "BellNamesModel" "readIn" "[I") (by decide +kernel)
  have f_58 := hts (.fieldLink RX7 58 "BellNamesModel" "readSound" "[I") (by decide +kernel)
  have hl : lv_has ls 4 [(0, .ref (ad 0)), (1, .int x1), (2, .int x2), (3, .int x3)] := hl
  unfold F_X7_reading at hR
  refine lv_aload_n hx hb dX7_reading_0 rfl (lv_at hl 0 rfl) ?_
  refine lv_iload_n hx hb dX7_reading_1 rfl (lv_at hl 1 rfl) ?_
  obtain ⟨v_1, e_1, hR⟩ := b1_some hR
  refine bc_z (va_runV (As := [.int x1]) (rest := []) ⟨hx, hb, hml, hown, hts⟩ (c_X7_isBell l D cI cO ad _ e_1) (cwV 1 hts gX7_reading_X7_isBell rfl rfl rfl (by decide +kernel) ⟨Nat.le_of_ble_eq_true rfl, Nat.le_of_ble_eq_true rfl⟩) (preV hK hN hP hD (va_recv hK hP (ci := 6) (q0 := 0) rfl rfl)) rfl rfl hl.1 rfl (lv_room (Nat.le_of_ble_eq_true rfl)) dX7_reading_2 ⟨Nat.zero_le _, Nat.zero_le _⟩) hS hD hA (fun H locs hP hD hS n_1 => ?_)
  refine lv_if_ne (tgt := 10) hx hb dX7_reading_5 (by decide) (fun c_2 => ?_) (fun c_2 => ?_)
  · have hR := (if_neg c_2).symm.trans hR
    refine lv_iload_n hx hb dX7_reading_10 rfl (lv_at hl 2 rfl) ?_
    obtain ⟨v_3, e_3, hR⟩ := b1_some hR
    refine bc_z (va_runS (As := [.int x2]) (rest := []) ⟨hx, hb, hml, hown, hts⟩ (c_X7_isMood l D cI cO ad _ e_3) (va_cwS 1 hts gX7_reading_X7_isMood rfl rfl rfl (by decide +kernel) ⟨Nat.le_of_ble_eq_true rfl, Nat.le_of_ble_eq_true rfl⟩) (preS hK hN hP hD) rfl rfl hl.1 rfl (lv_room (Nat.le_of_ble_eq_true rfl)) dX7_reading_11 ⟨Nat.zero_le _, Nat.zero_le _⟩) hS hD hA (fun H locs hP hD hS n_3 => ?_)
    refine lv_if_eq (tgt := 27) hx hb dX7_reading_14 (by decide) (fun c_4 => ?_) (fun c_4 => ?_)
    · have hR := (if_pos c_4).symm.trans hR
      refine lv_bipush (v := (-2)) hx hb dX7_reading_27 (by decide) ?_
      exact ret_ _ _ _ _ _ _ dX7_reading_29  (sp1 hR) (congrArg (fun z => (MW cI ad z)) (sp2 hR)) hP hD hS
    · have hR := (if_neg c_4).symm.trans hR
      refine lv_iload_n hx hb dX7_reading_17 rfl (lv_at hl 3 rfl) ?_
      refine lv_iconst (v := 0) hx hb dX7_reading_18 (by decide) ?_
      refine lv_bipush (v := 19) hx hb dX7_reading_19 (by decide) ?_
      obtain ⟨v_5, e_5, hR⟩ := b1_some hR
      refine bc_z (va_runS (As := [.int x3, .int 0, .int 19]) (rest := []) ⟨hx, hb, hml, hown, hts⟩ (c_X7_within l D cI cO ad _ e_5) (va_cwS 3 hts gX7_reading_X7_within rfl rfl rfl (by decide +kernel) ⟨Nat.le_of_ble_eq_true rfl, Nat.le_of_ble_eq_true rfl⟩) (preS hK hN hP hD) rfl rfl hl.1 rfl (lv_room (Nat.le_of_ble_eq_true rfl)) dX7_reading_21 ⟨Nat.zero_le _, Nat.zero_le _⟩) hS hD hA (fun H locs hP hD hS n_5 => ?_)
      refine lv_if_ne (tgt := 30) hx hb dX7_reading_24 (by decide) (fun c_6 => ?_) (fun c_6 => ?_)
      · have hR := (if_neg c_6).symm.trans hR
        refine lv_aload_n hx hb dX7_reading_30 rfl (lv_at hl 0 rfl) ?_
        refine bw_get (ci := 6) (v := .int (gI st 24)) (C := RX7) (T := TX7) (N := 28) hx hb hts i_X7 hown hK hP 0 rfl rfl 24 (by decide) f_110 rfl dX7_reading_31 ?_
        refine lv_bipush (v := 8) hx hb dX7_reading_34 (by decide) ?_
        refine lv_icmp_ne (tgt := 42) hx hb dX7_reading_36 (by decide) (fun c_7 => ?_) (fun c_7 => ?_)
        · have hR := (if_neg c_7).symm.trans hR
          refine lv_aload_n hx hb dX7_reading_42 rfl (lv_at hl 0 rfl) ?_
          refine bw_get (ci := 6) (v := .ref (ad 15)) (C := RX7) (T := TX7) (N := 28) hx hb hts i_X7 hown hK hP 0 rfl rfl 25 (by decide) f_52 rfl dX7_reading_43 ?_
          refine lv_aload_n hx hb dX7_reading_46 rfl (lv_at hl 0 rfl) ?_
          refine bw_get (ci := 6) (v := .int (gI st 24)) (C := RX7) (T := TX7) (N := 28) hx hb hts i_X7 hown hK hP 0 rfl rfl 24 (by decide) f_110 rfl dX7_reading_47 ?_
          refine lv_iload_n hx hb dX7_reading_50 rfl (lv_at hl 1 rfl) ?_
          obtain ⟨h_8, hR⟩ := ck_some hR
          refine bw_ast (w' := (MW cI ad (sA st 25 (gI st 24) x1))) hx hb hK hP hD hS 15 rfl h_8 (MW_a25 cI ad _ _) dX7_reading_51 (fun H locs hP hD hS => ?_)
          refine lv_aload_n hx hb dX7_reading_52 rfl (lv_at hl 0 rfl) ?_
          refine bw_get (ci := 6) (v := .ref (ad 16)) (C := RX7) (T := TX7) (N := 28) hx hb hts i_X7 hown hK hP 0 rfl rfl 26 (by decide) f_55 rfl dX7_reading_53 ?_
          refine lv_aload_n hx hb dX7_reading_56 rfl (lv_at hl 0 rfl) ?_
          refine bw_get (ci := 6) (v := .int (gI (sA st 25 (gI st 24) x1) 24)) (C := RX7) (T := TX7) (N := 28) hx hb hts i_X7 hown hK hP 0 rfl rfl 24 (by decide) f_110 rfl dX7_reading_57 ?_
          refine lv_iload_n hx hb dX7_reading_60 rfl (lv_at hl 2 rfl) ?_
          obtain ⟨h_9, hR⟩ := ck_some hR
          refine bw_ast (w' := (MW cI ad (sA (sA st 25 (gI st 24) x1) 26 (gI (sA st 25 (gI st 24) x1) 24) x2))) hx hb hK hP hD hS 16 rfl h_9 (MW_a26 cI ad _ _) dX7_reading_61 (fun H locs hP hD hS => ?_)
          refine lv_aload_n hx hb dX7_reading_62 rfl (lv_at hl 0 rfl) ?_
          refine bw_get (ci := 6) (v := .ref (ad 17)) (C := RX7) (T := TX7) (N := 28) hx hb hts i_X7 hown hK hP 0 rfl rfl 27 (by decide) f_58 rfl dX7_reading_63 ?_
          refine lv_aload_n hx hb dX7_reading_66 rfl (lv_at hl 0 rfl) ?_
          refine bw_get (ci := 6) (v := .int (gI (sA (sA st 25 (gI st 24) x1) 26 (gI (sA st 25 (gI st 24) x1) 24) x2) 24)) (C := RX7) (T := TX7) (N := 28) hx hb hts i_X7 hown hK hP 0 rfl rfl 24 (by decide) f_110 rfl dX7_reading_67 ?_
          refine lv_iload_n hx hb dX7_reading_70 rfl (lv_at hl 3 rfl) ?_
          obtain ⟨h_10, hR⟩ := ck_some hR
          refine bw_ast (w' := (MW cI ad (sA (sA (sA st 25 (gI st 24) x1) 26 (gI (sA st 25 (gI st 24) x1) 24) x2) 27 (gI (sA (sA st 25 (gI st 24) x1) 26 (gI (sA st 25 (gI st 24) x1) 24) x2) 24) x3))) hx hb hK hP hD hS 17 rfl h_10 (MW_a27 cI ad _ _) dX7_reading_71 (fun H locs hP hD hS => ?_)
          refine lv_aload_n hx hb dX7_reading_72 rfl (lv_at hl 0 rfl) ?_
          refine lv_dup hx hb dX7_reading_73 rfl ?_
          refine bw_get (ci := 6) (v := .int (gI (sA (sA (sA st 25 (gI st 24) x1) 26 (gI (sA st 25 (gI st 24) x1) 24) x2) 27 (gI (sA (sA st 25 (gI st 24) x1) 26 (gI (sA st 25 (gI st 24) x1) 24) x2) 24) x3) 24)) (C := RX7) (T := TX7) (N := 28) hx hb hts i_X7 hown hK hP 0 rfl rfl 24 (by decide) f_110 rfl dX7_reading_74 ?_
          refine lv_iconst (v := 1) hx hb dX7_reading_77 (by decide) ?_
          refine lv_iadd hx hb dX7_reading_78 ?_
          refine bw_put (w' := (MW cI ad (sI (sA (sA (sA st 25 (gI st 24) x1) 26 (gI (sA st 25 (gI st 24) x1) 24) x2) 27 (gI (sA (sA st 25 (gI st 24) x1) 26 (gI (sA st 25 (gI st 24) x1) 24) x2) 24) x3) 24 ((gI (sA (sA (sA st 25 (gI st 24) x1) 26 (gI (sA st 25 (gI st 24) x1) 24) x2) 27 (gI (sA (sA st 25 (gI st 24) x1) 26 (gI (sA st 25 (gI st 24) x1) 24) x2) 24) x3) 24) + 1)))) (ci := 6) (C := RX7) (T := TX7) (N := 28) hx hb hts i_X7 tyX7 tyX7_ok nmX7 hown hK hP hD hS 0 rfl rfl 24 (by decide) f_110 rfl rfl (Nat.le_of_ble_eq_true rfl) (MW_i24 cI ad _ _) dX7_reading_79 (fun H locs hP hD hS => ?_)
          refine lv_aload_n hx hb dX7_reading_82 rfl (lv_at hl 0 rfl) ?_
          refine bw_get (ci := 6) (v := .int (gI (sI (sA (sA (sA st 25 (gI st 24) x1) 26 (gI (sA st 25 (gI st 24) x1) 24) x2) 27 (gI (sA (sA st 25 (gI st 24) x1) 26 (gI (sA st 25 (gI st 24) x1) 24) x2) 24) x3) 24 ((gI (sA (sA (sA st 25 (gI st 24) x1) 26 (gI (sA st 25 (gI st 24) x1) 24) x2) 27 (gI (sA (sA st 25 (gI st 24) x1) 26 (gI (sA st 25 (gI st 24) x1) 24) x2) 24) x3) 24) + 1)) 24)) (C := RX7) (T := TX7) (N := 28) hx hb hts i_X7 hown hK hP 0 rfl rfl 24 (by decide) f_110 rfl dX7_reading_83 ?_
          refine lv_iconst (v := 1) hx hb dX7_reading_86 (by decide) ?_
          refine lv_isub hx hb dX7_reading_87 ?_
          exact ret_ _ _ _ _ _ _ dX7_reading_88  (sp1 hR) (congrArg (fun z => (MW cI ad z)) (sp2 hR)) hP hD hS
        · have hR := (if_pos c_7).symm.trans hR
          refine lv_bipush (v := (-4)) hx hb dX7_reading_39 (by decide) ?_
          exact ret_ _ _ _ _ _ _ dX7_reading_41  (sp1 hR) (congrArg (fun z => (MW cI ad z)) (sp2 hR)) hP hD hS
      · have hR := (if_pos c_6).symm.trans hR
        refine lv_bipush (v := (-2)) hx hb dX7_reading_27 (by decide) ?_
        exact ret_ _ _ _ _ _ _ dX7_reading_29  (sp1 hR) (congrArg (fun z => (MW cI ad z)) (sp2 hR)) hP hD hS
  · have hR := (if_pos c_2).symm.trans hR
    refine lv_iconst (v := (-1)) hx hb dX7_reading_8 (by decide) ?_
    exact ret_ _ _ _ _ _ _ dX7_reading_9  (sp1 hR) (congrArg (fun z => (MW cI ad z)) (sp2 hR)) hP hD hS
abbrev rm_X7_back : Room := { frames := 1, cells := 0, slots := 0, locals := 22 }
set_option maxHeartbeats 4000000 in
set_option maxRecDepth 100000 in
theorem c_X7_back (l : Launch) (D : va_G) (cI cO : ClassId) (ad : Nat → Nat) (sz : Nat) {st : St} {x1 : Int32} {r : Int32} {s2 : St} (hR : F_X7_back st x1 = some (r, s2)) : CI l yX7_back wsX7_back rm_X7_back D cI cO [.ref (ad 0), .int x1] (MW cI ad st) (MW cI ad s2) sz r := by
  refine mk_i (cc := cX7_back) (maxL := 2) (own := RX7) rfl (by decide) rfl (Nat.le_of_ble_eq_true rfl) ?_
  intro p e s m args below meth c A Q ls hx hb hml hown hts hK hN hA ret_ hP hD hS hl
  have i_X7 : ∀ w ∈ u_ws RX7 TX7 28, w ∈ wsX7_back := (fun _ h => List.mem_cons_of_mem _ (List.mem_append_right _ h))
  have f_110 := hts (.fieldLink RX7 110 "BellNamesModel" "readings" "I") (by decide +kernel)
  have hl : lv_has ls 2 [(0, .ref (ad 0)), (1, .int x1)] := hl
  unfold F_X7_back at hR
  refine lv_iload_n hx hb dX7_back_0 rfl (lv_at hl 1 rfl) ?_
  refine lv_iconst (v := 0) hx hb dX7_back_1 (by decide) ?_
  refine lv_aload_n hx hb dX7_back_2 rfl (lv_at hl 0 rfl) ?_
  refine bw_get (ci := 6) (v := .int (gI st 24)) (C := RX7) (T := TX7) (N := 28) hx hb hts i_X7 hown hK hP 0 rfl rfl 24 (by decide) f_110 rfl dX7_back_3 ?_
  obtain ⟨v_1, e_1, hR⟩ := b1_some hR
  refine bc_z (va_runS (As := [.int x1, .int 0, .int (gI st 24)]) (rest := []) ⟨hx, hb, hml, hown, hts⟩ (c_X7_within l D cI cO ad _ e_1) (va_cwS 3 hts gX7_back_X7_within rfl rfl rfl (by decide +kernel) ⟨Nat.le_of_ble_eq_true rfl, Nat.le_of_ble_eq_true rfl⟩) (preS hK hN hP hD) rfl rfl hl.1 rfl (lv_room (Nat.le_of_ble_eq_true rfl)) dX7_back_6 ⟨Nat.zero_le _, Nat.zero_le _⟩) hS hD hA (fun H locs hP hD hS n_1 => ?_)
  refine lv_if_ne (tgt := 15) hx hb dX7_back_9 (by decide) (fun c_2 => ?_) (fun c_2 => ?_)
  · have hR := (if_neg c_2).symm.trans hR
    refine lv_aload_n hx hb dX7_back_15 rfl (lv_at hl 0 rfl) ?_
    refine lv_dup hx hb dX7_back_16 rfl ?_
    refine bw_get (ci := 6) (v := .int (gI st 24)) (C := RX7) (T := TX7) (N := 28) hx hb hts i_X7 hown hK hP 0 rfl rfl 24 (by decide) f_110 rfl dX7_back_17 ?_
    refine lv_iload_n hx hb dX7_back_20 rfl (lv_at hl 1 rfl) ?_
    refine lv_isub hx hb dX7_back_21 ?_
    refine bw_put (w' := (MW cI ad (sI st 24 ((gI st 24) - x1)))) (ci := 6) (C := RX7) (T := TX7) (N := 28) hx hb hts i_X7 tyX7 tyX7_ok nmX7 hown hK hP hD hS 0 rfl rfl 24 (by decide) f_110 rfl rfl (Nat.le_of_ble_eq_true rfl) (MW_i24 cI ad _ _) dX7_back_22 (fun H locs hP hD hS => ?_)
    refine lv_aload_n hx hb dX7_back_25 rfl (lv_at hl 0 rfl) ?_
    refine bw_get (ci := 6) (v := .int (gI (sI st 24 ((gI st 24) - x1)) 24)) (C := RX7) (T := TX7) (N := 28) hx hb hts i_X7 hown hK hP 0 rfl rfl 24 (by decide) f_110 rfl dX7_back_26 ?_
    exact ret_ _ _ _ _ _ _ dX7_back_29  (sp1 hR) (congrArg (fun z => (MW cI ad z)) (sp2 hR)) hP hD hS
  · have hR := (if_pos c_2).symm.trans hR
    refine lv_bipush (v := (-2)) hx hb dX7_back_12 (by decide) ?_
    exact ret_ _ _ _ _ _ _ dX7_back_14  (sp1 hR) (congrArg (fun z => (MW cI ad z)) (sp2 hR)) hP hD hS
abbrev rm_X7_areSo : Room := { frames := 1, cells := 0, slots := 0, locals := 23 }
set_option maxHeartbeats 4000000 in
set_option maxRecDepth 100000 in
theorem c_X7_areSo (l : Launch) (D : va_G) (cI cO : ClassId) (ad : Nat → Nat) (sz : Nat) {st : St} {r : Int32} (hR : F_X7_areSo st = some r) : CZ l yX7_areSo wsX7_areSo rm_X7_areSo D cI cO [.ref (ad 0)] (MW cI ad st) (MW cI ad st) sz r := by
  refine mk_z (cc := cX7_areSo) (maxL := 2) (own := RX7) rfl (by decide) rfl (Nat.le_of_ble_eq_true rfl) ?_
  intro p e s m args below meth c A Q ls hx hb hml hown hts hK hN hA ret_ hP hD hS hl
  have i_X7 : ∀ w ∈ u_ws RX7 TX7 28, w ∈ wsX7_areSo := (fun _ h => List.mem_cons_of_mem _ (List.mem_append_right _ h))
  have f_110 := hts (.fieldLink RX7 110 "BellNamesModel" "readings" "I") (by decide +kernel)
  have f_52 := hts (.fieldLink RX7 52 "BellNamesModel" "readWho" "[I") (by decide +kernel)
  have f_55 := hts (.fieldLink RX7 55 "BellNamesModel" "readIn" "[I") (by decide +kernel)
  have f_58 := hts (.fieldLink RX7 58 "BellNamesModel" "readSound" "[I") (by decide +kernel)
  have hl : lv_has ls 2 [(0, .ref (ad 0))] := hl
  unfold F_X7_areSo at hR
  refine lv_iconst (v := 0) hx hb dX7_areSo_0 (by decide) ?_
  refine lv_istore_n (lv' := [(1, .int 0), (0, .ref (ad 0))]) hx hb dX7_areSo_1 rfl hl (by decide) rfl (fun ls hl => ?_)
  have lp_2 : ∀ (n_2 : Nat) (y1_2 : Int32) (H : Heap) (locs : List Loc) (ls : Array Slot), L_X7_areSo_2 st (fun y1_2 => some 1) n_2 y1_2 = some r → va_P D vwCl (MW cI ad st) H → va_D A (MW cI ad st) → va_S A s.heap H locs → lv_has ls 2 [(0, .ref (ad 0)), (1, .int y1_2)] → W p l e rm_X7_areSo s m args below meth c H locs 0 0 Q (F0 m 2 ls []) := by
    intro n_2
    induction n_2 with
    | zero => intro y1_2 H locs ls hR; exact absurd (L_X7_areSo_2_z.symm.trans hR) (fun h => nomatch h)
    | succ n_2 ih_2 =>
      intro y1_2 H locs ls hR hP hD hS hl
      have hR := L_X7_areSo_2_s.symm.trans hR
      refine lv_iload_n hx hb dX7_areSo_2 rfl (lv_at hl 1 rfl) ?_
      refine lv_aload_n hx hb dX7_areSo_3 rfl (lv_at hl 0 rfl) ?_
      refine bw_get (ci := 6) (v := .int (gI st 24)) (C := RX7) (T := TX7) (N := 28) hx hb hts i_X7 hown hK hP 0 rfl rfl 24 (by decide) f_110 rfl dX7_areSo_4 ?_
      refine lv_icmp_ge (tgt := 43) hx hb dX7_areSo_7 (by decide) (fun c_1 => ?_) (fun c_1 => ?_)
      · have hR := (if_pos c_1).symm.trans hR
        refine lv_iconst (v := 1) hx hb dX7_areSo_43 (by decide) ?_
        exact ret_ _ _ _ _ _ _ dX7_areSo_44 (by decide) (Option.some.inj hR) rfl hP hD hS
      · have hR := (if_neg c_1).symm.trans hR
        refine lv_aload_n hx hb dX7_areSo_10 rfl (lv_at hl 0 rfl) ?_
        refine lv_aload_n hx hb dX7_areSo_11 rfl (lv_at hl 0 rfl) ?_
        refine bw_get (ci := 6) (v := .ref (ad 15)) (C := RX7) (T := TX7) (N := 28) hx hb hts i_X7 hown hK hP 0 rfl rfl 25 (by decide) f_52 rfl dX7_areSo_12 ?_
        refine lv_iload_n hx hb dX7_areSo_15 rfl (lv_at hl 1 rfl) ?_
        obtain ⟨h_2, hR⟩ := ck_some hR
        refine bw_ald (v := gA st 25 y1_2) hx hb hK hP 15 rfl h_2 rfl dX7_areSo_16 ?_
        refine lv_aload_n hx hb dX7_areSo_17 rfl (lv_at hl 0 rfl) ?_
        refine bw_get (ci := 6) (v := .ref (ad 16)) (C := RX7) (T := TX7) (N := 28) hx hb hts i_X7 hown hK hP 0 rfl rfl 26 (by decide) f_55 rfl dX7_areSo_18 ?_
        refine lv_iload_n hx hb dX7_areSo_21 rfl (lv_at hl 1 rfl) ?_
        obtain ⟨h_3, hR⟩ := ck_some hR
        refine bw_ald (v := gA st 26 y1_2) hx hb hK hP 16 rfl h_3 rfl dX7_areSo_22 ?_
        obtain ⟨v_4, e_4, hR⟩ := b1_some hR
        refine bc_i (va_runV (As := [.int (gA st 25 y1_2), .int (gA st 26 y1_2)]) (rest := []) ⟨hx, hb, hml, hown, hts⟩ (c_X7_soundIn l D cI cO ad _ e_4) (cwV 2 hts gX7_areSo_X7_soundIn rfl rfl rfl (by decide +kernel) ⟨Nat.le_of_ble_eq_true rfl, Nat.le_of_ble_eq_true rfl⟩) (preV hK hN hP hD (va_recv hK hP (ci := 6) (q0 := 0) rfl rfl)) rfl rfl hl.1 rfl (lv_room (Nat.le_of_ble_eq_true rfl)) dX7_areSo_23 ⟨Nat.zero_le _, Nat.zero_le _⟩) hS hD hA (fun H locs hP hD hS => ?_)
        refine lv_aload_n hx hb dX7_areSo_26 rfl (lv_at hl 0 rfl) ?_
        refine bw_get (ci := 6) (v := .ref (ad 17)) (C := RX7) (T := TX7) (N := 28) hx hb hts i_X7 hown hK hP 0 rfl rfl 27 (by decide) f_58 rfl dX7_areSo_27 ?_
        refine lv_iload_n hx hb dX7_areSo_30 rfl (lv_at hl 1 rfl) ?_
        obtain ⟨h_5, hR⟩ := ck_some hR
        refine bw_ald (v := gA st 27 y1_2) hx hb hK hP 17 rfl h_5 rfl dX7_areSo_31 ?_
        refine lv_icmp_eq (tgt := 37) hx hb dX7_areSo_32 (by decide) (fun c_6 => ?_) (fun c_6 => ?_)
        · have hR := (if_pos c_6).symm.trans hR
          refine lv_iinc (v := y1_2 + 1) (lv' := [(1, .int (y1_2 + 1)), (0, .ref (ad 0))]) hx hb dX7_areSo_37 hl (k := 1) rfl rfl (by decide) rfl (fun ls hl => ?_)
          refine lv_goto (tgt := 2) hx hb dX7_areSo_40 (by decide) ?_
          exact ih_2 _ _ _ _ hR hP hD hS (lv_sub hl [1, 0] rfl)
        · have hR := (if_neg c_6).symm.trans hR
          refine lv_iconst (v := 0) hx hb dX7_areSo_35 (by decide) ?_
          exact ret_ _ _ _ _ _ _ dX7_areSo_36 (by decide) (Option.some.inj hR) rfl hP hD hS
  exact lp_2 _ _ _ _ _ hR hP hD hS (lv_sub hl [1, 0] rfl)
abbrev rm_X7_notes : Room := { frames := 2, cells := 0, slots := 0, locals := 44 }
set_option maxHeartbeats 4000000 in
set_option maxRecDepth 100000 in
theorem c_X7_notes (l : Launch) (D : va_G) (cI cO : ClassId) (ad : Nat → Nat) (sz : Nat) {st : St} {x1 : Int32} {r : Int32} {s2 : St} (hR : F_X7_notes st x1 = some (r, s2)) : CI l yX7_notes wsX7_notes rm_X7_notes D cI cO [.ref (ad 0), .int x1] (MW cI ad st) (MW cI ad s2) sz r := by
  refine mk_i (cc := cX7_notes) (maxL := 5) (own := RX7) rfl (by decide) rfl (Nat.le_of_ble_eq_true rfl) ?_
  intro p e s m args below meth c A Q ls hx hb hml hown hts hK hN hA ret_ hP hD hS hl
  have i_X7 : ∀ w ∈ u_ws RX7 TX7 28, w ∈ wsX7_notes := (fun _ h => List.mem_cons_of_mem _ (List.mem_append_right _ h))
  have f_22 := hts (.fieldLink RX7 22 "BellNamesModel" "note" "[I") (by decide +kernel)
  have hl : lv_has ls 5 [(0, .ref (ad 0)), (1, .int x1)] := hl
  unfold F_X7_notes at hR
  refine lv_aload_n hx hb dX7_notes_0 rfl (lv_at hl 0 rfl) ?_
  refine lv_iload_n hx hb dX7_notes_1 rfl (lv_at hl 1 rfl) ?_
  obtain ⟨v_1, e_1, hR⟩ := b1_some hR
  refine bc_z (va_runV (As := [.int x1]) (rest := []) ⟨hx, hb, hml, hown, hts⟩ (c_X7_isBell l D cI cO ad _ e_1) (cwV 1 hts gX7_notes_X7_isBell rfl rfl rfl (by decide +kernel) ⟨Nat.le_of_ble_eq_true rfl, Nat.le_of_ble_eq_true rfl⟩) (preV hK hN hP hD (va_recv hK hP (ci := 6) (q0 := 0) rfl rfl)) rfl rfl hl.1 rfl (lv_room (Nat.le_of_ble_eq_true rfl)) dX7_notes_2 ⟨Nat.zero_le _, Nat.zero_le _⟩) hS hD hA (fun H locs hP hD hS n_1 => ?_)
  refine lv_if_ne (tgt := 10) hx hb dX7_notes_5 (by decide) (fun c_2 => ?_) (fun c_2 => ?_)
  · have hR := (if_neg c_2).symm.trans hR
    refine lv_aload_n hx hb dX7_notes_10 rfl (lv_at hl 0 rfl) ?_
    refine bw_get (ci := 6) (v := .ref (ad 5)) (C := RX7) (T := TX7) (N := 28) hx hb hts i_X7 hown hK hP 0 rfl rfl 9 (by decide) f_22 rfl dX7_notes_11 ?_
    refine lv_iload_n hx hb dX7_notes_14 rfl (lv_at hl 1 rfl) ?_
    obtain ⟨h_3, hR⟩ := ck_some hR
    refine bw_ald (v := gA st 9 x1) hx hb hK hP 5 rfl h_3 rfl dX7_notes_15 ?_
    refine lv_istore_n (lv' := [(2, .int (gA st 9 x1)), (0, .ref (ad 0)), (1, .int x1)]) hx hb dX7_notes_16 rfl hl (by decide) rfl (fun ls hl => ?_)
    refine lv_iconst (v := 0) hx hb dX7_notes_17 (by decide) ?_
    refine lv_istore_n (lv' := [(3, .int 0), (2, .int (gA st 9 x1)), (0, .ref (ad 0)), (1, .int x1)]) hx hb dX7_notes_18 rfl hl (by decide) rfl (fun ls hl => ?_)
    refine lv_iconst (v := 0) hx hb dX7_notes_19 (by decide) ?_
    refine lv_istore (lv' := [(4, .int 0), (3, .int 0), (2, .int (gA st 9 x1)), (0, .ref (ad 0)), (1, .int x1)]) hx hb dX7_notes_20 hl (by decide) rfl (fun ls hl => ?_)
    have lp_22 : ∀ (n_22 : Nat) (y3_22 : Int32) (y4_22 : Int32) (z_22 : St) (H : Heap) (locs : List Loc) (ls : Array Slot), L_X7_notes_22 x1 (fun y3_22 y4_22 z_22 => ck x1 5 (some (y3_22, sA z_22 9 x1 (gA st 9 x1)))) n_22 y3_22 y4_22 z_22 = some (r, s2) → va_P D vwCl (MW cI ad z_22) H → va_D A (MW cI ad z_22) → va_S A s.heap H locs → lv_has ls 5 [(0, .ref (ad 0)), (1, .int x1), (2, .int (gA st 9 x1)), (3, .int y3_22), (4, .int y4_22)] → W p l e rm_X7_notes s m args below meth c H locs 0 0 Q (F0 m 22 ls []) := by
      intro n_22
      induction n_22 with
      | zero => intro y3_22 y4_22 z_22 H locs ls hR; exact absurd (L_X7_notes_22_z.symm.trans hR) (fun h => nomatch h)
      | succ n_22 ih_22 =>
        intro y3_22 y4_22 z_22 H locs ls hR hP hD hS hl
        have hR := L_X7_notes_22_s.symm.trans hR
        refine lv_iload hx hb dX7_notes_22 (lv_at hl 4 rfl) ?_
        refine lv_bipush (v := 9) hx hb dX7_notes_24 (by decide) ?_
        refine lv_icmp_gt (tgt := 61) hx hb dX7_notes_26 (by decide) (fun c_4 => ?_) (fun c_4 => ?_)
        · have hR := (if_pos c_4).symm.trans hR
          refine lv_aload_n hx hb dX7_notes_61 rfl (lv_at hl 0 rfl) ?_
          refine bw_get (ci := 6) (v := .ref (ad 5)) (C := RX7) (T := TX7) (N := 28) hx hb hts i_X7 hown hK hP 0 rfl rfl 9 (by decide) f_22 rfl dX7_notes_62 ?_
          refine lv_iload_n hx hb dX7_notes_65 rfl (lv_at hl 1 rfl) ?_
          refine lv_iload_n hx hb dX7_notes_66 rfl (lv_at hl 2 rfl) ?_
          obtain ⟨h_5, hR⟩ := ck_some hR
          refine bw_ast (w' := (MW cI ad (sA z_22 9 x1 (gA st 9 x1)))) hx hb hK hP hD hS 5 rfl h_5 (MW_a9 cI ad _ _) dX7_notes_67 (fun H locs hP hD hS => ?_)
          refine lv_iload_n hx hb dX7_notes_68 rfl (lv_at hl 3 rfl) ?_
          exact ret_ _ _ _ _ _ _ dX7_notes_69  (sp1 hR) (congrArg (fun z => (MW cI ad z)) (sp2 hR)) hP hD hS
        · have hR := (if_neg c_4).symm.trans hR
          refine lv_aload_n hx hb dX7_notes_29 rfl (lv_at hl 0 rfl) ?_
          refine bw_get (ci := 6) (v := .ref (ad 5)) (C := RX7) (T := TX7) (N := 28) hx hb hts i_X7 hown hK hP 0 rfl rfl 9 (by decide) f_22 rfl dX7_notes_30 ?_
          refine lv_iload_n hx hb dX7_notes_33 rfl (lv_at hl 1 rfl) ?_
          refine lv_iload hx hb dX7_notes_34 (lv_at hl 4 rfl) ?_
          obtain ⟨h_6, hR⟩ := ck_some hR
          refine bw_ast (w' := (MW cI ad (sA z_22 9 x1 y4_22))) hx hb hK hP hD hS 5 rfl h_6 (MW_a9 cI ad _ _) dX7_notes_36 (fun H locs hP hD hS => ?_)
          refine lv_iload_n hx hb dX7_notes_37 rfl (lv_at hl 3 rfl) ?_
          refine lv_aload_n hx hb dX7_notes_38 rfl (lv_at hl 0 rfl) ?_
          obtain ⟨v_7, e_7, hR⟩ := b1_some hR
          refine bc_z (va_runV (As := []) (rest := [.int y3_22]) ⟨hx, hb, hml, hown, hts⟩ (c_X7_areSo l D cI cO ad _ e_7) (cwV 0 hts gX7_notes_X7_areSo rfl rfl rfl (by decide +kernel) ⟨Nat.le_of_ble_eq_true rfl, Nat.le_of_ble_eq_true rfl⟩) (preV hK hN hP hD (va_recv hK hP (ci := 6) (q0 := 0) rfl rfl)) rfl rfl hl.1 rfl (lv_room (Nat.le_of_ble_eq_true rfl)) dX7_notes_39 ⟨Nat.zero_le _, Nat.zero_le _⟩) hS hD hA (fun H locs hP hD hS n_7 => ?_)
          refine lv_if_eq (tgt := 52) hx hb dX7_notes_42 (by decide) (fun c_8 => ?_) (fun c_8 => ?_)
          · have hR := (if_pos c_8).symm.trans hR
            refine lv_iconst (v := 0) hx hb dX7_notes_52 (by decide) ?_
            refine lv_ior hx hb dX7_notes_53 ?_
            refine lv_istore_n (lv' := [(3, .int (y3_22 ||| 0)), (0, .ref (ad 0)), (1, .int x1), (2, .int (gA st 9 x1)), (4, .int y4_22)]) hx hb dX7_notes_54 rfl hl (by decide) rfl (fun ls hl => ?_)
            refine lv_iinc (v := y4_22 + 1) (lv' := [(4, .int (y4_22 + 1)), (3, .int (y3_22 ||| 0)), (0, .ref (ad 0)), (1, .int x1), (2, .int (gA st 9 x1))]) hx hb dX7_notes_55 hl (k := 4) rfl rfl (by decide) rfl (fun ls hl => ?_)
            refine lv_goto (tgt := 22) hx hb dX7_notes_58 (by decide) ?_
            exact ih_22 _ _ _ _ _ _ hR hP hD hS (lv_sub hl [2, 3, 4, 1, 0] rfl)
          · have hR := (if_neg c_8).symm.trans hR
            refine lv_iconst (v := 1) hx hb dX7_notes_45 (by decide) ?_
            refine lv_iload hx hb dX7_notes_46 (lv_at hl 4 rfl) ?_
            refine lv_ishl hx hb dX7_notes_48 ?_
            refine W.eq (g2 := F0 m 49 ls (.int (jshl 1 y4_22) :: [.int y3_22])) rfl ?_
            refine lv_goto (tgt := 53) hx hb dX7_notes_49 (by decide) ?_
            refine lv_ior hx hb dX7_notes_53 ?_
            refine lv_istore_n (lv' := [(3, .int (y3_22 ||| (jshl 1 y4_22))), (0, .ref (ad 0)), (1, .int x1), (2, .int (gA st 9 x1)), (4, .int y4_22)]) hx hb dX7_notes_54 rfl hl (by decide) rfl (fun ls hl => ?_)
            refine lv_iinc (v := y4_22 + 1) (lv' := [(4, .int (y4_22 + 1)), (3, .int (y3_22 ||| (jshl 1 y4_22))), (0, .ref (ad 0)), (1, .int x1), (2, .int (gA st 9 x1))]) hx hb dX7_notes_55 hl (k := 4) rfl rfl (by decide) rfl (fun ls hl => ?_)
            refine lv_goto (tgt := 22) hx hb dX7_notes_58 (by decide) ?_
            exact ih_22 _ _ _ _ _ _ hR hP hD hS (lv_sub hl [2, 3, 4, 1, 0] rfl)
    exact lp_22 _ _ _ _ _ _ _ hR hP hD hS (lv_sub hl [3, 4, 2, 1, 0] rfl)
  · have hR := (if_pos c_2).symm.trans hR
    refine lv_iconst (v := (-1)) hx hb dX7_notes_8 (by decide) ?_
    exact ret_ _ _ _ _ _ _ dX7_notes_9  (sp1 hR) (congrArg (fun z => (MW cI ad z)) (sp2 hR)) hP hD hS
abbrev rm_X7_kinds : Room := { frames := 2, cells := 0, slots := 0, locals := 44 }
set_option maxHeartbeats 4000000 in
set_option maxRecDepth 100000 in
theorem c_X7_kinds (l : Launch) (D : va_G) (cI cO : ClassId) (ad : Nat → Nat) (sz : Nat) {st : St} {x1 : Int32} {r : Int32} {s2 : St} (hR : F_X7_kinds st x1 = some (r, s2)) : CI l yX7_kinds wsX7_kinds rm_X7_kinds D cI cO [.ref (ad 0), .int x1] (MW cI ad st) (MW cI ad s2) sz r := by
  refine mk_i (cc := cX7_kinds) (maxL := 5) (own := RX7) rfl (by decide) rfl (Nat.le_of_ble_eq_true rfl) ?_
  intro p e s m args below meth c A Q ls hx hb hml hown hts hK hN hA ret_ hP hD hS hl
  have i_X7 : ∀ w ∈ u_ws RX7 TX7 28, w ∈ wsX7_kinds := (fun _ h => List.mem_cons_of_mem _ (List.mem_append_right _ h))
  have f_19 := hts (.fieldLink RX7 19 "BellNamesModel" "kind" "[I") (by decide +kernel)
  have hl : lv_has ls 5 [(0, .ref (ad 0)), (1, .int x1)] := hl
  unfold F_X7_kinds at hR
  refine lv_aload_n hx hb dX7_kinds_0 rfl (lv_at hl 0 rfl) ?_
  refine lv_iload_n hx hb dX7_kinds_1 rfl (lv_at hl 1 rfl) ?_
  obtain ⟨v_1, e_1, hR⟩ := b1_some hR
  refine bc_z (va_runV (As := [.int x1]) (rest := []) ⟨hx, hb, hml, hown, hts⟩ (c_X7_isBell l D cI cO ad _ e_1) (cwV 1 hts gX7_kinds_X7_isBell rfl rfl rfl (by decide +kernel) ⟨Nat.le_of_ble_eq_true rfl, Nat.le_of_ble_eq_true rfl⟩) (preV hK hN hP hD (va_recv hK hP (ci := 6) (q0 := 0) rfl rfl)) rfl rfl hl.1 rfl (lv_room (Nat.le_of_ble_eq_true rfl)) dX7_kinds_2 ⟨Nat.zero_le _, Nat.zero_le _⟩) hS hD hA (fun H locs hP hD hS n_1 => ?_)
  refine lv_if_ne (tgt := 10) hx hb dX7_kinds_5 (by decide) (fun c_2 => ?_) (fun c_2 => ?_)
  · have hR := (if_neg c_2).symm.trans hR
    refine lv_aload_n hx hb dX7_kinds_10 rfl (lv_at hl 0 rfl) ?_
    refine bw_get (ci := 6) (v := .ref (ad 4)) (C := RX7) (T := TX7) (N := 28) hx hb hts i_X7 hown hK hP 0 rfl rfl 8 (by decide) f_19 rfl dX7_kinds_11 ?_
    refine lv_iload_n hx hb dX7_kinds_14 rfl (lv_at hl 1 rfl) ?_
    obtain ⟨h_3, hR⟩ := ck_some hR
    refine bw_ald (v := gA st 8 x1) hx hb hK hP 4 rfl h_3 rfl dX7_kinds_15 ?_
    refine lv_istore_n (lv' := [(2, .int (gA st 8 x1)), (0, .ref (ad 0)), (1, .int x1)]) hx hb dX7_kinds_16 rfl hl (by decide) rfl (fun ls hl => ?_)
    refine lv_iconst (v := 0) hx hb dX7_kinds_17 (by decide) ?_
    refine lv_istore_n (lv' := [(3, .int 0), (2, .int (gA st 8 x1)), (0, .ref (ad 0)), (1, .int x1)]) hx hb dX7_kinds_18 rfl hl (by decide) rfl (fun ls hl => ?_)
    refine lv_iconst (v := 0) hx hb dX7_kinds_19 (by decide) ?_
    refine lv_istore (lv' := [(4, .int 0), (3, .int 0), (2, .int (gA st 8 x1)), (0, .ref (ad 0)), (1, .int x1)]) hx hb dX7_kinds_20 hl (by decide) rfl (fun ls hl => ?_)
    have lp_22 : ∀ (n_22 : Nat) (y3_22 : Int32) (y4_22 : Int32) (z_22 : St) (H : Heap) (locs : List Loc) (ls : Array Slot), L_X7_kinds_22 x1 (fun y3_22 y4_22 z_22 => ck x1 5 (some (y3_22, sA z_22 8 x1 (gA st 8 x1)))) n_22 y3_22 y4_22 z_22 = some (r, s2) → va_P D vwCl (MW cI ad z_22) H → va_D A (MW cI ad z_22) → va_S A s.heap H locs → lv_has ls 5 [(0, .ref (ad 0)), (1, .int x1), (2, .int (gA st 8 x1)), (3, .int y3_22), (4, .int y4_22)] → W p l e rm_X7_kinds s m args below meth c H locs 0 0 Q (F0 m 22 ls []) := by
      intro n_22
      induction n_22 with
      | zero => intro y3_22 y4_22 z_22 H locs ls hR; exact absurd (L_X7_kinds_22_z.symm.trans hR) (fun h => nomatch h)
      | succ n_22 ih_22 =>
        intro y3_22 y4_22 z_22 H locs ls hR hP hD hS hl
        have hR := L_X7_kinds_22_s.symm.trans hR
        refine lv_iload hx hb dX7_kinds_22 (lv_at hl 4 rfl) ?_
        refine lv_iconst (v := 3) hx hb dX7_kinds_24 (by decide) ?_
        refine lv_icmp_ge (tgt := 60) hx hb dX7_kinds_25 (by decide) (fun c_4 => ?_) (fun c_4 => ?_)
        · have hR := (if_pos c_4).symm.trans hR
          refine lv_aload_n hx hb dX7_kinds_60 rfl (lv_at hl 0 rfl) ?_
          refine bw_get (ci := 6) (v := .ref (ad 4)) (C := RX7) (T := TX7) (N := 28) hx hb hts i_X7 hown hK hP 0 rfl rfl 8 (by decide) f_19 rfl dX7_kinds_61 ?_
          refine lv_iload_n hx hb dX7_kinds_64 rfl (lv_at hl 1 rfl) ?_
          refine lv_iload_n hx hb dX7_kinds_65 rfl (lv_at hl 2 rfl) ?_
          obtain ⟨h_5, hR⟩ := ck_some hR
          refine bw_ast (w' := (MW cI ad (sA z_22 8 x1 (gA st 8 x1)))) hx hb hK hP hD hS 4 rfl h_5 (MW_a8 cI ad _ _) dX7_kinds_66 (fun H locs hP hD hS => ?_)
          refine lv_iload_n hx hb dX7_kinds_67 rfl (lv_at hl 3 rfl) ?_
          exact ret_ _ _ _ _ _ _ dX7_kinds_68  (sp1 hR) (congrArg (fun z => (MW cI ad z)) (sp2 hR)) hP hD hS
        · have hR := (if_neg c_4).symm.trans hR
          refine lv_aload_n hx hb dX7_kinds_28 rfl (lv_at hl 0 rfl) ?_
          refine bw_get (ci := 6) (v := .ref (ad 4)) (C := RX7) (T := TX7) (N := 28) hx hb hts i_X7 hown hK hP 0 rfl rfl 8 (by decide) f_19 rfl dX7_kinds_29 ?_
          refine lv_iload_n hx hb dX7_kinds_32 rfl (lv_at hl 1 rfl) ?_
          refine lv_iload hx hb dX7_kinds_33 (lv_at hl 4 rfl) ?_
          obtain ⟨h_6, hR⟩ := ck_some hR
          refine bw_ast (w' := (MW cI ad (sA z_22 8 x1 y4_22))) hx hb hK hP hD hS 4 rfl h_6 (MW_a8 cI ad _ _) dX7_kinds_35 (fun H locs hP hD hS => ?_)
          refine lv_iload_n hx hb dX7_kinds_36 rfl (lv_at hl 3 rfl) ?_
          refine lv_aload_n hx hb dX7_kinds_37 rfl (lv_at hl 0 rfl) ?_
          obtain ⟨v_7, e_7, hR⟩ := b1_some hR
          refine bc_z (va_runV (As := []) (rest := [.int y3_22]) ⟨hx, hb, hml, hown, hts⟩ (c_X7_areSo l D cI cO ad _ e_7) (cwV 0 hts gX7_kinds_X7_areSo rfl rfl rfl (by decide +kernel) ⟨Nat.le_of_ble_eq_true rfl, Nat.le_of_ble_eq_true rfl⟩) (preV hK hN hP hD (va_recv hK hP (ci := 6) (q0 := 0) rfl rfl)) rfl rfl hl.1 rfl (lv_room (Nat.le_of_ble_eq_true rfl)) dX7_kinds_38 ⟨Nat.zero_le _, Nat.zero_le _⟩) hS hD hA (fun H locs hP hD hS n_7 => ?_)
          refine lv_if_eq (tgt := 51) hx hb dX7_kinds_41 (by decide) (fun c_8 => ?_) (fun c_8 => ?_)
          · have hR := (if_pos c_8).symm.trans hR
            refine lv_iconst (v := 0) hx hb dX7_kinds_51 (by decide) ?_
            refine lv_ior hx hb dX7_kinds_52 ?_
            refine lv_istore_n (lv' := [(3, .int (y3_22 ||| 0)), (0, .ref (ad 0)), (1, .int x1), (2, .int (gA st 8 x1)), (4, .int y4_22)]) hx hb dX7_kinds_53 rfl hl (by decide) rfl (fun ls hl => ?_)
            refine lv_iinc (v := y4_22 + 1) (lv' := [(4, .int (y4_22 + 1)), (3, .int (y3_22 ||| 0)), (0, .ref (ad 0)), (1, .int x1), (2, .int (gA st 8 x1))]) hx hb dX7_kinds_54 hl (k := 4) rfl rfl (by decide) rfl (fun ls hl => ?_)
            refine lv_goto (tgt := 22) hx hb dX7_kinds_57 (by decide) ?_
            exact ih_22 _ _ _ _ _ _ hR hP hD hS (lv_sub hl [2, 3, 4, 1, 0] rfl)
          · have hR := (if_neg c_8).symm.trans hR
            refine lv_iconst (v := 1) hx hb dX7_kinds_44 (by decide) ?_
            refine lv_iload hx hb dX7_kinds_45 (lv_at hl 4 rfl) ?_
            refine lv_ishl hx hb dX7_kinds_47 ?_
            refine W.eq (g2 := F0 m 48 ls (.int (jshl 1 y4_22) :: [.int y3_22])) rfl ?_
            refine lv_goto (tgt := 52) hx hb dX7_kinds_48 (by decide) ?_
            refine lv_ior hx hb dX7_kinds_52 ?_
            refine lv_istore_n (lv' := [(3, .int (y3_22 ||| (jshl 1 y4_22))), (0, .ref (ad 0)), (1, .int x1), (2, .int (gA st 8 x1)), (4, .int y4_22)]) hx hb dX7_kinds_53 rfl hl (by decide) rfl (fun ls hl => ?_)
            refine lv_iinc (v := y4_22 + 1) (lv' := [(4, .int (y4_22 + 1)), (3, .int (y3_22 ||| (jshl 1 y4_22))), (0, .ref (ad 0)), (1, .int x1), (2, .int (gA st 8 x1))]) hx hb dX7_kinds_54 hl (k := 4) rfl rfl (by decide) rfl (fun ls hl => ?_)
            refine lv_goto (tgt := 22) hx hb dX7_kinds_57 (by decide) ?_
            exact ih_22 _ _ _ _ _ _ hR hP hD hS (lv_sub hl [2, 3, 4, 1, 0] rfl)
    exact lp_22 _ _ _ _ _ _ _ hR hP hD hS (lv_sub hl [3, 4, 2, 1, 0] rfl)
  · have hR := (if_pos c_2).symm.trans hR
    refine lv_iconst (v := (-1)) hx hb dX7_kinds_8 (by decide) ?_
    exact ret_ _ _ _ _ _ _ dX7_kinds_9  (sp1 hR) (congrArg (fun z => (MW cI ad z)) (sp2 hR)) hP hD hS
abbrev rm_X7_winds : Room := { frames := 2, cells := 0, slots := 0, locals := 44 }
set_option maxHeartbeats 4000000 in
set_option maxRecDepth 100000 in
theorem c_X7_winds (l : Launch) (D : va_G) (cI cO : ClassId) (ad : Nat → Nat) (sz : Nat) {st : St} {r : Int32} {s2 : St} (hR : F_X7_winds st = some (r, s2)) : CI l yX7_winds wsX7_winds rm_X7_winds D cI cO [.ref (ad 0)] (MW cI ad st) (MW cI ad s2) sz r := by
  refine mk_i (cc := cX7_winds) (maxL := 4) (own := RX7) rfl (by decide) rfl (Nat.le_of_ble_eq_true rfl) ?_
  intro p e s m args below meth c A Q ls hx hb hml hown hts hK hN hA ret_ hP hD hS hl
  have i_X7 : ∀ w ∈ u_ws RX7 TX7 28, w ∈ wsX7_winds := (fun _ h => List.mem_cons_of_mem _ (List.mem_append_right _ h))
  have f_71 := hts (.fieldLink RX7 71 "BellNamesModel" "bells" "I") (by decide +kernel)
  have f_98 := hts (.fieldLink RX7 98 "BellNamesModel" "wind" "I") (by decide +kernel)
  have hl : lv_has ls 4 [(0, .ref (ad 0))] := hl
  unfold F_X7_winds at hR
  refine lv_aload_n hx hb dX7_winds_0 rfl (lv_at hl 0 rfl) ?_
  refine bw_get (ci := 6) (v := .int (gI st 5)) (C := RX7) (T := TX7) (N := 28) hx hb hts i_X7 hown hK hP 0 rfl rfl 5 (by decide) f_71 rfl dX7_winds_1 ?_
  refine lv_if_ne (tgt := 10) hx hb dX7_winds_4 (by decide) (fun c_1 => ?_) (fun c_1 => ?_)
  · have hR := (if_neg c_1).symm.trans hR
    refine lv_aload_n hx hb dX7_winds_10 rfl (lv_at hl 0 rfl) ?_
    refine bw_get (ci := 6) (v := .int (gI st 6)) (C := RX7) (T := TX7) (N := 28) hx hb hts i_X7 hown hK hP 0 rfl rfl 6 (by decide) f_98 rfl dX7_winds_11 ?_
    refine lv_istore_n (lv' := [(1, .int (gI st 6)), (0, .ref (ad 0))]) hx hb dX7_winds_14 rfl hl (by decide) rfl (fun ls hl => ?_)
    refine lv_iconst (v := 0) hx hb dX7_winds_15 (by decide) ?_
    refine lv_istore_n (lv' := [(2, .int 0), (1, .int (gI st 6)), (0, .ref (ad 0))]) hx hb dX7_winds_16 rfl hl (by decide) rfl (fun ls hl => ?_)
    refine lv_iconst (v := 0) hx hb dX7_winds_17 (by decide) ?_
    refine lv_istore_n (lv' := [(3, .int 0), (2, .int 0), (1, .int (gI st 6)), (0, .ref (ad 0))]) hx hb dX7_winds_18 rfl hl (by decide) rfl (fun ls hl => ?_)
    have lp_19 : ∀ (n_19 : Nat) (y2_19 : Int32) (y3_19 : Int32) (z_19 : St) (H : Heap) (locs : List Loc) (ls : Array Slot), L_X7_winds_19 (fun y2_19 y3_19 z_19 => some (y2_19, sI z_19 6 (gI st 6))) n_19 y2_19 y3_19 z_19 = some (r, s2) → va_P D vwCl (MW cI ad z_19) H → va_D A (MW cI ad z_19) → va_S A s.heap H locs → lv_has ls 4 [(0, .ref (ad 0)), (1, .int (gI st 6)), (2, .int y2_19), (3, .int y3_19)] → W p l e rm_X7_winds s m args below meth c H locs 0 0 Q (F0 m 19 ls []) := by
      intro n_19
      induction n_19 with
      | zero => intro y2_19 y3_19 z_19 H locs ls hR; exact absurd (L_X7_winds_19_z.symm.trans hR) (fun h => nomatch h)
      | succ n_19 ih_19 =>
        intro y2_19 y3_19 z_19 H locs ls hR hP hD hS hl
        have hR := L_X7_winds_19_s.symm.trans hR
        refine lv_iload_n hx hb dX7_winds_19 rfl (lv_at hl 3 rfl) ?_
        refine lv_iconst (v := 2) hx hb dX7_winds_20 (by decide) ?_
        refine lv_icmp_gt (tgt := 52) hx hb dX7_winds_21 (by decide) (fun c_2 => ?_) (fun c_2 => ?_)
        · have hR := (if_pos c_2).symm.trans hR
          refine lv_aload_n hx hb dX7_winds_52 rfl (lv_at hl 0 rfl) ?_
          refine lv_iload_n hx hb dX7_winds_53 rfl (lv_at hl 1 rfl) ?_
          refine bw_put (w' := (MW cI ad (sI z_19 6 (gI st 6)))) (ci := 6) (C := RX7) (T := TX7) (N := 28) hx hb hts i_X7 tyX7 tyX7_ok nmX7 hown hK hP hD hS 0 rfl rfl 6 (by decide) f_98 rfl rfl (Nat.le_of_ble_eq_true rfl) (MW_i6 cI ad _ _) dX7_winds_54 (fun H locs hP hD hS => ?_)
          refine lv_iload_n hx hb dX7_winds_57 rfl (lv_at hl 2 rfl) ?_
          exact ret_ _ _ _ _ _ _ dX7_winds_58  (sp1 hR) (congrArg (fun z => (MW cI ad z)) (sp2 hR)) hP hD hS
        · have hR := (if_neg c_2).symm.trans hR
          refine lv_aload_n hx hb dX7_winds_24 rfl (lv_at hl 0 rfl) ?_
          refine lv_iload_n hx hb dX7_winds_25 rfl (lv_at hl 3 rfl) ?_
          refine bw_put (w' := (MW cI ad (sI z_19 6 y3_19))) (ci := 6) (C := RX7) (T := TX7) (N := 28) hx hb hts i_X7 tyX7 tyX7_ok nmX7 hown hK hP hD hS 0 rfl rfl 6 (by decide) f_98 rfl rfl (Nat.le_of_ble_eq_true rfl) (MW_i6 cI ad _ _) dX7_winds_26 (fun H locs hP hD hS => ?_)
          refine lv_iload_n hx hb dX7_winds_29 rfl (lv_at hl 2 rfl) ?_
          refine lv_aload_n hx hb dX7_winds_30 rfl (lv_at hl 0 rfl) ?_
          obtain ⟨v_3, e_3, hR⟩ := b1_some hR
          refine bc_z (va_runV (As := []) (rest := [.int y2_19]) ⟨hx, hb, hml, hown, hts⟩ (c_X7_areSo l D cI cO ad _ e_3) (cwV 0 hts gX7_winds_X7_areSo rfl rfl rfl (by decide +kernel) ⟨Nat.le_of_ble_eq_true rfl, Nat.le_of_ble_eq_true rfl⟩) (preV hK hN hP hD (va_recv hK hP (ci := 6) (q0 := 0) rfl rfl)) rfl rfl hl.1 rfl (lv_room (Nat.le_of_ble_eq_true rfl)) dX7_winds_31 ⟨Nat.zero_le _, Nat.zero_le _⟩) hS hD hA (fun H locs hP hD hS n_3 => ?_)
          refine lv_if_eq (tgt := 43) hx hb dX7_winds_34 (by decide) (fun c_4 => ?_) (fun c_4 => ?_)
          · have hR := (if_pos c_4).symm.trans hR
            refine lv_iconst (v := 0) hx hb dX7_winds_43 (by decide) ?_
            refine lv_ior hx hb dX7_winds_44 ?_
            refine lv_istore_n (lv' := [(2, .int (y2_19 ||| 0)), (0, .ref (ad 0)), (1, .int (gI st 6)), (3, .int y3_19)]) hx hb dX7_winds_45 rfl hl (by decide) rfl (fun ls hl => ?_)
            refine lv_iinc (v := y3_19 + 1) (lv' := [(3, .int (y3_19 + 1)), (2, .int (y2_19 ||| 0)), (0, .ref (ad 0)), (1, .int (gI st 6))]) hx hb dX7_winds_46 hl (k := 3) rfl rfl (by decide) rfl (fun ls hl => ?_)
            refine lv_goto (tgt := 19) hx hb dX7_winds_49 (by decide) ?_
            exact ih_19 _ _ _ _ _ _ hR hP hD hS (lv_sub hl [2, 3, 1, 0] rfl)
          · have hR := (if_neg c_4).symm.trans hR
            refine lv_iconst (v := 1) hx hb dX7_winds_37 (by decide) ?_
            refine lv_iload_n hx hb dX7_winds_38 rfl (lv_at hl 3 rfl) ?_
            refine lv_ishl hx hb dX7_winds_39 ?_
            refine W.eq (g2 := F0 m 40 ls (.int (jshl 1 y3_19) :: [.int y2_19])) rfl ?_
            refine lv_goto (tgt := 44) hx hb dX7_winds_40 (by decide) ?_
            refine lv_ior hx hb dX7_winds_44 ?_
            refine lv_istore_n (lv' := [(2, .int (y2_19 ||| (jshl 1 y3_19))), (0, .ref (ad 0)), (1, .int (gI st 6)), (3, .int y3_19)]) hx hb dX7_winds_45 rfl hl (by decide) rfl (fun ls hl => ?_)
            refine lv_iinc (v := y3_19 + 1) (lv' := [(3, .int (y3_19 + 1)), (2, .int (y2_19 ||| (jshl 1 y3_19))), (0, .ref (ad 0)), (1, .int (gI st 6))]) hx hb dX7_winds_46 hl (k := 3) rfl rfl (by decide) rfl (fun ls hl => ?_)
            refine lv_goto (tgt := 19) hx hb dX7_winds_49 (by decide) ?_
            exact ih_19 _ _ _ _ _ _ hR hP hD hS (lv_sub hl [2, 3, 1, 0] rfl)
    exact lp_19 _ _ _ _ _ _ _ hR hP hD hS (lv_sub hl [3, 2, 1, 0] rfl)
  · have hR := (if_pos c_1).symm.trans hR
    refine lv_bipush (v := (-3)) hx hb dX7_winds_7 (by decide) ?_
    exact ret_ _ _ _ _ _ _ dX7_winds_9  (sp1 hR) (congrArg (fun z => (MW cI ad z)) (sp2 hR)) hP hD hS
abbrev rm_X7_inLeastTerms : Room := { frames := 0, cells := 0, slots := 0, locals := 0 }
set_option maxHeartbeats 4000000 in
set_option maxRecDepth 100000 in
theorem c_X7_inLeastTerms (l : Launch) (D : va_G) (cI cO : ClassId) (ad : Nat → Nat) (sz : Nat) {st : St} {x0 : Int64} {x2 : Int64} {x4 : Int32} {r : Int64} (hR : F_X7_inLeastTerms st x0 x2 x4 = some r) : CL l yX7_inLeastTerms wsX7_inLeastTerms rm_X7_inLeastTerms D cI cO [.long x0, .long x2, .int x4] (MW cI ad st) (MW cI ad st) sz r := by
  refine mk_l (cc := cX7_inLeastTerms) (maxL := 11) (own := RX7) rfl (by decide) rfl (Nat.le_of_ble_eq_true rfl) ?_
  intro p e s m args below meth c A Q ls hx hb hml hown hts hK hN hA ret_ hP hD hS hl
  have hl : lv_has ls 11 [(0, .long x0), (2, .long x2), (4, .int x4)] := hl
  unfold F_X7_inLeastTerms at hR
  refine lv_lload_n hx hb dX7_inLeastTerms_0 rfl (lv_at hl 0 rfl) ?_
  refine lv_lstore (lv' := [(5, .long x0), (0, .long x0), (2, .long x2), (4, .int x4)]) hx hb dX7_inLeastTerms_1 hl (by decide) rfl (fun ls hl => ?_)
  refine lv_lload_n hx hb dX7_inLeastTerms_3 rfl (lv_at hl 2 rfl) ?_
  refine lv_lstore (lv' := [(7, .long x2), (5, .long x0), (0, .long x0), (2, .long x2), (4, .int x4)]) hx hb dX7_inLeastTerms_4 hl (by decide) rfl (fun ls hl => ?_)
  have lp_6 : ∀ (n_6 : Nat) (y5_6 : Int64) (y7_6 : Int64) (H : Heap) (locs : List Loc) (ls : Array Slot), L_X7_inLeastTerms_6 (fun y5_6 y7_6 => if x4 = 0 then nzl y5_6 (some (x0 / y5_6)) else nzl y5_6 (some (x2 / y5_6))) n_6 y5_6 y7_6 = some r → va_P D vwCl (MW cI ad st) H → va_D A (MW cI ad st) → va_S A s.heap H locs → lv_has ls 11 [(0, .long x0), (2, .long x2), (4, .int x4), (5, .long y5_6), (7, .long y7_6)] → W p l e rm_X7_inLeastTerms s m args below meth c H locs 0 0 Q (F0 m 6 ls []) := by
    intro n_6
    induction n_6 with
    | zero => intro y5_6 y7_6 H locs ls hR; exact absurd (L_X7_inLeastTerms_6_z.symm.trans hR) (fun h => nomatch h)
    | succ n_6 ih_6 =>
      intro y5_6 y7_6 H locs ls hR hP hD hS hl
      have hR := L_X7_inLeastTerms_6_s.symm.trans hR
      refine lv_lload hx hb dX7_inLeastTerms_6 (lv_at hl 4 rfl) ?_
      refine lv_lconst (v := 0) hx hb dX7_inLeastTerms_8 (by decide) ?_
      refine W.lcmp hx hb dX7_inLeastTerms_9 ?_
      refine lv_if_eq (tgt := 31) hx hb dX7_inLeastTerms_10 (by decide) (fun c_1 => ?_) (fun c_1 => ?_)
      · have hR := (if_pos c_1).symm.trans hR
        refine lv_iload hx hb dX7_inLeastTerms_31 (lv_at hl 2 rfl) ?_
        refine lv_if_ne (tgt := 43) hx hb dX7_inLeastTerms_33 (by decide) (fun c_2 => ?_) (fun c_2 => ?_)
        · have hR := (if_neg c_2).symm.trans hR
          refine lv_lload_n hx hb dX7_inLeastTerms_43 rfl (lv_at hl 1 rfl) ?_
          refine lv_lload hx hb dX7_inLeastTerms_44 (lv_at hl 3 rfl) ?_
          obtain ⟨h_3, hR⟩ := nzl_some hR
          refine lv_ldiv hx hb dX7_inLeastTerms_46 h_3 ?_
          exact ret_ _ _ _ _ _ _ dX7_inLeastTerms_47  (Option.some.inj hR) rfl hP hD hS
        · have hR := (if_pos c_2).symm.trans hR
          refine lv_lload_n hx hb dX7_inLeastTerms_36 rfl (lv_at hl 0 rfl) ?_
          refine lv_lload hx hb dX7_inLeastTerms_37 (lv_at hl 3 rfl) ?_
          obtain ⟨h_4, hR⟩ := nzl_some hR
          refine lv_ldiv hx hb dX7_inLeastTerms_39 h_4 ?_
          refine lv_goto (tgt := 47) hx hb dX7_inLeastTerms_40 (by decide) ?_
          exact ret_ _ _ _ _ _ _ dX7_inLeastTerms_47  (Option.some.inj hR) rfl hP hD hS
      · have hR := (if_neg c_1).symm.trans hR
        refine lv_lload hx hb dX7_inLeastTerms_13 (lv_at hl 3 rfl) ?_
        refine lv_lload hx hb dX7_inLeastTerms_15 (lv_at hl 4 rfl) ?_
        obtain ⟨h_5, hR⟩ := nzl_some hR
        refine lv_lrem hx hb dX7_inLeastTerms_17 h_5 ?_
        refine W.eq (g2 := F0 m 18 ls (.long (jreml y5_6 y7_6) :: [])) rfl ?_
        refine lv_lstore (lv' := [(9, .long (jreml y5_6 y7_6)), (0, .long x0), (2, .long x2), (4, .int x4), (5, .long y5_6), (7, .long y7_6)]) hx hb dX7_inLeastTerms_18 hl (by decide) rfl (fun ls hl => ?_)
        refine lv_lload hx hb dX7_inLeastTerms_20 (lv_at hl 5 rfl) ?_
        refine lv_lstore (lv' := [(5, .long y7_6), (9, .long (jreml y5_6 y7_6)), (0, .long x0), (2, .long x2), (4, .int x4), (7, .long y7_6)]) hx hb dX7_inLeastTerms_22 hl (by decide) rfl (fun ls hl => ?_)
        refine lv_lload hx hb dX7_inLeastTerms_24 (lv_at hl 1 rfl) ?_
        refine lv_lstore (lv' := [(7, .long (jreml y5_6 y7_6)), (5, .long y7_6), (9, .long (jreml y5_6 y7_6)), (0, .long x0), (2, .long x2), (4, .int x4)]) hx hb dX7_inLeastTerms_26 hl (by decide) rfl (fun ls hl => ?_)
        refine lv_goto (tgt := 6) hx hb dX7_inLeastTerms_28 (by decide) ?_
        exact ih_6 _ _ _ _ _ hR hP hD hS (lv_sub hl [3, 4, 5, 1, 0] rfl)
  exact lp_6 _ _ _ _ _ _ hR hP hD hS (lv_sub hl [2, 3, 4, 1, 0] rfl)
abbrev rm_X7_odds : Room := { frames := 2, cells := 0, slots := 0, locals := 43 }
set_option maxHeartbeats 4000000 in
set_option maxRecDepth 100000 in
theorem c_X7_odds (l : Launch) (D : va_G) (cI cO : ClassId) (ad : Nat → Nat) (sz : Nat) {st : St} {x1 : Int32} {x2 : Int32} {x3 : Int32} {r : Int64} (hR : F_X7_odds st x1 x2 x3 = some r) : CL l yX7_odds wsX7_odds rm_X7_odds D cI cO [.ref (ad 0), .int x1, .int x2, .int x3] (MW cI ad st) (MW cI ad st) sz r := by
  refine mk_l (cc := cX7_odds) (maxL := 11) (own := RX7) rfl (by decide) rfl (Nat.le_of_ble_eq_true rfl) ?_
  intro p e s m args below meth c A Q ls hx hb hml hown hts hK hN hA ret_ hP hD hS hl
  have i_X7 : ∀ w ∈ u_ws RX7 TX7 28, w ∈ wsX7_odds := (fun _ h => List.mem_cons_of_mem _ (List.mem_append_right _ h))
  have k_65 := hts (.constantLong RX7 65 (-9223372036854775808)) (by decide +kernel)
  have f_71 := hts (.fieldLink RX7 71 "BellNamesModel" "bells" "I") (by decide +kernel)
  have k_183 := hts (.constantLong RX7 183 4) (by decide +kernel)
  have hl : lv_has ls 11 [(0, .ref (ad 0)), (1, .int x1), (2, .int x2), (3, .int x3)] := hl
  unfold F_X7_odds at hR
  refine lv_iload_n hx hb dX7_odds_0 rfl (lv_at hl 1 rfl) ?_
  obtain ⟨v_1, e_1, hR⟩ := b1_some hR
  refine bc_z (va_runS (As := [.int x1]) (rest := []) ⟨hx, hb, hml, hown, hts⟩ (c_X7_isDigit l D cI cO ad _ e_1) (va_cwS 1 hts gX7_odds_X7_isDigit rfl rfl rfl (by decide +kernel) ⟨Nat.le_of_ble_eq_true rfl, Nat.le_of_ble_eq_true rfl⟩) (preS hK hN hP hD) rfl rfl hl.1 rfl (lv_room (Nat.le_of_ble_eq_true rfl)) dX7_odds_1 ⟨Nat.zero_le _, Nat.zero_le _⟩) hS hD hA (fun H locs hP hD hS n_1 => ?_)
  refine lv_if_eq (tgt := 33) hx hb dX7_odds_4 (by decide) (fun c_2 => ?_) (fun c_2 => ?_)
  · have hR := (if_pos c_2).symm.trans hR
    refine lv_ldc2 hx hb hown k_65 dX7_odds_33 ?_
    exact ret_ _ _ _ _ _ _ dX7_odds_36  (Option.some.inj hR) rfl hP hD hS
  · have hR := (if_neg c_2).symm.trans hR
    refine lv_iload_n hx hb dX7_odds_7 rfl (lv_at hl 2 rfl) ?_
    refine lv_iconst (v := 0) hx hb dX7_odds_8 (by decide) ?_
    refine lv_bipush (v := 19) hx hb dX7_odds_9 (by decide) ?_
    obtain ⟨v_3, e_3, hR⟩ := b1_some hR
    refine bc_z (va_runS (As := [.int x2, .int 0, .int 19]) (rest := []) ⟨hx, hb, hml, hown, hts⟩ (c_X7_within l D cI cO ad _ e_3) (va_cwS 3 hts gX7_odds_X7_within rfl rfl rfl (by decide +kernel) ⟨Nat.le_of_ble_eq_true rfl, Nat.le_of_ble_eq_true rfl⟩) (preS hK hN hP hD) rfl rfl hl.1 rfl (lv_room (Nat.le_of_ble_eq_true rfl)) dX7_odds_11 ⟨Nat.zero_le _, Nat.zero_le _⟩) hS hD hA (fun H locs hP hD hS n_3 => ?_)
    refine lv_if_eq (tgt := 33) hx hb dX7_odds_14 (by decide) (fun c_4 => ?_) (fun c_4 => ?_)
    · have hR := (if_pos c_4).symm.trans hR
      refine lv_ldc2 hx hb hown k_65 dX7_odds_33 ?_
      exact ret_ _ _ _ _ _ _ dX7_odds_36  (Option.some.inj hR) rfl hP hD hS
    · have hR := (if_neg c_4).symm.trans hR
      refine lv_iload_n hx hb dX7_odds_17 rfl (lv_at hl 3 rfl) ?_
      refine lv_iconst (v := 0) hx hb dX7_odds_18 (by decide) ?_
      refine lv_iconst (v := 1) hx hb dX7_odds_19 (by decide) ?_
      obtain ⟨v_5, e_5, hR⟩ := b1_some hR
      refine bc_z (va_runS (As := [.int x3, .int 0, .int 1]) (rest := []) ⟨hx, hb, hml, hown, hts⟩ (c_X7_within l D cI cO ad _ e_5) (va_cwS 3 hts gX7_odds_X7_within rfl rfl rfl (by decide +kernel) ⟨Nat.le_of_ble_eq_true rfl, Nat.le_of_ble_eq_true rfl⟩) (preS hK hN hP hD) rfl rfl hl.1 rfl (lv_room (Nat.le_of_ble_eq_true rfl)) dX7_odds_20 ⟨Nat.zero_le _, Nat.zero_le _⟩) hS hD hA (fun H locs hP hD hS n_5 => ?_)
      refine lv_if_eq (tgt := 33) hx hb dX7_odds_23 (by decide) (fun c_6 => ?_) (fun c_6 => ?_)
      · have hR := (if_pos c_6).symm.trans hR
        refine lv_ldc2 hx hb hown k_65 dX7_odds_33 ?_
        exact ret_ _ _ _ _ _ _ dX7_odds_36  (Option.some.inj hR) rfl hP hD hS
      · have hR := (if_neg c_6).symm.trans hR
        refine lv_aload_n hx hb dX7_odds_26 rfl (lv_at hl 0 rfl) ?_
        refine bw_get (ci := 6) (v := .int (gI st 5)) (C := RX7) (T := TX7) (N := 28) hx hb hts i_X7 hown hK hP 0 rfl rfl 5 (by decide) f_71 rfl dX7_odds_27 ?_
        refine lv_if_ne (tgt := 37) hx hb dX7_odds_30 (by decide) (fun c_7 => ?_) (fun c_7 => ?_)
        · have hR := (if_neg c_7).symm.trans hR
          refine lv_lconst (v := 1) hx hb dX7_odds_37 (by decide) ?_
          refine lv_lstore (lv' := [(4, .long 1), (0, .ref (ad 0)), (1, .int x1), (2, .int x2), (3, .int x3)]) hx hb dX7_odds_38 hl (by decide) rfl (fun ls hl => ?_)
          refine lv_lconst (v := 1) hx hb dX7_odds_40 (by decide) ?_
          refine lv_lstore (lv' := [(6, .long 1), (4, .long 1), (0, .ref (ad 0)), (1, .int x1), (2, .int x2), (3, .int x3)]) hx hb dX7_odds_41 hl (by decide) rfl (fun ls hl => ?_)
          refine lv_iconst (v := 0) hx hb dX7_odds_43 (by decide) ?_
          refine lv_istore (lv' := [(8, .int 0), (6, .long 1), (4, .long 1), (0, .ref (ad 0)), (1, .int x1), (2, .int x2), (3, .int x3)]) hx hb dX7_odds_44 hl (by decide) rfl (fun ls hl => ?_)
          have lp_46 : ∀ (n_46 : Nat) (y4_46 : Int64) (y6_46 : Int64) (y8_46 : Int32) (H : Heap) (locs : List Loc) (ls : Array Slot), L_X7_odds_46 st x1 x2 (fun y4_46 y6_46 y8_46 => b1 (F_X7_inLeastTerms st (y4_46 - y6_46) y4_46 x3) (fun v_9 => some v_9)) n_46 y4_46 y6_46 y8_46 = some r → va_P D vwCl (MW cI ad st) H → va_D A (MW cI ad st) → va_S A s.heap H locs → lv_has ls 11 [(0, .ref (ad 0)), (1, .int x1), (2, .int x2), (3, .int x3), (4, .long y4_46), (6, .long y6_46), (8, .int y8_46)] → W p l e rm_X7_odds s m args below meth c H locs 0 0 Q (F0 m 46 ls []) := by
            intro n_46
            induction n_46 with
            | zero => intro y4_46 y6_46 y8_46 H locs ls hR; exact absurd (L_X7_odds_46_z.symm.trans hR) (fun h => nomatch h)
            | succ n_46 ih_46 =>
              intro y4_46 y6_46 y8_46 H locs ls hR hP hD hS hl
              have hR := L_X7_odds_46_s.symm.trans hR
              refine lv_iload hx hb dX7_odds_46 (lv_at hl 6 rfl) ?_
              refine lv_aload_n hx hb dX7_odds_48 rfl (lv_at hl 0 rfl) ?_
              refine bw_get (ci := 6) (v := .int (gI st 5)) (C := RX7) (T := TX7) (N := 28) hx hb hts i_X7 hown hK hP 0 rfl rfl 5 (by decide) f_71 rfl dX7_odds_49 ?_
              refine lv_icmp_ge (tgt := 127) hx hb dX7_odds_52 (by decide) (fun c_8 => ?_) (fun c_8 => ?_)
              · have hR := (if_pos c_8).symm.trans hR
                refine lv_lload hx hb dX7_odds_127 (lv_at hl 4 rfl) ?_
                refine lv_lload hx hb dX7_odds_129 (lv_at hl 5 rfl) ?_
                refine lv_lsub hx hb dX7_odds_131 ?_
                refine lv_lload hx hb dX7_odds_132 (lv_at hl 4 rfl) ?_
                refine lv_iload_n hx hb dX7_odds_134 rfl (lv_at hl 3 rfl) ?_
                obtain ⟨v_9, e_9, hR⟩ := b1_some hR
                refine bc_l (va_runS (As := [.long (y4_46 - y6_46), .long y4_46, .int x3]) (rest := []) ⟨hx, hb, hml, hown, hts⟩ (c_X7_inLeastTerms l D cI cO ad _ e_9) (va_cwS 3 hts gX7_odds_X7_inLeastTerms rfl rfl rfl (by decide +kernel) ⟨Nat.le_of_ble_eq_true rfl, Nat.le_of_ble_eq_true rfl⟩) (preS hK hN hP hD) rfl rfl hl.1 rfl (lv_room (Nat.le_of_ble_eq_true rfl)) dX7_odds_135 ⟨Nat.zero_le _, Nat.zero_le _⟩) hS hD hA (fun H locs hP hD hS => ?_)
                exact ret_ _ _ _ _ _ _ dX7_odds_138  (Option.some.inj hR) rfl hP hD hS
              · have hR := (if_neg c_8).symm.trans hR
                refine lv_iconst (v := 0) hx hb dX7_odds_55 (by decide) ?_
                refine lv_istore (lv' := [(9, .int 0), (0, .ref (ad 0)), (1, .int x1), (2, .int x2), (3, .int x3), (4, .long y4_46), (6, .long y6_46), (8, .int y8_46)]) hx hb dX7_odds_56 hl (by decide) rfl (fun ls hl => ?_)
                refine lv_iconst (v := 0) hx hb dX7_odds_58 (by decide) ?_
                refine lv_istore (lv' := [(10, .int 0), (9, .int 0), (0, .ref (ad 0)), (1, .int x1), (2, .int x2), (3, .int x3), (4, .long y4_46), (6, .long y6_46), (8, .int y8_46)]) hx hb dX7_odds_59 hl (by decide) rfl (fun ls hl => ?_)
                have lp_61 : ∀ (n_61 : Nat) (y9_61 : Int32) (y10_61 : Int32) (H : Heap) (locs : List Loc) (ls : Array Slot), L_X7_odds_61 st x1 x2 y8_46 (fun y9_61 y10_61 => L_X7_odds_46 st x1 x2 (fun y4_46 y6_46 y8_46 => b1 (F_X7_inLeastTerms st (y4_46 - y6_46) y4_46 x3) (fun v_9 => some v_9)) n_46 (y4_46 * 4) (y6_46 * y9_61.toInt64) (y8_46 + 1)) n_61 y9_61 y10_61 = some r → va_P D vwCl (MW cI ad st) H → va_D A (MW cI ad st) → va_S A s.heap H locs → lv_has ls 11 [(0, .ref (ad 0)), (1, .int x1), (2, .int x2), (3, .int x3), (4, .long y4_46), (6, .long y6_46), (8, .int y8_46), (9, .int y9_61), (10, .int y10_61)] → W p l e rm_X7_odds s m args below meth c H locs 0 0 Q (F0 m 61 ls []) := by
                  intro n_61
                  induction n_61 with
                  | zero => intro y9_61 y10_61 H locs ls hR; exact absurd (L_X7_odds_61_z.symm.trans hR) (fun h => nomatch h)
                  | succ n_61 ih_61 =>
                    intro y9_61 y10_61 H locs ls hR hP hD hS hl
                    have hR := L_X7_odds_61_s.symm.trans hR
                    refine lv_iload hx hb dX7_odds_61 (lv_at hl 8 rfl) ?_
                    refine lv_iconst (v := 4) hx hb dX7_odds_63 (by decide) ?_
                    refine lv_icmp_ge (tgt := 105) hx hb dX7_odds_64 (by decide) (fun c_10 => ?_) (fun c_10 => ?_)
                    · have hR := (if_pos c_10).symm.trans hR
                      refine lv_lload hx hb dX7_odds_105 (lv_at hl 4 rfl) ?_
                      refine lv_ldc2 hx hb hown k_183 dX7_odds_107 ?_
                      refine lv_lmul hx hb dX7_odds_110 ?_
                      refine lv_lstore (lv' := [(4, .long (y4_46 * 4)), (0, .ref (ad 0)), (1, .int x1), (2, .int x2), (3, .int x3), (6, .long y6_46), (8, .int y8_46), (9, .int y9_61), (10, .int y10_61)]) hx hb dX7_odds_111 hl (by decide) rfl (fun ls hl => ?_)
                      refine lv_lload hx hb dX7_odds_113 (lv_at hl 5 rfl) ?_
                      refine lv_iload hx hb dX7_odds_115 (lv_at hl 7 rfl) ?_
                      refine lv_i2l (v := y9_61.toInt64) hx hb dX7_odds_117 rfl ?_
                      refine lv_lmul hx hb dX7_odds_118 ?_
                      refine lv_lstore (lv' := [(6, .long (y6_46 * y9_61.toInt64)), (4, .long (y4_46 * 4)), (0, .ref (ad 0)), (1, .int x1), (2, .int x2), (3, .int x3), (8, .int y8_46), (9, .int y9_61), (10, .int y10_61)]) hx hb dX7_odds_119 hl (by decide) rfl (fun ls hl => ?_)
                      refine lv_iinc (v := y8_46 + 1) (lv' := [(8, .int (y8_46 + 1)), (6, .long (y6_46 * y9_61.toInt64)), (4, .long (y4_46 * 4)), (0, .ref (ad 0)), (1, .int x1), (2, .int x2), (3, .int x3), (9, .int y9_61), (10, .int y10_61)]) hx hb dX7_odds_121 hl (k := 6) rfl rfl (by decide) rfl (fun ls hl => ?_)
                      refine lv_goto (tgt := 46) hx hb dX7_odds_124 (by decide) ?_
                      exact ih_46 _ _ _ _ _ _ hR hP hD hS (lv_sub hl [3, 4, 5, 6, 2, 1, 0] rfl)
                    · have hR := (if_neg c_10).symm.trans hR
                      refine lv_iload hx hb dX7_odds_67 (lv_at hl 7 rfl) ?_
                      refine lv_aload_n hx hb dX7_odds_69 rfl (lv_at hl 0 rfl) ?_
                      refine lv_iload hx hb dX7_odds_70 (lv_at hl 6 rfl) ?_
                      refine lv_iload_n hx hb dX7_odds_72 rfl (lv_at hl 1 rfl) ?_
                      obtain ⟨v_11, e_11, hR⟩ := b1_some hR
                      refine bc_z (va_runV (As := [.int y8_46, .int x1]) (rest := [.int y9_61]) ⟨hx, hb, hml, hown, hts⟩ (c_X7_isHeard l D cI cO ad _ e_11) (cwV 2 hts gX7_odds_X7_isHeard rfl rfl rfl (by decide +kernel) ⟨Nat.le_of_ble_eq_true rfl, Nat.le_of_ble_eq_true rfl⟩) (preV hK hN hP hD (va_recv hK hP (ci := 6) (q0 := 0) rfl rfl)) rfl rfl hl.1 rfl (lv_room (Nat.le_of_ble_eq_true rfl)) dX7_odds_73 ⟨Nat.zero_le _, Nat.zero_le _⟩) hS hD hA (fun H locs hP hD hS n_11 => ?_)
                      refine lv_if_eq (tgt := 95) hx hb dX7_odds_76 (by decide) (fun c_12 => ?_) (fun c_12 => ?_)
                      · have hR := (if_pos c_12).symm.trans hR
                        refine lv_iconst (v := 1) hx hb dX7_odds_95 (by decide) ?_
                        refine lv_iadd hx hb dX7_odds_96 ?_
                        refine lv_istore (lv' := [(9, .int (y9_61 + 1)), (0, .ref (ad 0)), (1, .int x1), (2, .int x2), (3, .int x3), (4, .long y4_46), (6, .long y6_46), (8, .int y8_46), (10, .int y10_61)]) hx hb dX7_odds_97 hl (by decide) rfl (fun ls hl => ?_)
                        refine lv_iinc (v := y10_61 + 1) (lv' := [(10, .int (y10_61 + 1)), (9, .int (y9_61 + 1)), (0, .ref (ad 0)), (1, .int x1), (2, .int x2), (3, .int x3), (4, .long y4_46), (6, .long y6_46), (8, .int y8_46)]) hx hb dX7_odds_99 hl (k := 8) rfl rfl (by decide) rfl (fun ls hl => ?_)
                        refine lv_goto (tgt := 61) hx hb dX7_odds_102 (by decide) ?_
                        exact ih_61 _ _ _ _ _ hR hP hD hS (lv_sub hl [2, 3, 4, 5, 6, 7, 8, 1, 0] rfl)
                      · have hR := (if_neg c_12).symm.trans hR
                        refine lv_aload_n hx hb dX7_odds_79 rfl (lv_at hl 0 rfl) ?_
                        refine lv_iload hx hb dX7_odds_80 (lv_at hl 6 rfl) ?_
                        refine lv_iload hx hb dX7_odds_82 (lv_at hl 8 rfl) ?_
                        obtain ⟨v_13, e_13, hR⟩ := b1_some hR
                        refine bc_i (va_runV (As := [.int y8_46, .int y10_61]) (rest := [.int y9_61]) ⟨hx, hb, hml, hown, hts⟩ (c_X7_soundIn l D cI cO ad _ e_13) (cwV 2 hts gX7_odds_X7_soundIn rfl rfl rfl (by decide +kernel) ⟨Nat.le_of_ble_eq_true rfl, Nat.le_of_ble_eq_true rfl⟩) (preV hK hN hP hD (va_recv hK hP (ci := 6) (q0 := 0) rfl rfl)) rfl rfl hl.1 rfl (lv_room (Nat.le_of_ble_eq_true rfl)) dX7_odds_84 ⟨Nat.zero_le _, Nat.zero_le _⟩) hS hD hA (fun H locs hP hD hS => ?_)
                        refine lv_iload_n hx hb dX7_odds_87 rfl (lv_at hl 2 rfl) ?_
                        refine lv_icmp_ne (tgt := 95) hx hb dX7_odds_88 (by decide) (fun c_14 => ?_) (fun c_14 => ?_)
                        · have hR := (if_neg c_14).symm.trans hR
                          refine lv_iconst (v := 1) hx hb dX7_odds_95 (by decide) ?_
                          refine lv_iadd hx hb dX7_odds_96 ?_
                          refine lv_istore (lv' := [(9, .int (y9_61 + 1)), (0, .ref (ad 0)), (1, .int x1), (2, .int x2), (3, .int x3), (4, .long y4_46), (6, .long y6_46), (8, .int y8_46), (10, .int y10_61)]) hx hb dX7_odds_97 hl (by decide) rfl (fun ls hl => ?_)
                          refine lv_iinc (v := y10_61 + 1) (lv' := [(10, .int (y10_61 + 1)), (9, .int (y9_61 + 1)), (0, .ref (ad 0)), (1, .int x1), (2, .int x2), (3, .int x3), (4, .long y4_46), (6, .long y6_46), (8, .int y8_46)]) hx hb dX7_odds_99 hl (k := 8) rfl rfl (by decide) rfl (fun ls hl => ?_)
                          refine lv_goto (tgt := 61) hx hb dX7_odds_102 (by decide) ?_
                          exact ih_61 _ _ _ _ _ hR hP hD hS (lv_sub hl [2, 3, 4, 5, 6, 7, 8, 1, 0] rfl)
                        · have hR := (if_pos c_14).symm.trans hR
                          refine lv_iconst (v := 0) hx hb dX7_odds_91 (by decide) ?_
                          refine lv_goto (tgt := 96) hx hb dX7_odds_92 (by decide) ?_
                          refine lv_iadd hx hb dX7_odds_96 ?_
                          refine lv_istore (lv' := [(9, .int (y9_61 + 0)), (0, .ref (ad 0)), (1, .int x1), (2, .int x2), (3, .int x3), (4, .long y4_46), (6, .long y6_46), (8, .int y8_46), (10, .int y10_61)]) hx hb dX7_odds_97 hl (by decide) rfl (fun ls hl => ?_)
                          refine lv_iinc (v := y10_61 + 1) (lv' := [(10, .int (y10_61 + 1)), (9, .int (y9_61 + 0)), (0, .ref (ad 0)), (1, .int x1), (2, .int x2), (3, .int x3), (4, .long y4_46), (6, .long y6_46), (8, .int y8_46)]) hx hb dX7_odds_99 hl (k := 8) rfl rfl (by decide) rfl (fun ls hl => ?_)
                          refine lv_goto (tgt := 61) hx hb dX7_odds_102 (by decide) ?_
                          exact ih_61 _ _ _ _ _ hR hP hD hS (lv_sub hl [2, 3, 4, 5, 6, 7, 8, 1, 0] rfl)
                exact lp_61 _ _ _ _ _ _ hR hP hD hS (lv_sub hl [2, 3, 4, 5, 6, 7, 8, 1, 0] rfl)
          exact lp_46 _ _ _ _ _ _ _ hR hP hD hS (lv_sub hl [3, 4, 5, 6, 2, 1, 0] rfl)
        · have hR := (if_pos c_7).symm.trans hR
          refine lv_ldc2 hx hb hown k_65 dX7_odds_33 ?_
          exact ret_ _ _ _ _ _ _ dX7_odds_36  (Option.some.inj hR) rfl hP hD hS
