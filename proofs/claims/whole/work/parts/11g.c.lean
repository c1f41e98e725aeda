abbrev rm_X7_familyOf : Room := { frames := 1, cells := 0, slots := 0, locals := 23 }
set_option maxHeartbeats 4000000 in
set_option maxRecDepth 100000 in
theorem c_X7_familyOf (l : Launch) (D : va_G) (cI cO : ClassId) (ad : Nat → Nat) (sz : Nat) {st : St} {x1 : Int32} {r : Int32} (hR : F_X7_familyOf st x1 = some r) : CI l yX7_familyOf wsX7_familyOf rm_X7_familyOf D cI cO [.ref (ad 0), .int x1] (MW cI ad st) (MW cI ad st) sz r := by
  refine mk_i (cc := cX7_familyOf) (maxL := 7) (own := RX7) rfl (by decide) rfl (Nat.le_of_ble_eq_true rfl) ?_
  intro p e s m args below meth c A Q ls hx hb hml hown hts hK hN hA ret_ hP hD hS hl
  have i_X7 : ∀ w ∈ u_ws RX7 TX7 28, w ∈ wsX7_familyOf := (fun _ h => List.mem_cons_of_mem _ (List.mem_append_right _ h))
  have f_71 := hts (.fieldLink RX7 71 "BellNamesModel" "bells" "I") (by decide +kernel)
  have f_28 := hts (.fieldLink RX7 28 "BellNamesModel" "mood" "[I") (by decide +kernel)
  have hl : lv_has ls 7 [(0, .ref (ad 0)), (1, .int x1)] := hl
  unfold F_X7_familyOf at hR
  refine lv_iconst (v := 1) hx hb dX7_familyOf_0 (by decide) ?_
  refine lv_iload_n hx hb dX7_familyOf_1 rfl (lv_at hl 1 rfl) ?_
  refine lv_ishl hx hb dX7_familyOf_2 ?_
  refine W.eq (g2 := F0 m 3 ls (.int (jshl 1 x1) :: [])) rfl ?_
  refine lv_istore_n (lv' := [(2, .int (jshl 1 x1)), (0, .ref (ad 0)), (1, .int x1)]) hx hb dX7_familyOf_3 rfl hl (by decide) rfl (fun ls hl => ?_)
  refine lv_iconst (v := 0) hx hb dX7_familyOf_4 (by decide) ?_
  refine lv_istore_n (lv' := [(3, .int 0), (2, .int (jshl 1 x1)), (0, .ref (ad 0)), (1, .int x1)]) hx hb dX7_familyOf_5 rfl hl (by decide) rfl (fun ls hl => ?_)
  have lp_6 : ∀ (n_6 : Nat) (y2_6 : Int32) (y3_6 : Int32) (H : Heap) (locs : List Loc) (ls : Array Slot), L_X7_familyOf_6 st (fun y2_6 y3_6 => some y2_6) n_6 y2_6 y3_6 = some r → va_P D vwCl (MW cI ad st) H → va_D A (MW cI ad st) → va_S A s.heap H locs → lv_has ls 7 [(0, .ref (ad 0)), (2, .int y2_6), (3, .int y3_6)] → W p l e rm_X7_familyOf s m args below meth c H locs 0 0 Q (F0 m 6 ls []) := by
    intro n_6
    induction n_6 with
    | zero => intro y2_6 y3_6 H locs ls hR; exact absurd (L_X7_familyOf_6_z.symm.trans hR) (fun h => nomatch h)
    | succ n_6 ih_6 =>
      intro y2_6 y3_6 H locs ls hR hP hD hS hl
      have hR := L_X7_familyOf_6_s.symm.trans hR
      refine lv_iload_n hx hb dX7_familyOf_6 rfl (lv_at hl 2 rfl) ?_
      refine lv_iconst (v := 5) hx hb dX7_familyOf_7 (by decide) ?_
      refine lv_icmp_ge (tgt := 119) hx hb dX7_familyOf_8 (by decide) (fun c_1 => ?_) (fun c_1 => ?_)
      · have hR := (if_pos c_1).symm.trans hR
        refine lv_iload_n hx hb dX7_familyOf_119 rfl (lv_at hl 1 rfl) ?_
        exact ret_ _ _ _ _ _ _ dX7_familyOf_120  (Option.some.inj hR) rfl hP hD hS
      · have hR := (if_neg c_1).symm.trans hR
        refine lv_iconst (v := 0) hx hb dX7_familyOf_11 (by decide) ?_
        refine lv_istore (lv' := [(4, .int 0), (0, .ref (ad 0)), (2, .int y2_6), (3, .int y3_6)]) hx hb dX7_familyOf_12 hl (by decide) rfl (fun ls hl => ?_)
        have lp_14 : ∀ (n_14 : Nat) (y2_14 : Int32) (y4_14 : Int32) (H : Heap) (locs : List Loc) (ls : Array Slot), L_X7_familyOf_14 st (fun y2_14 y4_14 => L_X7_familyOf_6 st (fun y2_6 y3_6 => some y2_6) n_6 y2_14 (y3_6 + 1)) n_14 y2_14 y4_14 = some r → va_P D vwCl (MW cI ad st) H → va_D A (MW cI ad st) → va_S A s.heap H locs → lv_has ls 7 [(0, .ref (ad 0)), (2, .int y2_14), (3, .int y3_6), (4, .int y4_14)] → W p l e rm_X7_familyOf s m args below meth c H locs 0 0 Q (F0 m 14 ls []) := by
          intro n_14
          induction n_14 with
          | zero => intro y2_14 y4_14 H locs ls hR; exact absurd (L_X7_familyOf_14_z.symm.trans hR) (fun h => nomatch h)
          | succ n_14 ih_14 =>
            intro y2_14 y4_14 H locs ls hR hP hD hS hl
            have hR := L_X7_familyOf_14_s.symm.trans hR
            refine lv_iload hx hb dX7_familyOf_14 (lv_at hl 3 rfl) ?_
            refine lv_aload_n hx hb dX7_familyOf_16 rfl (lv_at hl 0 rfl) ?_
            refine bw_get (ci := 6) (v := .int (gI st 5)) (C := RX7) (T := TX7) (N := 28) hx hb hts i_X7 hown hK hP 0 rfl rfl 5 (by decide) f_71 rfl dX7_familyOf_17 ?_
            refine lv_icmp_ge (tgt := 113) hx hb dX7_familyOf_20 (by decide) (fun c_2 => ?_) (fun c_2 => ?_)
            · have hR := (if_pos c_2).symm.trans hR
              refine lv_iinc (v := y3_6 + 1) (lv' := [(3, .int (y3_6 + 1)), (0, .ref (ad 0)), (2, .int y2_14), (4, .int y4_14)]) hx hb dX7_familyOf_113 hl (k := 2) rfl rfl (by decide) rfl (fun ls hl => ?_)
              refine lv_goto (tgt := 6) hx hb dX7_familyOf_116 (by decide) ?_
              exact ih_6 _ _ _ _ _ hR hP hD hS (lv_sub hl [1, 2, 0] rfl)
            · have hR := (if_neg c_2).symm.trans hR
              refine lv_iconst (v := 0) hx hb dX7_familyOf_23 (by decide) ?_
              refine lv_istore (lv' := [(5, .int 0), (0, .ref (ad 0)), (2, .int y2_14), (3, .int y3_6), (4, .int y4_14)]) hx hb dX7_familyOf_24 hl (by decide) rfl (fun ls hl => ?_)
              have lp_26 : ∀ (n_26 : Nat) (y2_26 : Int32) (y5_26 : Int32) (H : Heap) (locs : List Loc) (ls : Array Slot), L_X7_familyOf_26 st y4_14 (fun y2_26 y5_26 => L_X7_familyOf_14 st (fun y2_14 y4_14 => L_X7_familyOf_6 st (fun y2_6 y3_6 => some y2_6) n_6 y2_14 (y3_6 + 1)) n_14 y2_26 (y4_14 + 1)) n_26 y2_26 y5_26 = some r → va_P D vwCl (MW cI ad st) H → va_D A (MW cI ad st) → va_S A s.heap H locs → lv_has ls 7 [(0, .ref (ad 0)), (2, .int y2_26), (3, .int y3_6), (4, .int y4_14), (5, .int y5_26)] → W p l e rm_X7_familyOf s m args below meth c H locs 0 0 Q (F0 m 26 ls []) := by
                intro n_26
                induction n_26 with
                | zero => intro y2_26 y5_26 H locs ls hR; exact absurd (L_X7_familyOf_26_z.symm.trans hR) (fun h => nomatch h)
                | succ n_26 ih_26 =>
                  intro y2_26 y5_26 H locs ls hR hP hD hS hl
                  have hR := L_X7_familyOf_26_s.symm.trans hR
                  refine lv_iload hx hb dX7_familyOf_26 (lv_at hl 4 rfl) ?_
                  refine lv_aload_n hx hb dX7_familyOf_28 rfl (lv_at hl 0 rfl) ?_
                  refine bw_get (ci := 6) (v := .int (gI st 5)) (C := RX7) (T := TX7) (N := 28) hx hb hts i_X7 hown hK hP 0 rfl rfl 5 (by decide) f_71 rfl dX7_familyOf_29 ?_
                  refine lv_icmp_ge (tgt := 107) hx hb dX7_familyOf_32 (by decide) (fun c_3 => ?_) (fun c_3 => ?_)
                  · have hR := (if_pos c_3).symm.trans hR
                    refine lv_iinc (v := y4_14 + 1) (lv' := [(4, .int (y4_14 + 1)), (0, .ref (ad 0)), (2, .int y2_26), (3, .int y3_6), (5, .int y5_26)]) hx hb dX7_familyOf_107 hl (k := 3) rfl rfl (by decide) rfl (fun ls hl => ?_)
                    refine lv_goto (tgt := 14) hx hb dX7_familyOf_110 (by decide) ?_
                    exact ih_14 _ _ _ _ _ hR hP hD hS (lv_sub hl [1, 2, 3, 0] rfl)
                  · have hR := (if_neg c_3).symm.trans hR
                    refine lv_aload_n hx hb dX7_familyOf_35 rfl (lv_at hl 0 rfl) ?_
                    refine lv_iload hx hb dX7_familyOf_36 (lv_at hl 3 rfl) ?_
                    refine lv_aload_n hx hb dX7_familyOf_38 rfl (lv_at hl 0 rfl) ?_
                    refine bw_get (ci := 6) (v := .ref (ad 7)) (C := RX7) (T := TX7) (N := 28) hx hb hts i_X7 hown hK hP 0 rfl rfl 11 (by decide) f_28 rfl dX7_familyOf_39 ?_
                    refine lv_iload hx hb dX7_familyOf_42 (lv_at hl 3 rfl) ?_
                    obtain ⟨h_4, hR⟩ := ck_some hR
                    refine bw_ald (v := gA st 11 y4_14) hx hb hK hP 7 rfl h_4 rfl dX7_familyOf_44 ?_
                    obtain ⟨v_5, e_5, hR⟩ := b1_some hR
                    refine bc_i (va_runV (As := [.int y4_14, .int (gA st 11 y4_14)]) (rest := []) ⟨hx, hb, hml, hown, hts⟩ (c_X7_soundIn l D cI cO ad _ e_5) (cwV 2 hts gX7_familyOf_X7_soundIn rfl rfl rfl (by decide +kernel) ⟨Nat.le_of_ble_eq_true rfl, Nat.le_of_ble_eq_true rfl⟩) (preV hK hN hP hD (va_recv hK hP (ci := 6) (q0 := 0) rfl rfl)) rfl rfl hl.1 rfl (lv_room (Nat.le_of_ble_eq_true rfl)) dX7_familyOf_45 ⟨Nat.zero_le _, Nat.zero_le _⟩) hS hD hA (fun H locs hP hD hS => ?_)
                    refine lv_aload_n hx hb dX7_familyOf_48 rfl (lv_at hl 0 rfl) ?_
                    refine lv_iload hx hb dX7_familyOf_49 (lv_at hl 4 rfl) ?_
                    refine lv_aload_n hx hb dX7_familyOf_51 rfl (lv_at hl 0 rfl) ?_
                    refine bw_get (ci := 6) (v := .ref (ad 7)) (C := RX7) (T := TX7) (N := 28) hx hb hts i_X7 hown hK hP 0 rfl rfl 11 (by decide) f_28 rfl dX7_familyOf_52 ?_
                    refine lv_iload hx hb dX7_familyOf_55 (lv_at hl 4 rfl) ?_
                    obtain ⟨h_6, hR⟩ := ck_some hR
                    refine bw_ald (v := gA st 11 y5_26) hx hb hK hP 7 rfl h_6 rfl dX7_familyOf_57 ?_
                    obtain ⟨v_7, e_7, hR⟩ := b1_some hR
                    refine bc_i (va_runV (As := [.int y5_26, .int (gA st 11 y5_26)]) (rest := [.int v_5]) ⟨hx, hb, hml, hown, hts⟩ (c_X7_soundIn l D cI cO ad _ e_7) (cwV 2 hts gX7_familyOf_X7_soundIn rfl rfl rfl (by decide +kernel) ⟨Nat.le_of_ble_eq_true rfl, Nat.le_of_ble_eq_true rfl⟩) (preV hK hN hP hD (va_recv hK hP (ci := 6) (q0 := 0) rfl rfl)) rfl rfl hl.1 rfl (lv_room (Nat.le_of_ble_eq_true rfl)) dX7_familyOf_58 ⟨Nat.zero_le _, Nat.zero_le _⟩) hS hD hA (fun H locs hP hD hS => ?_)
                    obtain ⟨v_8, e_8, hR⟩ := b1_some hR
                    refine bc_i (va_runS (As := [.int v_5, .int v_7]) (rest := []) ⟨hx, hb, hml, hown, hts⟩ (c_X7_apart l D cI cO ad _ e_8) (va_cwS 2 hts gX7_familyOf_X7_apart rfl rfl rfl (by decide +kernel) ⟨Nat.le_of_ble_eq_true rfl, Nat.le_of_ble_eq_true rfl⟩) (preS hK hN hP hD) rfl rfl hl.1 rfl (lv_room (Nat.le_of_ble_eq_true rfl)) dX7_familyOf_61 ⟨Nat.zero_le _, Nat.zero_le _⟩) hS hD hA (fun H locs hP hD hS => ?_)
                    refine lv_iconst (v := 2) hx hb dX7_familyOf_64 (by decide) ?_
                    refine lv_icmp_ne (tgt := 72) hx hb dX7_familyOf_65 (by decide) (fun c_9 => ?_) (fun c_9 => ?_)
                    · have hR := (if_neg c_9).symm.trans hR
                      refine lv_iconst (v := 0) hx hb dX7_familyOf_72 (by decide) ?_
                      refine lv_istore (lv' := [(6, .int 0), (0, .ref (ad 0)), (2, .int y2_26), (3, .int y3_6), (4, .int y4_14), (5, .int y5_26)]) hx hb dX7_familyOf_73 hl (by decide) rfl (fun ls hl => ?_)
                      refine lv_iload_n hx hb dX7_familyOf_75 rfl (lv_at hl 2 rfl) ?_
                      refine lv_iload hx hb dX7_familyOf_76 (lv_at hl 0 rfl) ?_
                      refine lv_if_eq (tgt := 98) hx hb dX7_familyOf_78 (by decide) (fun c_10 => ?_) (fun c_10 => ?_)
                      · refine lv_iconst (v := 0) hx hb dX7_familyOf_98 (by decide) ?_
                        refine lv_ior hx hb dX7_familyOf_99 ?_
                        refine lv_istore_n (lv' := [(2, .int (y2_26 ||| 0)), (6, .int 0), (0, .ref (ad 0)), (3, .int y3_6), (4, .int y4_14), (5, .int y5_26)]) hx hb dX7_familyOf_100 rfl hl (by decide) rfl (fun ls hl => ?_)
                        refine lv_iinc (v := y5_26 + 1) (lv' := [(5, .int (y5_26 + 1)), (2, .int (y2_26 ||| 0)), (6, .int 0), (0, .ref (ad 0)), (3, .int y3_6), (4, .int y4_14)]) hx hb dX7_familyOf_101 hl (k := 5) rfl rfl (by decide) rfl (fun ls hl => ?_)
                        refine lv_goto (tgt := 26) hx hb dX7_familyOf_104 (by decide) ?_
                        exact ih_26 _ _ _ _ _ hR hP hD hS (lv_sub hl [3, 1, 4, 5, 0] rfl)
                      · exact absurd c_10 (by decide)
                    · have hR := (if_pos c_9).symm.trans hR
                      refine lv_iconst (v := 1) hx hb dX7_familyOf_68 (by decide) ?_
                      refine lv_goto (tgt := 73) hx hb dX7_familyOf_69 (by decide) ?_
                      refine lv_istore (lv' := [(6, .int 1), (0, .ref (ad 0)), (2, .int y2_26), (3, .int y3_6), (4, .int y4_14), (5, .int y5_26)]) hx hb dX7_familyOf_73 hl (by decide) rfl (fun ls hl => ?_)
                      refine lv_iload_n hx hb dX7_familyOf_75 rfl (lv_at hl 2 rfl) ?_
                      refine lv_iload hx hb dX7_familyOf_76 (lv_at hl 0 rfl) ?_
                      refine lv_if_eq (tgt := 98) hx hb dX7_familyOf_78 (by decide) (fun c_11 => ?_) (fun c_11 => ?_)
                      · exact absurd c_11 (by decide)
                      · refine lv_iload_n hx hb dX7_familyOf_81 rfl (lv_at hl 2 rfl) ?_
                        refine lv_iload hx hb dX7_familyOf_82 (lv_at hl 4 rfl) ?_
                        refine lv_ishr hx hb dX7_familyOf_84 ?_
                        refine W.eq (g2 := F0 m 85 ls (.int (jshr y2_26 y4_14) :: [.int y2_26])) rfl ?_
                        refine lv_iconst (v := 1) hx hb dX7_familyOf_85 (by decide) ?_
                        refine lv_iand hx hb dX7_familyOf_86 ?_
                        refine lv_iconst (v := 1) hx hb dX7_familyOf_87 (by decide) ?_
                        refine lv_icmp_ne (tgt := 98) hx hb dX7_familyOf_88 (by decide) (fun c_12 => ?_) (fun c_12 => ?_)
                        · have hR := (if_neg c_12).symm.trans hR
                          refine lv_iconst (v := 0) hx hb dX7_familyOf_98 (by decide) ?_
                          refine lv_ior hx hb dX7_familyOf_99 ?_
                          refine lv_istore_n (lv' := [(2, .int (y2_26 ||| 0)), (6, .int 1), (0, .ref (ad 0)), (3, .int y3_6), (4, .int y4_14), (5, .int y5_26)]) hx hb dX7_familyOf_100 rfl hl (by decide) rfl (fun ls hl => ?_)
                          refine lv_iinc (v := y5_26 + 1) (lv' := [(5, .int (y5_26 + 1)), (2, .int (y2_26 ||| 0)), (6, .int 1), (0, .ref (ad 0)), (3, .int y3_6), (4, .int y4_14)]) hx hb dX7_familyOf_101 hl (k := 5) rfl rfl (by decide) rfl (fun ls hl => ?_)
                          refine lv_goto (tgt := 26) hx hb dX7_familyOf_104 (by decide) ?_
                          exact ih_26 _ _ _ _ _ hR hP hD hS (lv_sub hl [3, 1, 4, 5, 0] rfl)
                        · have hR := (if_pos c_12).symm.trans hR
                          refine lv_iconst (v := 1) hx hb dX7_familyOf_91 (by decide) ?_
                          refine lv_iload hx hb dX7_familyOf_92 (lv_at hl 5 rfl) ?_
                          refine lv_ishl hx hb dX7_familyOf_94 ?_
                          refine W.eq (g2 := F0 m 95 ls (.int (jshl 1 y5_26) :: [.int y2_26])) rfl ?_
                          refine lv_goto (tgt := 99) hx hb dX7_familyOf_95 (by decide) ?_
                          refine lv_ior hx hb dX7_familyOf_99 ?_
                          refine lv_istore_n (lv' := [(2, .int (y2_26 ||| (jshl 1 y5_26))), (6, .int 1), (0, .ref (ad 0)), (3, .int y3_6), (4, .int y4_14), (5, .int y5_26)]) hx hb dX7_familyOf_100 rfl hl (by decide) rfl (fun ls hl => ?_)
                          refine lv_iinc (v := y5_26 + 1) (lv' := [(5, .int (y5_26 + 1)), (2, .int (y2_26 ||| (jshl 1 y5_26))), (6, .int 1), (0, .ref (ad 0)), (3, .int y3_6), (4, .int y4_14)]) hx hb dX7_familyOf_101 hl (k := 5) rfl rfl (by decide) rfl (fun ls hl => ?_)
                          refine lv_goto (tgt := 26) hx hb dX7_familyOf_104 (by decide) ?_
                          exact ih_26 _ _ _ _ _ hR hP hD hS (lv_sub hl [3, 1, 4, 5, 0] rfl)
              exact lp_26 _ _ _ _ _ _ hR hP hD hS (lv_sub hl [1, 2, 3, 4, 0] rfl)
        exact lp_14 _ _ _ _ _ _ hR hP hD hS (lv_sub hl [1, 2, 3, 0] rfl)
  exact lp_6 _ _ _ _ _ _ hR hP hD hS (lv_sub hl [2, 1, 0] rfl)
abbrev rm_X7_family : Room := { frames := 2, cells := 0, slots := 0, locals := 49 }
set_option maxHeartbeats 4000000 in
set_option maxRecDepth 100000 in
theorem c_X7_family (l : Launch) (D : va_G) (cI cO : ClassId) (ad : Nat → Nat) (sz : Nat) {st : St} {x1 : Int32} {r : Int32} (hR : F_X7_family st x1 = some r) : CI l yX7_family wsX7_family rm_X7_family D cI cO [.ref (ad 0), .int x1] (MW cI ad st) (MW cI ad st) sz r := by
  refine mk_i (cc := cX7_family) (maxL := 2) (own := RX7) rfl (by decide) rfl (Nat.le_of_ble_eq_true rfl) ?_
  intro p e s m args below meth c A Q ls hx hb hml hown hts hK hN hA ret_ hP hD hS hl
  have hl : lv_has ls 2 [(0, .ref (ad 0)), (1, .int x1)] := hl
  unfold F_X7_family at hR
  refine lv_aload_n hx hb dX7_family_0 rfl (lv_at hl 0 rfl) ?_
  refine lv_iload_n hx hb dX7_family_1 rfl (lv_at hl 1 rfl) ?_
  obtain ⟨v_1, e_1, hR⟩ := b1_some hR
  refine bc_z (va_runV (As := [.int x1]) (rest := []) ⟨hx, hb, hml, hown, hts⟩ (c_X7_isBell l D cI cO ad _ e_1) (cwV 1 hts gX7_family_X7_isBell rfl rfl rfl (by decide +kernel) ⟨Nat.le_of_ble_eq_true rfl, Nat.le_of_ble_eq_true rfl⟩) (preV hK hN hP hD (va_recv hK hP (ci := 6) (q0 := 0) rfl rfl)) rfl rfl hl.1 rfl (lv_room (Nat.le_of_ble_eq_true rfl)) dX7_family_2 ⟨Nat.zero_le _, Nat.zero_le _⟩) hS hD hA (fun H locs hP hD hS n_1 => ?_)
  refine lv_if_eq (tgt := 16) hx hb dX7_family_5 (by decide) (fun c_2 => ?_) (fun c_2 => ?_)
  · have hR := (if_pos c_2).symm.trans hR
    refine lv_iconst (v := (-1)) hx hb dX7_family_16 (by decide) ?_
    exact ret_ _ _ _ _ _ _ dX7_family_17  (Option.some.inj hR) rfl hP hD hS
  · have hR := (if_neg c_2).symm.trans hR
    refine lv_aload_n hx hb dX7_family_8 rfl (lv_at hl 0 rfl) ?_
    refine lv_iload_n hx hb dX7_family_9 rfl (lv_at hl 1 rfl) ?_
    obtain ⟨v_3, e_3, hR⟩ := b1_some hR
    refine bc_i (va_runV (As := [.int x1]) (rest := []) ⟨hx, hb, hml, hown, hts⟩ (c_X7_familyOf l D cI cO ad _ e_3) (cwV 1 hts gX7_family_X7_familyOf rfl rfl rfl (by decide +kernel) ⟨Nat.le_of_ble_eq_true rfl, Nat.le_of_ble_eq_true rfl⟩) (preV hK hN hP hD (va_recv hK hP (ci := 6) (q0 := 0) rfl rfl)) rfl rfl hl.1 rfl (lv_room (Nat.le_of_ble_eq_true rfl)) dX7_family_10 ⟨Nat.zero_le _, Nat.zero_le _⟩) hS hD hA (fun H locs hP hD hS => ?_)
    refine lv_goto (tgt := 17) hx hb dX7_family_13 (by decide) ?_
    exact ret_ _ _ _ _ _ _ dX7_family_17  (Option.some.inj hR) rfl hP hD hS
abbrev rm_X7_heardThen : Room := { frames := 1, cells := 0, slots := 0, locals := 21 }
set_option maxHeartbeats 4000000 in
set_option maxRecDepth 100000 in
theorem c_X7_heardThen (l : Launch) (D : va_G) (cI cO : ClassId) (ad : Nat → Nat) (sz : Nat) {st : St} {x1 : Int32} {r : Int32} (hR : F_X7_heardThen st x1 = some r) : CI l yX7_heardThen wsX7_heardThen rm_X7_heardThen D cI cO [.ref (ad 0), .int x1] (MW cI ad st) (MW cI ad st) sz r := by
  refine mk_i (cc := cX7_heardThen) (maxL := 4) (own := RX7) rfl (by decide) rfl (Nat.le_of_ble_eq_true rfl) ?_
  intro p e s m args below meth c A Q ls hx hb hml hown hts hK hN hA ret_ hP hD hS hl
  have i_X7 : ∀ w ∈ u_ws RX7 TX7 28, w ∈ wsX7_heardThen := (fun _ h => List.mem_cons_of_mem _ (List.mem_append_right _ h))
  have f_71 := hts (.fieldLink RX7 71 "BellNamesModel" "bells" "I") (by decide +kernel)
  have f_43 := hts (.fieldLink RX7 43 "BellNamesModel" "spotThen" "[I") (by decide +kernel)
  have f_104 := hts (.fieldLink RX7 104 "BellNamesModel" "reach" "I") (by decide +kernel)
  have hl : lv_has ls 4 [(0, .ref (ad 0)), (1, .int x1)] := hl
  unfold F_X7_heardThen at hR
  refine lv_iconst (v := 0) hx hb dX7_heardThen_0 (by decide) ?_
  refine lv_istore_n (lv' := [(2, .int 0), (0, .ref (ad 0)), (1, .int x1)]) hx hb dX7_heardThen_1 rfl hl (by decide) rfl (fun ls hl => ?_)
  refine lv_iconst (v := 0) hx hb dX7_heardThen_2 (by decide) ?_
  refine lv_istore_n (lv' := [(3, .int 0), (2, .int 0), (0, .ref (ad 0)), (1, .int x1)]) hx hb dX7_heardThen_3 rfl hl (by decide) rfl (fun ls hl => ?_)
  have lp_4 : ∀ (n_4 : Nat) (y2_4 : Int32) (y3_4 : Int32) (H : Heap) (locs : List Loc) (ls : Array Slot), L_X7_heardThen_4 st x1 (fun y2_4 y3_4 => some y2_4) n_4 y2_4 y3_4 = some r → va_P D vwCl (MW cI ad st) H → va_D A (MW cI ad st) → va_S A s.heap H locs → lv_has ls 4 [(0, .ref (ad 0)), (1, .int x1), (2, .int y2_4), (3, .int y3_4)] → W p l e rm_X7_heardThen s m args below meth c H locs 0 0 Q (F0 m 4 ls []) := by
    intro n_4
    induction n_4 with
    | zero => intro y2_4 y3_4 H locs ls hR; exact absurd (L_X7_heardThen_4_z.symm.trans hR) (fun h => nomatch h)
    | succ n_4 ih_4 =>
      intro y2_4 y3_4 H locs ls hR hP hD hS hl
      have hR := L_X7_heardThen_4_s.symm.trans hR
      refine lv_iload_n hx hb dX7_heardThen_4 rfl (lv_at hl 3 rfl) ?_
      refine lv_aload_n hx hb dX7_heardThen_5 rfl (lv_at hl 0 rfl) ?_
      refine bw_get (ci := 6) (v := .int (gI st 5)) (C := RX7) (T := TX7) (N := 28) hx hb hts i_X7 hown hK hP 0 rfl rfl 5 (by decide) f_71 rfl dX7_heardThen_6 ?_
      refine lv_icmp_ge (tgt := 43) hx hb dX7_heardThen_9 (by decide) (fun c_1 => ?_) (fun c_1 => ?_)
      · have hR := (if_pos c_1).symm.trans hR
        refine lv_iload_n hx hb dX7_heardThen_43 rfl (lv_at hl 2 rfl) ?_
        exact ret_ _ _ _ _ _ _ dX7_heardThen_44  (Option.some.inj hR) rfl hP hD hS
      · have hR := (if_neg c_1).symm.trans hR
        refine lv_iload_n hx hb dX7_heardThen_12 rfl (lv_at hl 2 rfl) ?_
        refine lv_aload_n hx hb dX7_heardThen_13 rfl (lv_at hl 0 rfl) ?_
        refine bw_get (ci := 6) (v := .ref (ad 12)) (C := RX7) (T := TX7) (N := 28) hx hb hts i_X7 hown hK hP 0 rfl rfl 20 (by decide) f_43 rfl dX7_heardThen_14 ?_
        refine lv_iload_n hx hb dX7_heardThen_17 rfl (lv_at hl 3 rfl) ?_
        obtain ⟨h_2, hR⟩ := ck_some hR
        refine bw_ald (v := gA st 20 y3_4) hx hb hK hP 12 rfl h_2 rfl dX7_heardThen_18 ?_
        refine lv_iload_n hx hb dX7_heardThen_19 rfl (lv_at hl 1 rfl) ?_
        obtain ⟨v_3, e_3, hR⟩ := b1_some hR
        refine bc_i (va_runS (As := [.int (gA st 20 y3_4), .int x1]) (rest := [.int y2_4]) ⟨hx, hb, hml, hown, hts⟩ (c_X7_apart l D cI cO ad _ e_3) (va_cwS 2 hts gX7_heardThen_X7_apart rfl rfl rfl (by decide +kernel) ⟨Nat.le_of_ble_eq_true rfl, Nat.le_of_ble_eq_true rfl⟩) (preS hK hN hP hD) rfl rfl hl.1 rfl (lv_room (Nat.le_of_ble_eq_true rfl)) dX7_heardThen_20 ⟨Nat.zero_le _, Nat.zero_le _⟩) hS hD hA (fun H locs hP hD hS => ?_)
        refine lv_aload_n hx hb dX7_heardThen_23 rfl (lv_at hl 0 rfl) ?_
        refine bw_get (ci := 6) (v := .int (gI st 7)) (C := RX7) (T := TX7) (N := 28) hx hb hts i_X7 hown hK hP 0 rfl rfl 7 (by decide) f_104 rfl dX7_heardThen_24 ?_
        refine lv_icmp_gt (tgt := 34) hx hb dX7_heardThen_27 (by decide) (fun c_4 => ?_) (fun c_4 => ?_)
        · have hR := (if_pos c_4).symm.trans hR
          refine lv_iconst (v := 0) hx hb dX7_heardThen_34 (by decide) ?_
          refine lv_iadd hx hb dX7_heardThen_35 ?_
          refine lv_istore_n (lv' := [(2, .int (y2_4 + 0)), (0, .ref (ad 0)), (1, .int x1), (3, .int y3_4)]) hx hb dX7_heardThen_36 rfl hl (by decide) rfl (fun ls hl => ?_)
          refine lv_iinc (v := y3_4 + 1) (lv' := [(3, .int (y3_4 + 1)), (2, .int (y2_4 + 0)), (0, .ref (ad 0)), (1, .int x1)]) hx hb dX7_heardThen_37 hl (k := 3) rfl rfl (by decide) rfl (fun ls hl => ?_)
          refine lv_goto (tgt := 4) hx hb dX7_heardThen_40 (by decide) ?_
          exact ih_4 _ _ _ _ _ hR hP hD hS (lv_sub hl [2, 3, 1, 0] rfl)
        · have hR := (if_neg c_4).symm.trans hR
          refine lv_iconst (v := 1) hx hb dX7_heardThen_30 (by decide) ?_
          refine lv_goto (tgt := 35) hx hb dX7_heardThen_31 (by decide) ?_
          refine lv_iadd hx hb dX7_heardThen_35 ?_
          refine lv_istore_n (lv' := [(2, .int (y2_4 + 1)), (0, .ref (ad 0)), (1, .int x1), (3, .int y3_4)]) hx hb dX7_heardThen_36 rfl hl (by decide) rfl (fun ls hl => ?_)
          refine lv_iinc (v := y3_4 + 1) (lv' := [(3, .int (y3_4 + 1)), (2, .int (y2_4 + 1)), (0, .ref (ad 0)), (1, .int x1)]) hx hb dX7_heardThen_37 hl (k := 3) rfl rfl (by decide) rfl (fun ls hl => ?_)
          refine lv_goto (tgt := 4) hx hb dX7_heardThen_40 (by decide) ?_
          exact ih_4 _ _ _ _ _ hR hP hD hS (lv_sub hl [2, 3, 1, 0] rfl)
  exact lp_4 _ _ _ _ _ _ hR hP hD hS (lv_sub hl [2, 3, 1, 0] rfl)
abbrev rm_X7_goGoings : Room := { frames := 1, cells := 0, slots := 0, locals := 21 }
set_option maxHeartbeats 4000000 in
set_option maxRecDepth 100000 in
theorem c_X7_goGoings (l : Launch) (D : va_G) (cI cO : ClassId) (ad : Nat → Nat) (sz : Nat) {st : St} {x1 : Int32} {x2 : Int32} {r : Int32} {s2 : St} (hR : F_X7_goGoings st x1 x2 = some (r, s2)) : CI l yX7_goGoings wsX7_goGoings rm_X7_goGoings D cI cO [.ref (ad 0), .int x1, .int x2] (MW cI ad st) (MW cI ad s2) sz r := by
  refine mk_i (cc := cX7_goGoings) (maxL := 6) (own := RX7) rfl (by decide) rfl (Nat.le_of_ble_eq_true rfl) ?_
  intro p e s m args below meth c A Q ls hx hb hml hown hts hK hN hA ret_ hP hD hS hl
  have i_X7 : ∀ w ∈ u_ws RX7 TX7 28, w ∈ wsX7_goGoings := (fun _ h => List.mem_cons_of_mem _ (List.mem_append_right _ h))
  have f_151 := hts (.fieldLink RX7 151 "BellNamesModel" "steps" "I") (by decide +kernel)
  have f_71 := hts (.fieldLink RX7 71 "BellNamesModel" "bells" "I") (by decide +kernel)
  have f_16 := hts (.fieldLink RX7 16 "BellNamesModel" "cells" "[I") (by decide +kernel)
  have f_43 := hts (.fieldLink RX7 43 "BellNamesModel" "spotThen" "[I") (by decide +kernel)
  have f_25 := hts (.fieldLink RX7 25 "BellNamesModel" "spotOf" "[I") (by decide +kernel)
  have hl : lv_has ls 6 [(0, .ref (ad 0)), (1, .int x1), (2, .int x2)] := hl
  unfold F_X7_goGoings at hR
  refine lv_aload_n hx hb dX7_goGoings_0 rfl (lv_at hl 0 rfl) ?_
  refine lv_iconst (v := 0) hx hb dX7_goGoings_1 (by decide) ?_
  refine bw_put (w' := (MW cI ad (sI st 21 0))) (ci := 6) (C := RX7) (T := TX7) (N := 28) hx hb hts i_X7 tyX7 tyX7_ok nmX7 hown hK hP hD hS 0 rfl rfl 21 (by decide) f_151 rfl rfl (Nat.le_of_ble_eq_true rfl) (MW_i21 cI ad _ _) dX7_goGoings_2 (fun H locs hP hD hS => ?_)
  refine lv_iconst (v := 0) hx hb dX7_goGoings_5 (by decide) ?_
  refine lv_istore_n (lv' := [(3, .int 0), (0, .ref (ad 0)), (1, .int x1), (2, .int x2)]) hx hb dX7_goGoings_6 rfl hl (by decide) rfl (fun ls hl => ?_)
  have lp_7 : ∀ (n_7 : Nat) (y3_7 : Int32) (z_7 : St) (H : Heap) (locs : List Loc) (ls : Array Slot), L_X7_goGoings_7 (fun y3_7 z_7 => L_X7_goGoings_35 x1 x2 (fun y3_35 z_35 => some ((-9), z_35)) 70 0 z_7) n_7 y3_7 z_7 = some (r, s2) → va_P D vwCl (MW cI ad z_7) H → va_D A (MW cI ad z_7) → va_S A s.heap H locs → lv_has ls 6 [(0, .ref (ad 0)), (1, .int x1), (2, .int x2), (3, .int y3_7)] → W p l e rm_X7_goGoings s m args below meth c H locs 0 0 Q (F0 m 7 ls []) := by
    intro n_7
    induction n_7 with
    | zero => intro y3_7 z_7 H locs ls hR; exact absurd (L_X7_goGoings_7_z.symm.trans hR) (fun h => nomatch h)
    | succ n_7 ih_7 =>
      intro y3_7 z_7 H locs ls hR hP hD hS hl
      have hR := L_X7_goGoings_7_s.symm.trans hR
      refine lv_iload_n hx hb dX7_goGoings_7 rfl (lv_at hl 3 rfl) ?_
      refine lv_aload_n hx hb dX7_goGoings_8 rfl (lv_at hl 0 rfl) ?_
      refine bw_get (ci := 6) (v := .int (gI z_7 5)) (C := RX7) (T := TX7) (N := 28) hx hb hts i_X7 hown hK hP 0 rfl rfl 5 (by decide) f_71 rfl dX7_goGoings_9 ?_
      refine lv_icmp_ge (tgt := 33) hx hb dX7_goGoings_12 (by decide) (fun c_1 => ?_) (fun c_1 => ?_)
      · have hR := (if_pos c_1).symm.trans hR
        refine lv_iconst (v := 0) hx hb dX7_goGoings_33 (by decide) ?_
        refine lv_istore_n (lv' := [(3, .int 0), (0, .ref (ad 0)), (1, .int x1), (2, .int x2)]) hx hb dX7_goGoings_34 rfl hl (by decide) rfl (fun ls hl => ?_)
        have lp_35 : ∀ (n_35 : Nat) (y3_35 : Int32) (z_35 : St) (H : Heap) (locs : List Loc) (ls : Array Slot), L_X7_goGoings_35 x1 x2 (fun y3_35 z_35 => some ((-9), z_35)) n_35 y3_35 z_35 = some (r, s2) → va_P D vwCl (MW cI ad z_35) H → va_D A (MW cI ad z_35) → va_S A s.heap H locs → lv_has ls 6 [(0, .ref (ad 0)), (1, .int x1), (2, .int x2), (3, .int y3_35)] → W p l e rm_X7_goGoings s m args below meth c H locs 0 0 Q (F0 m 35 ls []) := by
          intro n_35
          induction n_35 with
          | zero => intro y3_35 z_35 H locs ls hR; exact absurd (L_X7_goGoings_35_z.symm.trans hR) (fun h => nomatch h)
          | succ n_35 ih_35 =>
            intro y3_35 z_35 H locs ls hR hP hD hS hl
            have hR := L_X7_goGoings_35_s.symm.trans hR
            refine lv_iload_n hx hb dX7_goGoings_35 rfl (lv_at hl 3 rfl) ?_
            refine lv_iload_n hx hb dX7_goGoings_36 rfl (lv_at hl 2 rfl) ?_
            refine lv_icmp_ge (tgt := 116) hx hb dX7_goGoings_37 (by decide) (fun c_2 => ?_) (fun c_2 => ?_)
            · have hR := (if_pos c_2).symm.trans hR
              refine lv_bipush (v := (-9)) hx hb dX7_goGoings_116 (by decide) ?_
              exact ret_ _ _ _ _ _ _ dX7_goGoings_118  (sp1 hR) (congrArg (fun z => (MW cI ad z)) (sp2 hR)) hP hD hS
            · have hR := (if_neg c_2).symm.trans hR
              refine lv_aload_n hx hb dX7_goGoings_40 rfl (lv_at hl 0 rfl) ?_
              refine bw_get (ci := 6) (v := .ref (ad 3)) (C := RX7) (T := TX7) (N := 28) hx hb hts i_X7 hown hK hP 0 rfl rfl 4 (by decide) f_16 rfl dX7_goGoings_41 ?_
              refine lv_iload_n hx hb dX7_goGoings_44 rfl (lv_at hl 1 rfl) ?_
              refine lv_iconst (v := 2) hx hb dX7_goGoings_45 (by decide) ?_
              refine lv_iload_n hx hb dX7_goGoings_46 rfl (lv_at hl 3 rfl) ?_
              refine lv_imul hx hb dX7_goGoings_47 ?_
              refine lv_iadd hx hb dX7_goGoings_48 ?_
              obtain ⟨h_3, hR⟩ := ck_some hR
              refine bw_ald (v := gA z_35 4 (x1 + (2 * y3_35))) hx hb hK hP 3 rfl h_3 rfl dX7_goGoings_49 ?_
              refine lv_istore (lv' := [(4, .int (gA z_35 4 (x1 + (2 * y3_35)))), (0, .ref (ad 0)), (1, .int x1), (2, .int x2), (3, .int y3_35)]) hx hb dX7_goGoings_50 hl (by decide) rfl (fun ls hl => ?_)
              refine lv_aload_n hx hb dX7_goGoings_52 rfl (lv_at hl 1 rfl) ?_
              refine bw_get (ci := 6) (v := .ref (ad 3)) (C := RX7) (T := TX7) (N := 28) hx hb hts i_X7 hown hK hP 0 rfl rfl 4 (by decide) f_16 rfl dX7_goGoings_53 ?_
              refine lv_iload_n hx hb dX7_goGoings_56 rfl (lv_at hl 2 rfl) ?_
              refine lv_iconst (v := 2) hx hb dX7_goGoings_57 (by decide) ?_
              refine lv_iload_n hx hb dX7_goGoings_58 rfl (lv_at hl 4 rfl) ?_
              refine lv_imul hx hb dX7_goGoings_59 ?_
              refine lv_iadd hx hb dX7_goGoings_60 ?_
              refine lv_iconst (v := 1) hx hb dX7_goGoings_61 (by decide) ?_
              refine lv_iadd hx hb dX7_goGoings_62 ?_
              obtain ⟨h_4, hR⟩ := ck_some hR
              refine bw_ald (v := gA z_35 4 ((x1 + (2 * y3_35)) + 1)) hx hb hK hP 3 rfl h_4 rfl dX7_goGoings_63 ?_
              refine lv_istore (lv' := [(5, .int (gA z_35 4 ((x1 + (2 * y3_35)) + 1))), (4, .int (gA z_35 4 (x1 + (2 * y3_35)))), (0, .ref (ad 0)), (1, .int x1), (2, .int x2), (3, .int y3_35)]) hx hb dX7_goGoings_64 hl (by decide) rfl (fun ls hl => ?_)
              refine lv_aload_n hx hb dX7_goGoings_66 rfl (lv_at hl 2 rfl) ?_
              refine bw_get (ci := 6) (v := .ref (ad 12)) (C := RX7) (T := TX7) (N := 28) hx hb hts i_X7 hown hK hP 0 rfl rfl 20 (by decide) f_43 rfl dX7_goGoings_67 ?_
              refine lv_iload hx hb dX7_goGoings_70 (lv_at hl 1 rfl) ?_
              obtain ⟨h_5, hR⟩ := ck_some hR
              refine bw_ald (v := gA z_35 20 (gA z_35 4 (x1 + (2 * y3_35)))) hx hb hK hP 12 rfl h_5 rfl dX7_goGoings_72 ?_
              refine lv_iload hx hb dX7_goGoings_73 (lv_at hl 0 rfl) ?_
              refine lv_icmp_ne (tgt := 80) hx hb dX7_goGoings_75 (by decide) (fun c_6 => ?_) (fun c_6 => ?_)
              · have hR := (if_neg c_6).symm.trans hR
                refine lv_aload_n hx hb dX7_goGoings_80 rfl (lv_at hl 2 rfl) ?_
                refine lv_dup hx hb dX7_goGoings_81 rfl ?_
                refine bw_get (ci := 6) (v := .int (gI z_35 21)) (C := RX7) (T := TX7) (N := 28) hx hb hts i_X7 hown hK hP 0 rfl rfl 21 (by decide) f_151 rfl dX7_goGoings_82 ?_
                refine lv_aload_n hx hb dX7_goGoings_85 rfl (lv_at hl 2 rfl) ?_
                refine bw_get (ci := 6) (v := .ref (ad 12)) (C := RX7) (T := TX7) (N := 28) hx hb hts i_X7 hown hK hP 0 rfl rfl 20 (by decide) f_43 rfl dX7_goGoings_86 ?_
                refine lv_iload hx hb dX7_goGoings_89 (lv_at hl 1 rfl) ?_
                obtain ⟨h_7, hR⟩ := ck_some hR
                refine bw_ald (v := gA z_35 20 (gA z_35 4 (x1 + (2 * y3_35)))) hx hb hK hP 12 rfl h_7 rfl dX7_goGoings_91 ?_
                refine lv_iload hx hb dX7_goGoings_92 (lv_at hl 0 rfl) ?_
                obtain ⟨v_8, e_8, hR⟩ := b1_some hR
                refine bc_i (va_runS (As := [.int (gA z_35 20 (gA z_35 4 (x1 + (2 * y3_35)))), .int (gA z_35 4 ((x1 + (2 * y3_35)) + 1))]) (rest := [.int (gI z_35 21), .ref (ad 0)]) ⟨hx, hb, hml, hown, hts⟩ (c_X7_apart l D cI cO ad _ e_8) (va_cwS 2 hts gX7_goGoings_X7_apart rfl rfl rfl (by decide +kernel) ⟨Nat.le_of_ble_eq_true rfl, Nat.le_of_ble_eq_true rfl⟩) (preS hK hN hP hD) rfl rfl hl.1 rfl (lv_room (Nat.le_of_ble_eq_true rfl)) dX7_goGoings_94 ⟨Nat.zero_le _, Nat.zero_le _⟩) hS hD hA (fun H locs hP hD hS => ?_)
                refine lv_iadd hx hb dX7_goGoings_97 ?_
                refine bw_put (w' := (MW cI ad (sI z_35 21 ((gI z_35 21) + v_8)))) (ci := 6) (C := RX7) (T := TX7) (N := 28) hx hb hts i_X7 tyX7 tyX7_ok nmX7 hown hK hP hD hS 0 rfl rfl 21 (by decide) f_151 rfl rfl (Nat.le_of_ble_eq_true rfl) (MW_i21 cI ad _ _) dX7_goGoings_98 (fun H locs hP hD hS => ?_)
                refine lv_aload_n hx hb dX7_goGoings_101 rfl (lv_at hl 2 rfl) ?_
                refine bw_get (ci := 6) (v := .ref (ad 12)) (C := RX7) (T := TX7) (N := 28) hx hb hts i_X7 hown hK hP 0 rfl rfl 20 (by decide) f_43 rfl dX7_goGoings_102 ?_
                refine lv_iload hx hb dX7_goGoings_105 (lv_at hl 1 rfl) ?_
                refine lv_iload hx hb dX7_goGoings_107 (lv_at hl 0 rfl) ?_
                obtain ⟨h_9, hR⟩ := ck_some hR
                refine bw_ast (w' := (MW cI ad (sA (sI z_35 21 ((gI z_35 21) + v_8)) 20 (gA z_35 4 (x1 + (2 * y3_35))) (gA z_35 4 ((x1 + (2 * y3_35)) + 1))))) hx hb hK hP hD hS 12 rfl h_9 (MW_a20 cI ad _ _) dX7_goGoings_109 (fun H locs hP hD hS => ?_)
                refine lv_iinc (v := y3_35 + 1) (lv' := [(3, .int (y3_35 + 1)), (5, .int (gA z_35 4 ((x1 + (2 * y3_35)) + 1))), (4, .int (gA z_35 4 (x1 + (2 * y3_35)))), (0, .ref (ad 0)), (1, .int x1), (2, .int x2)]) hx hb dX7_goGoings_110 hl (k := 5) rfl rfl (by decide) rfl (fun ls hl => ?_)
                refine lv_goto (tgt := 35) hx hb dX7_goGoings_113 (by decide) ?_
                exact ih_35 _ _ _ _ _ hR hP hD hS (lv_sub hl [3, 4, 5, 0] rfl)
              · have hR := (if_pos c_6).symm.trans hR
                refine lv_iload_n hx hb dX7_goGoings_78 rfl (lv_at hl 5 rfl) ?_
                exact ret_ _ _ _ _ _ _ dX7_goGoings_79  (sp1 hR) (congrArg (fun z => (MW cI ad z)) (sp2 hR)) hP hD hS
        exact lp_35 _ _ _ _ _ _ hR hP hD hS (lv_sub hl [1, 2, 3, 0] rfl)
      · have hR := (if_neg c_1).symm.trans hR
        refine lv_aload_n hx hb dX7_goGoings_15 rfl (lv_at hl 0 rfl) ?_
        refine bw_get (ci := 6) (v := .ref (ad 12)) (C := RX7) (T := TX7) (N := 28) hx hb hts i_X7 hown hK hP 0 rfl rfl 20 (by decide) f_43 rfl dX7_goGoings_16 ?_
        refine lv_iload_n hx hb dX7_goGoings_19 rfl (lv_at hl 3 rfl) ?_
        refine lv_aload_n hx hb dX7_goGoings_20 rfl (lv_at hl 0 rfl) ?_
        refine bw_get (ci := 6) (v := .ref (ad 6)) (C := RX7) (T := TX7) (N := 28) hx hb hts i_X7 hown hK hP 0 rfl rfl 10 (by decide) f_25 rfl dX7_goGoings_21 ?_
        refine lv_iload_n hx hb dX7_goGoings_24 rfl (lv_at hl 3 rfl) ?_
        obtain ⟨h_10, hR⟩ := ck_some hR
        refine bw_ald (v := gA z_7 10 y3_7) hx hb hK hP 6 rfl h_10 rfl dX7_goGoings_25 ?_
        obtain ⟨h_11, hR⟩ := ck_some hR
        refine bw_ast (w' := (MW cI ad (sA z_7 20 y3_7 (gA z_7 10 y3_7)))) hx hb hK hP hD hS 12 rfl h_11 (MW_a20 cI ad _ _) dX7_goGoings_26 (fun H locs hP hD hS => ?_)
        refine lv_iinc (v := y3_7 + 1) (lv' := [(3, .int (y3_7 + 1)), (0, .ref (ad 0)), (1, .int x1), (2, .int x2)]) hx hb dX7_goGoings_27 hl (k := 3) rfl rfl (by decide) rfl (fun ls hl => ?_)
        refine lv_goto (tgt := 7) hx hb dX7_goGoings_30 (by decide) ?_
        exact ih_7 _ _ _ _ _ hR hP hD hS (lv_sub hl [1, 2, 3, 0] rfl)
  exact lp_7 _ _ _ _ _ _ hR hP hD hS (lv_sub hl [1, 2, 3, 0] rfl)
abbrev rm_X7_tellGoings : Room := { frames := 2, cells := 0, slots := 0, locals := 44 }
set_option maxHeartbeats 4000000 in
set_option maxRecDepth 100000 in
theorem c_X7_tellGoings (l : Launch) (D : va_G) (cI cO : ClassId) (ad : Nat → Nat) (sz : Nat) {st : St} {x1 : Int32} {r : Int32} (hR : F_X7_tellGoings st x1 = some r) : CI l yX7_tellGoings wsX7_tellGoings rm_X7_tellGoings D cI cO [.ref (ad 0), .int x1] (MW cI ad st) (MW cI ad st) sz r := by
  refine mk_i (cc := cX7_tellGoings) (maxL := 4) (own := RX7) rfl (by decide) rfl (Nat.le_of_ble_eq_true rfl) ?_
  intro p e s m args below meth c A Q ls hx hb hml hown hts hK hN hA ret_ hP hD hS hl
  have i_X7 : ∀ w ∈ u_ws RX7 TX7 28, w ∈ wsX7_tellGoings := (fun _ h => List.mem_cons_of_mem _ (List.mem_append_right _ h))
  have f_151 := hts (.fieldLink RX7 151 "BellNamesModel" "steps" "I") (by decide +kernel)
  have f_43 := hts (.fieldLink RX7 43 "BellNamesModel" "spotThen" "[I") (by decide +kernel)
  have hl : lv_has ls 4 [(0, .ref (ad 0)), (1, .int x1)] := hl
  unfold F_X7_tellGoings at hR
  refine lv_iload_n hx hb dX7_tellGoings_0 rfl (lv_at hl 1 rfl) ?_
  refine lv_bipush (v := 10) hx hb dX7_tellGoings_1 (by decide) ?_
  refine lv_icmp_lt (tgt := 32) hx hb dX7_tellGoings_3 (by decide) (fun c_1 => ?_) (fun c_1 => ?_)
  · have hR := (if_pos c_1).symm.trans hR
    refine lv_iload_n hx hb dX7_tellGoings_32 rfl (lv_at hl 1 rfl) ?_
    refine lv_iconst (v := 3) hx hb dX7_tellGoings_33 (by decide) ?_
    refine lv_icmp_ge (tgt := 54) hx hb dX7_tellGoings_34 (by decide) (fun c_2 => ?_) (fun c_2 => ?_)
    · have hR := (if_pos c_2).symm.trans hR
      refine lv_iconst (v := 0) hx hb dX7_tellGoings_54 (by decide) ?_
      refine lv_istore_n (lv' := [(2, .int 0), (0, .ref (ad 0)), (1, .int x1)]) hx hb dX7_tellGoings_55 rfl hl (by decide) rfl (fun ls hl => ?_)
      refine lv_iconst (v := 1) hx hb dX7_tellGoings_56 (by decide) ?_
      refine lv_istore_n (lv' := [(3, .int 1), (2, .int 0), (0, .ref (ad 0)), (1, .int x1)]) hx hb dX7_tellGoings_57 rfl hl (by decide) rfl (fun ls hl => ?_)
      have lp_58 : ∀ (n_58 : Nat) (y2_58 : Int32) (y3_58 : Int32) (H : Heap) (locs : List Loc) (ls : Array Slot), L_X7_tellGoings_58 st (fun y2_58 y3_58 => some y2_58) n_58 y2_58 y3_58 = some r → va_P D vwCl (MW cI ad st) H → va_D A (MW cI ad st) → va_S A s.heap H locs → lv_has ls 4 [(0, .ref (ad 0)), (2, .int y2_58), (3, .int y3_58)] → W p l e rm_X7_tellGoings s m args below meth c H locs 0 0 Q (F0 m 58 ls []) := by
        intro n_58
        induction n_58 with
        | zero => intro y2_58 y3_58 H locs ls hR; exact absurd (L_X7_tellGoings_58_z.symm.trans hR) (fun h => nomatch h)
        | succ n_58 ih_58 =>
          intro y2_58 y3_58 H locs ls hR hP hD hS hl
          have hR := L_X7_tellGoings_58_s.symm.trans hR
          refine lv_iload_n hx hb dX7_tellGoings_58 rfl (lv_at hl 2 rfl) ?_
          refine lv_bipush (v := 10) hx hb dX7_tellGoings_59 (by decide) ?_
          refine lv_icmp_ge (tgt := 89) hx hb dX7_tellGoings_61 (by decide) (fun c_3 => ?_) (fun c_3 => ?_)
          · have hR := (if_pos c_3).symm.trans hR
            refine lv_iload_n hx hb dX7_tellGoings_89 rfl (lv_at hl 1 rfl) ?_
            exact ret_ _ _ _ _ _ _ dX7_tellGoings_90  (Option.some.inj hR) rfl hP hD hS
          · have hR := (if_neg c_3).symm.trans hR
            refine lv_aload_n hx hb dX7_tellGoings_64 rfl (lv_at hl 0 rfl) ?_
            refine lv_iload_n hx hb dX7_tellGoings_65 rfl (lv_at hl 2 rfl) ?_
            obtain ⟨v_4, e_4, hR⟩ := b1_some hR
            refine bc_i (va_runV (As := [.int y3_58]) (rest := []) ⟨hx, hb, hml, hown, hts⟩ (c_X7_heardThen l D cI cO ad _ e_4) (cwV 1 hts gX7_tellGoings_X7_heardThen rfl rfl rfl (by decide +kernel) ⟨Nat.le_of_ble_eq_true rfl, Nat.le_of_ble_eq_true rfl⟩) (preV hK hN hP hD (va_recv hK hP (ci := 6) (q0 := 0) rfl rfl)) rfl rfl hl.1 rfl (lv_room (Nat.le_of_ble_eq_true rfl)) dX7_tellGoings_66 ⟨Nat.zero_le _, Nat.zero_le _⟩) hS hD hA (fun H locs hP hD hS => ?_)
            refine lv_aload_n hx hb dX7_tellGoings_69 rfl (lv_at hl 0 rfl) ?_
            refine lv_iload_n hx hb dX7_tellGoings_70 rfl (lv_at hl 1 rfl) ?_
            obtain ⟨v_5, e_5, hR⟩ := b1_some hR
            refine bc_i (va_runV (As := [.int y2_58]) (rest := [.int v_4]) ⟨hx, hb, hml, hown, hts⟩ (c_X7_heardThen l D cI cO ad _ e_5) (cwV 1 hts gX7_tellGoings_X7_heardThen rfl rfl rfl (by decide +kernel) ⟨Nat.le_of_ble_eq_true rfl, Nat.le_of_ble_eq_true rfl⟩) (preV hK hN hP hD (va_recv hK hP (ci := 6) (q0 := 0) rfl rfl)) rfl rfl hl.1 rfl (lv_room (Nat.le_of_ble_eq_true rfl)) dX7_tellGoings_71 ⟨Nat.zero_le _, Nat.zero_le _⟩) hS hD hA (fun H locs hP hD hS => ?_)
            refine lv_icmp_le (tgt := 81) hx hb dX7_tellGoings_74 (by decide) (fun c_6 => ?_) (fun c_6 => ?_)
            · have hR := (if_pos c_6).symm.trans hR
              refine lv_iload_n hx hb dX7_tellGoings_81 rfl (lv_at hl 1 rfl) ?_
              refine lv_istore_n (lv' := [(2, .int y2_58), (0, .ref (ad 0)), (3, .int y3_58)]) hx hb dX7_tellGoings_82 rfl hl (by decide) rfl (fun ls hl => ?_)
              refine lv_iinc (v := y3_58 + 1) (lv' := [(3, .int (y3_58 + 1)), (2, .int y2_58), (0, .ref (ad 0))]) hx hb dX7_tellGoings_83 hl (k := 2) rfl rfl (by decide) rfl (fun ls hl => ?_)
              refine lv_goto (tgt := 58) hx hb dX7_tellGoings_86 (by decide) ?_
              exact ih_58 _ _ _ _ _ hR hP hD hS (lv_sub hl [2, 1, 0] rfl)
            · have hR := (if_neg c_6).symm.trans hR
              refine lv_iload_n hx hb dX7_tellGoings_77 rfl (lv_at hl 2 rfl) ?_
              refine lv_goto (tgt := 82) hx hb dX7_tellGoings_78 (by decide) ?_
              refine lv_istore_n (lv' := [(2, .int y3_58), (0, .ref (ad 0)), (3, .int y3_58)]) hx hb dX7_tellGoings_82 rfl hl (by decide) rfl (fun ls hl => ?_)
              refine lv_iinc (v := y3_58 + 1) (lv' := [(3, .int (y3_58 + 1)), (2, .int y3_58), (0, .ref (ad 0))]) hx hb dX7_tellGoings_83 hl (k := 2) rfl rfl (by decide) rfl (fun ls hl => ?_)
              refine lv_goto (tgt := 58) hx hb dX7_tellGoings_86 (by decide) ?_
              exact ih_58 _ _ _ _ _ hR hP hD hS (lv_sub hl [2, 1, 0] rfl)
      exact lp_58 _ _ _ _ _ _ hR hP hD hS (lv_sub hl [2, 1, 0] rfl)
    · have hR := (if_neg c_2).symm.trans hR
      refine lv_iload_n hx hb dX7_tellGoings_37 rfl (lv_at hl 1 rfl) ?_
      refine lv_if_ne (tgt := 49) hx hb dX7_tellGoings_38 (by decide) (fun c_7 => ?_) (fun c_7 => ?_)
      · have hR := (if_neg c_7).symm.trans hR
        refine lv_aload_n hx hb dX7_tellGoings_49 rfl (lv_at hl 0 rfl) ?_
        refine bw_get (ci := 6) (v := .int (gI st 21)) (C := RX7) (T := TX7) (N := 28) hx hb hts i_X7 hown hK hP 0 rfl rfl 21 (by decide) f_151 rfl dX7_tellGoings_50 ?_
        exact ret_ _ _ _ _ _ _ dX7_tellGoings_53  (Option.some.inj hR) rfl hP hD hS
      · have hR := (if_pos c_7).symm.trans hR
        refine lv_aload_n hx hb dX7_tellGoings_41 rfl (lv_at hl 0 rfl) ?_
        refine lv_iconst (v := 0) hx hb dX7_tellGoings_42 (by decide) ?_
        obtain ⟨v_8, e_8, hR⟩ := b1_some hR
        refine bc_i (va_runV (As := [.int 0]) (rest := []) ⟨hx, hb, hml, hown, hts⟩ (c_X7_heardThen l D cI cO ad _ e_8) (cwV 1 hts gX7_tellGoings_X7_heardThen rfl rfl rfl (by decide +kernel) ⟨Nat.le_of_ble_eq_true rfl, Nat.le_of_ble_eq_true rfl⟩) (preV hK hN hP hD (va_recv hK hP (ci := 6) (q0 := 0) rfl rfl)) rfl rfl hl.1 rfl (lv_room (Nat.le_of_ble_eq_true rfl)) dX7_tellGoings_43 ⟨Nat.zero_le _, Nat.zero_le _⟩) hS hD hA (fun H locs hP hD hS => ?_)
        refine lv_goto (tgt := 53) hx hb dX7_tellGoings_46 (by decide) ?_
        exact ret_ _ _ _ _ _ _ dX7_tellGoings_53  (Option.some.inj hR) rfl hP hD hS
  · have hR := (if_neg c_1).symm.trans hR
    refine lv_aload_n hx hb dX7_tellGoings_6 rfl (lv_at hl 0 rfl) ?_
    refine lv_iload_n hx hb dX7_tellGoings_7 rfl (lv_at hl 1 rfl) ?_
    refine lv_bipush (v := 10) hx hb dX7_tellGoings_8 (by decide) ?_
    refine lv_isub hx hb dX7_tellGoings_10 ?_
    obtain ⟨v_9, e_9, hR⟩ := b1_some hR
    refine bc_z (va_runV (As := [.int (x1 - 10)]) (rest := []) ⟨hx, hb, hml, hown, hts⟩ (c_X7_isBell l D cI cO ad _ e_9) (cwV 1 hts gX7_tellGoings_X7_isBell rfl rfl rfl (by decide +kernel) ⟨Nat.le_of_ble_eq_true rfl, Nat.le_of_ble_eq_true rfl⟩) (preV hK hN hP hD (va_recv hK hP (ci := 6) (q0 := 0) rfl rfl)) rfl rfl hl.1 rfl (lv_room (Nat.le_of_ble_eq_true rfl)) dX7_tellGoings_11 ⟨Nat.zero_le _, Nat.zero_le _⟩) hS hD hA (fun H locs hP hD hS n_9 => ?_)
    refine lv_if_eq (tgt := 29) hx hb dX7_tellGoings_14 (by decide) (fun c_10 => ?_) (fun c_10 => ?_)
    · have hR := (if_pos c_10).symm.trans hR
      refine lv_bipush (v := (-9)) hx hb dX7_tellGoings_29 (by decide) ?_
      exact ret_ _ _ _ _ _ _ dX7_tellGoings_31  (Option.some.inj hR) rfl hP hD hS
    · have hR := (if_neg c_10).symm.trans hR
      refine lv_aload_n hx hb dX7_tellGoings_17 rfl (lv_at hl 0 rfl) ?_
      refine bw_get (ci := 6) (v := .ref (ad 12)) (C := RX7) (T := TX7) (N := 28) hx hb hts i_X7 hown hK hP 0 rfl rfl 20 (by decide) f_43 rfl dX7_tellGoings_18 ?_
      refine lv_iload_n hx hb dX7_tellGoings_21 rfl (lv_at hl 1 rfl) ?_
      refine lv_bipush (v := 10) hx hb dX7_tellGoings_22 (by decide) ?_
      refine lv_isub hx hb dX7_tellGoings_24 ?_
      obtain ⟨h_11, hR⟩ := ck_some hR
      refine bw_ald (v := gA st 20 (x1 - 10)) hx hb hK hP 12 rfl h_11 rfl dX7_tellGoings_25 ?_
      refine lv_goto (tgt := 31) hx hb dX7_tellGoings_26 (by decide) ?_
      exact ret_ _ _ _ _ _ _ dX7_tellGoings_31  (Option.some.inj hR) rfl hP hD hS
abbrev rm_X7_goings : Room := { frames := 3, cells := 0, slots := 0, locals := 67 }
set_option maxHeartbeats 4000000 in
set_option maxRecDepth 100000 in
theorem c_X7_goings (l : Launch) (D : va_G) (cI cO : ClassId) (ad : Nat → Nat) (sz : Nat) {st : St} {x1 : Int32} {x2 : Int32} {x3 : Int32} {x4 : Int32} {x5 : Int32} {r : Int32} {s2 : St} (hR : F_X7_goings st x1 x2 x3 x4 x5 = some (r, s2)) : CI l yX7_goings wsX7_goings rm_X7_goings D cI cO [.ref (ad 0), .int x1, .int x2, .int x3, .int x4, .int x5] (MW cI ad st) (MW cI ad s2) sz r := by
  refine mk_i (cc := cX7_goings) (maxL := 9) (own := RX7) rfl (by decide) rfl (Nat.le_of_ble_eq_true rfl) ?_
  intro p e s m args below meth c A Q ls hx hb hml hown hts hK hN hA ret_ hP hD hS hl
  have i_X7 : ∀ w ∈ u_ws RX7 TX7 28, w ∈ wsX7_goings := (fun _ h => List.mem_cons_of_mem _ (List.mem_append_right _ h))
  have f_61 := hts (.fieldLink RX7 61 "BellNamesModel" "fault" "I") (by decide +kernel)
  have f_71 := hts (.fieldLink RX7 71 "BellNamesModel" "bells" "I") (by decide +kernel)
  have f_16 := hts (.fieldLink RX7 16 "BellNamesModel" "cells" "[I") (by decide +kernel)
  have hl : lv_has ls 9 [(0, .ref (ad 0)), (1, .int x1), (2, .int x2), (3, .int x3), (4, .int x4), (5, .int x5)] := hl
  unfold F_X7_goings at hR
  refine lv_aload_n hx hb dX7_goings_0 rfl (lv_at hl 0 rfl) ?_
  refine lv_iconst (v := 0) hx hb dX7_goings_1 (by decide) ?_
  refine bw_put (w' := (MW cI ad (sI st 0 0))) (ci := 6) (C := RX7) (T := TX7) (N := 28) hx hb hts i_X7 tyX7 tyX7_ok nmX7 hown hK hP hD hS 0 rfl rfl 0 (by decide) f_61 rfl rfl (Nat.le_of_ble_eq_true rfl) (MW_i0 cI ad _ _) dX7_goings_2 (fun H locs hP hD hS => ?_)
  refine lv_iload_n hx hb dX7_goings_5 rfl (lv_at hl 1 rfl) ?_
  obtain ⟨v_1, e_1, hR⟩ := b1_some hR
  refine bc_z (va_runS (As := [.int x1]) (rest := []) ⟨hx, hb, hml, hown, hts⟩ (c_X7_isSheet l D cI cO ad _ e_1) (va_cwS 1 hts gX7_goings_X7_isSheet rfl rfl rfl (by decide +kernel) ⟨Nat.le_of_ble_eq_true rfl, Nat.le_of_ble_eq_true rfl⟩) (preS hK hN hP hD) rfl rfl hl.1 rfl (lv_room (Nat.le_of_ble_eq_true rfl)) dX7_goings_6 ⟨Nat.zero_le _, Nat.zero_le _⟩) hS hD hA (fun H locs hP hD hS n_1 => ?_)
  refine lv_if_ne (tgt := 14) hx hb dX7_goings_9 (by decide) (fun c_2 => ?_) (fun c_2 => ?_)
  · have hR := (if_neg c_2).symm.trans hR
    refine lv_iload_n hx hb dX7_goings_14 rfl (lv_at hl 2 rfl) ?_
    obtain ⟨v_3, e_3, hR⟩ := b1_some hR
    refine bc_z (va_runS (As := [.int x2]) (rest := []) ⟨hx, hb, hml, hown, hts⟩ (c_X7_isSort l D cI cO ad _ e_3) (va_cwS 1 hts gX7_goings_X7_isSort rfl rfl rfl (by decide +kernel) ⟨Nat.le_of_ble_eq_true rfl, Nat.le_of_ble_eq_true rfl⟩) (preS hK hN hP hD) rfl rfl hl.1 rfl (lv_room (Nat.le_of_ble_eq_true rfl)) dX7_goings_15 ⟨Nat.zero_le _, Nat.zero_le _⟩) hS hD hA (fun H locs hP hD hS n_3 => ?_)
    refine lv_if_eq (tgt := 54) hx hb dX7_goings_18 (by decide) (fun c_4 => ?_) (fun c_4 => ?_)
    · have hR := (if_pos c_4).symm.trans hR
      refine lv_bipush (v := (-2)) hx hb dX7_goings_54 (by decide) ?_
      exact ret_ _ _ _ _ _ _ dX7_goings_56  (sp1 hR) (congrArg (fun z => (MW cI ad z)) (sp2 hR)) hP hD hS
    · have hR := (if_neg c_4).symm.trans hR
      refine lv_iload hx hb dX7_goings_21 (lv_at hl 4 rfl) ?_
      refine lv_iconst (v := 0) hx hb dX7_goings_23 (by decide) ?_
      refine lv_bipush (v := 20) hx hb dX7_goings_24 (by decide) ?_
      obtain ⟨v_5, e_5, hR⟩ := b1_some hR
      refine bc_z (va_runS (As := [.int x4, .int 0, .int 20]) (rest := []) ⟨hx, hb, hml, hown, hts⟩ (c_X7_within l D cI cO ad _ e_5) (va_cwS 3 hts gX7_goings_X7_within rfl rfl rfl (by decide +kernel) ⟨Nat.le_of_ble_eq_true rfl, Nat.le_of_ble_eq_true rfl⟩) (preS hK hN hP hD) rfl rfl hl.1 rfl (lv_room (Nat.le_of_ble_eq_true rfl)) dX7_goings_26 ⟨Nat.zero_le _, Nat.zero_le _⟩) hS hD hA (fun H locs hP hD hS n_5 => ?_)
      refine lv_if_eq (tgt := 54) hx hb dX7_goings_29 (by decide) (fun c_6 => ?_) (fun c_6 => ?_)
      · have hR := (if_pos c_6).symm.trans hR
        refine lv_bipush (v := (-2)) hx hb dX7_goings_54 (by decide) ?_
        exact ret_ _ _ _ _ _ _ dX7_goings_56  (sp1 hR) (congrArg (fun z => (MW cI ad z)) (sp2 hR)) hP hD hS
      · have hR := (if_neg c_6).symm.trans hR
        refine lv_iload hx hb dX7_goings_32 (lv_at hl 5 rfl) ?_
        refine lv_iconst (v := 0) hx hb dX7_goings_34 (by decide) ?_
        refine lv_iconst (v := 3) hx hb dX7_goings_35 (by decide) ?_
        obtain ⟨v_7, e_7, hR⟩ := b1_some hR
        refine bc_z (va_runS (As := [.int x5, .int 0, .int 3]) (rest := []) ⟨hx, hb, hml, hown, hts⟩ (c_X7_within l D cI cO ad _ e_7) (va_cwS 3 hts gX7_goings_X7_within rfl rfl rfl (by decide +kernel) ⟨Nat.le_of_ble_eq_true rfl, Nat.le_of_ble_eq_true rfl⟩) (preS hK hN hP hD) rfl rfl hl.1 rfl (lv_room (Nat.le_of_ble_eq_true rfl)) dX7_goings_36 ⟨Nat.zero_le _, Nat.zero_le _⟩) hS hD hA (fun H locs hP hD hS n_7 => ?_)
        refine lv_if_ne (tgt := 57) hx hb dX7_goings_39 (by decide) (fun c_8 => ?_) (fun c_8 => ?_)
        · have hR := (if_neg c_8).symm.trans hR
          refine lv_aload_n hx hb dX7_goings_57 rfl (lv_at hl 0 rfl) ?_
          refine lv_iload_n hx hb dX7_goings_58 rfl (lv_at hl 1 rfl) ?_
          refine lv_iload_n hx hb dX7_goings_59 rfl (lv_at hl 2 rfl) ?_
          refine lv_iload_n hx hb dX7_goings_60 rfl (lv_at hl 3 rfl) ?_
          refine lv_iconst (v := 2) hx hb dX7_goings_61 (by decide) ?_
          refine lv_iload hx hb dX7_goings_62 (lv_at hl 4 rfl) ?_
          refine lv_imul hx hb dX7_goings_64 ?_
          obtain ⟨v_9, e_9, hR⟩ := b1_some hR
          refine bc_i (va_runV (As := [.int x1, .int x2, .int x3, .int (2 * x4)]) (rest := []) ⟨hx, hb, hml, hown, hts⟩ (c_X7_against l D cI cO ad _ e_9) (cwV 4 hts gX7_goings_X7_against rfl rfl rfl (by decide +kernel) ⟨Nat.le_of_ble_eq_true rfl, Nat.le_of_ble_eq_true rfl⟩) (preV hK hN hP hD (va_recv hK hP (ci := 6) (q0 := 0) rfl rfl)) rfl rfl hl.1 rfl (lv_room (Nat.le_of_ble_eq_true rfl)) dX7_goings_65 ⟨Nat.zero_le _, Nat.zero_le _⟩) hS hD hA (fun H locs hP hD hS => ?_)
          refine lv_istore (lv' := [(6, .int v_9), (0, .ref (ad 0)), (1, .int x1), (2, .int x2), (3, .int x3), (4, .int x4), (5, .int x5)]) hx hb dX7_goings_68 hl (by decide) rfl (fun ls hl => ?_)
          refine lv_iload hx hb dX7_goings_70 (lv_at hl 0 rfl) ?_
          refine lv_if_eq (tgt := 82) hx hb dX7_goings_72 (by decide) (fun c_10 => ?_) (fun c_10 => ?_)
          · have hR := (if_pos c_10).symm.trans hR
            refine lv_aload_n hx hb dX7_goings_82 rfl (lv_at hl 1 rfl) ?_
            refine bw_get (ci := 6) (v := .int (gI (sI st 0 0) 5)) (C := RX7) (T := TX7) (N := 28) hx hb hts i_X7 hown hK hP 0 rfl rfl 5 (by decide) f_71 rfl dX7_goings_83 ?_
            refine lv_if_ne (tgt := 92) hx hb dX7_goings_86 (by decide) (fun c_11 => ?_) (fun c_11 => ?_)
            · have hR := (if_neg c_11).symm.trans hR
              refine lv_bipush (v := 60) hx hb dX7_goings_92 (by decide) ?_
              refine lv_iload_n hx hb dX7_goings_94 rfl (lv_at hl 2 rfl) ?_
              refine lv_imul hx hb dX7_goings_95 ?_
              refine lv_iload_n hx hb dX7_goings_96 rfl (lv_at hl 4 rfl) ?_
              refine lv_iadd hx hb dX7_goings_97 ?_
              refine lv_istore (lv' := [(7, .int ((60 * x1) + x3)), (6, .int v_9), (0, .ref (ad 0)), (1, .int x1), (2, .int x2), (3, .int x3), (4, .int x4), (5, .int x5)]) hx hb dX7_goings_98 hl (by decide) rfl (fun ls hl => ?_)
              refine lv_iconst (v := 0) hx hb dX7_goings_100 (by decide) ?_
              refine lv_istore (lv' := [(8, .int 0), (7, .int ((60 * x1) + x3)), (6, .int v_9), (0, .ref (ad 0)), (1, .int x1), (2, .int x2), (3, .int x3), (4, .int x4), (5, .int x5)]) hx hb dX7_goings_101 hl (by decide) rfl (fun ls hl => ?_)
              have lp_103 : ∀ (n_103 : Nat) (y8_103 : Int32) (H : Heap) (locs : List Loc) (ls : Array Slot), L_X7_goings_103 st x1 x3 x4 (fun y8_103 => b2 (F_X7_goGoings (sI st 0 0) ((60 * x1) + x3) x4) (fun v_13 s_13 => if x5 = 1 then some (v_13, s_13) else if v_13 = (-9) then b1 (F_X7_tellGoings s_13 x5) (fun v_16 => some (v_16, s_13)) else some ((-100) - v_13, s_13))) n_103 y8_103 = some (r, s2) → va_P D vwCl (MW cI ad (sI st 0 0)) H → va_D A (MW cI ad (sI st 0 0)) → va_S A s.heap H locs → lv_has ls 9 [(0, .ref (ad 0)), (4, .int x4), (5, .int x5), (7, .int ((60 * x1) + x3)), (8, .int y8_103)] → W p l e rm_X7_goings s m args below meth c H locs 0 0 Q (F0 m 103 ls []) := by
                intro n_103
                induction n_103 with
                | zero => intro y8_103 H locs ls hR; exact absurd (L_X7_goings_103_z.symm.trans hR) (fun h => nomatch h)
                | succ n_103 ih_103 =>
                  intro y8_103 H locs ls hR hP hD hS hl
                  have hR := L_X7_goings_103_s.symm.trans hR
                  refine lv_iload hx hb dX7_goings_103 (lv_at hl 4 rfl) ?_
                  refine lv_iload hx hb dX7_goings_105 (lv_at hl 1 rfl) ?_
                  refine lv_icmp_ge (tgt := 160) hx hb dX7_goings_107 (by decide) (fun c_12 => ?_) (fun c_12 => ?_)
                  · have hR := (if_pos c_12).symm.trans hR
                    refine lv_aload_n hx hb dX7_goings_160 rfl (lv_at hl 0 rfl) ?_
                    refine lv_iload hx hb dX7_goings_161 (lv_at hl 3 rfl) ?_
                    refine lv_iload hx hb dX7_goings_163 (lv_at hl 1 rfl) ?_
                    obtain ⟨v_13, s_13, e_13, hR⟩ := b2_some hR
                    refine bc_i (va_runV (As := [.int ((60 * x1) + x3), .int x4]) (rest := []) ⟨hx, hb, hml, hown, hts⟩ (c_X7_goGoings l D cI cO ad _ e_13) (cwV 2 hts gX7_goings_X7_goGoings rfl rfl rfl (by decide +kernel) ⟨Nat.le_of_ble_eq_true rfl, Nat.le_of_ble_eq_true rfl⟩) (preV hK hN hP hD (va_recv hK hP (ci := 6) (q0 := 0) rfl rfl)) rfl rfl hl.1 rfl (lv_room (Nat.le_of_ble_eq_true rfl)) dX7_goings_165 ⟨Nat.zero_le _, Nat.zero_le _⟩) hS hD hA (fun H locs hP hD hS => ?_)
                    refine lv_istore (lv' := [(8, .int v_13), (0, .ref (ad 0)), (4, .int x4), (5, .int x5), (7, .int ((60 * x1) + x3))]) hx hb dX7_goings_168 hl (by decide) rfl (fun ls hl => ?_)
                    refine lv_iload hx hb dX7_goings_170 (lv_at hl 3 rfl) ?_
                    refine lv_iconst (v := 1) hx hb dX7_goings_172 (by decide) ?_
                    refine lv_icmp_ne (tgt := 179) hx hb dX7_goings_173 (by decide) (fun c_14 => ?_) (fun c_14 => ?_)
                    · have hR := (if_neg c_14).symm.trans hR
                      refine lv_iload hx hb dX7_goings_179 (lv_at hl 0 rfl) ?_
                      refine lv_bipush (v := (-9)) hx hb dX7_goings_181 (by decide) ?_
                      refine lv_icmp_ne (tgt := 195) hx hb dX7_goings_183 (by decide) (fun c_15 => ?_) (fun c_15 => ?_)
                      · have hR := (if_neg c_15).symm.trans hR
                        refine lv_bipush (v := (-100)) hx hb dX7_goings_195 (by decide) ?_
                        refine lv_iload hx hb dX7_goings_197 (lv_at hl 0 rfl) ?_
                        refine lv_isub hx hb dX7_goings_199 ?_
                        exact ret_ _ _ _ _ _ _ dX7_goings_200  (sp1 hR) (congrArg (fun z => (MW cI ad z)) (sp2 hR)) hP hD hS
                      · have hR := (if_pos c_15).symm.trans hR
                        refine lv_aload_n hx hb dX7_goings_186 rfl (lv_at hl 1 rfl) ?_
                        refine lv_iload hx hb dX7_goings_187 (lv_at hl 3 rfl) ?_
                        obtain ⟨v_16, e_16, hR⟩ := b1_some hR
                        refine bc_i (va_runV (As := [.int x5]) (rest := []) ⟨hx, hb, hml, hown, hts⟩ (c_X7_tellGoings l D cI cO ad _ e_16) (cwV 1 hts gX7_goings_X7_tellGoings rfl rfl rfl (by decide +kernel) ⟨Nat.le_of_ble_eq_true rfl, Nat.le_of_ble_eq_true rfl⟩) (preV hK hN hP hD (va_recv hK hP (ci := 6) (q0 := 0) rfl rfl)) rfl rfl hl.1 rfl (lv_room (Nat.le_of_ble_eq_true rfl)) dX7_goings_189 ⟨Nat.zero_le _, Nat.zero_le _⟩) hS hD hA (fun H locs hP hD hS => ?_)
                        refine lv_goto (tgt := 200) hx hb dX7_goings_192 (by decide) ?_
                        exact ret_ _ _ _ _ _ _ dX7_goings_200  (sp1 hR) (congrArg (fun z => (MW cI ad z)) (sp2 hR)) hP hD hS
                    · have hR := (if_pos c_14).symm.trans hR
                      refine lv_iload hx hb dX7_goings_176 (lv_at hl 0 rfl) ?_
                      exact ret_ _ _ _ _ _ _ dX7_goings_178  (sp1 hR) (congrArg (fun z => (MW cI ad z)) (sp2 hR)) hP hD hS
                  · have hR := (if_neg c_12).symm.trans hR
                    refine lv_aload_n hx hb dX7_goings_110 rfl (lv_at hl 0 rfl) ?_
                    refine lv_aload_n hx hb dX7_goings_111 rfl (lv_at hl 0 rfl) ?_
                    refine bw_get (ci := 6) (v := .ref (ad 3)) (C := RX7) (T := TX7) (N := 28) hx hb hts i_X7 hown hK hP 0 rfl rfl 4 (by decide) f_16 rfl dX7_goings_112 ?_
                    refine lv_iload hx hb dX7_goings_115 (lv_at hl 3 rfl) ?_
                    refine lv_iconst (v := 2) hx hb dX7_goings_117 (by decide) ?_
                    refine lv_iload hx hb dX7_goings_118 (lv_at hl 4 rfl) ?_
                    refine lv_imul hx hb dX7_goings_120 ?_
                    refine lv_iadd hx hb dX7_goings_121 ?_
                    obtain ⟨h_17, hR⟩ := ck_some hR
                    refine bw_ald (v := gA (sI st 0 0) 4 (((60 * x1) + x3) + (2 * y8_103))) hx hb hK hP 3 rfl h_17 rfl dX7_goings_122 ?_
                    obtain ⟨v_18, e_18, hR⟩ := b1_some hR
                    refine bc_z (va_runV (As := [.int (gA (sI st 0 0) 4 (((60 * x1) + x3) + (2 * y8_103)))]) (rest := []) ⟨hx, hb, hml, hown, hts⟩ (c_X7_isBell l D cI cO ad _ e_18) (cwV 1 hts gX7_goings_X7_isBell rfl rfl rfl (by decide +kernel) ⟨Nat.le_of_ble_eq_true rfl, Nat.le_of_ble_eq_true rfl⟩) (preV hK hN hP hD (va_recv hK hP (ci := 6) (q0 := 0) rfl rfl)) rfl rfl hl.1 rfl (lv_room (Nat.le_of_ble_eq_true rfl)) dX7_goings_123 ⟨Nat.zero_le _, Nat.zero_le _⟩) hS hD hA (fun H locs hP hD hS n_18 => ?_)
                    refine lv_if_ne (tgt := 131) hx hb dX7_goings_126 (by decide) (fun c_19 => ?_) (fun c_19 => ?_)
                    · have hR := (if_neg c_19).symm.trans hR
                      refine lv_aload_n hx hb dX7_goings_131 rfl (lv_at hl 0 rfl) ?_
                      refine bw_get (ci := 6) (v := .ref (ad 3)) (C := RX7) (T := TX7) (N := 28) hx hb hts i_X7 hown hK hP 0 rfl rfl 4 (by decide) f_16 rfl dX7_goings_132 ?_
                      refine lv_iload hx hb dX7_goings_135 (lv_at hl 3 rfl) ?_
                      refine lv_iconst (v := 2) hx hb dX7_goings_137 (by decide) ?_
                      refine lv_iload hx hb dX7_goings_138 (lv_at hl 4 rfl) ?_
                      refine lv_imul hx hb dX7_goings_140 ?_
                      refine lv_iadd hx hb dX7_goings_141 ?_
                      refine lv_iconst (v := 1) hx hb dX7_goings_142 (by decide) ?_
                      refine lv_iadd hx hb dX7_goings_143 ?_
                      obtain ⟨h_20, hR⟩ := ck_some hR
                      refine bw_ald (v := gA (sI st 0 0) 4 ((((60 * x1) + x3) + (2 * y8_103)) + 1)) hx hb hK hP 3 rfl h_20 rfl dX7_goings_144 ?_
                      obtain ⟨v_21, e_21, hR⟩ := b1_some hR
                      refine bc_z (va_runS (As := [.int (gA (sI st 0 0) 4 ((((60 * x1) + x3) + (2 * y8_103)) + 1))]) (rest := []) ⟨hx, hb, hml, hown, hts⟩ (c_X7_isDigit l D cI cO ad _ e_21) (va_cwS 1 hts gX7_goings_X7_isDigit rfl rfl rfl (by decide +kernel) ⟨Nat.le_of_ble_eq_true rfl, Nat.le_of_ble_eq_true rfl⟩) (preS hK hN hP hD) rfl rfl hl.1 rfl (lv_room (Nat.le_of_ble_eq_true rfl)) dX7_goings_145 ⟨Nat.zero_le _, Nat.zero_le _⟩) hS hD hA (fun H locs hP hD hS n_21 => ?_)
                      refine lv_if_ne (tgt := 154) hx hb dX7_goings_148 (by decide) (fun c_22 => ?_) (fun c_22 => ?_)
                      · have hR := (if_neg c_22).symm.trans hR
                        refine lv_iinc (v := y8_103 + 1) (lv' := [(8, .int (y8_103 + 1)), (0, .ref (ad 0)), (4, .int x4), (5, .int x5), (7, .int ((60 * x1) + x3))]) hx hb dX7_goings_154 hl (k := 4) rfl rfl (by decide) rfl (fun ls hl => ?_)
                        refine lv_goto (tgt := 103) hx hb dX7_goings_157 (by decide) ?_
                        exact ih_103 _ _ _ _ hR hP hD hS (lv_sub hl [1, 2, 3, 4, 0] rfl)
                      · have hR := (if_pos c_22).symm.trans hR
                        refine lv_bipush (v := (-2)) hx hb dX7_goings_151 (by decide) ?_
                        exact ret_ _ _ _ _ _ _ dX7_goings_153  (sp1 hR) (congrArg (fun z => (MW cI ad z)) (sp2 hR)) hP hD hS
                    · have hR := (if_pos c_19).symm.trans hR
                      refine lv_iconst (v := (-1)) hx hb dX7_goings_129 (by decide) ?_
                      exact ret_ _ _ _ _ _ _ dX7_goings_130  (sp1 hR) (congrArg (fun z => (MW cI ad z)) (sp2 hR)) hP hD hS
              exact lp_103 _ _ _ _ _ hR hP hD hS (lv_sub hl [3, 7, 8, 1, 0] rfl)
            · have hR := (if_pos c_11).symm.trans hR
              refine lv_bipush (v := (-3)) hx hb dX7_goings_89 (by decide) ?_
              exact ret_ _ _ _ _ _ _ dX7_goings_91  (sp1 hR) (congrArg (fun z => (MW cI ad z)) (sp2 hR)) hP hD hS
          · have hR := (if_neg c_10).symm.trans hR
            refine lv_aload_n hx hb dX7_goings_75 rfl (lv_at hl 1 rfl) ?_
            refine lv_iload hx hb dX7_goings_76 (lv_at hl 0 rfl) ?_
            obtain ⟨v_23, s_23, e_23, hR⟩ := b2_some hR
            refine bc_i (va_runV (As := [.int v_9]) (rest := []) ⟨hx, hb, hml, hown, hts⟩ (c_X7_fails l D cI cO ad _ e_23) (cwV 1 hts gX7_goings_X7_fails rfl rfl rfl (by decide +kernel) ⟨Nat.le_of_ble_eq_true rfl, Nat.le_of_ble_eq_true rfl⟩) (preV hK hN hP hD (va_recv hK hP (ci := 6) (q0 := 0) rfl rfl)) rfl rfl hl.1 rfl (lv_room (Nat.le_of_ble_eq_true rfl)) dX7_goings_78 ⟨Nat.zero_le _, Nat.zero_le _⟩) hS hD hA (fun H locs hP hD hS => ?_)
            exact ret_ _ _ _ _ _ _ dX7_goings_81  (sp1 hR) (congrArg (fun z => (MW cI ad z)) (sp2 hR)) hP hD hS
        · have hR := (if_pos c_8).symm.trans hR
          refine lv_iload hx hb dX7_goings_42 (lv_at hl 5 rfl) ?_
          refine lv_bipush (v := 10) hx hb dX7_goings_44 (by decide) ?_
          refine lv_bipush (v := 14) hx hb dX7_goings_46 (by decide) ?_
          obtain ⟨v_24, e_24, hR⟩ := b1_some hR
          refine bc_z (va_runS (As := [.int x5, .int 10, .int 14]) (rest := []) ⟨hx, hb, hml, hown, hts⟩ (c_X7_within l D cI cO ad _ e_24) (va_cwS 3 hts gX7_goings_X7_within rfl rfl rfl (by decide +kernel) ⟨Nat.le_of_ble_eq_true rfl, Nat.le_of_ble_eq_true rfl⟩) (preS hK hN hP hD) rfl rfl hl.1 rfl (lv_room (Nat.le_of_ble_eq_true rfl)) dX7_goings_48 ⟨Nat.zero_le _, Nat.zero_le _⟩) hS hD hA (fun H locs hP hD hS n_24 => ?_)
          refine lv_if_ne (tgt := 57) hx hb dX7_goings_51 (by decide) (fun c_25 => ?_) (fun c_25 => ?_)
          · have hR := (if_neg c_25).symm.trans hR
            refine lv_aload_n hx hb dX7_goings_57 rfl (lv_at hl 0 rfl) ?_
            refine lv_iload_n hx hb dX7_goings_58 rfl (lv_at hl 1 rfl) ?_
            refine lv_iload_n hx hb dX7_goings_59 rfl (lv_at hl 2 rfl) ?_
            refine lv_iload_n hx hb dX7_goings_60 rfl (lv_at hl 3 rfl) ?_
            refine lv_iconst (v := 2) hx hb dX7_goings_61 (by decide) ?_
            refine lv_iload hx hb dX7_goings_62 (lv_at hl 4 rfl) ?_
            refine lv_imul hx hb dX7_goings_64 ?_
            obtain ⟨v_26, e_26, hR⟩ := b1_some hR
            refine bc_i (va_runV (As := [.int x1, .int x2, .int x3, .int (2 * x4)]) (rest := []) ⟨hx, hb, hml, hown, hts⟩ (c_X7_against l D cI cO ad _ e_26) (cwV 4 hts gX7_goings_X7_against rfl rfl rfl (by decide +kernel) ⟨Nat.le_of_ble_eq_true rfl, Nat.le_of_ble_eq_true rfl⟩) (preV hK hN hP hD (va_recv hK hP (ci := 6) (q0 := 0) rfl rfl)) rfl rfl hl.1 rfl (lv_room (Nat.le_of_ble_eq_true rfl)) dX7_goings_65 ⟨Nat.zero_le _, Nat.zero_le _⟩) hS hD hA (fun H locs hP hD hS => ?_)
            refine lv_istore (lv' := [(6, .int v_26), (0, .ref (ad 0)), (1, .int x1), (2, .int x2), (3, .int x3), (4, .int x4), (5, .int x5)]) hx hb dX7_goings_68 hl (by decide) rfl (fun ls hl => ?_)
            refine lv_iload hx hb dX7_goings_70 (lv_at hl 0 rfl) ?_
            refine lv_if_eq (tgt := 82) hx hb dX7_goings_72 (by decide) (fun c_27 => ?_) (fun c_27 => ?_)
            · have hR := (if_pos c_27).symm.trans hR
              refine lv_aload_n hx hb dX7_goings_82 rfl (lv_at hl 1 rfl) ?_
              refine bw_get (ci := 6) (v := .int (gI (sI st 0 0) 5)) (C := RX7) (T := TX7) (N := 28) hx hb hts i_X7 hown hK hP 0 rfl rfl 5 (by decide) f_71 rfl dX7_goings_83 ?_
              refine lv_if_ne (tgt := 92) hx hb dX7_goings_86 (by decide) (fun c_28 => ?_) (fun c_28 => ?_)
              · have hR := (if_neg c_28).symm.trans hR
                refine lv_bipush (v := 60) hx hb dX7_goings_92 (by decide) ?_
                refine lv_iload_n hx hb dX7_goings_94 rfl (lv_at hl 2 rfl) ?_
                refine lv_imul hx hb dX7_goings_95 ?_
                refine lv_iload_n hx hb dX7_goings_96 rfl (lv_at hl 4 rfl) ?_
                refine lv_iadd hx hb dX7_goings_97 ?_
                refine lv_istore (lv' := [(7, .int ((60 * x1) + x3)), (6, .int v_26), (0, .ref (ad 0)), (1, .int x1), (2, .int x2), (3, .int x3), (4, .int x4), (5, .int x5)]) hx hb dX7_goings_98 hl (by decide) rfl (fun ls hl => ?_)
                refine lv_iconst (v := 0) hx hb dX7_goings_100 (by decide) ?_
                refine lv_istore (lv' := [(8, .int 0), (7, .int ((60 * x1) + x3)), (6, .int v_26), (0, .ref (ad 0)), (1, .int x1), (2, .int x2), (3, .int x3), (4, .int x4), (5, .int x5)]) hx hb dX7_goings_101 hl (by decide) rfl (fun ls hl => ?_)
                have lp_103 : ∀ (n_103 : Nat) (y8_103 : Int32) (H : Heap) (locs : List Loc) (ls : Array Slot), L_X7_goings_103 st x1 x3 x4 (fun y8_103 => b2 (F_X7_goGoings (sI st 0 0) ((60 * x1) + x3) x4) (fun v_30 s_30 => if x5 = 1 then some (v_30, s_30) else if v_30 = (-9) then b1 (F_X7_tellGoings s_30 x5) (fun v_33 => some (v_33, s_30)) else some ((-100) - v_30, s_30))) n_103 y8_103 = some (r, s2) → va_P D vwCl (MW cI ad (sI st 0 0)) H → va_D A (MW cI ad (sI st 0 0)) → va_S A s.heap H locs → lv_has ls 9 [(0, .ref (ad 0)), (4, .int x4), (5, .int x5), (7, .int ((60 * x1) + x3)), (8, .int y8_103)] → W p l e rm_X7_goings s m args below meth c H locs 0 0 Q (F0 m 103 ls []) := by
                  intro n_103
                  induction n_103 with
                  | zero => intro y8_103 H locs ls hR; exact absurd (L_X7_goings_103_z.symm.trans hR) (fun h => nomatch h)
                  | succ n_103 ih_103 =>
                    intro y8_103 H locs ls hR hP hD hS hl
                    have hR := L_X7_goings_103_s.symm.trans hR
                    refine lv_iload hx hb dX7_goings_103 (lv_at hl 4 rfl) ?_
                    refine lv_iload hx hb dX7_goings_105 (lv_at hl 1 rfl) ?_
                    refine lv_icmp_ge (tgt := 160) hx hb dX7_goings_107 (by decide) (fun c_29 => ?_) (fun c_29 => ?_)
                    · have hR := (if_pos c_29).symm.trans hR
                      refine lv_aload_n hx hb dX7_goings_160 rfl (lv_at hl 0 rfl) ?_
                      refine lv_iload hx hb dX7_goings_161 (lv_at hl 3 rfl) ?_
                      refine lv_iload hx hb dX7_goings_163 (lv_at hl 1 rfl) ?_
                      obtain ⟨v_30, s_30, e_30, hR⟩ := b2_some hR
                      refine bc_i (va_runV (As := [.int ((60 * x1) + x3), .int x4]) (rest := []) ⟨hx, hb, hml, hown, hts⟩ (c_X7_goGoings l D cI cO ad _ e_30) (cwV 2 hts gX7_goings_X7_goGoings rfl rfl rfl (by decide +kernel) ⟨Nat.le_of_ble_eq_true rfl, Nat.le_of_ble_eq_true rfl⟩) (preV hK hN hP hD (va_recv hK hP (ci := 6) (q0 := 0) rfl rfl)) rfl rfl hl.1 rfl (lv_room (Nat.le_of_ble_eq_true rfl)) dX7_goings_165 ⟨Nat.zero_le _, Nat.zero_le _⟩) hS hD hA (fun H locs hP hD hS => ?_)
                      refine lv_istore (lv' := [(8, .int v_30), (0, .ref (ad 0)), (4, .int x4), (5, .int x5), (7, .int ((60 * x1) + x3))]) hx hb dX7_goings_168 hl (by decide) rfl (fun ls hl => ?_)
                      refine lv_iload hx hb dX7_goings_170 (lv_at hl 3 rfl) ?_
                      refine lv_iconst (v := 1) hx hb dX7_goings_172 (by decide) ?_
                      refine lv_icmp_ne (tgt := 179) hx hb dX7_goings_173 (by decide) (fun c_31 => ?_) (fun c_31 => ?_)
                      · have hR := (if_neg c_31).symm.trans hR
                        refine lv_iload hx hb dX7_goings_179 (lv_at hl 0 rfl) ?_
                        refine lv_bipush (v := (-9)) hx hb dX7_goings_181 (by decide) ?_
                        refine lv_icmp_ne (tgt := 195) hx hb dX7_goings_183 (by decide) (fun c_32 => ?_) (fun c_32 => ?_)
                        · have hR := (if_neg c_32).symm.trans hR
                          refine lv_bipush (v := (-100)) hx hb dX7_goings_195 (by decide) ?_
                          refine lv_iload hx hb dX7_goings_197 (lv_at hl 0 rfl) ?_
                          refine lv_isub hx hb dX7_goings_199 ?_
                          exact ret_ _ _ _ _ _ _ dX7_goings_200  (sp1 hR) (congrArg (fun z => (MW cI ad z)) (sp2 hR)) hP hD hS
                        · have hR := (if_pos c_32).symm.trans hR
                          refine lv_aload_n hx hb dX7_goings_186 rfl (lv_at hl 1 rfl) ?_
                          refine lv_iload hx hb dX7_goings_187 (lv_at hl 3 rfl) ?_
                          obtain ⟨v_33, e_33, hR⟩ := b1_some hR
                          refine bc_i (va_runV (As := [.int x5]) (rest := []) ⟨hx, hb, hml, hown, hts⟩ (c_X7_tellGoings l D cI cO ad _ e_33) (cwV 1 hts gX7_goings_X7_tellGoings rfl rfl rfl (by decide +kernel) ⟨Nat.le_of_ble_eq_true rfl, Nat.le_of_ble_eq_true rfl⟩) (preV hK hN hP hD (va_recv hK hP (ci := 6) (q0 := 0) rfl rfl)) rfl rfl hl.1 rfl (lv_room (Nat.le_of_ble_eq_true rfl)) dX7_goings_189 ⟨Nat.zero_le _, Nat.zero_le _⟩) hS hD hA (fun H locs hP hD hS => ?_)
                          refine lv_goto (tgt := 200) hx hb dX7_goings_192 (by decide) ?_
                          exact ret_ _ _ _ _ _ _ dX7_goings_200  (sp1 hR) (congrArg (fun z => (MW cI ad z)) (sp2 hR)) hP hD hS
                      · have hR := (if_pos c_31).symm.trans hR
                        refine lv_iload hx hb dX7_goings_176 (lv_at hl 0 rfl) ?_
                        exact ret_ _ _ _ _ _ _ dX7_goings_178  (sp1 hR) (congrArg (fun z => (MW cI ad z)) (sp2 hR)) hP hD hS
                    · have hR := (if_neg c_29).symm.trans hR
                      refine lv_aload_n hx hb dX7_goings_110 rfl (lv_at hl 0 rfl) ?_
                      refine lv_aload_n hx hb dX7_goings_111 rfl (lv_at hl 0 rfl) ?_
                      refine bw_get (ci := 6) (v := .ref (ad 3)) (C := RX7) (T := TX7) (N := 28) hx hb hts i_X7 hown hK hP 0 rfl rfl 4 (by decide) f_16 rfl dX7_goings_112 ?_
                      refine lv_iload hx hb dX7_goings_115 (lv_at hl 3 rfl) ?_
                      refine lv_iconst (v := 2) hx hb dX7_goings_117 (by decide) ?_
                      refine lv_iload hx hb dX7_goings_118 (lv_at hl 4 rfl) ?_
                      refine lv_imul hx hb dX7_goings_120 ?_
                      refine lv_iadd hx hb dX7_goings_121 ?_
                      obtain ⟨h_34, hR⟩ := ck_some hR
                      refine bw_ald (v := gA (sI st 0 0) 4 (((60 * x1) + x3) + (2 * y8_103))) hx hb hK hP 3 rfl h_34 rfl dX7_goings_122 ?_
                      obtain ⟨v_35, e_35, hR⟩ := b1_some hR
                      refine bc_z (va_runV (As := [.int (gA (sI st 0 0) 4 (((60 * x1) + x3) + (2 * y8_103)))]) (rest := []) ⟨hx, hb, hml, hown, hts⟩ (c_X7_isBell l D cI cO ad _ e_35) (cwV 1 hts gX7_goings_X7_isBell rfl rfl rfl (by decide +kernel) ⟨Nat.le_of_ble_eq_true rfl, Nat.le_of_ble_eq_true rfl⟩) (preV hK hN hP hD (va_recv hK hP (ci := 6) (q0 := 0) rfl rfl)) rfl rfl hl.1 rfl (lv_room (Nat.le_of_ble_eq_true rfl)) dX7_goings_123 ⟨Nat.zero_le _, Nat.zero_le _⟩) hS hD hA (fun H locs hP hD hS n_35 => ?_)
                      refine lv_if_ne (tgt := 131) hx hb dX7_goings_126 (by decide) (fun c_36 => ?_) (fun c_36 => ?_)
                      · have hR := (if_neg c_36).symm.trans hR
                        refine lv_aload_n hx hb dX7_goings_131 rfl (lv_at hl 0 rfl) ?_
                        refine bw_get (ci := 6) (v := .ref (ad 3)) (C := RX7) (T := TX7) (N := 28) hx hb hts i_X7 hown hK hP 0 rfl rfl 4 (by decide) f_16 rfl dX7_goings_132 ?_
                        refine lv_iload hx hb dX7_goings_135 (lv_at hl 3 rfl) ?_
                        refine lv_iconst (v := 2) hx hb dX7_goings_137 (by decide) ?_
                        refine lv_iload hx hb dX7_goings_138 (lv_at hl 4 rfl) ?_
                        refine lv_imul hx hb dX7_goings_140 ?_
                        refine lv_iadd hx hb dX7_goings_141 ?_
                        refine lv_iconst (v := 1) hx hb dX7_goings_142 (by decide) ?_
                        refine lv_iadd hx hb dX7_goings_143 ?_
                        obtain ⟨h_37, hR⟩ := ck_some hR
                        refine bw_ald (v := gA (sI st 0 0) 4 ((((60 * x1) + x3) + (2 * y8_103)) + 1)) hx hb hK hP 3 rfl h_37 rfl dX7_goings_144 ?_
                        obtain ⟨v_38, e_38, hR⟩ := b1_some hR
                        refine bc_z (va_runS (As := [.int (gA (sI st 0 0) 4 ((((60 * x1) + x3) + (2 * y8_103)) + 1))]) (rest := []) ⟨hx, hb, hml, hown, hts⟩ (c_X7_isDigit l D cI cO ad _ e_38) (va_cwS 1 hts gX7_goings_X7_isDigit rfl rfl rfl (by decide +kernel) ⟨Nat.le_of_ble_eq_true rfl, Nat.le_of_ble_eq_true rfl⟩) (preS hK hN hP hD) rfl rfl hl.1 rfl (lv_room (Nat.le_of_ble_eq_true rfl)) dX7_goings_145 ⟨Nat.zero_le _, Nat.zero_le _⟩) hS hD hA (fun H locs hP hD hS n_38 => ?_)
                        refine lv_if_ne (tgt := 154) hx hb dX7_goings_148 (by decide) (fun c_39 => ?_) (fun c_39 => ?_)
                        · have hR := (if_neg c_39).symm.trans hR
                          refine lv_iinc (v := y8_103 + 1) (lv' := [(8, .int (y8_103 + 1)), (0, .ref (ad 0)), (4, .int x4), (5, .int x5), (7, .int ((60 * x1) + x3))]) hx hb dX7_goings_154 hl (k := 4) rfl rfl (by decide) rfl (fun ls hl => ?_)
                          refine lv_goto (tgt := 103) hx hb dX7_goings_157 (by decide) ?_
                          exact ih_103 _ _ _ _ hR hP hD hS (lv_sub hl [1, 2, 3, 4, 0] rfl)
                        · have hR := (if_pos c_39).symm.trans hR
                          refine lv_bipush (v := (-2)) hx hb dX7_goings_151 (by decide) ?_
                          exact ret_ _ _ _ _ _ _ dX7_goings_153  (sp1 hR) (congrArg (fun z => (MW cI ad z)) (sp2 hR)) hP hD hS
                      · have hR := (if_pos c_36).symm.trans hR
                        refine lv_iconst (v := (-1)) hx hb dX7_goings_129 (by decide) ?_
                        exact ret_ _ _ _ _ _ _ dX7_goings_130  (sp1 hR) (congrArg (fun z => (MW cI ad z)) (sp2 hR)) hP hD hS
                exact lp_103 _ _ _ _ _ hR hP hD hS (lv_sub hl [3, 7, 8, 1, 0] rfl)
              · have hR := (if_pos c_28).symm.trans hR
                refine lv_bipush (v := (-3)) hx hb dX7_goings_89 (by decide) ?_
                exact ret_ _ _ _ _ _ _ dX7_goings_91  (sp1 hR) (congrArg (fun z => (MW cI ad z)) (sp2 hR)) hP hD hS
            · have hR := (if_neg c_27).symm.trans hR
              refine lv_aload_n hx hb dX7_goings_75 rfl (lv_at hl 1 rfl) ?_
              refine lv_iload hx hb dX7_goings_76 (lv_at hl 0 rfl) ?_
              obtain ⟨v_40, s_40, e_40, hR⟩ := b2_some hR
              refine bc_i (va_runV (As := [.int v_26]) (rest := []) ⟨hx, hb, hml, hown, hts⟩ (c_X7_fails l D cI cO ad _ e_40) (cwV 1 hts gX7_goings_X7_fails rfl rfl rfl (by decide +kernel) ⟨Nat.le_of_ble_eq_true rfl, Nat.le_of_ble_eq_true rfl⟩) (preV hK hN hP hD (va_recv hK hP (ci := 6) (q0 := 0) rfl rfl)) rfl rfl hl.1 rfl (lv_room (Nat.le_of_ble_eq_true rfl)) dX7_goings_78 ⟨Nat.zero_le _, Nat.zero_le _⟩) hS hD hA (fun H locs hP hD hS => ?_)
              exact ret_ _ _ _ _ _ _ dX7_goings_81  (sp1 hR) (congrArg (fun z => (MW cI ad z)) (sp2 hR)) hP hD hS
          · have hR := (if_pos c_25).symm.trans hR
            refine lv_bipush (v := (-2)) hx hb dX7_goings_54 (by decide) ?_
            exact ret_ _ _ _ _ _ _ dX7_goings_56  (sp1 hR) (congrArg (fun z => (MW cI ad z)) (sp2 hR)) hP hD hS
  · have hR := (if_pos c_2).symm.trans hR
    refine lv_iconst (v := (-1)) hx hb dX7_goings_12 (by decide) ?_
    exact ret_ _ _ _ _ _ _ dX7_goings_13  (sp1 hR) (congrArg (fun z => (MW cI ad z)) (sp2 hR)) hP hD hS
abbrev rm_X7_post : Room := { frames := 3, cells := 0, slots := 0, locals := 66 }
set_option maxHeartbeats 4000000 in
set_option maxRecDepth 100000 in
theorem c_X7_post (l : Launch) (D : va_G) (cI cO : ClassId) (ad : Nat → Nat) (sz : Nat) {st : St} {x1 : Int32} {r : Int32} (hR : F_X7_post st x1 = some r) : CI l yX7_post wsX7_post rm_X7_post D cI cO [.ref (ad 0), .int x1] (MW cI ad st) (MW cI ad st) sz r := by
  refine mk_i (cc := cX7_post) (maxL := 3) (own := RX7) rfl (by decide) rfl (Nat.le_of_ble_eq_true rfl) ?_
  intro p e s m args below meth c A Q ls hx hb hml hown hts hK hN hA ret_ hP hD hS hl
  have i_X7 : ∀ w ∈ u_ws RX7 TX7 28, w ∈ wsX7_post := (fun _ h => List.mem_cons_of_mem _ (List.mem_append_right _ h))
  have f_71 := hts (.fieldLink RX7 71 "BellNamesModel" "bells" "I") (by decide +kernel)
  have hl : lv_has ls 3 [(0, .ref (ad 0)), (1, .int x1)] := hl
  unfold F_X7_post at hR
  refine lv_aload_n hx hb dX7_post_0 rfl (lv_at hl 0 rfl) ?_
  refine bw_get (ci := 6) (v := .int (gI st 5)) (C := RX7) (T := TX7) (N := 28) hx hb hts i_X7 hown hK hP 0 rfl rfl 5 (by decide) f_71 rfl dX7_post_1 ?_
  refine lv_if_ne (tgt := 10) hx hb dX7_post_4 (by decide) (fun c_1 => ?_) (fun c_1 => ?_)
  · have hR := (if_neg c_1).symm.trans hR
    refine lv_aload_n hx hb dX7_post_10 rfl (lv_at hl 0 rfl) ?_
    refine lv_iload_n hx hb dX7_post_11 rfl (lv_at hl 1 rfl) ?_
    obtain ⟨v_2, e_2, hR⟩ := b1_some hR
    refine bc_z (va_runV (As := [.int x1]) (rest := []) ⟨hx, hb, hml, hown, hts⟩ (c_X7_isSet l D cI cO ad _ e_2) (cwV 1 hts gX7_post_X7_isSet rfl rfl rfl (by decide +kernel) ⟨Nat.le_of_ble_eq_true rfl, Nat.le_of_ble_eq_true rfl⟩) (preV hK hN hP hD (va_recv hK hP (ci := 6) (q0 := 0) rfl rfl)) rfl rfl hl.1 rfl (lv_room (Nat.le_of_ble_eq_true rfl)) dX7_post_12 ⟨Nat.zero_le _, Nat.zero_le _⟩) hS hD hA (fun H locs hP hD hS n_2 => ?_)
    refine lv_if_ne (tgt := 21) hx hb dX7_post_15 (by decide) (fun c_3 => ?_) (fun c_3 => ?_)
    · have hR := (if_neg c_3).symm.trans hR
      refine lv_iconst (v := 0) hx hb dX7_post_21 (by decide) ?_
      refine lv_istore_n (lv' := [(2, .int 0), (0, .ref (ad 0)), (1, .int x1)]) hx hb dX7_post_22 rfl hl (by decide) rfl (fun ls hl => ?_)
      have lp_23 : ∀ (n_23 : Nat) (y2_23 : Int32) (H : Heap) (locs : List Loc) (ls : Array Slot), L_X7_post_23 st x1 (fun y2_23 => some (-9)) n_23 y2_23 = some r → va_P D vwCl (MW cI ad st) H → va_D A (MW cI ad st) → va_S A s.heap H locs → lv_has ls 3 [(0, .ref (ad 0)), (1, .int x1), (2, .int y2_23)] → W p l e rm_X7_post s m args below meth c H locs 0 0 Q (F0 m 23 ls []) := by
        intro n_23
        induction n_23 with
        | zero => intro y2_23 H locs ls hR; exact absurd (L_X7_post_23_z.symm.trans hR) (fun h => nomatch h)
        | succ n_23 ih_23 =>
          intro y2_23 H locs ls hR hP hD hS hl
          have hR := L_X7_post_23_s.symm.trans hR
          refine lv_iload_n hx hb dX7_post_23 rfl (lv_at hl 2 rfl) ?_
          refine lv_bipush (v := 10) hx hb dX7_post_24 (by decide) ?_
          refine lv_icmp_ge (tgt := 48) hx hb dX7_post_26 (by decide) (fun c_4 => ?_) (fun c_4 => ?_)
          · have hR := (if_pos c_4).symm.trans hR
            refine lv_bipush (v := (-9)) hx hb dX7_post_48 (by decide) ?_
            exact ret_ _ _ _ _ _ _ dX7_post_50  (Option.some.inj hR) rfl hP hD hS
          · have hR := (if_neg c_4).symm.trans hR
            refine lv_aload_n hx hb dX7_post_29 rfl (lv_at hl 0 rfl) ?_
            refine lv_iload_n hx hb dX7_post_30 rfl (lv_at hl 2 rfl) ?_
            obtain ⟨v_5, e_5, hR⟩ := b1_some hR
            refine bc_i (va_runV (As := [.int y2_23]) (rest := []) ⟨hx, hb, hml, hown, hts⟩ (c_X7_heardAt l D cI cO ad _ e_5) (cwV 1 hts gX7_post_X7_heardAt rfl rfl rfl (by decide +kernel) ⟨Nat.le_of_ble_eq_true rfl, Nat.le_of_ble_eq_true rfl⟩) (preV hK hN hP hD (va_recv hK hP (ci := 6) (q0 := 0) rfl rfl)) rfl rfl hl.1 rfl (lv_room (Nat.le_of_ble_eq_true rfl)) dX7_post_31 ⟨Nat.zero_le _, Nat.zero_le _⟩) hS hD hA (fun H locs hP hD hS => ?_)
            refine lv_iload_n hx hb dX7_post_34 rfl (lv_at hl 1 rfl) ?_
            refine lv_iand hx hb dX7_post_35 ?_
            refine lv_iload_n hx hb dX7_post_36 rfl (lv_at hl 1 rfl) ?_
            refine lv_icmp_ne (tgt := 42) hx hb dX7_post_37 (by decide) (fun c_6 => ?_) (fun c_6 => ?_)
            · have hR := (if_neg c_6).symm.trans hR
              refine lv_iinc (v := y2_23 + 1) (lv' := [(2, .int (y2_23 + 1)), (0, .ref (ad 0)), (1, .int x1)]) hx hb dX7_post_42 hl (k := 2) rfl rfl (by decide) rfl (fun ls hl => ?_)
              refine lv_goto (tgt := 23) hx hb dX7_post_45 (by decide) ?_
              exact ih_23 _ _ _ _ hR hP hD hS (lv_sub hl [1, 2, 0] rfl)
            · have hR := (if_pos c_6).symm.trans hR
              refine lv_iload_n hx hb dX7_post_40 rfl (lv_at hl 2 rfl) ?_
              exact ret_ _ _ _ _ _ _ dX7_post_41  (Option.some.inj hR) rfl hP hD hS
      exact lp_23 _ _ _ _ _ hR hP hD hS (lv_sub hl [1, 2, 0] rfl)
    · have hR := (if_pos c_3).symm.trans hR
      refine lv_bipush (v := (-2)) hx hb dX7_post_18 (by decide) ?_
      exact ret_ _ _ _ _ _ _ dX7_post_20  (Option.some.inj hR) rfl hP hD hS
  · have hR := (if_pos c_1).symm.trans hR
    refine lv_bipush (v := (-3)) hx hb dX7_post_7 (by decide) ?_
    exact ret_ _ _ _ _ _ _ dX7_post_9  (Option.some.inj hR) rfl hP hD hS
abbrev rm_X7_stepsTo : Room := { frames := 1, cells := 0, slots := 0, locals := 21 }
set_option maxHeartbeats 4000000 in
set_option maxRecDepth 100000 in
theorem c_X7_stepsTo (l : Launch) (D : va_G) (cI cO : ClassId) (ad : Nat → Nat) (sz : Nat) {st : St} {x1 : Int32} {x2 : Int32} {r : Int32} (hR : F_X7_stepsTo st x1 x2 = some r) : CI l yX7_stepsTo wsX7_stepsTo rm_X7_stepsTo D cI cO [.ref (ad 0), .int x1, .int x2] (MW cI ad st) (MW cI ad st) sz r := by
  refine mk_i (cc := cX7_stepsTo) (maxL := 6) (own := RX7) rfl (by decide) rfl (Nat.le_of_ble_eq_true rfl) ?_
  intro p e s m args below meth c A Q ls hx hb hml hown hts hK hN hA ret_ hP hD hS hl
  have i_X7 : ∀ w ∈ u_ws RX7 TX7 28, w ∈ wsX7_stepsTo := (fun _ h => List.mem_cons_of_mem _ (List.mem_append_right _ h))
  have f_71 := hts (.fieldLink RX7 71 "BellNamesModel" "bells" "I") (by decide +kernel)
  have f_25 := hts (.fieldLink RX7 25 "BellNamesModel" "spotOf" "[I") (by decide +kernel)
  have f_104 := hts (.fieldLink RX7 104 "BellNamesModel" "reach" "I") (by decide +kernel)
  have hl : lv_has ls 6 [(0, .ref (ad 0)), (1, .int x1), (2, .int x2)] := hl
  unfold F_X7_stepsTo at hR
  refine lv_iconst (v := 0) hx hb dX7_stepsTo_0 (by decide) ?_
  refine lv_istore_n (lv' := [(3, .int 0), (0, .ref (ad 0)), (1, .int x1), (2, .int x2)]) hx hb dX7_stepsTo_1 rfl hl (by decide) rfl (fun ls hl => ?_)
  refine lv_iconst (v := 0) hx hb dX7_stepsTo_2 (by decide) ?_
  refine lv_istore (lv' := [(4, .int 0), (3, .int 0), (0, .ref (ad 0)), (1, .int x1), (2, .int x2)]) hx hb dX7_stepsTo_3 hl (by decide) rfl (fun ls hl => ?_)
  have lp_5 : ∀ (n_5 : Nat) (y3_5 : Int32) (y4_5 : Int32) (H : Heap) (locs : List Loc) (ls : Array Slot), L_X7_stepsTo_5 st x1 x2 (fun y3_5 y4_5 => some y3_5) n_5 y3_5 y4_5 = some r → va_P D vwCl (MW cI ad st) H → va_D A (MW cI ad st) → va_S A s.heap H locs → lv_has ls 6 [(0, .ref (ad 0)), (1, .int x1), (2, .int x2), (3, .int y3_5), (4, .int y4_5)] → W p l e rm_X7_stepsTo s m args below meth c H locs 0 0 Q (F0 m 5 ls []) := by
    intro n_5
    induction n_5 with
    | zero => intro y3_5 y4_5 H locs ls hR; exact absurd (L_X7_stepsTo_5_z.symm.trans hR) (fun h => nomatch h)
    | succ n_5 ih_5 =>
      intro y3_5 y4_5 H locs ls hR hP hD hS hl
      have hR := L_X7_stepsTo_5_s.symm.trans hR
      refine lv_iload hx hb dX7_stepsTo_5 (lv_at hl 4 rfl) ?_
      refine lv_aload_n hx hb dX7_stepsTo_7 rfl (lv_at hl 0 rfl) ?_
      refine bw_get (ci := 6) (v := .int (gI st 5)) (C := RX7) (T := TX7) (N := 28) hx hb hts i_X7 hown hK hP 0 rfl rfl 5 (by decide) f_71 rfl dX7_stepsTo_8 ?_
      refine lv_icmp_ge (tgt := 66) hx hb dX7_stepsTo_11 (by decide) (fun c_1 => ?_) (fun c_1 => ?_)
      · have hR := (if_pos c_1).symm.trans hR
        refine lv_iload_n hx hb dX7_stepsTo_66 rfl (lv_at hl 3 rfl) ?_
        exact ret_ _ _ _ _ _ _ dX7_stepsTo_67  (Option.some.inj hR) rfl hP hD hS
      · have hR := (if_neg c_1).symm.trans hR
        refine lv_aload_n hx hb dX7_stepsTo_14 rfl (lv_at hl 0 rfl) ?_
        refine bw_get (ci := 6) (v := .ref (ad 6)) (C := RX7) (T := TX7) (N := 28) hx hb hts i_X7 hown hK hP 0 rfl rfl 10 (by decide) f_25 rfl dX7_stepsTo_15 ?_
        refine lv_iload hx hb dX7_stepsTo_18 (lv_at hl 4 rfl) ?_
        obtain ⟨h_2, hR⟩ := ck_some hR
        refine bw_ald (v := gA st 10 y4_5) hx hb hK hP 6 rfl h_2 rfl dX7_stepsTo_20 ?_
        refine lv_iload_n hx hb dX7_stepsTo_21 rfl (lv_at hl 2 rfl) ?_
        obtain ⟨v_3, e_3, hR⟩ := b1_some hR
        refine bc_i (va_runS (As := [.int (gA st 10 y4_5), .int x2]) (rest := []) ⟨hx, hb, hml, hown, hts⟩ (c_X7_apart l D cI cO ad _ e_3) (va_cwS 2 hts gX7_stepsTo_X7_apart rfl rfl rfl (by decide +kernel) ⟨Nat.le_of_ble_eq_true rfl, Nat.le_of_ble_eq_true rfl⟩) (preS hK hN hP hD) rfl rfl hl.1 rfl (lv_room (Nat.le_of_ble_eq_true rfl)) dX7_stepsTo_22 ⟨Nat.zero_le _, Nat.zero_le _⟩) hS hD hA (fun H locs hP hD hS => ?_)
        refine lv_istore (lv' := [(5, .int v_3), (0, .ref (ad 0)), (1, .int x1), (2, .int x2), (3, .int y3_5), (4, .int y4_5)]) hx hb dX7_stepsTo_25 hl (by decide) rfl (fun ls hl => ?_)
        refine lv_iload_n hx hb dX7_stepsTo_27 rfl (lv_at hl 4 rfl) ?_
        refine lv_iload_n hx hb dX7_stepsTo_28 rfl (lv_at hl 2 rfl) ?_
        refine lv_iload hx hb dX7_stepsTo_29 (lv_at hl 5 rfl) ?_
        refine lv_ishr hx hb dX7_stepsTo_31 ?_
        refine W.eq (g2 := F0 m 32 ls (.int (jshr x1 y4_5) :: [.int y3_5])) rfl ?_
        refine lv_iconst (v := 1) hx hb dX7_stepsTo_32 (by decide) ?_
        refine lv_iand hx hb dX7_stepsTo_33 ?_
        refine lv_iconst (v := 1) hx hb dX7_stepsTo_34 (by decide) ?_
        refine lv_icmp_ne (tgt := 57) hx hb dX7_stepsTo_35 (by decide) (fun c_4 => ?_) (fun c_4 => ?_)
        · have hR := (if_neg c_4).symm.trans hR
          refine lv_iconst (v := 0) hx hb dX7_stepsTo_57 (by decide) ?_
          refine lv_iadd hx hb dX7_stepsTo_58 ?_
          refine lv_istore_n (lv' := [(3, .int (y3_5 + 0)), (5, .int v_3), (0, .ref (ad 0)), (1, .int x1), (2, .int x2), (4, .int y4_5)]) hx hb dX7_stepsTo_59 rfl hl (by decide) rfl (fun ls hl => ?_)
          refine lv_iinc (v := y4_5 + 1) (lv' := [(4, .int (y4_5 + 1)), (3, .int (y3_5 + 0)), (5, .int v_3), (0, .ref (ad 0)), (1, .int x1), (2, .int x2)]) hx hb dX7_stepsTo_60 hl (k := 5) rfl rfl (by decide) rfl (fun ls hl => ?_)
          refine lv_goto (tgt := 5) hx hb dX7_stepsTo_63 (by decide) ?_
          exact ih_5 _ _ _ _ _ hR hP hD hS (lv_sub hl [3, 4, 5, 1, 0] rfl)
        · have hR := (if_pos c_4).symm.trans hR
          refine lv_iload hx hb dX7_stepsTo_38 (lv_at hl 0 rfl) ?_
          refine lv_aload_n hx hb dX7_stepsTo_40 rfl (lv_at hl 1 rfl) ?_
          refine bw_get (ci := 6) (v := .int (gI st 7)) (C := RX7) (T := TX7) (N := 28) hx hb hts i_X7 hown hK hP 0 rfl rfl 7 (by decide) f_104 rfl dX7_stepsTo_41 ?_
          refine lv_icmp_le (tgt := 57) hx hb dX7_stepsTo_44 (by decide) (fun c_5 => ?_) (fun c_5 => ?_)
          · have hR := (if_pos c_5).symm.trans hR
            refine lv_iconst (v := 0) hx hb dX7_stepsTo_57 (by decide) ?_
            refine lv_iadd hx hb dX7_stepsTo_58 ?_
            refine lv_istore_n (lv' := [(3, .int (y3_5 + 0)), (5, .int v_3), (0, .ref (ad 0)), (1, .int x1), (2, .int x2), (4, .int y4_5)]) hx hb dX7_stepsTo_59 rfl hl (by decide) rfl (fun ls hl => ?_)
            refine lv_iinc (v := y4_5 + 1) (lv' := [(4, .int (y4_5 + 1)), (3, .int (y3_5 + 0)), (5, .int v_3), (0, .ref (ad 0)), (1, .int x1), (2, .int x2)]) hx hb dX7_stepsTo_60 hl (k := 5) rfl rfl (by decide) rfl (fun ls hl => ?_)
            refine lv_goto (tgt := 5) hx hb dX7_stepsTo_63 (by decide) ?_
            exact ih_5 _ _ _ _ _ hR hP hD hS (lv_sub hl [3, 4, 5, 1, 0] rfl)
          · have hR := (if_neg c_5).symm.trans hR
            refine lv_iload hx hb dX7_stepsTo_47 (lv_at hl 0 rfl) ?_
            refine lv_aload_n hx hb dX7_stepsTo_49 rfl (lv_at hl 1 rfl) ?_
            refine bw_get (ci := 6) (v := .int (gI st 7)) (C := RX7) (T := TX7) (N := 28) hx hb hts i_X7 hown hK hP 0 rfl rfl 7 (by decide) f_104 rfl dX7_stepsTo_50 ?_
            refine lv_isub hx hb dX7_stepsTo_53 ?_
            refine lv_goto (tgt := 58) hx hb dX7_stepsTo_54 (by decide) ?_
            refine lv_iadd hx hb dX7_stepsTo_58 ?_
            refine lv_istore_n (lv' := [(3, .int (y3_5 + (v_3 - (gI st 7)))), (5, .int v_3), (0, .ref (ad 0)), (1, .int x1), (2, .int x2), (4, .int y4_5)]) hx hb dX7_stepsTo_59 rfl hl (by decide) rfl (fun ls hl => ?_)
            refine lv_iinc (v := y4_5 + 1) (lv' := [(4, .int (y4_5 + 1)), (3, .int (y3_5 + (v_3 - (gI st 7)))), (5, .int v_3), (0, .ref (ad 0)), (1, .int x1), (2, .int x2)]) hx hb dX7_stepsTo_60 hl (k := 5) rfl rfl (by decide) rfl (fun ls hl => ?_)
            refine lv_goto (tgt := 5) hx hb dX7_stepsTo_63 (by decide) ?_
            exact ih_5 _ _ _ _ _ hR hP hD hS (lv_sub hl [3, 4, 5, 1, 0] rfl)
  exact lp_5 _ _ _ _ _ _ hR hP hD hS (lv_sub hl [2, 3, 4, 1, 0] rfl)
abbrev rm_X7_call : Room := { frames := 2, cells := 0, slots := 0, locals := 46 }
set_option maxHeartbeats 4000000 in
set_option maxRecDepth 100000 in
theorem c_X7_call (l : Launch) (D : va_G) (cI cO : ClassId) (ad : Nat → Nat) (sz : Nat) {st : St} {x1 : Int32} {x2 : Int32} {r : Int32} (hR : F_X7_call st x1 x2 = some r) : CI l yX7_call wsX7_call rm_X7_call D cI cO [.ref (ad 0), .int x1, .int x2] (MW cI ad st) (MW cI ad st) sz r := by
  refine mk_i (cc := cX7_call) (maxL := 5) (own := RX7) rfl (by decide) rfl (Nat.le_of_ble_eq_true rfl) ?_
  intro p e s m args below meth c A Q ls hx hb hml hown hts hK hN hA ret_ hP hD hS hl
  have i_X7 : ∀ w ∈ u_ws RX7 TX7 28, w ∈ wsX7_call := (fun _ h => List.mem_cons_of_mem _ (List.mem_append_right _ h))
  have f_71 := hts (.fieldLink RX7 71 "BellNamesModel" "bells" "I") (by decide +kernel)
  have hl : lv_has ls 5 [(0, .ref (ad 0)), (1, .int x1), (2, .int x2)] := hl
  unfold F_X7_call at hR
  refine lv_aload_n hx hb dX7_call_0 rfl (lv_at hl 0 rfl) ?_
  refine bw_get (ci := 6) (v := .int (gI st 5)) (C := RX7) (T := TX7) (N := 28) hx hb hts i_X7 hown hK hP 0 rfl rfl 5 (by decide) f_71 rfl dX7_call_1 ?_
  refine lv_if_ne (tgt := 10) hx hb dX7_call_4 (by decide) (fun c_1 => ?_) (fun c_1 => ?_)
  · have hR := (if_neg c_1).symm.trans hR
    refine lv_aload_n hx hb dX7_call_10 rfl (lv_at hl 0 rfl) ?_
    refine lv_iload_n hx hb dX7_call_11 rfl (lv_at hl 1 rfl) ?_
    obtain ⟨v_2, e_2, hR⟩ := b1_some hR
    refine bc_z (va_runV (As := [.int x1]) (rest := []) ⟨hx, hb, hml, hown, hts⟩ (c_X7_isSet l D cI cO ad _ e_2) (cwV 1 hts gX7_call_X7_isSet rfl rfl rfl (by decide +kernel) ⟨Nat.le_of_ble_eq_true rfl, Nat.le_of_ble_eq_true rfl⟩) (preV hK hN hP hD (va_recv hK hP (ci := 6) (q0 := 0) rfl rfl)) rfl rfl hl.1 rfl (lv_room (Nat.le_of_ble_eq_true rfl)) dX7_call_12 ⟨Nat.zero_le _, Nat.zero_le _⟩) hS hD hA (fun H locs hP hD hS n_2 => ?_)
    refine lv_if_eq (tgt := 27) hx hb dX7_call_15 (by decide) (fun c_3 => ?_) (fun c_3 => ?_)
    · have hR := (if_pos c_3).symm.trans hR
      refine lv_bipush (v := (-2)) hx hb dX7_call_27 (by decide) ?_
      exact ret_ _ _ _ _ _ _ dX7_call_29  (Option.some.inj hR) rfl hP hD hS
    · have hR := (if_neg c_3).symm.trans hR
      refine lv_iload_n hx hb dX7_call_18 rfl (lv_at hl 2 rfl) ?_
      refine lv_iconst (v := 0) hx hb dX7_call_19 (by decide) ?_
      refine lv_iconst (v := 1) hx hb dX7_call_20 (by decide) ?_
      obtain ⟨v_4, e_4, hR⟩ := b1_some hR
      refine bc_z (va_runS (As := [.int x2, .int 0, .int 1]) (rest := []) ⟨hx, hb, hml, hown, hts⟩ (c_X7_within l D cI cO ad _ e_4) (va_cwS 3 hts gX7_call_X7_within rfl rfl rfl (by decide +kernel) ⟨Nat.le_of_ble_eq_true rfl, Nat.le_of_ble_eq_true rfl⟩) (preS hK hN hP hD) rfl rfl hl.1 rfl (lv_room (Nat.le_of_ble_eq_true rfl)) dX7_call_21 ⟨Nat.zero_le _, Nat.zero_le _⟩) hS hD hA (fun H locs hP hD hS n_4 => ?_)
      refine lv_if_ne (tgt := 30) hx hb dX7_call_24 (by decide) (fun c_5 => ?_) (fun c_5 => ?_)
      · have hR := (if_neg c_5).symm.trans hR
        refine lv_iconst (v := 0) hx hb dX7_call_30 (by decide) ?_
        refine lv_istore_n (lv' := [(3, .int 0), (0, .ref (ad 0)), (1, .int x1), (2, .int x2)]) hx hb dX7_call_31 rfl hl (by decide) rfl (fun ls hl => ?_)
        refine lv_iconst (v := 1) hx hb dX7_call_32 (by decide) ?_
        refine lv_istore (lv' := [(4, .int 1), (3, .int 0), (0, .ref (ad 0)), (1, .int x1), (2, .int x2)]) hx hb dX7_call_33 hl (by decide) rfl (fun ls hl => ?_)
        have lp_35 : ∀ (n_35 : Nat) (y3_35 : Int32) (y4_35 : Int32) (H : Heap) (locs : List Loc) (ls : Array Slot), L_X7_call_35 st x1 (fun y3_35 y4_35 => if x2 = 0 then some y3_35 else b1 (F_X7_stepsTo st x1 y3_35) (fun v_8 => some v_8)) n_35 y3_35 y4_35 = some r → va_P D vwCl (MW cI ad st) H → va_D A (MW cI ad st) → va_S A s.heap H locs → lv_has ls 5 [(0, .ref (ad 0)), (1, .int x1), (2, .int x2), (3, .int y3_35), (4, .int y4_35)] → W p l e rm_X7_call s m args below meth c H locs 0 0 Q (F0 m 35 ls []) := by
          intro n_35
          induction n_35 with
          | zero => intro y3_35 y4_35 H locs ls hR; exact absurd (L_X7_call_35_z.symm.trans hR) (fun h => nomatch h)
          | succ n_35 ih_35 =>
            intro y3_35 y4_35 H locs ls hR hP hD hS hl
            have hR := L_X7_call_35_s.symm.trans hR
            refine lv_iload hx hb dX7_call_35 (lv_at hl 4 rfl) ?_
            refine lv_bipush (v := 10) hx hb dX7_call_37 (by decide) ?_
            refine lv_icmp_ge (tgt := 71) hx hb dX7_call_39 (by decide) (fun c_6 => ?_) (fun c_6 => ?_)
            · have hR := (if_pos c_6).symm.trans hR
              refine lv_iload_n hx hb dX7_call_71 rfl (lv_at hl 2 rfl) ?_
              refine lv_if_ne (tgt := 79) hx hb dX7_call_72 (by decide) (fun c_7 => ?_) (fun c_7 => ?_)
              · have hR := (if_neg c_7).symm.trans hR
                refine lv_aload_n hx hb dX7_call_79 rfl (lv_at hl 0 rfl) ?_
                refine lv_iload_n hx hb dX7_call_80 rfl (lv_at hl 1 rfl) ?_
                refine lv_iload_n hx hb dX7_call_81 rfl (lv_at hl 3 rfl) ?_
                obtain ⟨v_8, e_8, hR⟩ := b1_some hR
                refine bc_i (va_runV (As := [.int x1, .int y3_35]) (rest := []) ⟨hx, hb, hml, hown, hts⟩ (c_X7_stepsTo l D cI cO ad _ e_8) (cwV 2 hts gX7_call_X7_stepsTo rfl rfl rfl (by decide +kernel) ⟨Nat.le_of_ble_eq_true rfl, Nat.le_of_ble_eq_true rfl⟩) (preV hK hN hP hD (va_recv hK hP (ci := 6) (q0 := 0) rfl rfl)) rfl rfl hl.1 rfl (lv_room (Nat.le_of_ble_eq_true rfl)) dX7_call_82 ⟨Nat.zero_le _, Nat.zero_le _⟩) hS hD hA (fun H locs hP hD hS => ?_)
                exact ret_ _ _ _ _ _ _ dX7_call_85  (Option.some.inj hR) rfl hP hD hS
              · have hR := (if_pos c_7).symm.trans hR
                refine lv_iload_n hx hb dX7_call_75 rfl (lv_at hl 3 rfl) ?_
                refine lv_goto (tgt := 85) hx hb dX7_call_76 (by decide) ?_
                exact ret_ _ _ _ _ _ _ dX7_call_85  (Option.some.inj hR) rfl hP hD hS
            · have hR := (if_neg c_6).symm.trans hR
              refine lv_aload_n hx hb dX7_call_42 rfl (lv_at hl 0 rfl) ?_
              refine lv_iload_n hx hb dX7_call_43 rfl (lv_at hl 1 rfl) ?_
              refine lv_iload hx hb dX7_call_44 (lv_at hl 4 rfl) ?_
              obtain ⟨v_9, e_9, hR⟩ := b1_some hR
              refine bc_i (va_runV (As := [.int x1, .int y4_35]) (rest := []) ⟨hx, hb, hml, hown, hts⟩ (c_X7_stepsTo l D cI cO ad _ e_9) (cwV 2 hts gX7_call_X7_stepsTo rfl rfl rfl (by decide +kernel) ⟨Nat.le_of_ble_eq_true rfl, Nat.le_of_ble_eq_true rfl⟩) (preV hK hN hP hD (va_recv hK hP (ci := 6) (q0 := 0) rfl rfl)) rfl rfl hl.1 rfl (lv_room (Nat.le_of_ble_eq_true rfl)) dX7_call_46 ⟨Nat.zero_le _, Nat.zero_le _⟩) hS hD hA (fun H locs hP hD hS => ?_)
              refine lv_aload_n hx hb dX7_call_49 rfl (lv_at hl 0 rfl) ?_
              refine lv_iload_n hx hb dX7_call_50 rfl (lv_at hl 1 rfl) ?_
              refine lv_iload_n hx hb dX7_call_51 rfl (lv_at hl 3 rfl) ?_
              obtain ⟨v_10, e_10, hR⟩ := b1_some hR
              refine bc_i (va_runV (As := [.int x1, .int y3_35]) (rest := [.int v_9]) ⟨hx, hb, hml, hown, hts⟩ (c_X7_stepsTo l D cI cO ad _ e_10) (cwV 2 hts gX7_call_X7_stepsTo rfl rfl rfl (by decide +kernel) ⟨Nat.le_of_ble_eq_true rfl, Nat.le_of_ble_eq_true rfl⟩) (preV hK hN hP hD (va_recv hK hP (ci := 6) (q0 := 0) rfl rfl)) rfl rfl hl.1 rfl (lv_room (Nat.le_of_ble_eq_true rfl)) dX7_call_52 ⟨Nat.zero_le _, Nat.zero_le _⟩) hS hD hA (fun H locs hP hD hS => ?_)
              refine lv_icmp_ge (tgt := 63) hx hb dX7_call_55 (by decide) (fun c_11 => ?_) (fun c_11 => ?_)
              · have hR := (if_pos c_11).symm.trans hR
                refine lv_iload_n hx hb dX7_call_63 rfl (lv_at hl 3 rfl) ?_
                refine lv_istore_n (lv' := [(3, .int y3_35), (0, .ref (ad 0)), (1, .int x1), (2, .int x2), (4, .int y4_35)]) hx hb dX7_call_64 rfl hl (by decide) rfl (fun ls hl => ?_)
                refine lv_iinc (v := y4_35 + 1) (lv' := [(4, .int (y4_35 + 1)), (3, .int y3_35), (0, .ref (ad 0)), (1, .int x1), (2, .int x2)]) hx hb dX7_call_65 hl (k := 4) rfl rfl (by decide) rfl (fun ls hl => ?_)
                refine lv_goto (tgt := 35) hx hb dX7_call_68 (by decide) ?_
                exact ih_35 _ _ _ _ _ hR hP hD hS (lv_sub hl [2, 3, 4, 1, 0] rfl)
              · have hR := (if_neg c_11).symm.trans hR
                refine lv_iload hx hb dX7_call_58 (lv_at hl 4 rfl) ?_
                refine lv_goto (tgt := 64) hx hb dX7_call_60 (by decide) ?_
                refine lv_istore_n (lv' := [(3, .int y4_35), (0, .ref (ad 0)), (1, .int x1), (2, .int x2), (4, .int y4_35)]) hx hb dX7_call_64 rfl hl (by decide) rfl (fun ls hl => ?_)
                refine lv_iinc (v := y4_35 + 1) (lv' := [(4, .int (y4_35 + 1)), (3, .int y4_35), (0, .ref (ad 0)), (1, .int x1), (2, .int x2)]) hx hb dX7_call_65 hl (k := 4) rfl rfl (by decide) rfl (fun ls hl => ?_)
                refine lv_goto (tgt := 35) hx hb dX7_call_68 (by decide) ?_
                exact ih_35 _ _ _ _ _ hR hP hD hS (lv_sub hl [2, 3, 4, 1, 0] rfl)
        exact lp_35 _ _ _ _ _ _ hR hP hD hS (lv_sub hl [2, 3, 4, 1, 0] rfl)
      · have hR := (if_pos c_5).symm.trans hR
        refine lv_bipush (v := (-2)) hx hb dX7_call_27 (by decide) ?_
        exact ret_ _ _ _ _ _ _ dX7_call_29  (Option.some.inj hR) rfl hP hD hS
  · have hR := (if_pos c_1).symm.trans hR
    refine lv_bipush (v := (-3)) hx hb dX7_call_7 (by decide) ?_
    exact ret_ _ _ _ _ _ _ dX7_call_9  (Option.some.inj hR) rfl hP hD hS
abbrev rm_X7_isAlone : Room := { frames := 2, cells := 0, slots := 0, locals := 46 }
set_option maxHeartbeats 4000000 in
set_option maxRecDepth 100000 in
theorem c_X7_isAlone (l : Launch) (D : va_G) (cI cO : ClassId) (ad : Nat → Nat) (sz : Nat) {st : St} {x1 : Int32} {r : Int32} (hR : F_X7_isAlone st x1 = some r) : CZ l yX7_isAlone wsX7_isAlone rm_X7_isAlone D cI cO [.ref (ad 0), .int x1] (MW cI ad st) (MW cI ad st) sz r := by
  refine mk_z (cc := cX7_isAlone) (maxL := 4) (own := RX7) rfl (by decide) rfl (Nat.le_of_ble_eq_true rfl) ?_
  intro p e s m args below meth c A Q ls hx hb hml hown hts hK hN hA ret_ hP hD hS hl
  have i_X7 : ∀ w ∈ u_ws RX7 TX7 28, w ∈ wsX7_isAlone := (fun _ h => List.mem_cons_of_mem _ (List.mem_append_right _ h))
  have f_71 := hts (.fieldLink RX7 71 "BellNamesModel" "bells" "I") (by decide +kernel)
  have hl : lv_has ls 4 [(0, .ref (ad 0)), (1, .int x1)] := hl
  unfold F_X7_isAlone at hR
  refine lv_iconst (v := 0) hx hb dX7_isAlone_0 (by decide) ?_
  refine lv_istore_n (lv' := [(2, .int 0), (0, .ref (ad 0)), (1, .int x1)]) hx hb dX7_isAlone_1 rfl hl (by decide) rfl (fun ls hl => ?_)
  have lp_2 : ∀ (n_2 : Nat) (y2_2 : Int32) (H : Heap) (locs : List Loc) (ls : Array Slot), L_X7_isAlone_2 st x1 (fun y2_2 => some 1) n_2 y2_2 = some r → va_P D vwCl (MW cI ad st) H → va_D A (MW cI ad st) → va_S A s.heap H locs → lv_has ls 4 [(0, .ref (ad 0)), (1, .int x1), (2, .int y2_2)] → W p l e rm_X7_isAlone s m args below meth c H locs 0 0 Q (F0 m 2 ls []) := by
    intro n_2
    induction n_2 with
    | zero => intro y2_2 H locs ls hR; exact absurd (L_X7_isAlone_2_z.symm.trans hR) (fun h => nomatch h)
    | succ n_2 ih_2 =>
      intro y2_2 H locs ls hR hP hD hS hl
      have hR := L_X7_isAlone_2_s.symm.trans hR
      refine lv_iload_n hx hb dX7_isAlone_2 rfl (lv_at hl 2 rfl) ?_
      refine lv_aload_n hx hb dX7_isAlone_3 rfl (lv_at hl 0 rfl) ?_
      refine bw_get (ci := 6) (v := .int (gI st 5)) (C := RX7) (T := TX7) (N := 28) hx hb hts i_X7 hown hK hP 0 rfl rfl 5 (by decide) f_71 rfl dX7_isAlone_4 ?_
      refine lv_icmp_ge (tgt := 50) hx hb dX7_isAlone_7 (by decide) (fun c_1 => ?_) (fun c_1 => ?_)
      · have hR := (if_pos c_1).symm.trans hR
        refine lv_iconst (v := 1) hx hb dX7_isAlone_50 (by decide) ?_
        exact ret_ _ _ _ _ _ _ dX7_isAlone_51 (by decide) (Option.some.inj hR) rfl hP hD hS
      · have hR := (if_neg c_1).symm.trans hR
        refine lv_iconst (v := 0) hx hb dX7_isAlone_10 (by decide) ?_
        refine lv_istore_n (lv' := [(3, .int 0), (0, .ref (ad 0)), (1, .int x1), (2, .int y2_2)]) hx hb dX7_isAlone_11 rfl hl (by decide) rfl (fun ls hl => ?_)
        have lp_12 : ∀ (n_12 : Nat) (y3_12 : Int32) (H : Heap) (locs : List Loc) (ls : Array Slot), L_X7_isAlone_12 st x1 y2_2 (fun y3_12 => L_X7_isAlone_2 st x1 (fun y2_2 => some 1) n_2 (y2_2 + 1)) n_12 y3_12 = some r → va_P D vwCl (MW cI ad st) H → va_D A (MW cI ad st) → va_S A s.heap H locs → lv_has ls 4 [(0, .ref (ad 0)), (1, .int x1), (2, .int y2_2), (3, .int y3_12)] → W p l e rm_X7_isAlone s m args below meth c H locs 0 0 Q (F0 m 12 ls []) := by
          intro n_12
          induction n_12 with
          | zero => intro y3_12 H locs ls hR; exact absurd (L_X7_isAlone_12_z.symm.trans hR) (fun h => nomatch h)
          | succ n_12 ih_12 =>
            intro y3_12 H locs ls hR hP hD hS hl
            have hR := L_X7_isAlone_12_s.symm.trans hR
            refine lv_iload_n hx hb dX7_isAlone_12 rfl (lv_at hl 3 rfl) ?_
            refine lv_iconst (v := 4) hx hb dX7_isAlone_13 (by decide) ?_
            refine lv_icmp_ge (tgt := 44) hx hb dX7_isAlone_14 (by decide) (fun c_2 => ?_) (fun c_2 => ?_)
            · have hR := (if_pos c_2).symm.trans hR
              refine lv_iinc (v := y2_2 + 1) (lv' := [(2, .int (y2_2 + 1)), (0, .ref (ad 0)), (1, .int x1), (3, .int y3_12)]) hx hb dX7_isAlone_44 hl (k := 2) rfl rfl (by decide) rfl (fun ls hl => ?_)
              refine lv_goto (tgt := 2) hx hb dX7_isAlone_47 (by decide) ?_
              exact ih_2 _ _ _ _ hR hP hD hS (lv_sub hl [1, 2, 0] rfl)
            · have hR := (if_neg c_2).symm.trans hR
              refine lv_iload_n hx hb dX7_isAlone_17 rfl (lv_at hl 2 rfl) ?_
              refine lv_iload_n hx hb dX7_isAlone_18 rfl (lv_at hl 1 rfl) ?_
              refine lv_icmp_eq (tgt := 38) hx hb dX7_isAlone_19 (by decide) (fun c_3 => ?_) (fun c_3 => ?_)
              · have hR := (if_pos c_3).symm.trans hR
                refine lv_iinc (v := y3_12 + 1) (lv' := [(3, .int (y3_12 + 1)), (0, .ref (ad 0)), (1, .int x1), (2, .int y2_2)]) hx hb dX7_isAlone_38 hl (k := 3) rfl rfl (by decide) rfl (fun ls hl => ?_)
                refine lv_goto (tgt := 12) hx hb dX7_isAlone_41 (by decide) ?_
                exact ih_12 _ _ _ _ hR hP hD hS (lv_sub hl [1, 2, 3, 0] rfl)
              · have hR := (if_neg c_3).symm.trans hR
                refine lv_aload_n hx hb dX7_isAlone_22 rfl (lv_at hl 0 rfl) ?_
                refine lv_iload_n hx hb dX7_isAlone_23 rfl (lv_at hl 2 rfl) ?_
                refine lv_aload_n hx hb dX7_isAlone_24 rfl (lv_at hl 0 rfl) ?_
                refine lv_iload_n hx hb dX7_isAlone_25 rfl (lv_at hl 1 rfl) ?_
                refine lv_iload_n hx hb dX7_isAlone_26 rfl (lv_at hl 3 rfl) ?_
                obtain ⟨v_4, e_4, hR⟩ := b1_some hR
                refine bc_i (va_runV (As := [.int x1, .int y3_12]) (rest := [.int y2_2, .ref (ad 0)]) ⟨hx, hb, hml, hown, hts⟩ (c_X7_soundIn l D cI cO ad _ e_4) (cwV 2 hts gX7_isAlone_X7_soundIn rfl rfl rfl (by decide +kernel) ⟨Nat.le_of_ble_eq_true rfl, Nat.le_of_ble_eq_true rfl⟩) (preV hK hN hP hD (va_recv hK hP (ci := 6) (q0 := 0) rfl rfl)) rfl rfl hl.1 rfl (lv_room (Nat.le_of_ble_eq_true rfl)) dX7_isAlone_27 ⟨Nat.zero_le _, Nat.zero_le _⟩) hS hD hA (fun H locs hP hD hS => ?_)
                obtain ⟨v_5, e_5, hR⟩ := b1_some hR
                refine bc_z (va_runV (As := [.int y2_2, .int v_4]) (rest := []) ⟨hx, hb, hml, hown, hts⟩ (c_X7_canSound l D cI cO ad _ e_5) (cwV 2 hts gX7_isAlone_X7_canSound rfl rfl rfl (by decide +kernel) ⟨Nat.le_of_ble_eq_true rfl, Nat.le_of_ble_eq_true rfl⟩) (preV hK hN hP hD (va_recv hK hP (ci := 6) (q0 := 0) rfl rfl)) rfl rfl hl.1 rfl (lv_room (Nat.le_of_ble_eq_true rfl)) dX7_isAlone_30 ⟨Nat.zero_le _, Nat.zero_le _⟩) hS hD hA (fun H locs hP hD hS n_5 => ?_)
                refine lv_if_eq (tgt := 38) hx hb dX7_isAlone_33 (by decide) (fun c_6 => ?_) (fun c_6 => ?_)
                · have hR := (if_pos c_6).symm.trans hR
                  refine lv_iinc (v := y3_12 + 1) (lv' := [(3, .int (y3_12 + 1)), (0, .ref (ad 0)), (1, .int x1), (2, .int y2_2)]) hx hb dX7_isAlone_38 hl (k := 3) rfl rfl (by decide) rfl (fun ls hl => ?_)
                  refine lv_goto (tgt := 12) hx hb dX7_isAlone_41 (by decide) ?_
                  exact ih_12 _ _ _ _ hR hP hD hS (lv_sub hl [1, 2, 3, 0] rfl)
                · have hR := (if_neg c_6).symm.trans hR
                  refine lv_iconst (v := 0) hx hb dX7_isAlone_36 (by decide) ?_
                  exact ret_ _ _ _ _ _ _ dX7_isAlone_37 (by decide) (Option.some.inj hR) rfl hP hD hS
        exact lp_12 _ _ _ _ _ hR hP hD hS (lv_sub hl [1, 2, 3, 0] rfl)
  exact lp_2 _ _ _ _ _ hR hP hD hS (lv_sub hl [1, 2, 0] rfl)
