abbrev rm_X0_kinOf : Room := { frames := 1, cells := 0, slots := 0, locals := 21 }
set_option maxHeartbeats 4000000 in
set_option maxRecDepth 100000 in
theorem c_X0_kinOf (l : Launch) (D : va_G) (cI cO : ClassId) (ad : Nat → Nat) (sz : Nat) {st : St} {x1 : Int32} {x2 : Int32} {r : Int32} (hR : F_X0_kinOf st x1 x2 = some r) : CI l yX0_kinOf wsX0_kinOf rm_X0_kinOf D cI cO [.ref (ad 19), .int x1, .int x2] (BW cI cO ad st) (BW cI cO ad st) sz r := by
  refine mk_i (cc := cX0_kinOf) (maxL := 5) (own := RX0) rfl (by decide) rfl (Nat.le_of_ble_eq_true rfl) ?_
  intro p e s m args below meth c A Q ls hx hb hml hown hts hK hN hA ret_ hP hD hS hl
  have i_X0 : ∀ w ∈ u_ws RX0 TX0 3, w ∈ wsX0_kinOf := (fun _ h => List.mem_cons_of_mem _ (List.mem_append_right _ h))
  have f_9 := hts (.fieldLink RX0 9 "BellNames$Families" "sounds" "[I") (by decide +kernel)
  have m_26 := hts (.methodLink RX0 26 Lib.Math.abs.name) (by decide +kernel)
  have ms_abs := hts (.static Lib.Math.abs.name) (by decide +kernel)
  have mi := hts (.initialized "java/lang/Math") (by decide +kernel)
  have mc_abs := hts (.code Lib.Math.abs.name Lib.Math.abs.code 1 (some .int)) (by decide +kernel)
  have hl : lv_has ls 5 [(0, .ref (ad 19)), (1, .int x1), (2, .int x2)] := hl
  unfold F_X0_kinOf at hR
  refine lv_iconst (v := 0) hx hb dX0_kinOf_0 (by decide) ?_
  refine lv_istore_n (lv' := [(3, .int 0), (0, .ref (ad 19)), (1, .int x1), (2, .int x2)]) hx hb dX0_kinOf_1 rfl hl (by decide) rfl (fun ls hl => ?_)
  refine lv_iconst (v := 0) hx hb dX0_kinOf_2 (by decide) ?_
  refine lv_istore (lv' := [(4, .int 0), (3, .int 0), (0, .ref (ad 19)), (1, .int x1), (2, .int x2)]) hx hb dX0_kinOf_3 hl (by decide) rfl (fun ls hl => ?_)
  have lp_5 : ∀ (n_5 : Nat) (y3_5 : Int32) (y4_5 : Int32) (H : Heap) (locs : List Loc) (ls : Array Slot), L_X0_kinOf_5 st x1 x2 (fun y3_5 y4_5 => some y3_5) n_5 y3_5 y4_5 = some r → va_P D vwCl (BW cI cO ad st) H → va_D A (BW cI cO ad st) → va_S A s.heap H locs → lv_has ls 5 [(0, .ref (ad 19)), (1, .int x1), (2, .int x2), (3, .int y3_5), (4, .int y4_5)] → W p l e rm_X0_kinOf s m args below meth c H locs 0 0 Q (F0 m 5 ls []) := by
    intro n_5
    induction n_5 with
    | zero => intro y3_5 y4_5 H locs ls hR; exact absurd (L_X0_kinOf_5_z.symm.trans hR) (fun h => nomatch h)
    | succ n_5 ih_5 =>
      intro y3_5 y4_5 H locs ls hR hP hD hS hl
      have hR := L_X0_kinOf_5_s.symm.trans hR
      refine lv_iload hx hb dX0_kinOf_5 (lv_at hl 4 rfl) ?_
      refine lv_iload_n hx hb dX0_kinOf_7 rfl (lv_at hl 2 rfl) ?_
      refine lv_icmp_ge (tgt := 45) hx hb dX0_kinOf_8 (by decide) (fun c_1 => ?_) (fun c_1 => ?_)
      · have hR := (if_pos c_1).symm.trans hR
        refine lv_iload_n hx hb dX0_kinOf_45 rfl (lv_at hl 3 rfl) ?_
        exact ret_ _ _ _ _ _ _ dX0_kinOf_46  (Option.some.inj hR) rfl hP hD hS
      · have hR := (if_neg c_1).symm.trans hR
        refine lv_aload_n hx hb dX0_kinOf_11 rfl (lv_at hl 0 rfl) ?_
        refine bw_get (ci := 0) (v := .ref (ad 20)) (C := RX0) (T := TX0) (N := 3) hx hb hts i_X0 hown hK hP 19 rfl rfl 0 (by decide) f_9 rfl dX0_kinOf_12 ?_
        refine lv_iload_n hx hb dX0_kinOf_15 rfl (lv_at hl 1 rfl) ?_
        obtain ⟨h_2, hR⟩ := ck_some hR
        refine bw_ald (v := gA st 7 x1) hx hb hK hP 20 rfl h_2 rfl dX0_kinOf_16 ?_
        refine lv_aload_n hx hb dX0_kinOf_17 rfl (lv_at hl 0 rfl) ?_
        refine bw_get (ci := 0) (v := .ref (ad 20)) (C := RX0) (T := TX0) (N := 3) hx hb hts i_X0 hown hK hP 19 rfl rfl 0 (by decide) f_9 rfl dX0_kinOf_18 ?_
        refine lv_iload hx hb dX0_kinOf_21 (lv_at hl 4 rfl) ?_
        obtain ⟨h_3, hR⟩ := ck_some hR
        refine bw_ald (v := gA st 7 y4_5) hx hb hK hP 20 rfl h_3 rfl dX0_kinOf_23 ?_
        refine lv_isub hx hb dX0_kinOf_24 ?_
        refine bw_abs hx hb (hml.trans hl.1.symm) hown m_26 ms_abs mi mc_abs (Nat.le_of_ble_eq_true rfl) (Nat.le_of_ble_eq_true rfl) (Nat.zero_le _) (Nat.zero_le _) dX0_kinOf_25 ?_
        refine lv_iconst (v := 2) hx hb dX0_kinOf_28 (by decide) ?_
        refine lv_icmp_ne (tgt := 39) hx hb dX0_kinOf_29 (by decide) (fun c_4 => ?_) (fun c_4 => ?_)
        · have hR := (if_neg c_4).symm.trans hR
          refine lv_iinc (v := y4_5 + 1) (lv' := [(4, .int (y4_5 + 1)), (0, .ref (ad 19)), (1, .int x1), (2, .int x2), (3, .int y3_5)]) hx hb dX0_kinOf_39 hl (k := 4) rfl rfl (by decide) rfl (fun ls hl => ?_)
          refine lv_goto (tgt := 5) hx hb dX0_kinOf_42 (by decide) ?_
          exact ih_5 _ _ _ _ _ hR hP hD hS (lv_sub hl [1, 2, 3, 4, 0] rfl)
        · have hR := (if_pos c_4).symm.trans hR
          refine lv_iload_n hx hb dX0_kinOf_32 rfl (lv_at hl 3 rfl) ?_
          refine lv_iconst (v := 1) hx hb dX0_kinOf_33 (by decide) ?_
          refine lv_iload hx hb dX0_kinOf_34 (lv_at hl 4 rfl) ?_
          refine lv_ishl hx hb dX0_kinOf_36 ?_
          refine W.eq (g2 := F0 m 37 ls (.int (jshl 1 y4_5) :: [.int y3_5])) rfl ?_
          refine lv_ior hx hb dX0_kinOf_37 ?_
          refine lv_istore_n (lv' := [(3, .int (y3_5 ||| (jshl 1 y4_5))), (0, .ref (ad 19)), (1, .int x1), (2, .int x2), (4, .int y4_5)]) hx hb dX0_kinOf_38 rfl hl (by decide) rfl (fun ls hl => ?_)
          refine lv_iinc (v := y4_5 + 1) (lv' := [(4, .int (y4_5 + 1)), (3, .int (y3_5 ||| (jshl 1 y4_5))), (0, .ref (ad 19)), (1, .int x1), (2, .int x2)]) hx hb dX0_kinOf_39 hl (k := 4) rfl rfl (by decide) rfl (fun ls hl => ?_)
          refine lv_goto (tgt := 5) hx hb dX0_kinOf_42 (by decide) ?_
          exact ih_5 _ _ _ _ _ hR hP hD hS (lv_sub hl [2, 3, 4, 1, 0] rfl)
  exact lp_5 _ _ _ _ _ _ hR hP hD hS (lv_sub hl [2, 3, 4, 1, 0] rfl)
abbrev rm_X0_familyOf : Room := { frames := 2, cells := 0, slots := 0, locals := 45 }
set_option maxHeartbeats 4000000 in
set_option maxRecDepth 100000 in
theorem c_X0_familyOf (l : Launch) (D : va_G) (cI cO : ClassId) (ad : Nat → Nat) (sz : Nat) {st : St} {x1 : Int32} {x2 : Int32} {r : Int32} (hR : F_X0_familyOf st x1 x2 = some r) : CI l yX0_familyOf wsX0_familyOf rm_X0_familyOf D cI cO [.ref (ad 19), .int x1, .int x2] (BW cI cO ad st) (BW cI cO ad st) sz r := by
  refine mk_i (cc := cX0_familyOf) (maxL := 7) (own := RX0) rfl (by decide) rfl (Nat.le_of_ble_eq_true rfl) ?_
  intro p e s m args below meth c A Q ls hx hb hml hown hts hK hN hA ret_ hP hD hS hl
  have hl : lv_has ls 7 [(0, .ref (ad 19)), (1, .int x1), (2, .int x2)] := hl
  unfold F_X0_familyOf at hR
  refine lv_iconst (v := 1) hx hb dX0_familyOf_0 (by decide) ?_
  refine lv_iload_n hx hb dX0_familyOf_1 rfl (lv_at hl 1 rfl) ?_
  refine lv_ishl hx hb dX0_familyOf_2 ?_
  refine W.eq (g2 := F0 m 3 ls (.int (jshl 1 x1) :: [])) rfl ?_
  refine lv_istore_n (lv' := [(3, .int (jshl 1 x1)), (0, .ref (ad 19)), (1, .int x1), (2, .int x2)]) hx hb dX0_familyOf_3 rfl hl (by decide) rfl (fun ls hl => ?_)
  refine lv_iconst (v := 0) hx hb dX0_familyOf_4 (by decide) ?_
  refine lv_istore (lv' := [(4, .int 0), (3, .int (jshl 1 x1)), (0, .ref (ad 19)), (1, .int x1), (2, .int x2)]) hx hb dX0_familyOf_5 hl (by decide) rfl (fun ls hl => ?_)
  have lp_7 : ∀ (n_7 : Nat) (y3_7 : Int32) (y4_7 : Int32) (H : Heap) (locs : List Loc) (ls : Array Slot), L_X0_familyOf_7 st x2 (fun y3_7 y4_7 => some y3_7) n_7 y3_7 y4_7 = some r → va_P D vwCl (BW cI cO ad st) H → va_D A (BW cI cO ad st) → va_S A s.heap H locs → lv_has ls 7 [(0, .ref (ad 19)), (2, .int x2), (3, .int y3_7), (4, .int y4_7)] → W p l e rm_X0_familyOf s m args below meth c H locs 0 0 Q (F0 m 7 ls []) := by
    intro n_7
    induction n_7 with
    | zero => intro y3_7 y4_7 H locs ls hR; exact absurd (L_X0_familyOf_7_z.symm.trans hR) (fun h => nomatch h)
    | succ n_7 ih_7 =>
      intro y3_7 y4_7 H locs ls hR hP hD hS hl
      have hR := L_X0_familyOf_7_s.symm.trans hR
      refine lv_iload hx hb dX0_familyOf_7 (lv_at hl 3 rfl) ?_
      refine lv_iload_n hx hb dX0_familyOf_9 rfl (lv_at hl 1 rfl) ?_
      refine lv_icmp_ge (tgt := 70) hx hb dX0_familyOf_10 (by decide) (fun c_1 => ?_) (fun c_1 => ?_)
      · have hR := (if_pos c_1).symm.trans hR
        refine lv_iload_n hx hb dX0_familyOf_70 rfl (lv_at hl 2 rfl) ?_
        exact ret_ _ _ _ _ _ _ dX0_familyOf_71  (Option.some.inj hR) rfl hP hD hS
      · have hR := (if_neg c_1).symm.trans hR
        refine lv_iload_n hx hb dX0_familyOf_13 rfl (lv_at hl 2 rfl) ?_
        refine lv_istore (lv' := [(5, .int y3_7), (0, .ref (ad 19)), (2, .int x2), (3, .int y3_7), (4, .int y4_7)]) hx hb dX0_familyOf_14 hl (by decide) rfl (fun ls hl => ?_)
        refine lv_iconst (v := 0) hx hb dX0_familyOf_16 (by decide) ?_
        refine lv_istore (lv' := [(6, .int 0), (5, .int y3_7), (0, .ref (ad 19)), (2, .int x2), (3, .int y3_7), (4, .int y4_7)]) hx hb dX0_familyOf_17 hl (by decide) rfl (fun ls hl => ?_)
        have lp_19 : ∀ (n_19 : Nat) (y5_19 : Int32) (y6_19 : Int32) (H : Heap) (locs : List Loc) (ls : Array Slot), L_X0_familyOf_19 st x2 y3_7 (fun y5_19 y6_19 => if y5_19 = y3_7 then some y3_7 else L_X0_familyOf_7 st x2 (fun y3_7 y4_7 => some y3_7) n_7 y5_19 (y4_7 + 1)) n_19 y5_19 y6_19 = some r → va_P D vwCl (BW cI cO ad st) H → va_D A (BW cI cO ad st) → va_S A s.heap H locs → lv_has ls 7 [(0, .ref (ad 19)), (2, .int x2), (3, .int y3_7), (4, .int y4_7), (5, .int y5_19), (6, .int y6_19)] → W p l e rm_X0_familyOf s m args below meth c H locs 0 0 Q (F0 m 19 ls []) := by
          intro n_19
          induction n_19 with
          | zero => intro y5_19 y6_19 H locs ls hR; exact absurd (L_X0_familyOf_19_z.symm.trans hR) (fun h => nomatch h)
          | succ n_19 ih_19 =>
            intro y5_19 y6_19 H locs ls hR hP hD hS hl
            have hR := L_X0_familyOf_19_s.symm.trans hR
            refine lv_iload hx hb dX0_familyOf_19 (lv_at hl 5 rfl) ?_
            refine lv_iload_n hx hb dX0_familyOf_21 rfl (lv_at hl 1 rfl) ?_
            refine lv_icmp_ge (tgt := 53) hx hb dX0_familyOf_22 (by decide) (fun c_2 => ?_) (fun c_2 => ?_)
            · have hR := (if_pos c_2).symm.trans hR
              refine lv_iload hx hb dX0_familyOf_53 (lv_at hl 4 rfl) ?_
              refine lv_iload_n hx hb dX0_familyOf_55 rfl (lv_at hl 2 rfl) ?_
              refine lv_icmp_ne (tgt := 61) hx hb dX0_familyOf_56 (by decide) (fun c_3 => ?_) (fun c_3 => ?_)
              · have hR := (if_neg c_3).symm.trans hR
                refine lv_iload hx hb dX0_familyOf_61 (lv_at hl 4 rfl) ?_
                refine lv_istore_n (lv' := [(3, .int y5_19), (0, .ref (ad 19)), (2, .int x2), (4, .int y4_7), (5, .int y5_19), (6, .int y6_19)]) hx hb dX0_familyOf_63 rfl hl (by decide) rfl (fun ls hl => ?_)
                refine lv_iinc (v := y4_7 + 1) (lv' := [(4, .int (y4_7 + 1)), (3, .int y5_19), (0, .ref (ad 19)), (2, .int x2), (5, .int y5_19), (6, .int y6_19)]) hx hb dX0_familyOf_64 hl (k := 3) rfl rfl (by decide) rfl (fun ls hl => ?_)
                refine lv_goto (tgt := 7) hx hb dX0_familyOf_67 (by decide) ?_
                exact ih_7 _ _ _ _ _ hR hP hD hS (lv_sub hl [2, 3, 1, 0] rfl)
              · have hR := (if_pos c_3).symm.trans hR
                refine lv_iload_n hx hb dX0_familyOf_59 rfl (lv_at hl 2 rfl) ?_
                exact ret_ _ _ _ _ _ _ dX0_familyOf_60  (Option.some.inj hR) rfl hP hD hS
            · have hR := (if_neg c_2).symm.trans hR
              refine lv_iload_n hx hb dX0_familyOf_25 rfl (lv_at hl 2 rfl) ?_
              refine lv_iload hx hb dX0_familyOf_26 (lv_at hl 5 rfl) ?_
              refine lv_ishr hx hb dX0_familyOf_28 ?_
              refine W.eq (g2 := F0 m 29 ls (.int (jshr y3_7 y6_19) :: [])) rfl ?_
              refine lv_iconst (v := 1) hx hb dX0_familyOf_29 (by decide) ?_
              refine lv_iand hx hb dX0_familyOf_30 ?_
              refine lv_iconst (v := 1) hx hb dX0_familyOf_31 (by decide) ?_
              refine lv_icmp_ne (tgt := 47) hx hb dX0_familyOf_32 (by decide) (fun c_4 => ?_) (fun c_4 => ?_)
              · have hR := (if_neg c_4).symm.trans hR
                refine lv_iinc (v := y6_19 + 1) (lv' := [(6, .int (y6_19 + 1)), (0, .ref (ad 19)), (2, .int x2), (3, .int y3_7), (4, .int y4_7), (5, .int y5_19)]) hx hb dX0_familyOf_47 hl (k := 5) rfl rfl (by decide) rfl (fun ls hl => ?_)
                refine lv_goto (tgt := 19) hx hb dX0_familyOf_50 (by decide) ?_
                exact ih_19 _ _ _ _ _ hR hP hD hS (lv_sub hl [1, 2, 3, 4, 5, 0] rfl)
              · have hR := (if_pos c_4).symm.trans hR
                refine lv_iload hx hb dX0_familyOf_35 (lv_at hl 4 rfl) ?_
                refine lv_aload_n hx hb dX0_familyOf_37 rfl (lv_at hl 0 rfl) ?_
                refine lv_iload hx hb dX0_familyOf_38 (lv_at hl 5 rfl) ?_
                refine lv_iload_n hx hb dX0_familyOf_40 rfl (lv_at hl 1 rfl) ?_
                obtain ⟨v_5, e_5, hR⟩ := b1_some hR
                refine bc_i (va_runV (As := [.int y6_19, .int x2]) (rest := [.int y5_19]) ⟨hx, hb, hml, hown, hts⟩ (c_X0_kinOf l D cI cO ad _ e_5) (cwV 2 hts gX0_familyOf_X0_kinOf rfl rfl rfl (by decide +kernel) ⟨Nat.le_of_ble_eq_true rfl, Nat.le_of_ble_eq_true rfl⟩) (preV hK hN hP hD (va_recv hK hP (ci := 0) (q0 := 19) rfl rfl)) rfl rfl hl.1 rfl (lv_room (Nat.le_of_ble_eq_true rfl)) dX0_familyOf_41 ⟨Nat.zero_le _, Nat.zero_le _⟩) hS hD hA (fun H locs hP hD hS => ?_)
                refine lv_ior hx hb dX0_familyOf_44 ?_
                refine lv_istore (lv' := [(5, .int (y5_19 ||| v_5)), (0, .ref (ad 19)), (2, .int x2), (3, .int y3_7), (4, .int y4_7), (6, .int y6_19)]) hx hb dX0_familyOf_45 hl (by decide) rfl (fun ls hl => ?_)
                refine lv_iinc (v := y6_19 + 1) (lv' := [(6, .int (y6_19 + 1)), (5, .int (y5_19 ||| v_5)), (0, .ref (ad 19)), (2, .int x2), (3, .int y3_7), (4, .int y4_7)]) hx hb dX0_familyOf_47 hl (k := 5) rfl rfl (by decide) rfl (fun ls hl => ?_)
                refine lv_goto (tgt := 19) hx hb dX0_familyOf_50 (by decide) ?_
                exact ih_19 _ _ _ _ _ hR hP hD hS (lv_sub hl [2, 3, 4, 5, 1, 0] rfl)
        exact lp_19 _ _ _ _ _ _ hR hP hD hS (lv_sub hl [2, 3, 4, 5, 1, 0] rfl)
  exact lp_7 _ _ _ _ _ _ hR hP hD hS (lv_sub hl [2, 4, 1, 0] rfl)
abbrev rm_X0_moodIn : Room := { frames := 0, cells := 0, slots := 0, locals := 0 }
set_option maxHeartbeats 4000000 in
set_option maxRecDepth 100000 in
theorem c_X0_moodIn (l : Launch) (D : va_G) (cI cO : ClassId) (ad : Nat → Nat) (sz : Nat) {st : St} {x0 : Int32} {x1 : Int32} {x2 : Int32} {r : Int32} (hR : F_X0_moodIn st x0 x1 x2 = some r) : CI l yX0_moodIn wsX0_moodIn rm_X0_moodIn D cI cO [.int x0, .int x1, .int x2] (BW cI cO ad st) (BW cI cO ad st) sz r := by
  refine mk_i (cc := cX0_moodIn) (maxL := 3) (own := RX0) rfl (by decide) rfl (Nat.le_of_ble_eq_true rfl) ?_
  intro p e s m args below meth c A Q ls hx hb hml hown hts hK hN hA ret_ hP hD hS hl
  have hl : lv_has ls 3 [(0, .int x0), (1, .int x1), (2, .int x2)] := hl
  unfold F_X0_moodIn at hR
  refine lv_iload_n hx hb dX0_moodIn_0 rfl (lv_at hl 0 rfl) ?_
  refine lv_iconst (v := 2) hx hb dX0_moodIn_1 (by decide) ?_
  refine lv_iload_n hx hb dX0_moodIn_2 rfl (lv_at hl 2 rfl) ?_
  refine lv_iconst (v := 1) hx hb dX0_moodIn_3 (by decide) ?_
  refine lv_isub hx hb dX0_moodIn_4 ?_
  refine lv_iload_n hx hb dX0_moodIn_5 rfl (lv_at hl 1 rfl) ?_
  refine lv_isub hx hb dX0_moodIn_6 ?_
  refine lv_imul hx hb dX0_moodIn_7 ?_
  refine lv_ishr hx hb dX0_moodIn_8 ?_
  refine W.eq (g2 := F0 m 9 ls (.int (jshr x0 (2 * ((x2 - 1) - x1))) :: [])) rfl ?_
  refine lv_iconst (v := 3) hx hb dX0_moodIn_9 (by decide) ?_
  refine lv_iand hx hb dX0_moodIn_10 ?_
  exact ret_ _ _ _ _ _ _ dX0_moodIn_11  (Option.some.inj hR) rfl hP hD hS
abbrev rm_X0_changesOf : Room := { frames := 1, cells := 0, slots := 0, locals := 22 }
set_option maxHeartbeats 4000000 in
set_option maxRecDepth 100000 in
theorem c_X0_changesOf (l : Launch) (D : va_G) (cI cO : ClassId) (ad : Nat → Nat) (sz : Nat) {st : St} {x1 : Int32} {r : Int32} (hR : F_X0_changesOf st x1 = some r) : CI l yX0_changesOf wsX0_changesOf rm_X0_changesOf D cI cO [.ref (ad 10), .int x1] (BW cI cO ad st) (BW cI cO ad st) sz r := by
  refine mk_i (cc := cX0_changesOf) (maxL := 4) (own := RX0) rfl (by decide) rfl (Nat.le_of_ble_eq_true rfl) ?_
  intro p e s m args below meth c A Q ls hx hb hml hown hts hK hN hA ret_ hP hD hS hl
  have i_X1 : ∀ w ∈ u_ws RX1 TX1 7, w ∈ wsX0_changesOf := (fun _ h => List.mem_cons_of_mem _ (List.mem_append_right _ h))
  have f_32 := hts (.fieldLink RX0 32 "BellNames$Herd" "count" "I") (by decide +kernel)
  have f_49 := hts (.fieldLink RX0 49 "BellNames$Herd" "moodOf" "[I") (by decide +kernel)
  have hl : lv_has ls 4 [(0, .ref (ad 10)), (1, .int x1)] := hl
  unfold F_X0_changesOf at hR
  refine lv_iconst (v := 0) hx hb dX0_changesOf_0 (by decide) ?_
  refine lv_istore_n (lv' := [(2, .int 0), (0, .ref (ad 10)), (1, .int x1)]) hx hb dX0_changesOf_1 rfl hl (by decide) rfl (fun ls hl => ?_)
  refine lv_iconst (v := 0) hx hb dX0_changesOf_2 (by decide) ?_
  refine lv_istore_n (lv' := [(3, .int 0), (2, .int 0), (0, .ref (ad 10)), (1, .int x1)]) hx hb dX0_changesOf_3 rfl hl (by decide) rfl (fun ls hl => ?_)
  have lp_4 : ∀ (n_4 : Nat) (y2_4 : Int32) (y3_4 : Int32) (H : Heap) (locs : List Loc) (ls : Array Slot), L_X0_changesOf_4 st x1 (fun y2_4 y3_4 => some y2_4) n_4 y2_4 y3_4 = some r → va_P D vwCl (BW cI cO ad st) H → va_D A (BW cI cO ad st) → va_S A s.heap H locs → lv_has ls 4 [(0, .ref (ad 10)), (1, .int x1), (2, .int y2_4), (3, .int y3_4)] → W p l e rm_X0_changesOf s m args below meth c H locs 0 0 Q (F0 m 4 ls []) := by
    intro n_4
    induction n_4 with
    | zero => intro y2_4 y3_4 H locs ls hR; exact absurd (L_X0_changesOf_4_z.symm.trans hR) (fun h => nomatch h)
    | succ n_4 ih_4 =>
      intro y2_4 y3_4 H locs ls hR hP hD hS hl
      have hR := L_X0_changesOf_4_s.symm.trans hR
      refine lv_iload_n hx hb dX0_changesOf_4 rfl (lv_at hl 3 rfl) ?_
      refine lv_aload_n hx hb dX0_changesOf_5 rfl (lv_at hl 0 rfl) ?_
      refine bw_get (ci := 1) (v := .int (gI st 2)) (C := RX1) (T := TX1) (N := 7) hx hb hts i_X1 hown hK hP 10 rfl rfl 4 (by decide) f_32 rfl dX0_changesOf_6 ?_
      refine lv_icmp_ge (tgt := 39) hx hb dX0_changesOf_9 (by decide) (fun c_1 => ?_) (fun c_1 => ?_)
      · have hR := (if_pos c_1).symm.trans hR
        refine lv_iload_n hx hb dX0_changesOf_39 rfl (lv_at hl 2 rfl) ?_
        exact ret_ _ _ _ _ _ _ dX0_changesOf_40  (Option.some.inj hR) rfl hP hD hS
      · have hR := (if_neg c_1).symm.trans hR
        refine lv_iload_n hx hb dX0_changesOf_12 rfl (lv_at hl 1 rfl) ?_
        refine lv_iload_n hx hb dX0_changesOf_13 rfl (lv_at hl 3 rfl) ?_
        refine lv_aload_n hx hb dX0_changesOf_14 rfl (lv_at hl 0 rfl) ?_
        refine bw_get (ci := 1) (v := .int (gI st 2)) (C := RX1) (T := TX1) (N := 7) hx hb hts i_X1 hown hK hP 10 rfl rfl 4 (by decide) f_32 rfl dX0_changesOf_15 ?_
        obtain ⟨v_2, e_2, hR⟩ := b1_some hR
        refine bc_i (va_runS (As := [.int x1, .int y3_4, .int (gI st 2)]) (rest := []) ⟨hx, hb, hml, hown, hts⟩ (c_X0_moodIn l D cI cO ad _ e_2) (va_cwS 3 hts gX0_changesOf_X0_moodIn rfl rfl rfl (by decide +kernel) ⟨Nat.le_of_ble_eq_true rfl, Nat.le_of_ble_eq_true rfl⟩) (preS hK hN hP hD) rfl rfl hl.1 rfl (lv_room (Nat.le_of_ble_eq_true rfl)) dX0_changesOf_18 ⟨Nat.zero_le _, Nat.zero_le _⟩) hS hD hA (fun H locs hP hD hS => ?_)
        refine lv_aload_n hx hb dX0_changesOf_21 rfl (lv_at hl 0 rfl) ?_
        refine bw_get (ci := 1) (v := .ref (ad 14)) (C := RX1) (T := TX1) (N := 7) hx hb hts i_X1 hown hK hP 10 rfl rfl 3 (by decide) f_49 rfl dX0_changesOf_22 ?_
        refine lv_iload_n hx hb dX0_changesOf_25 rfl (lv_at hl 3 rfl) ?_
        obtain ⟨h_3, hR⟩ := ck_some hR
        refine bw_ald (v := gA st 3 y3_4) hx hb hK hP 14 rfl h_3 rfl dX0_changesOf_26 ?_
        refine lv_icmp_eq (tgt := 33) hx hb dX0_changesOf_27 (by decide) (fun c_4 => ?_) (fun c_4 => ?_)
        · have hR := (if_pos c_4).symm.trans hR
          refine lv_iinc (v := y3_4 + 1) (lv' := [(3, .int (y3_4 + 1)), (0, .ref (ad 10)), (1, .int x1), (2, .int y2_4)]) hx hb dX0_changesOf_33 hl (k := 3) rfl rfl (by decide) rfl (fun ls hl => ?_)
          refine lv_goto (tgt := 4) hx hb dX0_changesOf_36 (by decide) ?_
          exact ih_4 _ _ _ _ _ hR hP hD hS (lv_sub hl [1, 2, 3, 0] rfl)
        · have hR := (if_neg c_4).symm.trans hR
          refine lv_iinc (v := y2_4 + 1) (lv' := [(2, .int (y2_4 + 1)), (0, .ref (ad 10)), (1, .int x1), (3, .int y3_4)]) hx hb dX0_changesOf_30 hl (k := 2) rfl rfl (by decide) rfl (fun ls hl => ?_)
          refine lv_iinc (v := y3_4 + 1) (lv' := [(3, .int (y3_4 + 1)), (2, .int (y2_4 + 1)), (0, .ref (ad 10)), (1, .int x1)]) hx hb dX0_changesOf_33 hl (k := 3) rfl rfl (by decide) rfl (fun ls hl => ?_)
          refine lv_goto (tgt := 4) hx hb dX0_changesOf_36 (by decide) ?_
          exact ih_4 _ _ _ _ _ hR hP hD hS (lv_sub hl [2, 3, 1, 0] rfl)
  exact lp_4 _ _ _ _ _ _ hR hP hD hS (lv_sub hl [2, 3, 1, 0] rfl)
abbrev rm_X6_soundOf : Room := { frames := 1, cells := 0, slots := 0, locals := 21 }
set_option maxHeartbeats 4000000 in
set_option maxRecDepth 100000 in
theorem c_X6_soundOf (l : Launch) (D : va_G) (cI cO : ClassId) (ad : Nat → Nat) (sz : Nat) {st : St} {x0 : Int32} {x1 : Int32} {x2 : Int32} {x3 : Int32} {r : Int32} (hR : F_X6_soundOf st x0 x1 x2 x3 = some r) : CI l yX6_soundOf wsX6_soundOf rm_X6_soundOf D cI cO [.int x0, .int x1, .int x2, .int x3] (BW cI cO ad st) (BW cI cO ad st) sz r := by
  refine mk_i (cc := cX6_soundOf) (maxL := 5) (own := RX6) rfl (by decide) rfl (Nat.le_of_ble_eq_true rfl) ?_
  intro p e s m args below meth c A Q ls hx hb hml hown hts hK hN hA ret_ hP hD hS hl
  have m_217 := hts (.methodLink RX6 217 Lib.Math.max.name) (by decide +kernel)
  have ms_max := hts (.static Lib.Math.max.name) (by decide +kernel)
  have mi := hts (.initialized "java/lang/Math") (by decide +kernel)
  have mc_max := hts (.code Lib.Math.max.name Lib.Math.max.code 2 (some .int)) (by decide +kernel)
  have hl : lv_has ls 5 [(0, .int x0), (1, .int x1), (2, .int x2), (3, .int x3)] := hl
  unfold F_X6_soundOf at hR
  refine lv_iload_n hx hb dX6_soundOf_0 rfl (lv_at hl 1 rfl) ?_
  refine lv_iload_n hx hb dX6_soundOf_1 rfl (lv_at hl 2 rfl) ?_
  refine lv_iadd hx hb dX6_soundOf_2 ?_
  refine lv_iload_n hx hb dX6_soundOf_3 rfl (lv_at hl 3 rfl) ?_
  refine lv_iadd hx hb dX6_soundOf_4 ?_
  refine lv_istore (lv' := [(4, .int ((x1 + x2) + x3)), (0, .int x0), (1, .int x1), (2, .int x2), (3, .int x3)]) hx hb dX6_soundOf_5 hl (by decide) rfl (fun ls hl => ?_)
  refine lv_iload_n hx hb dX6_soundOf_7 rfl (lv_at hl 1 rfl) ?_
  by_cases w_1_0 : x0 = 1
  · have hR := (if_pos w_1_0).symm.trans hR
    refine lv_lookup (off := 28) (tgt := 36) hx hb dX6_soundOf_8 (by decide) (by rw [w_1_0]; rfl) (by decide) ?_
    refine lv_iload hx hb dX6_soundOf_36 (lv_at hl 0 rfl) ?_
    refine lv_iconst (v := 1) hx hb dX6_soundOf_38 (by decide) ?_
    refine lv_isub hx hb dX6_soundOf_39 ?_
    refine lv_iconst (v := 0) hx hb dX6_soundOf_40 (by decide) ?_
    refine bw_max hx hb (hml.trans hl.1.symm) hown m_217 ms_max mi mc_max (Nat.le_of_ble_eq_true rfl) (Nat.le_of_ble_eq_true rfl) (Nat.zero_le _) (Nat.zero_le _) dX6_soundOf_41 ?_
    exact ret_ _ _ _ _ _ _ dX6_soundOf_44  (Option.some.inj hR) rfl hP hD hS
  have hR := (if_neg w_1_0).symm.trans hR
  by_cases w_1_1 : x0 = 2
  · have hR := (if_pos w_1_1).symm.trans hR
    refine lv_lookup (off := 37) (tgt := 45) hx hb dX6_soundOf_8 (by decide) (by rw [w_1_1]; rfl) (by decide) ?_
    refine lv_iload hx hb dX6_soundOf_45 (lv_at hl 0 rfl) ?_
    refine lv_iconst (v := 2) hx hb dX6_soundOf_47 (by decide) ?_
    refine lv_idiv hx hb dX6_soundOf_48 (by decide) ?_
    exact ret_ _ _ _ _ _ _ dX6_soundOf_49  (Option.some.inj hR) rfl hP hD hS
  have hR := (if_neg w_1_1).symm.trans hR
  refine lv_lookup (off := 42) (tgt := 50) hx hb dX6_soundOf_8 (by decide) ((lv_osw w_1_0 rfl).trans ((lv_osw w_1_1 rfl).trans rfl)) (by decide) ?_
  refine lv_iload hx hb dX6_soundOf_50 (lv_at hl 0 rfl) ?_
  exact ret_ _ _ _ _ _ _ dX6_soundOf_52  (Option.some.inj hR) rfl hP hD hS
abbrev rm_X1_soundIn : Room := { frames := 2, cells := 0, slots := 0, locals := 45 }
set_option maxHeartbeats 4000000 in
set_option maxRecDepth 100000 in
theorem c_X1_soundIn (l : Launch) (D : va_G) (cI cO : ClassId) (ad : Nat → Nat) (sz : Nat) {st : St} {x1 : Int32} {x2 : Int32} {r : Int32} (hR : F_X1_soundIn st x1 x2 = some r) : CI l yX1_soundIn wsX1_soundIn rm_X1_soundIn D cI cO [.ref (ad 10), .int x1, .int x2] (BW cI cO ad st) (BW cI cO ad st) sz r := by
  refine mk_i (cc := cX1_soundIn) (maxL := 3) (own := RX1) rfl (by decide) rfl (Nat.le_of_ble_eq_true rfl) ?_
  intro p e s m args below meth c A Q ls hx hb hml hown hts hK hN hA ret_ hP hD hS hl
  have i_X1 : ∀ w ∈ u_ws RX1 TX1 7, w ∈ wsX1_soundIn := (fun _ h => List.mem_cons_of_mem _ (List.mem_append_right _ h))
  have f_9 := hts (.fieldLink RX1 9 "BellNames$Herd" "kindOf" "[I") (by decide +kernel)
  have f_15 := hts (.fieldLink RX1 15 "BellNames$Herd" "noteOf" "[I") (by decide +kernel)
  have f_28 := hts (.fieldLink RX1 28 "BellNames$Herd" "wind" "I") (by decide +kernel)
  have hl : lv_has ls 3 [(0, .ref (ad 10)), (1, .int x1), (2, .int x2)] := hl
  unfold F_X1_soundIn at hR
  refine lv_aload_n hx hb dX1_soundIn_0 rfl (lv_at hl 0 rfl) ?_
  refine bw_get (ci := 1) (v := .ref (ad 11)) (C := RX1) (T := TX1) (N := 7) hx hb hts i_X1 hown hK hP 10 rfl rfl 0 (by decide) f_9 rfl dX1_soundIn_1 ?_
  refine lv_iload_n hx hb dX1_soundIn_4 rfl (lv_at hl 1 rfl) ?_
  obtain ⟨h_1, hR⟩ := ck_some hR
  refine bw_ald (v := gA st 0 x1) hx hb hK hP 11 rfl h_1 rfl dX1_soundIn_5 ?_
  refine lv_aload_n hx hb dX1_soundIn_6 rfl (lv_at hl 0 rfl) ?_
  refine bw_get (ci := 1) (v := .ref (ad 12)) (C := RX1) (T := TX1) (N := 7) hx hb hts i_X1 hown hK hP 10 rfl rfl 1 (by decide) f_15 rfl dX1_soundIn_7 ?_
  refine lv_iload_n hx hb dX1_soundIn_10 rfl (lv_at hl 1 rfl) ?_
  obtain ⟨h_2, hR⟩ := ck_some hR
  refine bw_ald (v := gA st 1 x1) hx hb hK hP 12 rfl h_2 rfl dX1_soundIn_11 ?_
  refine lv_iload_n hx hb dX1_soundIn_12 rfl (lv_at hl 2 rfl) ?_
  refine lv_aload_n hx hb dX1_soundIn_13 rfl (lv_at hl 0 rfl) ?_
  refine bw_get (ci := 1) (v := .int (gI st 3)) (C := RX1) (T := TX1) (N := 7) hx hb hts i_X1 hown hK hP 10 rfl rfl 5 (by decide) f_28 rfl dX1_soundIn_14 ?_
  obtain ⟨v_3, e_3, hR⟩ := b1_some hR
  refine bc_i (va_runSN (As := [.int (gA st 0 x1), .int (gA st 1 x1), .int x2, .int (gI st 3)]) (rest := []) ⟨hx, hb, hml, hown, hts⟩ (c_X6_soundOf l D cI cO ad _ e_3) ⟨va_cnB 4 hts gX1_soundIn_X6_soundOf_n55 rfl rfl rfl hN.2.2.2.2.2.2.2.1 (hts (.initialized RX6) (by decide +kernel)) (by decide +kernel) ⟨Nat.le_of_ble_eq_true rfl, Nat.le_of_ble_eq_true rfl⟩, hts (.static yX6_soundOf) (by decide +kernel), trivial⟩ (preS hK hN hP hD) rfl rfl hl.1 rfl (lv_room (Nat.le_of_ble_eq_true rfl)) dX1_soundIn_17 ⟨Nat.zero_le _, Nat.zero_le _⟩) hS hD hA (fun H locs hP hD hS => ?_)
  exact ret_ _ _ _ _ _ _ dX1_soundIn_20  (Option.some.inj hR) rfl hP hD hS
abbrev rm_X0_isOneFamily : Room := { frames := 3, cells := 0, slots := 0, locals := 71 }
set_option maxHeartbeats 4000000 in
set_option maxRecDepth 100000 in
theorem c_X0_isOneFamily (l : Launch) (D : va_G) (cI cO : ClassId) (ad : Nat → Nat) (sz : Nat) {st : St} {x2 : Int32} {r : Int32} {s2 : St} (hR : F_X0_isOneFamily st x2 = some (r, s2)) : CZ l yX0_isOneFamily wsX0_isOneFamily rm_X0_isOneFamily D cI cO [.ref (ad 19), .ref (ad 10), .int x2] (BW cI cO ad st) (BW cI cO ad s2) sz r := by
  refine mk_z (cc := cX0_isOneFamily) (maxL := 4) (own := RX0) rfl (by decide) rfl (Nat.le_of_ble_eq_true rfl) ?_
  intro p e s m args below meth c A Q ls hx hb hml hown hts hK hN hA ret_ hP hD hS hl
  have i_X1 : ∀ w ∈ u_ws RX1 TX1 7, w ∈ wsX0_isOneFamily := (fun _ h => List.mem_cons_of_mem _ (List.mem_append_left _ (List.mem_append_right _ h)))
  have i_X0 : ∀ w ∈ u_ws RX0 TX0 3, w ∈ wsX0_isOneFamily := (fun _ h => List.mem_cons_of_mem _ (List.mem_append_right _ h))
  have f_32 := hts (.fieldLink RX0 32 "BellNames$Herd" "count" "I") (by decide +kernel)
  have f_9 := hts (.fieldLink RX0 9 "BellNames$Families" "sounds" "[I") (by decide +kernel)
  have hl : lv_has ls 4 [(0, .ref (ad 19)), (1, .ref (ad 10)), (2, .int x2)] := hl
  unfold F_X0_isOneFamily at hR
  refine lv_iconst (v := 0) hx hb dX0_isOneFamily_0 (by decide) ?_
  refine lv_istore_n (lv' := [(3, .int 0), (0, .ref (ad 19)), (1, .ref (ad 10)), (2, .int x2)]) hx hb dX0_isOneFamily_1 rfl hl (by decide) rfl (fun ls hl => ?_)
  have lp_2 : ∀ (n_2 : Nat) (y3_2 : Int32) (z_2 : St) (H : Heap) (locs : List Loc) (ls : Array Slot), L_X0_isOneFamily_2 x2 (fun y3_2 z_2 => b1 (F_X0_familyOf z_2 0 (gI z_2 2)) (fun v_2 => if v_2 = ((jshl 1 (gI z_2 2)) - 1) then some (1, z_2) else some (0, z_2))) n_2 y3_2 z_2 = some (r, s2) → va_P D vwCl (BW cI cO ad z_2) H → va_D A (BW cI cO ad z_2) → va_S A s.heap H locs → lv_has ls 4 [(0, .ref (ad 19)), (1, .ref (ad 10)), (2, .int x2), (3, .int y3_2)] → W p l e rm_X0_isOneFamily s m args below meth c H locs 0 0 Q (F0 m 2 ls []) := by
    intro n_2
    induction n_2 with
    | zero => intro y3_2 z_2 H locs ls hR; exact absurd (L_X0_isOneFamily_2_z.symm.trans hR) (fun h => nomatch h)
    | succ n_2 ih_2 =>
      intro y3_2 z_2 H locs ls hR hP hD hS hl
      have hR := L_X0_isOneFamily_2_s.symm.trans hR
      refine lv_iload_n hx hb dX0_isOneFamily_2 rfl (lv_at hl 3 rfl) ?_
      refine lv_aload_n hx hb dX0_isOneFamily_3 rfl (lv_at hl 1 rfl) ?_
      refine bw_get (ci := 1) (v := .int (gI z_2 2)) (C := RX1) (T := TX1) (N := 7) hx hb hts i_X1 hown hK hP 10 rfl rfl 4 (by decide) f_32 rfl dX0_isOneFamily_4 ?_
      refine lv_icmp_ge (tgt := 36) hx hb dX0_isOneFamily_7 (by decide) (fun c_1 => ?_) (fun c_1 => ?_)
      · have hR := (if_pos c_1).symm.trans hR
        refine lv_aload_n hx hb dX0_isOneFamily_36 rfl (lv_at hl 0 rfl) ?_
        refine lv_iconst (v := 0) hx hb dX0_isOneFamily_37 (by decide) ?_
        refine lv_aload_n hx hb dX0_isOneFamily_38 rfl (lv_at hl 1 rfl) ?_
        refine bw_get (ci := 1) (v := .int (gI z_2 2)) (C := RX1) (T := TX1) (N := 7) hx hb hts i_X1 hown hK hP 10 rfl rfl 4 (by decide) f_32 rfl dX0_isOneFamily_39 ?_
        obtain ⟨v_2, e_2, hR⟩ := b1_some hR
        refine bc_i (va_runV (As := [.int 0, .int (gI z_2 2)]) (rest := []) ⟨hx, hb, hml, hown, hts⟩ (c_X0_familyOf l D cI cO ad _ e_2) (cwV 2 hts gX0_isOneFamily_X0_familyOf rfl rfl rfl (by decide +kernel) ⟨Nat.le_of_ble_eq_true rfl, Nat.le_of_ble_eq_true rfl⟩) (preV hK hN hP hD (va_recv hK hP (ci := 0) (q0 := 19) rfl rfl)) rfl rfl hl.1 rfl (lv_room (Nat.le_of_ble_eq_true rfl)) dX0_isOneFamily_42 ⟨Nat.zero_le _, Nat.zero_le _⟩) hS hD hA (fun H locs hP hD hS => ?_)
        refine lv_iconst (v := 1) hx hb dX0_isOneFamily_45 (by decide) ?_
        refine lv_aload_n hx hb dX0_isOneFamily_46 rfl (lv_at hl 1 rfl) ?_
        refine bw_get (ci := 1) (v := .int (gI z_2 2)) (C := RX1) (T := TX1) (N := 7) hx hb hts i_X1 hown hK hP 10 rfl rfl 4 (by decide) f_32 rfl dX0_isOneFamily_47 ?_
        refine lv_ishl hx hb dX0_isOneFamily_50 ?_
        refine W.eq (g2 := F0 m 51 ls (.int (jshl 1 (gI z_2 2)) :: [.int v_2])) rfl ?_
        refine lv_iconst (v := 1) hx hb dX0_isOneFamily_51 (by decide) ?_
        refine lv_isub hx hb dX0_isOneFamily_52 ?_
        refine lv_icmp_ne (tgt := 60) hx hb dX0_isOneFamily_53 (by decide) (fun c_3 => ?_) (fun c_3 => ?_)
        · have hR := (if_neg c_3).symm.trans hR
          refine lv_iconst (v := 0) hx hb dX0_isOneFamily_60 (by decide) ?_
          exact ret_ _ _ _ _ _ _ dX0_isOneFamily_61 (by decide) (sp1 hR) (congrArg (fun z => (BW cI cO ad z)) (sp2 hR)) hP hD hS
        · have hR := (if_pos c_3).symm.trans hR
          refine lv_iconst (v := 1) hx hb dX0_isOneFamily_56 (by decide) ?_
          refine lv_goto (tgt := 61) hx hb dX0_isOneFamily_57 (by decide) ?_
          exact ret_ _ _ _ _ _ _ dX0_isOneFamily_61 (by decide) (sp1 hR) (congrArg (fun z => (BW cI cO ad z)) (sp2 hR)) hP hD hS
      · have hR := (if_neg c_1).symm.trans hR
        refine lv_aload_n hx hb dX0_isOneFamily_10 rfl (lv_at hl 0 rfl) ?_
        refine bw_get (ci := 0) (v := .ref (ad 20)) (C := RX0) (T := TX0) (N := 3) hx hb hts i_X0 hown hK hP 19 rfl rfl 0 (by decide) f_9 rfl dX0_isOneFamily_11 ?_
        refine lv_iload_n hx hb dX0_isOneFamily_14 rfl (lv_at hl 3 rfl) ?_
        refine lv_aload_n hx hb dX0_isOneFamily_15 rfl (lv_at hl 1 rfl) ?_
        refine lv_iload_n hx hb dX0_isOneFamily_16 rfl (lv_at hl 3 rfl) ?_
        refine lv_iload_n hx hb dX0_isOneFamily_17 rfl (lv_at hl 2 rfl) ?_
        refine lv_iload_n hx hb dX0_isOneFamily_18 rfl (lv_at hl 3 rfl) ?_
        refine lv_aload_n hx hb dX0_isOneFamily_19 rfl (lv_at hl 1 rfl) ?_
        refine bw_get (ci := 1) (v := .int (gI z_2 2)) (C := RX1) (T := TX1) (N := 7) hx hb hts i_X1 hown hK hP 10 rfl rfl 4 (by decide) f_32 rfl dX0_isOneFamily_20 ?_
        obtain ⟨v_4, e_4, hR⟩ := b1_some hR
        refine bc_i (va_runS (As := [.int x2, .int y3_2, .int (gI z_2 2)]) (rest := [.int y3_2, .ref (ad 10), .int y3_2, .ref (ad 20)]) ⟨hx, hb, hml, hown, hts⟩ (c_X0_moodIn l D cI cO ad _ e_4) (va_cwS 3 hts gX0_isOneFamily_X0_moodIn rfl rfl rfl (by decide +kernel) ⟨Nat.le_of_ble_eq_true rfl, Nat.le_of_ble_eq_true rfl⟩) (preS hK hN hP hD) rfl rfl hl.1 rfl (lv_room (Nat.le_of_ble_eq_true rfl)) dX0_isOneFamily_23 ⟨Nat.zero_le _, Nat.zero_le _⟩) hS hD hA (fun H locs hP hD hS => ?_)
        obtain ⟨v_5, e_5, hR⟩ := b1_some hR
        refine bc_i (va_runV (As := [.int y3_2, .int v_4]) (rest := [.int y3_2, .ref (ad 20)]) ⟨hx, hb, hml, hown, hts⟩ (c_X1_soundIn l D cI cO ad _ e_5) (cwV 2 hts gX0_isOneFamily_X1_soundIn rfl rfl rfl (by decide +kernel) ⟨Nat.le_of_ble_eq_true rfl, Nat.le_of_ble_eq_true rfl⟩) (preV hK hN hP hD (va_recv hK hP (ci := 1) (q0 := 10) rfl rfl)) rfl rfl hl.1 rfl (lv_room (Nat.le_of_ble_eq_true rfl)) dX0_isOneFamily_26 ⟨Nat.zero_le _, Nat.zero_le _⟩) hS hD hA (fun H locs hP hD hS => ?_)
        obtain ⟨h_6, hR⟩ := ck_some hR
        refine bw_ast (w' := (BW cI cO ad (sA z_2 7 y3_2 v_5))) hx hb hK hP hD hS 20 rfl h_6 (BW_a7 cI cO ad _ _) dX0_isOneFamily_29 (fun H locs hP hD hS => ?_)
        refine lv_iinc (v := y3_2 + 1) (lv' := [(3, .int (y3_2 + 1)), (0, .ref (ad 19)), (1, .ref (ad 10)), (2, .int x2)]) hx hb dX0_isOneFamily_30 hl (k := 3) rfl rfl (by decide) rfl (fun ls hl => ?_)
        refine lv_goto (tgt := 2) hx hb dX0_isOneFamily_33 (by decide) ?_
        exact ih_2 _ _ _ _ _ hR hP hD hS (lv_sub hl [1, 2, 3, 0] rfl)
  exact lp_2 _ _ _ _ _ _ hR hP hD hS (lv_sub hl [1, 2, 3, 0] rfl)
abbrev rm_X0_findChoir : Room := { frames := 4, cells := 0, slots := 0, locals := 94 }
set_option maxHeartbeats 4000000 in
set_option maxRecDepth 100000 in
theorem c_X0_findChoir (l : Launch) (D : va_G) (cI cO : ClassId) (ad : Nat → Nat) (sz : Nat) {st : St} {r : Int32} {s2 : St} (hR : F_X0_findChoir st = some (r, s2)) : CZ l yX0_findChoir wsX0_findChoir rm_X0_findChoir D cI cO [.ref (ad 19), .ref (ad 10)] (BW cI cO ad st) (BW cI cO ad s2) sz r := by
  refine mk_z (cc := cX0_findChoir) (maxL := 7) (own := RX0) rfl (by decide) rfl (Nat.le_of_ble_eq_true rfl) ?_
  intro p e s m args below meth c A Q ls hx hb hml hown hts hK hN hA ret_ hP hD hS hl
  have i_X1 : ∀ w ∈ u_ws RX1 TX1 7, w ∈ wsX0_findChoir := (fun _ h => List.mem_cons_of_mem _ (List.mem_append_left _ (List.mem_append_right _ h)))
  have i_X0 : ∀ w ∈ u_ws RX0 TX0 3, w ∈ wsX0_findChoir := (fun _ h => List.mem_cons_of_mem _ (List.mem_append_right _ h))
  have f_32 := hts (.fieldLink RX0 32 "BellNames$Herd" "count" "I") (by decide +kernel)
  have f_18 := hts (.fieldLink RX0 18 "BellNames$Families" "changed" "I") (by decide +kernel)
  have f_15 := hts (.fieldLink RX0 15 "BellNames$Families" "moods" "[I") (by decide +kernel)
  have hl : lv_has ls 7 [(0, .ref (ad 19)), (1, .ref (ad 10))] := hl
  unfold F_X0_findChoir at hR
  refine lv_iconst (v := 1) hx hb dX0_findChoir_0 (by decide) ?_
  refine lv_iconst (v := 2) hx hb dX0_findChoir_1 (by decide) ?_
  refine lv_aload_n hx hb dX0_findChoir_2 rfl (lv_at hl 1 rfl) ?_
  refine bw_get (ci := 1) (v := .int (gI st 2)) (C := RX1) (T := TX1) (N := 7) hx hb hts i_X1 hown hK hP 10 rfl rfl 4 (by decide) f_32 rfl dX0_findChoir_3 ?_
  refine lv_imul hx hb dX0_findChoir_6 ?_
  refine lv_ishl hx hb dX0_findChoir_7 ?_
  refine W.eq (g2 := F0 m 8 ls (.int (jshl 1 (2 * (gI st 2))) :: [])) rfl ?_
  refine lv_istore_n (lv' := [(2, .int (jshl 1 (2 * (gI st 2)))), (0, .ref (ad 19)), (1, .ref (ad 10))]) hx hb dX0_findChoir_8 rfl hl (by decide) rfl (fun ls hl => ?_)
  refine lv_bipush (v := (-9)) hx hb dX0_findChoir_9 (by decide) ?_
  refine lv_istore_n (lv' := [(3, .int (-9)), (2, .int (jshl 1 (2 * (gI st 2)))), (0, .ref (ad 19)), (1, .ref (ad 10))]) hx hb dX0_findChoir_11 rfl hl (by decide) rfl (fun ls hl => ?_)
  refine lv_bipush (v := 6) hx hb dX0_findChoir_12 (by decide) ?_
  refine lv_istore (lv' := [(4, .int 6), (3, .int (-9)), (2, .int (jshl 1 (2 * (gI st 2)))), (0, .ref (ad 19)), (1, .ref (ad 10))]) hx hb dX0_findChoir_14 hl (by decide) rfl (fun ls hl => ?_)
  refine lv_iconst (v := 0) hx hb dX0_findChoir_16 (by decide) ?_
  refine lv_istore (lv' := [(5, .int 0), (4, .int 6), (3, .int (-9)), (2, .int (jshl 1 (2 * (gI st 2)))), (0, .ref (ad 19)), (1, .ref (ad 10))]) hx hb dX0_findChoir_17 hl (by decide) rfl (fun ls hl => ?_)
  have lp_19 : ∀ (n_19 : Nat) (y3_19 : Int32) (y4_19 : Int32) (y5_19 : Int32) (z_19 : St) (H : Heap) (locs : List Loc) (ls : Array Slot), L_X0_findChoir_19 st (fun y3_19 y4_19 y5_19 z_19 => if y3_19 = (-9) then some (0, z_19) else L_X0_findChoir_80 y3_19 (fun y5_80 z_80 => some (1, z_80)) 1100 0 (sI z_19 6 y4_19)) n_19 y3_19 y4_19 y5_19 z_19 = some (r, s2) → va_P D vwCl (BW cI cO ad z_19) H → va_D A (BW cI cO ad z_19) → va_S A s.heap H locs → lv_has ls 7 [(0, .ref (ad 19)), (1, .ref (ad 10)), (2, .int (jshl 1 (2 * (gI st 2)))), (3, .int y3_19), (4, .int y4_19), (5, .int y5_19)] → W p l e rm_X0_findChoir s m args below meth c H locs 0 0 Q (F0 m 19 ls []) := by
    intro n_19
    induction n_19 with
    | zero => intro y3_19 y4_19 y5_19 z_19 H locs ls hR; exact absurd (L_X0_findChoir_19_z.symm.trans hR) (fun h => nomatch h)
    | succ n_19 ih_19 =>
      intro y3_19 y4_19 y5_19 z_19 H locs ls hR hP hD hS hl
      have hR := L_X0_findChoir_19_s.symm.trans hR
      refine lv_iload hx hb dX0_findChoir_19 (lv_at hl 5 rfl) ?_
      refine lv_iload_n hx hb dX0_findChoir_21 rfl (lv_at hl 2 rfl) ?_
      refine lv_icmp_ge (tgt := 63) hx hb dX0_findChoir_22 (by decide) (fun c_1 => ?_) (fun c_1 => ?_)
      · have hR := (if_pos c_1).symm.trans hR
        refine lv_iload_n hx hb dX0_findChoir_63 rfl (lv_at hl 3 rfl) ?_
        refine lv_bipush (v := (-9)) hx hb dX0_findChoir_64 (by decide) ?_
        refine lv_icmp_ne (tgt := 71) hx hb dX0_findChoir_66 (by decide) (fun c_2 => ?_) (fun c_2 => ?_)
        · have hR := (if_neg c_2).symm.trans hR
          refine lv_aload_n hx hb dX0_findChoir_71 rfl (lv_at hl 0 rfl) ?_
          refine lv_iload hx hb dX0_findChoir_72 (lv_at hl 4 rfl) ?_
          refine bw_put (w' := (BW cI cO ad (sI z_19 6 y4_19))) (ci := 0) (C := RX0) (T := TX0) (N := 3) hx hb hts i_X0 tyX0 tyX0_ok nmX0 hown hK hP hD hS 19 rfl rfl 2 (by decide) f_18 rfl rfl (Nat.le_of_ble_eq_true rfl) (BW_i6 cI cO ad _ _) dX0_findChoir_74 (fun H locs hP hD hS => ?_)
          refine lv_iconst (v := 0) hx hb dX0_findChoir_77 (by decide) ?_
          refine lv_istore (lv' := [(5, .int 0), (0, .ref (ad 19)), (1, .ref (ad 10)), (2, .int (jshl 1 (2 * (gI st 2)))), (3, .int y3_19), (4, .int y4_19)]) hx hb dX0_findChoir_78 hl (by decide) rfl (fun ls hl => ?_)
          have lp_80 : ∀ (n_80 : Nat) (y5_80 : Int32) (z_80 : St) (H : Heap) (locs : List Loc) (ls : Array Slot), L_X0_findChoir_80 y3_19 (fun y5_80 z_80 => some (1, z_80)) n_80 y5_80 z_80 = some (r, s2) → va_P D vwCl (BW cI cO ad z_80) H → va_D A (BW cI cO ad z_80) → va_S A s.heap H locs → lv_has ls 7 [(0, .ref (ad 19)), (1, .ref (ad 10)), (3, .int y3_19), (5, .int y5_80)] → W p l e rm_X0_findChoir s m args below meth c H locs 0 0 Q (F0 m 80 ls []) := by
            intro n_80
            induction n_80 with
            | zero => intro y5_80 z_80 H locs ls hR; exact absurd (L_X0_findChoir_80_z.symm.trans hR) (fun h => nomatch h)
            | succ n_80 ih_80 =>
              intro y5_80 z_80 H locs ls hR hP hD hS hl
              have hR := L_X0_findChoir_80_s.symm.trans hR
              refine lv_iload hx hb dX0_findChoir_80 (lv_at hl 3 rfl) ?_
              refine lv_aload_n hx hb dX0_findChoir_82 rfl (lv_at hl 1 rfl) ?_
              refine bw_get (ci := 1) (v := .int (gI z_80 2)) (C := RX1) (T := TX1) (N := 7) hx hb hts i_X1 hown hK hP 10 rfl rfl 4 (by decide) f_32 rfl dX0_findChoir_83 ?_
              refine lv_icmp_ge (tgt := 112) hx hb dX0_findChoir_86 (by decide) (fun c_3 => ?_) (fun c_3 => ?_)
              · have hR := (if_pos c_3).symm.trans hR
                refine lv_iconst (v := 1) hx hb dX0_findChoir_112 (by decide) ?_
                exact ret_ _ _ _ _ _ _ dX0_findChoir_113 (by decide) (sp1 hR) (congrArg (fun z => (BW cI cO ad z)) (sp2 hR)) hP hD hS
              · have hR := (if_neg c_3).symm.trans hR
                refine lv_aload_n hx hb dX0_findChoir_89 rfl (lv_at hl 0 rfl) ?_
                refine bw_get (ci := 0) (v := .ref (ad 21)) (C := RX0) (T := TX0) (N := 3) hx hb hts i_X0 hown hK hP 19 rfl rfl 1 (by decide) f_15 rfl dX0_findChoir_90 ?_
                refine lv_iload hx hb dX0_findChoir_93 (lv_at hl 3 rfl) ?_
                refine lv_iload_n hx hb dX0_findChoir_95 rfl (lv_at hl 2 rfl) ?_
                refine lv_iload hx hb dX0_findChoir_96 (lv_at hl 3 rfl) ?_
                refine lv_aload_n hx hb dX0_findChoir_98 rfl (lv_at hl 1 rfl) ?_
                refine bw_get (ci := 1) (v := .int (gI z_80 2)) (C := RX1) (T := TX1) (N := 7) hx hb hts i_X1 hown hK hP 10 rfl rfl 4 (by decide) f_32 rfl dX0_findChoir_99 ?_
                obtain ⟨v_4, e_4, hR⟩ := b1_some hR
                refine bc_i (va_runS (As := [.int y3_19, .int y5_80, .int (gI z_80 2)]) (rest := [.int y5_80, .ref (ad 21)]) ⟨hx, hb, hml, hown, hts⟩ (c_X0_moodIn l D cI cO ad _ e_4) (va_cwS 3 hts gX0_findChoir_X0_moodIn rfl rfl rfl (by decide +kernel) ⟨Nat.le_of_ble_eq_true rfl, Nat.le_of_ble_eq_true rfl⟩) (preS hK hN hP hD) rfl rfl hl.1 rfl (lv_room (Nat.le_of_ble_eq_true rfl)) dX0_findChoir_102 ⟨Nat.zero_le _, Nat.zero_le _⟩) hS hD hA (fun H locs hP hD hS => ?_)
                obtain ⟨h_5, hR⟩ := ck_some hR
                refine bw_ast (w' := (BW cI cO ad (sA z_80 8 y5_80 v_4))) hx hb hK hP hD hS 21 rfl h_5 (BW_a8 cI cO ad _ _) dX0_findChoir_105 (fun H locs hP hD hS => ?_)
                refine lv_iinc (v := y5_80 + 1) (lv' := [(5, .int (y5_80 + 1)), (0, .ref (ad 19)), (1, .ref (ad 10)), (3, .int y3_19)]) hx hb dX0_findChoir_106 hl (k := 3) rfl rfl (by decide) rfl (fun ls hl => ?_)
                refine lv_goto (tgt := 80) hx hb dX0_findChoir_109 (by decide) ?_
                exact ih_80 _ _ _ _ _ hR hP hD hS (lv_sub hl [1, 2, 3, 0] rfl)
          exact lp_80 _ _ _ _ _ _ hR hP hD hS (lv_sub hl [1, 2, 4, 0] rfl)
        · have hR := (if_pos c_2).symm.trans hR
          refine lv_iconst (v := 0) hx hb dX0_findChoir_69 (by decide) ?_
          exact ret_ _ _ _ _ _ _ dX0_findChoir_70 (by decide) (sp1 hR) (congrArg (fun z => (BW cI cO ad z)) (sp2 hR)) hP hD hS
      · have hR := (if_neg c_1).symm.trans hR
        refine lv_aload_n hx hb dX0_findChoir_25 rfl (lv_at hl 1 rfl) ?_
        refine lv_iload hx hb dX0_findChoir_26 (lv_at hl 5 rfl) ?_
        obtain ⟨v_6, e_6, hR⟩ := b1_some hR
        refine bc_i (va_runS (As := [.ref (ad 10), .int y5_19]) (rest := []) ⟨hx, hb, hml, hown, hts⟩ (c_X0_changesOf l D cI cO ad _ e_6) (va_cwS 2 hts gX0_findChoir_X0_changesOf rfl rfl rfl (by decide +kernel) ⟨Nat.le_of_ble_eq_true rfl, Nat.le_of_ble_eq_true rfl⟩) (preS hK hN hP hD) rfl rfl hl.1 rfl (lv_room (Nat.le_of_ble_eq_true rfl)) dX0_findChoir_28 ⟨Nat.zero_le _, Nat.zero_le _⟩) hS hD hA (fun H locs hP hD hS => ?_)
        refine lv_istore (lv' := [(6, .int v_6), (0, .ref (ad 19)), (1, .ref (ad 10)), (2, .int (jshl 1 (2 * (gI st 2)))), (3, .int y3_19), (4, .int y4_19), (5, .int y5_19)]) hx hb dX0_findChoir_31 hl (by decide) rfl (fun ls hl => ?_)
        refine lv_iload hx hb dX0_findChoir_33 (lv_at hl 0 rfl) ?_
        refine lv_iload hx hb dX0_findChoir_35 (lv_at hl 5 rfl) ?_
        refine lv_icmp_ge (tgt := 57) hx hb dX0_findChoir_37 (by decide) (fun c_7 => ?_) (fun c_7 => ?_)
        · have hR := (if_pos c_7).symm.trans hR
          refine lv_iinc (v := y5_19 + 1) (lv' := [(5, .int (y5_19 + 1)), (6, .int v_6), (0, .ref (ad 19)), (1, .ref (ad 10)), (2, .int (jshl 1 (2 * (gI st 2)))), (3, .int y3_19), (4, .int y4_19)]) hx hb dX0_findChoir_57 hl (k := 6) rfl rfl (by decide) rfl (fun ls hl => ?_)
          refine lv_goto (tgt := 19) hx hb dX0_findChoir_60 (by decide) ?_
          exact ih_19 _ _ _ _ _ _ _ hR hP hD hS (lv_sub hl [2, 3, 4, 5, 6, 0] rfl)
        · have hR := (if_neg c_7).symm.trans hR
          refine lv_aload_n hx hb dX0_findChoir_40 rfl (lv_at hl 1 rfl) ?_
          refine lv_aload_n hx hb dX0_findChoir_41 rfl (lv_at hl 2 rfl) ?_
          refine lv_iload hx hb dX0_findChoir_42 (lv_at hl 6 rfl) ?_
          obtain ⟨v_8, s_8, e_8, hR⟩ := b2_some hR
          refine bc_z (va_runV (As := [.ref (ad 10), .int y5_19]) (rest := []) ⟨hx, hb, hml, hown, hts⟩ (c_X0_isOneFamily l D cI cO ad _ e_8) (cwV 2 hts gX0_findChoir_X0_isOneFamily rfl rfl rfl (by decide +kernel) ⟨Nat.le_of_ble_eq_true rfl, Nat.le_of_ble_eq_true rfl⟩) (preV hK hN hP hD (va_recv hK hP (ci := 0) (q0 := 19) rfl rfl)) rfl rfl hl.1 rfl (lv_room (Nat.le_of_ble_eq_true rfl)) dX0_findChoir_44 ⟨Nat.zero_le _, Nat.zero_le _⟩) hS hD hA (fun H locs hP hD hS n_8 => ?_)
          refine lv_if_eq (tgt := 57) hx hb dX0_findChoir_47 (by decide) (fun c_9 => ?_) (fun c_9 => ?_)
          · have hR := (if_pos c_9).symm.trans hR
            refine lv_iinc (v := y5_19 + 1) (lv' := [(5, .int (y5_19 + 1)), (6, .int v_6), (0, .ref (ad 19)), (1, .ref (ad 10)), (2, .int (jshl 1 (2 * (gI st 2)))), (3, .int y3_19), (4, .int y4_19)]) hx hb dX0_findChoir_57 hl (k := 6) rfl rfl (by decide) rfl (fun ls hl => ?_)
            refine lv_goto (tgt := 19) hx hb dX0_findChoir_60 (by decide) ?_
            exact ih_19 _ _ _ _ _ _ _ hR hP hD hS (lv_sub hl [2, 3, 4, 5, 6, 0] rfl)
          · have hR := (if_neg c_9).symm.trans hR
            refine lv_iload hx hb dX0_findChoir_50 (lv_at hl 6 rfl) ?_
            refine lv_istore_n (lv' := [(3, .int y5_19), (6, .int v_6), (0, .ref (ad 19)), (1, .ref (ad 10)), (2, .int (jshl 1 (2 * (gI st 2)))), (4, .int y4_19), (5, .int y5_19)]) hx hb dX0_findChoir_52 rfl hl (by decide) rfl (fun ls hl => ?_)
            refine lv_iload hx hb dX0_findChoir_53 (lv_at hl 1 rfl) ?_
            refine lv_istore (lv' := [(4, .int v_6), (3, .int y5_19), (6, .int v_6), (0, .ref (ad 19)), (1, .ref (ad 10)), (2, .int (jshl 1 (2 * (gI st 2)))), (5, .int y5_19)]) hx hb dX0_findChoir_55 hl (by decide) rfl (fun ls hl => ?_)
            refine lv_iinc (v := y5_19 + 1) (lv' := [(5, .int (y5_19 + 1)), (4, .int v_6), (3, .int y5_19), (6, .int v_6), (0, .ref (ad 19)), (1, .ref (ad 10)), (2, .int (jshl 1 (2 * (gI st 2))))]) hx hb dX0_findChoir_57 hl (k := 6) rfl rfl (by decide) rfl (fun ls hl => ?_)
            refine lv_goto (tgt := 19) hx hb dX0_findChoir_60 (by decide) ?_
            exact ih_19 _ _ _ _ _ _ _ hR hP hD hS (lv_sub hl [4, 5, 6, 2, 1, 0] rfl)
  exact lp_19 _ _ _ _ _ _ _ _ hR hP hD hS (lv_sub hl [4, 5, 3, 2, 1, 0] rfl)
abbrev rm_X1_isNone : Room := { frames := 0, cells := 0, slots := 0, locals := 0 }
set_option maxHeartbeats 4000000 in
set_option maxRecDepth 100000 in
theorem c_X1_isNone (l : Launch) (D : va_G) (cI cO : ClassId) (ad : Nat → Nat) (sz : Nat) {st : St} {r : Int32} (hR : F_X1_isNone st = some r) : CZ l yX1_isNone wsX1_isNone rm_X1_isNone D cI cO [.ref (ad 10)] (BW cI cO ad st) (BW cI cO ad st) sz r := by
  refine mk_z (cc := cX1_isNone) (maxL := 1) (own := RX1) rfl (by decide) rfl (Nat.le_of_ble_eq_true rfl) ?_
  intro p e s m args below meth c A Q ls hx hb hml hown hts hK hN hA ret_ hP hD hS hl
  have i_X1 : ∀ w ∈ u_ws RX1 TX1 7, w ∈ wsX1_isNone := (fun _ h => List.mem_cons_of_mem _ (List.mem_append_right _ h))
  have f_24 := hts (.fieldLink RX1 24 "BellNames$Herd" "count" "I") (by decide +kernel)
  have hl : lv_has ls 1 [(0, .ref (ad 10))] := hl
  unfold F_X1_isNone at hR
  refine lv_aload_n hx hb dX1_isNone_0 rfl (lv_at hl 0 rfl) ?_
  refine bw_get (ci := 1) (v := .int (gI st 2)) (C := RX1) (T := TX1) (N := 7) hx hb hts i_X1 hown hK hP 10 rfl rfl 4 (by decide) f_24 rfl dX1_isNone_1 ?_
  refine lv_if_ne (tgt := 11) hx hb dX1_isNone_4 (by decide) (fun c_1 => ?_) (fun c_1 => ?_)
  · have hR := (if_neg c_1).symm.trans hR
    refine lv_iconst (v := 0) hx hb dX1_isNone_11 (by decide) ?_
    exact ret_ _ _ _ _ _ _ dX1_isNone_12 (by decide) (Option.some.inj hR) rfl hP hD hS
  · have hR := (if_pos c_1).symm.trans hR
    refine lv_iconst (v := 1) hx hb dX1_isNone_7 (by decide) ?_
    refine lv_goto (tgt := 12) hx hb dX1_isNone_8 (by decide) ?_
    exact ret_ _ _ _ _ _ _ dX1_isNone_12 (by decide) (Option.some.inj hR) rfl hP hD hS
abbrev rm_X6_isBelow : Room := { frames := 0, cells := 0, slots := 0, locals := 0 }
set_option maxHeartbeats 4000000 in
set_option maxRecDepth 100000 in
theorem c_X6_isBelow (l : Launch) (D : va_G) (cI cO : ClassId) (ad : Nat → Nat) (sz : Nat) {st : St} {x0 : Int32} {x1 : Int32} {r : Int32} (hR : F_X6_isBelow st x0 x1 = some r) : CZ l yX6_isBelow wsX6_isBelow rm_X6_isBelow D cI cO [.int x0, .int x1] (BW cI cO ad st) (BW cI cO ad st) sz r := by
  refine mk_z (cc := cX6_isBelow) (maxL := 2) (own := RX6) rfl (by decide) rfl (Nat.le_of_ble_eq_true rfl) ?_
  intro p e s m args below meth c A Q ls hx hb hml hown hts hK hN hA ret_ hP hD hS hl
  have hl : lv_has ls 2 [(0, .int x0), (1, .int x1)] := hl
  unfold F_X6_isBelow at hR
  refine lv_iload_n hx hb dX6_isBelow_0 rfl (lv_at hl 0 rfl) ?_
  refine lv_if_lt (tgt := 13) hx hb dX6_isBelow_1 (by decide) (fun c_1 => ?_) (fun c_1 => ?_)
  · have hR := (if_pos c_1).symm.trans hR
    refine lv_iconst (v := 0) hx hb dX6_isBelow_13 (by decide) ?_
    exact ret_ _ _ _ _ _ _ dX6_isBelow_14 (by decide) (Option.some.inj hR) rfl hP hD hS
  · have hR := (if_neg c_1).symm.trans hR
    refine lv_iload_n hx hb dX6_isBelow_4 rfl (lv_at hl 0 rfl) ?_
    refine lv_iload_n hx hb dX6_isBelow_5 rfl (lv_at hl 1 rfl) ?_
    refine lv_icmp_ge (tgt := 13) hx hb dX6_isBelow_6 (by decide) (fun c_2 => ?_) (fun c_2 => ?_)
    · have hR := (if_pos c_2).symm.trans hR
      refine lv_iconst (v := 0) hx hb dX6_isBelow_13 (by decide) ?_
      exact ret_ _ _ _ _ _ _ dX6_isBelow_14 (by decide) (Option.some.inj hR) rfl hP hD hS
    · have hR := (if_neg c_2).symm.trans hR
      refine lv_iconst (v := 1) hx hb dX6_isBelow_9 (by decide) ?_
      refine lv_goto (tgt := 14) hx hb dX6_isBelow_10 (by decide) ?_
      exact ret_ _ _ _ _ _ _ dX6_isBelow_14 (by decide) (Option.some.inj hR) rfl hP hD hS
abbrev rm_X1_hasBell : Room := { frames := 1, cells := 0, slots := 0, locals := 21 }
set_option maxHeartbeats 4000000 in
set_option maxRecDepth 100000 in
theorem c_X1_hasBell (l : Launch) (D : va_G) (cI cO : ClassId) (ad : Nat → Nat) (sz : Nat) {st : St} {x1 : Int32} {r : Int32} (hR : F_X1_hasBell st x1 = some r) : CZ l yX1_hasBell wsX1_hasBell rm_X1_hasBell D cI cO [.ref (ad 10), .int x1] (BW cI cO ad st) (BW cI cO ad st) sz r := by
  refine mk_z (cc := cX1_hasBell) (maxL := 2) (own := RX1) rfl (by decide) rfl (Nat.le_of_ble_eq_true rfl) ?_
  intro p e s m args below meth c A Q ls hx hb hml hown hts hK hN hA ret_ hP hD hS hl
  have i_X1 : ∀ w ∈ u_ws RX1 TX1 7, w ∈ wsX1_hasBell := (fun _ h => List.mem_cons_of_mem _ (List.mem_append_right _ h))
  have f_24 := hts (.fieldLink RX1 24 "BellNames$Herd" "count" "I") (by decide +kernel)
  have hl : lv_has ls 2 [(0, .ref (ad 10)), (1, .int x1)] := hl
  unfold F_X1_hasBell at hR
  refine lv_iload_n hx hb dX1_hasBell_0 rfl (lv_at hl 1 rfl) ?_
  refine lv_aload_n hx hb dX1_hasBell_1 rfl (lv_at hl 0 rfl) ?_
  refine bw_get (ci := 1) (v := .int (gI st 2)) (C := RX1) (T := TX1) (N := 7) hx hb hts i_X1 hown hK hP 10 rfl rfl 4 (by decide) f_24 rfl dX1_hasBell_2 ?_
  obtain ⟨v_1, e_1, hR⟩ := b1_some hR
  refine bc_z (va_runSN (As := [.int x1, .int (gI st 2)]) (rest := []) ⟨hx, hb, hml, hown, hts⟩ (c_X6_isBelow l D cI cO ad _ e_1) ⟨va_cnB 2 hts gX1_hasBell_X6_isBelow_n34 rfl rfl rfl hN.2.2.2.2.2.2.1 (hts (.initialized RX6) (by decide +kernel)) (by decide +kernel) ⟨Nat.le_of_ble_eq_true rfl, Nat.le_of_ble_eq_true rfl⟩, hts (.static yX6_isBelow) (by decide +kernel), trivial⟩ (preS hK hN hP hD) rfl rfl hl.1 rfl (lv_room (Nat.le_of_ble_eq_true rfl)) dX1_hasBell_5 ⟨Nat.zero_le _, Nat.zero_le _⟩) hS hD hA (fun H locs hP hD hS n_1 => ?_)
  exact ret_ _ _ _ _ _ _ dX1_hasBell_8 n_1 (Option.some.inj hR) rfl hP hD hS
abbrev rm_X1_hasAll : Room := { frames := 1, cells := 0, slots := 0, locals := 21 }
set_option maxHeartbeats 4000000 in
set_option maxRecDepth 100000 in
theorem c_X1_hasAll (l : Launch) (D : va_G) (cI cO : ClassId) (ad : Nat → Nat) (sz : Nat) {st : St} {x1 : Int32} {r : Int32} (hR : F_X1_hasAll st x1 = some r) : CZ l yX1_hasAll wsX1_hasAll rm_X1_hasAll D cI cO [.ref (ad 10), .int x1] (BW cI cO ad st) (BW cI cO ad st) sz r := by
  refine mk_z (cc := cX1_hasAll) (maxL := 2) (own := RX1) rfl (by decide) rfl (Nat.le_of_ble_eq_true rfl) ?_
  intro p e s m args below meth c A Q ls hx hb hml hown hts hK hN hA ret_ hP hD hS hl
  have i_X1 : ∀ w ∈ u_ws RX1 TX1 7, w ∈ wsX1_hasAll := (fun _ h => List.mem_cons_of_mem _ (List.mem_append_right _ h))
  have f_24 := hts (.fieldLink RX1 24 "BellNames$Herd" "count" "I") (by decide +kernel)
  have hl : lv_has ls 2 [(0, .ref (ad 10)), (1, .int x1)] := hl
  unfold F_X1_hasAll at hR
  refine lv_iload_n hx hb dX1_hasAll_0 rfl (lv_at hl 1 rfl) ?_
  refine lv_iconst (v := 1) hx hb dX1_hasAll_1 (by decide) ?_
  refine lv_aload_n hx hb dX1_hasAll_2 rfl (lv_at hl 0 rfl) ?_
  refine bw_get (ci := 1) (v := .int (gI st 2)) (C := RX1) (T := TX1) (N := 7) hx hb hts i_X1 hown hK hP 10 rfl rfl 4 (by decide) f_24 rfl dX1_hasAll_3 ?_
  refine lv_ishl hx hb dX1_hasAll_6 ?_
  refine W.eq (g2 := F0 m 7 ls (.int (jshl 1 (gI st 2)) :: [.int x1])) rfl ?_
  obtain ⟨v_1, e_1, hR⟩ := b1_some hR
  refine bc_z (va_runSN (As := [.int x1, .int (jshl 1 (gI st 2))]) (rest := []) ⟨hx, hb, hml, hown, hts⟩ (c_X6_isBelow l D cI cO ad _ e_1) ⟨va_cnB 2 hts gX1_hasAll_X6_isBelow_n34 rfl rfl rfl hN.2.2.2.2.2.2.1 (hts (.initialized RX6) (by decide +kernel)) (by decide +kernel) ⟨Nat.le_of_ble_eq_true rfl, Nat.le_of_ble_eq_true rfl⟩, hts (.static yX6_isBelow) (by decide +kernel), trivial⟩ (preS hK hN hP hD) rfl rfl hl.1 rfl (lv_room (Nat.le_of_ble_eq_true rfl)) dX1_hasAll_7 ⟨Nat.zero_le _, Nat.zero_le _⟩) hS hD hA (fun H locs hP hD hS n_1 => ?_)
  exact ret_ _ _ _ _ _ _ dX1_hasAll_10 n_1 (Option.some.inj hR) rfl hP hD hS
abbrev rm_X4_bellsOf : Room := { frames := 0, cells := 0, slots := 0, locals := 0 }
set_option maxHeartbeats 4000000 in
set_option maxRecDepth 100000 in
theorem c_X4_bellsOf (l : Launch) (D : va_G) (cI cO : ClassId) (ad : Nat → Nat) (sz : Nat) {st : St} {x0 : Int32} {r : Int32} (hR : F_X4_bellsOf st x0 = some r) : CI l yX4_bellsOf wsX4_bellsOf rm_X4_bellsOf D cI cO [.int x0] (BW cI cO ad st) (BW cI cO ad st) sz r := by
  refine mk_i (cc := cX4_bellsOf) (maxL := 1) (own := RX4) rfl (by decide) rfl (Nat.le_of_ble_eq_true rfl) ?_
  intro p e s m args below meth c A Q ls hx hb hml hown hts hK hN hA ret_ hP hD hS hl
  have hl : lv_has ls 1 [(0, .int x0)] := hl
  unfold F_X4_bellsOf at hR
  refine lv_iload_n hx hb dX4_bellsOf_0 rfl (lv_at hl 0 rfl) ?_
  refine lv_iconst (v := 3) hx hb dX4_bellsOf_1 (by decide) ?_
  refine lv_isub hx hb dX4_bellsOf_2 ?_
  refine lv_iconst (v := 5) hx hb dX4_bellsOf_3 (by decide) ?_
  refine lv_idiv hx hb dX4_bellsOf_4 (by decide) ?_
  exact ret_ _ _ _ _ _ _ dX4_bellsOf_5  (Option.some.inj hR) rfl hP hD hS
abbrev rm_X4_startOf : Room := { frames := 0, cells := 0, slots := 0, locals := 0 }
set_option maxHeartbeats 4000000 in
set_option maxRecDepth 100000 in
theorem c_X4_startOf (l : Launch) (D : va_G) (cI cO : ClassId) (ad : Nat → Nat) (sz : Nat) {st : St} {x0 : Int32} {r : Int32} (hR : F_X4_startOf st x0 = some r) : CI l yX4_startOf wsX4_startOf rm_X4_startOf D cI cO [.int x0] (BW cI cO ad st) (BW cI cO ad st) sz r := by
  refine mk_i (cc := cX4_startOf) (maxL := 1) (own := RX4) rfl (by decide) rfl (Nat.le_of_ble_eq_true rfl) ?_
  intro p e s m args below meth c A Q ls hx hb hml hown hts hK hN hA ret_ hP hD hS hl
  have hl : lv_has ls 1 [(0, .int x0)] := hl
  unfold F_X4_startOf at hR
  refine lv_iconst (v := 3) hx hb dX4_startOf_0 (by decide) ?_
  refine lv_iconst (v := 5) hx hb dX4_startOf_1 (by decide) ?_
  refine lv_iload_n hx hb dX4_startOf_2 rfl (lv_at hl 0 rfl) ?_
  refine lv_imul hx hb dX4_startOf_3 ?_
  refine lv_iadd hx hb dX4_startOf_4 ?_
  exact ret_ _ _ _ _ _ _ dX4_startOf_5  (Option.some.inj hR) rfl hP hD hS
abbrev rm_X4_kindBy : Room := { frames := 0, cells := 0, slots := 0, locals := 0 }
set_option maxHeartbeats 4000000 in
set_option maxRecDepth 100000 in
theorem c_X4_kindBy (l : Launch) (D : va_G) (cI cO : ClassId) (ad : Nat → Nat) (sz : Nat) {st : St} {x0 : Int32} {r : Int32} (hR : F_X4_kindBy st x0 = some r) : CI l yX4_kindBy wsX4_kindBy rm_X4_kindBy D cI cO [.int x0] (BW cI cO ad st) (BW cI cO ad st) sz r := by
  refine mk_i (cc := cX4_kindBy) (maxL := 1) (own := RX4) rfl (by decide) rfl (Nat.le_of_ble_eq_true rfl) ?_
  intro p e s m args below meth c A Q ls hx hb hml hown hts hK hN hA ret_ hP hD hS hl
  have hl : lv_has ls 1 [(0, .int x0)] := hl
  unfold F_X4_kindBy at hR
  refine lv_iload_n hx hb dX4_kindBy_0 rfl (lv_at hl 0 rfl) ?_
  by_cases w_1_0 : x0 = 104
  · have hR := (if_pos w_1_0).symm.trans hR
    refine lv_lookup (off := 39) (tgt := 40) hx hb dX4_kindBy_1 (by decide) (by rw [w_1_0]; rfl) (by decide) ?_
    refine lv_iconst (v := 2) hx hb dX4_kindBy_40 (by decide) ?_
    exact ret_ _ _ _ _ _ _ dX4_kindBy_41  (Option.some.inj hR) rfl hP hD hS
  have hR := (if_neg w_1_0).symm.trans hR
  by_cases w_1_1 : x0 = 107
  · have hR := (if_pos w_1_1).symm.trans hR
    refine lv_lookup (off := 37) (tgt := 38) hx hb dX4_kindBy_1 (by decide) (by rw [w_1_1]; rfl) (by decide) ?_
    refine lv_iconst (v := 1) hx hb dX4_kindBy_38 (by decide) ?_
    exact ret_ _ _ _ _ _ _ dX4_kindBy_39  (Option.some.inj hR) rfl hP hD hS
  have hR := (if_neg w_1_1).symm.trans hR
  by_cases w_1_2 : x0 = 112
  · have hR := (if_pos w_1_2).symm.trans hR
    refine lv_lookup (off := 35) (tgt := 36) hx hb dX4_kindBy_1 (by decide) (by rw [w_1_2]; rfl) (by decide) ?_
    refine lv_iconst (v := 0) hx hb dX4_kindBy_36 (by decide) ?_
    exact ret_ _ _ _ _ _ _ dX4_kindBy_37  (Option.some.inj hR) rfl hP hD hS
  have hR := (if_neg w_1_2).symm.trans hR
  refine lv_lookup (off := 41) (tgt := 42) hx hb dX4_kindBy_1 (by decide) ((lv_osw w_1_0 rfl).trans ((lv_osw w_1_1 rfl).trans ((lv_osw w_1_2 rfl).trans rfl))) (by decide) ?_
  refine lv_bipush (v := (-9)) hx hb dX4_kindBy_42 (by decide) ?_
  exact ret_ _ _ _ _ _ _ dX4_kindBy_44  (Option.some.inj hR) rfl hP hD hS
abbrev rm_X1_settle : Room := { frames := 1, cells := 0, slots := 0, locals := 20 }
set_option maxHeartbeats 4000000 in
set_option maxRecDepth 100000 in
theorem c_X1_settle (l : Launch) (D : va_G) (cI cO : ClassId) (ad : Nat → Nat) (sz : Nat) {st : St} {k : Nat} (hk : k < 4) {x2 : Int32} {x3 : Int32} {s2 : St} (hR : F_X1_settle st k x2 x3 = some s2) : CV l yX1_settle wsX1_settle rm_X1_settle D cI cO [.ref (ad 10), .ref (ad (2 + k)), .int x2, .int x3] (BW cI cO ad st) (BW cI cO ad s2) sz := by
  refine mk_v (cc := cX1_settle) (maxL := 6) (own := RX1) rfl (by decide) rfl (Nat.le_of_ble_eq_true rfl) ?_
  intro p e s m args below meth c A Q ls hx hb hml hown hts hK hN hA ret_ hP hD hS hl
  have i_X3 : ∀ w ∈ u_ws RX3 TX3 3, w ∈ wsX1_settle := (fun _ h => List.mem_cons_of_mem _ (List.mem_append_left _ (List.mem_append_right _ h)))
  have i_X1 : ∀ w ∈ u_ws RX1 TX1 7, w ∈ wsX1_settle := (fun _ h => List.mem_cons_of_mem _ (List.mem_append_right _ h))
  have f_38 := hts (.fieldLink RX1 38 "BellNames$Sheet" "row" "[I") (by decide +kernel)
  have f_28 := hts (.fieldLink RX1 28 "BellNames$Herd" "wind" "I") (by decide +kernel)
  have f_31 := hts (.fieldLink RX1 31 "BellNames$Herd" "reach" "I") (by decide +kernel)
  have f_24 := hts (.fieldLink RX1 24 "BellNames$Herd" "count" "I") (by decide +kernel)
  have f_9 := hts (.fieldLink RX1 9 "BellNames$Herd" "kindOf" "[I") (by decide +kernel)
  have f_15 := hts (.fieldLink RX1 15 "BellNames$Herd" "noteOf" "[I") (by decide +kernel)
  have f_18 := hts (.fieldLink RX1 18 "BellNames$Herd" "spotOf" "[I") (by decide +kernel)
  have f_21 := hts (.fieldLink RX1 21 "BellNames$Herd" "moodOf" "[I") (by decide +kernel)
  have hl : lv_has ls 6 [(0, .ref (ad 10)), (1, .ref (ad (2 + k))), (2, .int x2), (3, .int x3)] := hl
  unfold F_X1_settle at hR
  refine lv_aload_n hx hb dX1_settle_0 rfl (lv_at hl 0 rfl) ?_
  refine lv_aload_n hx hb dX1_settle_1 rfl (lv_at hl 1 rfl) ?_
  refine bw_get (ci := 3) (v := .ref (ad (6 + k))) (C := RX3) (T := TX3) (N := 3) hx hb hts i_X3 hown hK hP (2 + k) (BW_sheet cI cO ad _ hk) rfl 0 (by decide) f_38 rfl dX1_settle_2 ?_
  refine lv_iload_n hx hb dX1_settle_5 rfl (lv_at hl 2 rfl) ?_
  refine lv_iconst (v := 1) hx hb dX1_settle_6 (by decide) ?_
  refine lv_iadd hx hb dX1_settle_7 ?_
  obtain ⟨h_1, hR⟩ := ck_some hR
  refine bw_ald (v := gA st (10 + k) (x2 + 1)) hx hb hK hP (6 + k) (BW_row cI cO ad _ hk) h_1 rfl dX1_settle_8 ?_
  refine lv_bipush (v := 48) hx hb dX1_settle_9 (by decide) ?_
  refine lv_isub hx hb dX1_settle_11 ?_
  refine bw_put (w' := (BW cI cO ad (sI st 3 ((gA st (10 + k) (x2 + 1)) - 48)))) (ci := 1) (C := RX1) (T := TX1) (N := 7) hx hb hts i_X1 tyX1 tyX1_ok nmX1 hown hK hP hD hS 10 rfl rfl 5 (by decide) f_28 rfl rfl (Nat.le_of_ble_eq_true rfl) (BW_i3 cI cO ad _ _) dX1_settle_12 (fun H locs hP hD hS => ?_)
  refine lv_aload_n hx hb dX1_settle_15 rfl (lv_at hl 0 rfl) ?_
  refine lv_aload_n hx hb dX1_settle_16 rfl (lv_at hl 1 rfl) ?_
  refine bw_get (ci := 3) (v := .ref (ad (6 + k))) (C := RX3) (T := TX3) (N := 3) hx hb hts i_X3 hown hK hP (2 + k) (BW_sheet cI cO ad _ hk) rfl 0 (by decide) f_38 rfl dX1_settle_17 ?_
  refine lv_iload_n hx hb dX1_settle_20 rfl (lv_at hl 2 rfl) ?_
  refine lv_iconst (v := 2) hx hb dX1_settle_21 (by decide) ?_
  refine lv_iadd hx hb dX1_settle_22 ?_
  obtain ⟨h_2, hR⟩ := ck_some hR
  refine bw_ald (v := gA (sI st 3 ((gA st (10 + k) (x2 + 1)) - 48)) (10 + k) (x2 + 2)) hx hb hK hP (6 + k) (BW_row cI cO ad _ hk) h_2 rfl dX1_settle_23 ?_
  refine lv_bipush (v := 48) hx hb dX1_settle_24 (by decide) ?_
  refine lv_isub hx hb dX1_settle_26 ?_
  refine bw_put (w' := (BW cI cO ad (sI (sI st 3 ((gA st (10 + k) (x2 + 1)) - 48)) 4 ((gA (sI st 3 ((gA st (10 + k) (x2 + 1)) - 48)) (10 + k) (x2 + 2)) - 48)))) (ci := 1) (C := RX1) (T := TX1) (N := 7) hx hb hts i_X1 tyX1 tyX1_ok nmX1 hown hK hP hD hS 10 rfl rfl 6 (by decide) f_31 rfl rfl (Nat.le_of_ble_eq_true rfl) (BW_i4 cI cO ad _ _) dX1_settle_27 (fun H locs hP hD hS => ?_)
  refine lv_aload_n hx hb dX1_settle_30 rfl (lv_at hl 0 rfl) ?_
  refine lv_iload_n hx hb dX1_settle_31 rfl (lv_at hl 3 rfl) ?_
  obtain ⟨v_3, e_3, hR⟩ := b1_some hR
  refine bc_i (va_runS (As := [.int x3]) (rest := [.ref (ad 10)]) ⟨hx, hb, hml, hown, hts⟩ (c_X4_bellsOf l D cI cO ad _ e_3) (va_cwS 1 hts gX1_settle_X4_bellsOf rfl rfl rfl (by decide +kernel) ⟨Nat.le_of_ble_eq_true rfl, Nat.le_of_ble_eq_true rfl⟩) (preS hK hN hP hD) rfl rfl hl.1 rfl (lv_room (Nat.le_of_ble_eq_true rfl)) dX1_settle_32 ⟨Nat.zero_le _, Nat.zero_le _⟩) hS hD hA (fun H locs hP hD hS => ?_)
  refine bw_put (w' := (BW cI cO ad (sI (sI (sI st 3 ((gA st (10 + k) (x2 + 1)) - 48)) 4 ((gA (sI st 3 ((gA st (10 + k) (x2 + 1)) - 48)) (10 + k) (x2 + 2)) - 48)) 2 v_3))) (ci := 1) (C := RX1) (T := TX1) (N := 7) hx hb hts i_X1 tyX1 tyX1_ok nmX1 hown hK hP hD hS 10 rfl rfl 4 (by decide) f_24 rfl rfl (Nat.le_of_ble_eq_true rfl) (BW_i2 cI cO ad _ _) dX1_settle_35 (fun H locs hP hD hS => ?_)
  refine lv_iconst (v := 0) hx hb dX1_settle_38 (by decide) ?_
  refine lv_istore (lv' := [(4, .int 0), (0, .ref (ad 10)), (1, .ref (ad (2 + k))), (2, .int x2), (3, .int x3)]) hx hb dX1_settle_39 hl (by decide) rfl (fun ls hl => ?_)
  have lp_41 : ∀ (n_41 : Nat) (y4_41 : Int32) (z_41 : St) (H : Heap) (locs : List Loc) (ls : Array Slot), L_X1_settle_41 k x2 (fun y4_41 z_41 => some z_41) n_41 y4_41 z_41 = some s2 → va_P D vwCl (BW cI cO ad z_41) H → va_D A (BW cI cO ad z_41) → va_S A s.heap H locs → lv_has ls 6 [(0, .ref (ad 10)), (1, .ref (ad (2 + k))), (2, .int x2), (4, .int y4_41)] → W p l e rm_X1_settle s m args below meth c H locs 0 0 Q (F0 m 41 ls []) := by
    intro n_41
    induction n_41 with
    | zero => intro y4_41 z_41 H locs ls hR; exact absurd (L_X1_settle_41_z.symm.trans hR) (fun h => nomatch h)
    | succ n_41 ih_41 =>
      intro y4_41 z_41 H locs ls hR hP hD hS hl
      have hR := L_X1_settle_41_s.symm.trans hR
      refine lv_iload hx hb dX1_settle_41 (lv_at hl 3 rfl) ?_
      refine lv_aload_n hx hb dX1_settle_43 rfl (lv_at hl 0 rfl) ?_
      refine bw_get (ci := 1) (v := .int (gI z_41 2)) (C := RX1) (T := TX1) (N := 7) hx hb hts i_X1 hown hK hP 10 rfl rfl 4 (by decide) f_24 rfl dX1_settle_44 ?_
      refine lv_icmp_ge (tgt := 141) hx hb dX1_settle_47 (by decide) (fun c_4 => ?_) (fun c_4 => ?_)
      · have hR := (if_pos c_4).symm.trans hR
        exact ret_ _ _ _ _ _ dX1_settle_141 (congrArg (fun z => (BW cI cO ad z)) (Option.some.inj hR)) hP hD hS
      · have hR := (if_neg c_4).symm.trans hR
        refine lv_iload_n hx hb dX1_settle_50 rfl (lv_at hl 2 rfl) ?_
        refine lv_iload hx hb dX1_settle_51 (lv_at hl 3 rfl) ?_
        obtain ⟨v_5, e_5, hR⟩ := b1_some hR
        refine bc_i (va_runS (As := [.int y4_41]) (rest := [.int x2]) ⟨hx, hb, hml, hown, hts⟩ (c_X4_startOf l D cI cO ad _ e_5) (va_cwS 1 hts gX1_settle_X4_startOf rfl rfl rfl (by decide +kernel) ⟨Nat.le_of_ble_eq_true rfl, Nat.le_of_ble_eq_true rfl⟩) (preS hK hN hP hD) rfl rfl hl.1 rfl (lv_room (Nat.le_of_ble_eq_true rfl)) dX1_settle_53 ⟨Nat.zero_le _, Nat.zero_le _⟩) hS hD hA (fun H locs hP hD hS => ?_)
        refine lv_iadd hx hb dX1_settle_56 ?_
        refine lv_istore (lv' := [(5, .int (x2 + v_5)), (0, .ref (ad 10)), (1, .ref (ad (2 + k))), (2, .int x2), (4, .int y4_41)]) hx hb dX1_settle_57 hl (by decide) rfl (fun ls hl => ?_)
        refine lv_aload_n hx hb dX1_settle_59 rfl (lv_at hl 1 rfl) ?_
        refine bw_get (ci := 1) (v := .ref (ad 11)) (C := RX1) (T := TX1) (N := 7) hx hb hts i_X1 hown hK hP 10 rfl rfl 0 (by decide) f_9 rfl dX1_settle_60 ?_
        refine lv_iload hx hb dX1_settle_63 (lv_at hl 4 rfl) ?_
        refine lv_aload_n hx hb dX1_settle_65 rfl (lv_at hl 2 rfl) ?_
        refine bw_get (ci := 3) (v := .ref (ad (6 + k))) (C := RX3) (T := TX3) (N := 3) hx hb hts i_X3 hown hK hP (2 + k) (BW_sheet cI cO ad _ hk) rfl 0 (by decide) f_38 rfl dX1_settle_66 ?_
        refine lv_iload hx hb dX1_settle_69 (lv_at hl 0 rfl) ?_
        refine lv_iconst (v := 1) hx hb dX1_settle_71 (by decide) ?_
        refine lv_iadd hx hb dX1_settle_72 ?_
        obtain ⟨h_6, hR⟩ := ck_some hR
        refine bw_ald (v := gA z_41 (10 + k) ((x2 + v_5) + 1)) hx hb hK hP (6 + k) (BW_row cI cO ad _ hk) h_6 rfl dX1_settle_73 ?_
        obtain ⟨v_7, e_7, hR⟩ := b1_some hR
        refine bc_i (va_runS (As := [.int (gA z_41 (10 + k) ((x2 + v_5) + 1))]) (rest := [.int y4_41, .ref (ad 11)]) ⟨hx, hb, hml, hown, hts⟩ (c_X4_kindBy l D cI cO ad _ e_7) (va_cwS 1 hts gX1_settle_X4_kindBy rfl rfl rfl (by decide +kernel) ⟨Nat.le_of_ble_eq_true rfl, Nat.le_of_ble_eq_true rfl⟩) (preS hK hN hP hD) rfl rfl hl.1 rfl (lv_room (Nat.le_of_ble_eq_true rfl)) dX1_settle_74 ⟨Nat.zero_le _, Nat.zero_le _⟩) hS hD hA (fun H locs hP hD hS => ?_)
        obtain ⟨h_8, hR⟩ := ck_some hR
        refine bw_ast (w' := (BW cI cO ad (sA z_41 0 y4_41 v_7))) hx hb hK hP hD hS 11 rfl h_8 (BW_a0 cI cO ad _ _) dX1_settle_77 (fun H locs hP hD hS => ?_)
        refine lv_aload_n hx hb dX1_settle_78 rfl (lv_at hl 1 rfl) ?_
        refine bw_get (ci := 1) (v := .ref (ad 12)) (C := RX1) (T := TX1) (N := 7) hx hb hts i_X1 hown hK hP 10 rfl rfl 1 (by decide) f_15 rfl dX1_settle_79 ?_
        refine lv_iload hx hb dX1_settle_82 (lv_at hl 4 rfl) ?_
        refine lv_aload_n hx hb dX1_settle_84 rfl (lv_at hl 2 rfl) ?_
        refine bw_get (ci := 3) (v := .ref (ad (6 + k))) (C := RX3) (T := TX3) (N := 3) hx hb hts i_X3 hown hK hP (2 + k) (BW_sheet cI cO ad _ hk) rfl 0 (by decide) f_38 rfl dX1_settle_85 ?_
        refine lv_iload hx hb dX1_settle_88 (lv_at hl 0 rfl) ?_
        refine lv_iconst (v := 2) hx hb dX1_settle_90 (by decide) ?_
        refine lv_iadd hx hb dX1_settle_91 ?_
        obtain ⟨h_9, hR⟩ := ck_some hR
        refine bw_ald (v := gA (sA z_41 0 y4_41 v_7) (10 + k) ((x2 + v_5) + 2)) hx hb hK hP (6 + k) (BW_row cI cO ad _ hk) h_9 rfl dX1_settle_92 ?_
        refine lv_bipush (v := 48) hx hb dX1_settle_93 (by decide) ?_
        refine lv_isub hx hb dX1_settle_95 ?_
        obtain ⟨h_10, hR⟩ := ck_some hR
        refine bw_ast (w' := (BW cI cO ad (sA (sA z_41 0 y4_41 v_7) 1 y4_41 ((gA (sA z_41 0 y4_41 v_7) (10 + k) ((x2 + v_5) + 2)) - 48)))) hx hb hK hP hD hS 12 rfl h_10 (BW_a1 cI cO ad _ _) dX1_settle_96 (fun H locs hP hD hS => ?_)
        refine lv_aload_n hx hb dX1_settle_97 rfl (lv_at hl 1 rfl) ?_
        refine bw_get (ci := 1) (v := .ref (ad 13)) (C := RX1) (T := TX1) (N := 7) hx hb hts i_X1 hown hK hP 10 rfl rfl 2 (by decide) f_18 rfl dX1_settle_98 ?_
        refine lv_iload hx hb dX1_settle_101 (lv_at hl 4 rfl) ?_
        refine lv_aload_n hx hb dX1_settle_103 rfl (lv_at hl 2 rfl) ?_
        refine bw_get (ci := 3) (v := .ref (ad (6 + k))) (C := RX3) (T := TX3) (N := 3) hx hb hts i_X3 hown hK hP (2 + k) (BW_sheet cI cO ad _ hk) rfl 0 (by decide) f_38 rfl dX1_settle_104 ?_
        refine lv_iload hx hb dX1_settle_107 (lv_at hl 0 rfl) ?_
        refine lv_iconst (v := 3) hx hb dX1_settle_109 (by decide) ?_
        refine lv_iadd hx hb dX1_settle_110 ?_
        obtain ⟨h_11, hR⟩ := ck_some hR
        refine bw_ald (v := gA (sA (sA z_41 0 y4_41 v_7) 1 y4_41 ((gA (sA z_41 0 y4_41 v_7) (10 + k) ((x2 + v_5) + 2)) - 48)) (10 + k) ((x2 + v_5) + 3)) hx hb hK hP (6 + k) (BW_row cI cO ad _ hk) h_11 rfl dX1_settle_111 ?_
        refine lv_bipush (v := 48) hx hb dX1_settle_112 (by decide) ?_
        refine lv_isub hx hb dX1_settle_114 ?_
        obtain ⟨h_12, hR⟩ := ck_some hR
        refine bw_ast (w' := (BW cI cO ad (sA (sA (sA z_41 0 y4_41 v_7) 1 y4_41 ((gA (sA z_41 0 y4_41 v_7) (10 + k) ((x2 + v_5) + 2)) - 48)) 2 y4_41 ((gA (sA (sA z_41 0 y4_41 v_7) 1 y4_41 ((gA (sA z_41 0 y4_41 v_7) (10 + k) ((x2 + v_5) + 2)) - 48)) (10 + k) ((x2 + v_5) + 3)) - 48)))) hx hb hK hP hD hS 13 rfl h_12 (BW_a2 cI cO ad _ _) dX1_settle_115 (fun H locs hP hD hS => ?_)
        refine lv_aload_n hx hb dX1_settle_116 rfl (lv_at hl 1 rfl) ?_
        refine bw_get (ci := 1) (v := .ref (ad 14)) (C := RX1) (T := TX1) (N := 7) hx hb hts i_X1 hown hK hP 10 rfl rfl 3 (by decide) f_21 rfl dX1_settle_117 ?_
        refine lv_iload hx hb dX1_settle_120 (lv_at hl 4 rfl) ?_
        refine lv_aload_n hx hb dX1_settle_122 rfl (lv_at hl 2 rfl) ?_
        refine bw_get (ci := 3) (v := .ref (ad (6 + k))) (C := RX3) (T := TX3) (N := 3) hx hb hts i_X3 hown hK hP (2 + k) (BW_sheet cI cO ad _ hk) rfl 0 (by decide) f_38 rfl dX1_settle_123 ?_
        refine lv_iload hx hb dX1_settle_126 (lv_at hl 0 rfl) ?_
        refine lv_iconst (v := 4) hx hb dX1_settle_128 (by decide) ?_
        refine lv_iadd hx hb dX1_settle_129 ?_
        obtain ⟨h_13, hR⟩ := ck_some hR
        refine bw_ald (v := gA (sA (sA (sA z_41 0 y4_41 v_7) 1 y4_41 ((gA (sA z_41 0 y4_41 v_7) (10 + k) ((x2 + v_5) + 2)) - 48)) 2 y4_41 ((gA (sA (sA z_41 0 y4_41 v_7) 1 y4_41 ((gA (sA z_41 0 y4_41 v_7) (10 + k) ((x2 + v_5) + 2)) - 48)) (10 + k) ((x2 + v_5) + 3)) - 48)) (10 + k) ((x2 + v_5) + 4)) hx hb hK hP (6 + k) (BW_row cI cO ad _ hk) h_13 rfl dX1_settle_130 ?_
        refine lv_bipush (v := 48) hx hb dX1_settle_131 (by decide) ?_
        refine lv_isub hx hb dX1_settle_133 ?_
        obtain ⟨h_14, hR⟩ := ck_some hR
        refine bw_ast (w' := (BW cI cO ad (sA (sA (sA (sA z_41 0 y4_41 v_7) 1 y4_41 ((gA (sA z_41 0 y4_41 v_7) (10 + k) ((x2 + v_5) + 2)) - 48)) 2 y4_41 ((gA (sA (sA z_41 0 y4_41 v_7) 1 y4_41 ((gA (sA z_41 0 y4_41 v_7) (10 + k) ((x2 + v_5) + 2)) - 48)) (10 + k) ((x2 + v_5) + 3)) - 48)) 3 y4_41 ((gA (sA (sA (sA z_41 0 y4_41 v_7) 1 y4_41 ((gA (sA z_41 0 y4_41 v_7) (10 + k) ((x2 + v_5) + 2)) - 48)) 2 y4_41 ((gA (sA (sA z_41 0 y4_41 v_7) 1 y4_41 ((gA (sA z_41 0 y4_41 v_7) (10 + k) ((x2 + v_5) + 2)) - 48)) (10 + k) ((x2 + v_5) + 3)) - 48)) (10 + k) ((x2 + v_5) + 4)) - 48)))) hx hb hK hP hD hS 14 rfl h_14 (BW_a3 cI cO ad _ _) dX1_settle_134 (fun H locs hP hD hS => ?_)
        refine lv_iinc (v := y4_41 + 1) (lv' := [(4, .int (y4_41 + 1)), (5, .int (x2 + v_5)), (0, .ref (ad 10)), (1, .ref (ad (2 + k))), (2, .int x2)]) hx hb dX1_settle_135 hl (k := 4) rfl rfl (by decide) rfl (fun ls hl => ?_)
        refine lv_goto (tgt := 41) hx hb dX1_settle_138 (by decide) ?_
        exact ih_41 _ _ _ _ _ hR hP hD hS (lv_sub hl [2, 3, 4, 0] rfl)
  exact lp_41 _ _ _ _ _ _ hR hP hD hS (lv_sub hl [1, 2, 3, 0] rfl)
abbrev rm_X1_soundNow : Room := { frames := 3, cells := 0, slots := 0, locals := 67 }
set_option maxHeartbeats 4000000 in
set_option maxRecDepth 100000 in
theorem c_X1_soundNow (l : Launch) (D : va_G) (cI cO : ClassId) (ad : Nat → Nat) (sz : Nat) {st : St} {x1 : Int32} {r : Int32} (hR : F_X1_soundNow st x1 = some r) : CI l yX1_soundNow wsX1_soundNow rm_X1_soundNow D cI cO [.ref (ad 10), .int x1] (BW cI cO ad st) (BW cI cO ad st) sz r := by
  refine mk_i (cc := cX1_soundNow) (maxL := 2) (own := RX1) rfl (by decide) rfl (Nat.le_of_ble_eq_true rfl) ?_
  intro p e s m args below meth c A Q ls hx hb hml hown hts hK hN hA ret_ hP hD hS hl
  have i_X1 : ∀ w ∈ u_ws RX1 TX1 7, w ∈ wsX1_soundNow := (fun _ h => List.mem_cons_of_mem _ (List.mem_append_right _ h))
  have f_21 := hts (.fieldLink RX1 21 "BellNames$Herd" "moodOf" "[I") (by decide +kernel)
  have hl : lv_has ls 2 [(0, .ref (ad 10)), (1, .int x1)] := hl
  unfold F_X1_soundNow at hR
  refine lv_aload_n hx hb dX1_soundNow_0 rfl (lv_at hl 0 rfl) ?_
  refine lv_iload_n hx hb dX1_soundNow_1 rfl (lv_at hl 1 rfl) ?_
  refine lv_aload_n hx hb dX1_soundNow_2 rfl (lv_at hl 0 rfl) ?_
  refine bw_get (ci := 1) (v := .ref (ad 14)) (C := RX1) (T := TX1) (N := 7) hx hb hts i_X1 hown hK hP 10 rfl rfl 3 (by decide) f_21 rfl dX1_soundNow_3 ?_
  refine lv_iload_n hx hb dX1_soundNow_6 rfl (lv_at hl 1 rfl) ?_
  obtain ⟨h_1, hR⟩ := ck_some hR
  refine bw_ald (v := gA st 3 x1) hx hb hK hP 14 rfl h_1 rfl dX1_soundNow_7 ?_
  obtain ⟨v_2, e_2, hR⟩ := b1_some hR
  refine bc_i (va_runV (As := [.int x1, .int (gA st 3 x1)]) (rest := []) ⟨hx, hb, hml, hown, hts⟩ (c_X1_soundIn l D cI cO ad _ e_2) (cwV 2 hts gX1_soundNow_X1_soundIn rfl rfl rfl (by decide +kernel) ⟨Nat.le_of_ble_eq_true rfl, Nat.le_of_ble_eq_true rfl⟩) (preV hK hN hP hD (va_recv hK hP (ci := 1) (q0 := 10) rfl rfl)) rfl rfl hl.1 rfl (lv_room (Nat.le_of_ble_eq_true rfl)) dX1_soundNow_8 ⟨Nat.zero_le _, Nat.zero_le _⟩) hS hD hA (fun H locs hP hD hS => ?_)
  exact ret_ _ _ _ _ _ _ dX1_soundNow_11  (Option.some.inj hR) rfl hP hD hS
abbrev rm_X1_soundSet : Room := { frames := 2, cells := 0, slots := 0, locals := 45 }
set_option maxHeartbeats 4000000 in
set_option maxRecDepth 100000 in
theorem c_X1_soundSet (l : Launch) (D : va_G) (cI cO : ClassId) (ad : Nat → Nat) (sz : Nat) {st : St} {x1 : Int32} {x2 : Int32} {r : Int32} (hR : F_X1_soundSet st x1 x2 = some r) : CI l yX1_soundSet wsX1_soundSet rm_X1_soundSet D cI cO [.ref (ad 10), .int x1, .int x2] (BW cI cO ad st) (BW cI cO ad st) sz r := by
  refine mk_i (cc := cX1_soundSet) (maxL := 5) (own := RX1) rfl (by decide) rfl (Nat.le_of_ble_eq_true rfl) ?_
  intro p e s m args below meth c A Q ls hx hb hml hown hts hK hN hA ret_ hP hD hS hl
  have i_X1 : ∀ w ∈ u_ws RX1 TX1 7, w ∈ wsX1_soundSet := (fun _ h => List.mem_cons_of_mem _ (List.mem_append_right _ h))
  have f_28 := hts (.fieldLink RX1 28 "BellNames$Herd" "wind" "I") (by decide +kernel)
  have hl : lv_has ls 5 [(0, .ref (ad 10)), (1, .int x1), (2, .int x2)] := hl
  unfold F_X1_soundSet at hR
  refine lv_iconst (v := 0) hx hb dX1_soundSet_0 (by decide) ?_
  refine lv_istore_n (lv' := [(3, .int 0), (0, .ref (ad 10)), (1, .int x1), (2, .int x2)]) hx hb dX1_soundSet_1 rfl hl (by decide) rfl (fun ls hl => ?_)
  refine lv_iconst (v := 0) hx hb dX1_soundSet_2 (by decide) ?_
  refine lv_istore (lv' := [(4, .int 0), (3, .int 0), (0, .ref (ad 10)), (1, .int x1), (2, .int x2)]) hx hb dX1_soundSet_3 hl (by decide) rfl (fun ls hl => ?_)
  have lp_5 : ∀ (n_5 : Nat) (y3_5 : Int32) (y4_5 : Int32) (H : Heap) (locs : List Loc) (ls : Array Slot), L_X1_soundSet_5 st x1 x2 (fun y3_5 y4_5 => some y3_5) n_5 y3_5 y4_5 = some r → va_P D vwCl (BW cI cO ad st) H → va_D A (BW cI cO ad st) → va_S A s.heap H locs → lv_has ls 5 [(0, .ref (ad 10)), (1, .int x1), (2, .int x2), (3, .int y3_5), (4, .int y4_5)] → W p l e rm_X1_soundSet s m args below meth c H locs 0 0 Q (F0 m 5 ls []) := by
    intro n_5
    induction n_5 with
    | zero => intro y3_5 y4_5 H locs ls hR; exact absurd (L_X1_soundSet_5_z.symm.trans hR) (fun h => nomatch h)
    | succ n_5 ih_5 =>
      intro y3_5 y4_5 H locs ls hR hP hD hS hl
      have hR := L_X1_soundSet_5_s.symm.trans hR
      refine lv_iload hx hb dX1_soundSet_5 (lv_at hl 4 rfl) ?_
      refine lv_iconst (v := 4) hx hb dX1_soundSet_7 (by decide) ?_
      refine lv_icmp_ge (tgt := 33) hx hb dX1_soundSet_8 (by decide) (fun c_1 => ?_) (fun c_1 => ?_)
      · have hR := (if_pos c_1).symm.trans hR
        refine lv_iload_n hx hb dX1_soundSet_33 rfl (lv_at hl 3 rfl) ?_
        exact ret_ _ _ _ _ _ _ dX1_soundSet_34  (Option.some.inj hR) rfl hP hD hS
      · have hR := (if_neg c_1).symm.trans hR
        refine lv_iload_n hx hb dX1_soundSet_11 rfl (lv_at hl 3 rfl) ?_
        refine lv_iconst (v := 1) hx hb dX1_soundSet_12 (by decide) ?_
        refine lv_iload_n hx hb dX1_soundSet_13 rfl (lv_at hl 1 rfl) ?_
        refine lv_iload_n hx hb dX1_soundSet_14 rfl (lv_at hl 2 rfl) ?_
        refine lv_iload hx hb dX1_soundSet_15 (lv_at hl 4 rfl) ?_
        refine lv_aload_n hx hb dX1_soundSet_17 rfl (lv_at hl 0 rfl) ?_
        refine bw_get (ci := 1) (v := .int (gI st 3)) (C := RX1) (T := TX1) (N := 7) hx hb hts i_X1 hown hK hP 10 rfl rfl 5 (by decide) f_28 rfl dX1_soundSet_18 ?_
        obtain ⟨v_2, e_2, hR⟩ := b1_some hR
        refine bc_i (va_runSN (As := [.int x1, .int x2, .int y4_5, .int (gI st 3)]) (rest := [.int 1, .int y3_5]) ⟨hx, hb, hml, hown, hts⟩ (c_X6_soundOf l D cI cO ad _ e_2) ⟨va_cnB 4 hts gX1_soundSet_X6_soundOf_n55 rfl rfl rfl hN.2.2.2.2.2.2.2.1 (hts (.initialized RX6) (by decide +kernel)) (by decide +kernel) ⟨Nat.le_of_ble_eq_true rfl, Nat.le_of_ble_eq_true rfl⟩, hts (.static yX6_soundOf) (by decide +kernel), trivial⟩ (preS hK hN hP hD) rfl rfl hl.1 rfl (lv_room (Nat.le_of_ble_eq_true rfl)) dX1_soundSet_21 ⟨Nat.zero_le _, Nat.zero_le _⟩) hS hD hA (fun H locs hP hD hS => ?_)
        refine lv_ishl hx hb dX1_soundSet_24 ?_
        refine W.eq (g2 := F0 m 25 ls (.int (jshl 1 v_2) :: [.int y3_5])) rfl ?_
        refine lv_ior hx hb dX1_soundSet_25 ?_
        refine lv_istore_n (lv' := [(3, .int (y3_5 ||| (jshl 1 v_2))), (0, .ref (ad 10)), (1, .int x1), (2, .int x2), (4, .int y4_5)]) hx hb dX1_soundSet_26 rfl hl (by decide) rfl (fun ls hl => ?_)
        refine lv_iinc (v := y4_5 + 1) (lv' := [(4, .int (y4_5 + 1)), (3, .int (y3_5 ||| (jshl 1 v_2))), (0, .ref (ad 10)), (1, .int x1), (2, .int x2)]) hx hb dX1_soundSet_27 hl (k := 4) rfl rfl (by decide) rfl (fun ls hl => ?_)
        refine lv_goto (tgt := 5) hx hb dX1_soundSet_30 (by decide) ?_
        exact ih_5 _ _ _ _ _ hR hP hD hS (lv_sub hl [2, 3, 4, 1, 0] rfl)
  exact lp_5 _ _ _ _ _ _ hR hP hD hS (lv_sub hl [2, 3, 4, 1, 0] rfl)
abbrev rm_X1_stepsFrom : Room := { frames := 1, cells := 0, slots := 0, locals := 21 }
set_option maxHeartbeats 4000000 in
set_option maxRecDepth 100000 in
theorem c_X1_stepsFrom (l : Launch) (D : va_G) (cI cO : ClassId) (ad : Nat → Nat) (sz : Nat) {st : St} {x1 : Int32} {x2 : Int32} {r : Int32} (hR : F_X1_stepsFrom st x1 x2 = some r) : CI l yX1_stepsFrom wsX1_stepsFrom rm_X1_stepsFrom D cI cO [.ref (ad 10), .int x1, .int x2] (BW cI cO ad st) (BW cI cO ad st) sz r := by
  refine mk_i (cc := cX1_stepsFrom) (maxL := 3) (own := RX1) rfl (by decide) rfl (Nat.le_of_ble_eq_true rfl) ?_
  intro p e s m args below meth c A Q ls hx hb hml hown hts hK hN hA ret_ hP hD hS hl
  have i_X1 : ∀ w ∈ u_ws RX1 TX1 7, w ∈ wsX1_stepsFrom := (fun _ h => List.mem_cons_of_mem _ (List.mem_append_right _ h))
  have m_63 := hts (.methodLink RX1 63 Lib.Math.abs.name) (by decide +kernel)
  have ms_abs := hts (.static Lib.Math.abs.name) (by decide +kernel)
  have mi := hts (.initialized "java/lang/Math") (by decide +kernel)
  have mc_abs := hts (.code Lib.Math.abs.name Lib.Math.abs.code 1 (some .int)) (by decide +kernel)
  have f_31 := hts (.fieldLink RX1 31 "BellNames$Herd" "reach" "I") (by decide +kernel)
  have m_68 := hts (.methodLink RX1 68 Lib.Math.max.name) (by decide +kernel)
  have ms_max := hts (.static Lib.Math.max.name) (by decide +kernel)
  have mc_max := hts (.code Lib.Math.max.name Lib.Math.max.code 2 (some .int)) (by decide +kernel)
  have hl : lv_has ls 3 [(0, .ref (ad 10)), (1, .int x1), (2, .int x2)] := hl
  unfold F_X1_stepsFrom at hR
  refine lv_iload_n hx hb dX1_stepsFrom_0 rfl (lv_at hl 1 rfl) ?_
  refine lv_iload_n hx hb dX1_stepsFrom_1 rfl (lv_at hl 2 rfl) ?_
  refine lv_isub hx hb dX1_stepsFrom_2 ?_
  refine bw_abs hx hb (hml.trans hl.1.symm) hown m_63 ms_abs mi mc_abs (Nat.le_of_ble_eq_true rfl) (Nat.le_of_ble_eq_true rfl) (Nat.zero_le _) (Nat.zero_le _) dX1_stepsFrom_3 ?_
  refine lv_aload_n hx hb dX1_stepsFrom_6 rfl (lv_at hl 0 rfl) ?_
  refine bw_get (ci := 1) (v := .int (gI st 4)) (C := RX1) (T := TX1) (N := 7) hx hb hts i_X1 hown hK hP 10 rfl rfl 6 (by decide) f_31 rfl dX1_stepsFrom_7 ?_
  refine lv_isub hx hb dX1_stepsFrom_10 ?_
  refine lv_iconst (v := 0) hx hb dX1_stepsFrom_11 (by decide) ?_
  refine bw_max hx hb (hml.trans hl.1.symm) hown m_68 ms_max mi mc_max (Nat.le_of_ble_eq_true rfl) (Nat.le_of_ble_eq_true rfl) (Nat.zero_le _) (Nat.zero_le _) dX1_stepsFrom_12 ?_
  exact ret_ _ _ _ _ _ _ dX1_stepsFrom_15  (Option.some.inj hR) rfl hP hD hS
abbrev rm_X1_isHeard : Room := { frames := 2, cells := 0, slots := 0, locals := 43 }
set_option maxHeartbeats 4000000 in
set_option maxRecDepth 100000 in
theorem c_X1_isHeard (l : Launch) (D : va_G) (cI cO : ClassId) (ad : Nat → Nat) (sz : Nat) {st : St} {x1 : Int32} {x2 : Int32} {r : Int32} (hR : F_X1_isHeard st x1 x2 = some r) : CZ l yX1_isHeard wsX1_isHeard rm_X1_isHeard D cI cO [.ref (ad 10), .int x1, .int x2] (BW cI cO ad st) (BW cI cO ad st) sz r := by
  refine mk_z (cc := cX1_isHeard) (maxL := 3) (own := RX1) rfl (by decide) rfl (Nat.le_of_ble_eq_true rfl) ?_
  intro p e s m args below meth c A Q ls hx hb hml hown hts hK hN hA ret_ hP hD hS hl
  have i_X1 : ∀ w ∈ u_ws RX1 TX1 7, w ∈ wsX1_isHeard := (fun _ h => List.mem_cons_of_mem _ (List.mem_append_right _ h))
  have f_18 := hts (.fieldLink RX1 18 "BellNames$Herd" "spotOf" "[I") (by decide +kernel)
  have hl : lv_has ls 3 [(0, .ref (ad 10)), (1, .int x1), (2, .int x2)] := hl
  unfold F_X1_isHeard at hR
  refine lv_aload_n hx hb dX1_isHeard_0 rfl (lv_at hl 0 rfl) ?_
  refine lv_aload_n hx hb dX1_isHeard_1 rfl (lv_at hl 0 rfl) ?_
  refine bw_get (ci := 1) (v := .ref (ad 13)) (C := RX1) (T := TX1) (N := 7) hx hb hts i_X1 hown hK hP 10 rfl rfl 2 (by decide) f_18 rfl dX1_isHeard_2 ?_
  refine lv_iload_n hx hb dX1_isHeard_5 rfl (lv_at hl 1 rfl) ?_
  obtain ⟨h_1, hR⟩ := ck_some hR
  refine bw_ald (v := gA st 2 x1) hx hb hK hP 13 rfl h_1 rfl dX1_isHeard_6 ?_
  refine lv_iload_n hx hb dX1_isHeard_7 rfl (lv_at hl 2 rfl) ?_
  obtain ⟨v_2, e_2, hR⟩ := b1_some hR
  refine bc_i (va_runV (As := [.int (gA st 2 x1), .int x2]) (rest := []) ⟨hx, hb, hml, hown, hts⟩ (c_X1_stepsFrom l D cI cO ad _ e_2) (cwV 2 hts gX1_isHeard_X1_stepsFrom rfl rfl rfl (by decide +kernel) ⟨Nat.le_of_ble_eq_true rfl, Nat.le_of_ble_eq_true rfl⟩) (preV hK hN hP hD (va_recv hK hP (ci := 1) (q0 := 10) rfl rfl)) rfl rfl hl.1 rfl (lv_room (Nat.le_of_ble_eq_true rfl)) dX1_isHeard_8 ⟨Nat.zero_le _, Nat.zero_le _⟩) hS hD hA (fun H locs hP hD hS => ?_)
  refine lv_if_ne (tgt := 18) hx hb dX1_isHeard_11 (by decide) (fun c_3 => ?_) (fun c_3 => ?_)
  · have hR := (if_neg c_3).symm.trans hR
    refine lv_iconst (v := 0) hx hb dX1_isHeard_18 (by decide) ?_
    exact ret_ _ _ _ _ _ _ dX1_isHeard_19 (by decide) (Option.some.inj hR) rfl hP hD hS
  · have hR := (if_pos c_3).symm.trans hR
    refine lv_iconst (v := 1) hx hb dX1_isHeard_14 (by decide) ?_
    refine lv_goto (tgt := 19) hx hb dX1_isHeard_15 (by decide) ?_
    exact ret_ _ _ _ _ _ _ dX1_isHeard_19 (by decide) (Option.some.inj hR) rfl hP hD hS
abbrev rm_X1_heardFrom_13 : Room := { frames := 2, cells := 0, slots := 0, locals := 43 }
set_option maxHeartbeats 4000000 in
set_option maxRecDepth 100000 in
theorem c_X1_heardFrom_13 (l : Launch) (D : va_G) (cI cO : ClassId) (ad : Nat → Nat) (sz : Nat) {st : St} {x2 : Int32} {r : Int32} (hR : F_X1_heardFrom_13 st x2 = some r) : CI l yX1_heardFrom wsX1_heardFrom rm_X1_heardFrom_13 D cI cO [.ref (ad 10), .ref (ad 13), .int x2] (BW cI cO ad st) (BW cI cO ad st) sz r := by
  refine mk_i (cc := cX1_heardFrom) (maxL := 5) (own := RX1) rfl (by decide) rfl (Nat.le_of_ble_eq_true rfl) ?_
  intro p e s m args below meth c A Q ls hx hb hml hown hts hK hN hA ret_ hP hD hS hl
  have i_X1 : ∀ w ∈ u_ws RX1 TX1 7, w ∈ wsX1_heardFrom := (fun _ h => List.mem_cons_of_mem _ (List.mem_append_right _ h))
  have f_24 := hts (.fieldLink RX1 24 "BellNames$Herd" "count" "I") (by decide +kernel)
  have hl : lv_has ls 5 [(0, .ref (ad 10)), (1, .ref (ad 13)), (2, .int x2)] := hl
  unfold F_X1_heardFrom_13 at hR
  refine lv_iconst (v := 0) hx hb dX1_heardFrom_0 (by decide) ?_
  refine lv_istore_n (lv' := [(3, .int 0), (0, .ref (ad 10)), (1, .ref (ad 13)), (2, .int x2)]) hx hb dX1_heardFrom_1 rfl hl (by decide) rfl (fun ls hl => ?_)
  refine lv_iconst (v := 0) hx hb dX1_heardFrom_2 (by decide) ?_
  refine lv_istore (lv' := [(4, .int 0), (3, .int 0), (0, .ref (ad 10)), (1, .ref (ad 13)), (2, .int x2)]) hx hb dX1_heardFrom_3 hl (by decide) rfl (fun ls hl => ?_)
  have lp_5 : ∀ (n_5 : Nat) (y3_5 : Int32) (y4_5 : Int32) (H : Heap) (locs : List Loc) (ls : Array Slot), L_X1_heardFrom_13_5 st x2 (fun y3_5 y4_5 => some y3_5) n_5 y3_5 y4_5 = some r → va_P D vwCl (BW cI cO ad st) H → va_D A (BW cI cO ad st) → va_S A s.heap H locs → lv_has ls 5 [(0, .ref (ad 10)), (1, .ref (ad 13)), (2, .int x2), (3, .int y3_5), (4, .int y4_5)] → W p l e rm_X1_heardFrom_13 s m args below meth c H locs 0 0 Q (F0 m 5 ls []) := by
    intro n_5
    induction n_5 with
    | zero => intro y3_5 y4_5 H locs ls hR; exact absurd (L_X1_heardFrom_13_5_z.symm.trans hR) (fun h => nomatch h)
    | succ n_5 ih_5 =>
      intro y3_5 y4_5 H locs ls hR hP hD hS hl
      have hR := L_X1_heardFrom_13_5_s.symm.trans hR
      refine lv_iload hx hb dX1_heardFrom_5 (lv_at hl 4 rfl) ?_
      refine lv_aload_n hx hb dX1_heardFrom_7 rfl (lv_at hl 0 rfl) ?_
      refine bw_get (ci := 1) (v := .int (gI st 2)) (C := RX1) (T := TX1) (N := 7) hx hb hts i_X1 hown hK hP 10 rfl rfl 4 (by decide) f_24 rfl dX1_heardFrom_8 ?_
      refine lv_icmp_ge (tgt := 39) hx hb dX1_heardFrom_11 (by decide) (fun c_1 => ?_) (fun c_1 => ?_)
      · have hR := (if_pos c_1).symm.trans hR
        refine lv_iload_n hx hb dX1_heardFrom_39 rfl (lv_at hl 3 rfl) ?_
        exact ret_ _ _ _ _ _ _ dX1_heardFrom_40  (Option.some.inj hR) rfl hP hD hS
      · have hR := (if_neg c_1).symm.trans hR
        refine lv_aload_n hx hb dX1_heardFrom_14 rfl (lv_at hl 0 rfl) ?_
        refine lv_aload_n hx hb dX1_heardFrom_15 rfl (lv_at hl 1 rfl) ?_
        refine lv_iload hx hb dX1_heardFrom_16 (lv_at hl 4 rfl) ?_
        obtain ⟨h_2, hR⟩ := ck_some hR
        refine bw_ald (v := gA st 2 y4_5) hx hb hK hP 13 rfl h_2 rfl dX1_heardFrom_18 ?_
        refine lv_iload_n hx hb dX1_heardFrom_19 rfl (lv_at hl 2 rfl) ?_
        obtain ⟨v_3, e_3, hR⟩ := b1_some hR
        refine bc_i (va_runV (As := [.int (gA st 2 y4_5), .int x2]) (rest := []) ⟨hx, hb, hml, hown, hts⟩ (c_X1_stepsFrom l D cI cO ad _ e_3) (cwV 2 hts gX1_heardFrom_X1_stepsFrom rfl rfl rfl (by decide +kernel) ⟨Nat.le_of_ble_eq_true rfl, Nat.le_of_ble_eq_true rfl⟩) (preV hK hN hP hD (va_recv hK hP (ci := 1) (q0 := 10) rfl rfl)) rfl rfl hl.1 rfl (lv_room (Nat.le_of_ble_eq_true rfl)) dX1_heardFrom_20 ⟨Nat.zero_le _, Nat.zero_le _⟩) hS hD hA (fun H locs hP hD hS => ?_)
        refine lv_if_ne (tgt := 33) hx hb dX1_heardFrom_23 (by decide) (fun c_4 => ?_) (fun c_4 => ?_)
        · have hR := (if_neg c_4).symm.trans hR
          refine lv_iinc (v := y4_5 + 1) (lv' := [(4, .int (y4_5 + 1)), (0, .ref (ad 10)), (1, .ref (ad 13)), (2, .int x2), (3, .int y3_5)]) hx hb dX1_heardFrom_33 hl (k := 4) rfl rfl (by decide) rfl (fun ls hl => ?_)
          refine lv_goto (tgt := 5) hx hb dX1_heardFrom_36 (by decide) ?_
          exact ih_5 _ _ _ _ _ hR hP hD hS (lv_sub hl [1, 2, 3, 4, 0] rfl)
        · have hR := (if_pos c_4).symm.trans hR
          refine lv_iload_n hx hb dX1_heardFrom_26 rfl (lv_at hl 3 rfl) ?_
          refine lv_iconst (v := 1) hx hb dX1_heardFrom_27 (by decide) ?_
          refine lv_iload hx hb dX1_heardFrom_28 (lv_at hl 4 rfl) ?_
          refine lv_ishl hx hb dX1_heardFrom_30 ?_
          refine W.eq (g2 := F0 m 31 ls (.int (jshl 1 y4_5) :: [.int y3_5])) rfl ?_
          refine lv_ior hx hb dX1_heardFrom_31 ?_
          refine lv_istore_n (lv' := [(3, .int (y3_5 ||| (jshl 1 y4_5))), (0, .ref (ad 10)), (1, .ref (ad 13)), (2, .int x2), (4, .int y4_5)]) hx hb dX1_heardFrom_32 rfl hl (by decide) rfl (fun ls hl => ?_)
          refine lv_iinc (v := y4_5 + 1) (lv' := [(4, .int (y4_5 + 1)), (3, .int (y3_5 ||| (jshl 1 y4_5))), (0, .ref (ad 10)), (1, .ref (ad 13)), (2, .int x2)]) hx hb dX1_heardFrom_33 hl (k := 4) rfl rfl (by decide) rfl (fun ls hl => ?_)
          refine lv_goto (tgt := 5) hx hb dX1_heardFrom_36 (by decide) ?_
          exact ih_5 _ _ _ _ _ hR hP hD hS (lv_sub hl [2, 3, 4, 1, 0] rfl)
  exact lp_5 _ _ _ _ _ _ hR hP hD hS (lv_sub hl [2, 3, 4, 1, 0] rfl)
abbrev rm_X1_heardFrom_23 : Room := { frames := 2, cells := 0, slots := 0, locals := 43 }
set_option maxHeartbeats 4000000 in
set_option maxRecDepth 100000 in
theorem c_X1_heardFrom_23 (l : Launch) (D : va_G) (cI cO : ClassId) (ad : Nat → Nat) (sz : Nat) {st : St} {x2 : Int32} {r : Int32} (hR : F_X1_heardFrom_23 st x2 = some r) : CI l yX1_heardFrom wsX1_heardFrom rm_X1_heardFrom_23 D cI cO [.ref (ad 10), .ref (ad 23), .int x2] (BW cI cO ad st) (BW cI cO ad st) sz r := by
  refine mk_i (cc := cX1_heardFrom) (maxL := 5) (own := RX1) rfl (by decide) rfl (Nat.le_of_ble_eq_true rfl) ?_
  intro p e s m args below meth c A Q ls hx hb hml hown hts hK hN hA ret_ hP hD hS hl
  have i_X1 : ∀ w ∈ u_ws RX1 TX1 7, w ∈ wsX1_heardFrom := (fun _ h => List.mem_cons_of_mem _ (List.mem_append_right _ h))
  have f_24 := hts (.fieldLink RX1 24 "BellNames$Herd" "count" "I") (by decide +kernel)
  have hl : lv_has ls 5 [(0, .ref (ad 10)), (1, .ref (ad 23)), (2, .int x2)] := hl
  unfold F_X1_heardFrom_23 at hR
  refine lv_iconst (v := 0) hx hb dX1_heardFrom_0 (by decide) ?_
  refine lv_istore_n (lv' := [(3, .int 0), (0, .ref (ad 10)), (1, .ref (ad 23)), (2, .int x2)]) hx hb dX1_heardFrom_1 rfl hl (by decide) rfl (fun ls hl => ?_)
  refine lv_iconst (v := 0) hx hb dX1_heardFrom_2 (by decide) ?_
  refine lv_istore (lv' := [(4, .int 0), (3, .int 0), (0, .ref (ad 10)), (1, .ref (ad 23)), (2, .int x2)]) hx hb dX1_heardFrom_3 hl (by decide) rfl (fun ls hl => ?_)
  have lp_5 : ∀ (n_5 : Nat) (y3_5 : Int32) (y4_5 : Int32) (H : Heap) (locs : List Loc) (ls : Array Slot), L_X1_heardFrom_23_5 st x2 (fun y3_5 y4_5 => some y3_5) n_5 y3_5 y4_5 = some r → va_P D vwCl (BW cI cO ad st) H → va_D A (BW cI cO ad st) → va_S A s.heap H locs → lv_has ls 5 [(0, .ref (ad 10)), (1, .ref (ad 23)), (2, .int x2), (3, .int y3_5), (4, .int y4_5)] → W p l e rm_X1_heardFrom_23 s m args below meth c H locs 0 0 Q (F0 m 5 ls []) := by
    intro n_5
    induction n_5 with
    | zero => intro y3_5 y4_5 H locs ls hR; exact absurd (L_X1_heardFrom_23_5_z.symm.trans hR) (fun h => nomatch h)
    | succ n_5 ih_5 =>
      intro y3_5 y4_5 H locs ls hR hP hD hS hl
      have hR := L_X1_heardFrom_23_5_s.symm.trans hR
      refine lv_iload hx hb dX1_heardFrom_5 (lv_at hl 4 rfl) ?_
      refine lv_aload_n hx hb dX1_heardFrom_7 rfl (lv_at hl 0 rfl) ?_
      refine bw_get (ci := 1) (v := .int (gI st 2)) (C := RX1) (T := TX1) (N := 7) hx hb hts i_X1 hown hK hP 10 rfl rfl 4 (by decide) f_24 rfl dX1_heardFrom_8 ?_
      refine lv_icmp_ge (tgt := 39) hx hb dX1_heardFrom_11 (by decide) (fun c_1 => ?_) (fun c_1 => ?_)
      · have hR := (if_pos c_1).symm.trans hR
        refine lv_iload_n hx hb dX1_heardFrom_39 rfl (lv_at hl 3 rfl) ?_
        exact ret_ _ _ _ _ _ _ dX1_heardFrom_40  (Option.some.inj hR) rfl hP hD hS
      · have hR := (if_neg c_1).symm.trans hR
        refine lv_aload_n hx hb dX1_heardFrom_14 rfl (lv_at hl 0 rfl) ?_
        refine lv_aload_n hx hb dX1_heardFrom_15 rfl (lv_at hl 1 rfl) ?_
        refine lv_iload hx hb dX1_heardFrom_16 (lv_at hl 4 rfl) ?_
        obtain ⟨h_2, hR⟩ := ck_some hR
        refine bw_ald (v := gA st 9 y4_5) hx hb hK hP 23 rfl h_2 rfl dX1_heardFrom_18 ?_
        refine lv_iload_n hx hb dX1_heardFrom_19 rfl (lv_at hl 2 rfl) ?_
        obtain ⟨v_3, e_3, hR⟩ := b1_some hR
        refine bc_i (va_runV (As := [.int (gA st 9 y4_5), .int x2]) (rest := []) ⟨hx, hb, hml, hown, hts⟩ (c_X1_stepsFrom l D cI cO ad _ e_3) (cwV 2 hts gX1_heardFrom_X1_stepsFrom rfl rfl rfl (by decide +kernel) ⟨Nat.le_of_ble_eq_true rfl, Nat.le_of_ble_eq_true rfl⟩) (preV hK hN hP hD (va_recv hK hP (ci := 1) (q0 := 10) rfl rfl)) rfl rfl hl.1 rfl (lv_room (Nat.le_of_ble_eq_true rfl)) dX1_heardFrom_20 ⟨Nat.zero_le _, Nat.zero_le _⟩) hS hD hA (fun H locs hP hD hS => ?_)
        refine lv_if_ne (tgt := 33) hx hb dX1_heardFrom_23 (by decide) (fun c_4 => ?_) (fun c_4 => ?_)
        · have hR := (if_neg c_4).symm.trans hR
          refine lv_iinc (v := y4_5 + 1) (lv' := [(4, .int (y4_5 + 1)), (0, .ref (ad 10)), (1, .ref (ad 23)), (2, .int x2), (3, .int y3_5)]) hx hb dX1_heardFrom_33 hl (k := 4) rfl rfl (by decide) rfl (fun ls hl => ?_)
          refine lv_goto (tgt := 5) hx hb dX1_heardFrom_36 (by decide) ?_
          exact ih_5 _ _ _ _ _ hR hP hD hS (lv_sub hl [1, 2, 3, 4, 0] rfl)
        · have hR := (if_pos c_4).symm.trans hR
          refine lv_iload_n hx hb dX1_heardFrom_26 rfl (lv_at hl 3 rfl) ?_
          refine lv_iconst (v := 1) hx hb dX1_heardFrom_27 (by decide) ?_
          refine lv_iload hx hb dX1_heardFrom_28 (lv_at hl 4 rfl) ?_
          refine lv_ishl hx hb dX1_heardFrom_30 ?_
          refine W.eq (g2 := F0 m 31 ls (.int (jshl 1 y4_5) :: [.int y3_5])) rfl ?_
          refine lv_ior hx hb dX1_heardFrom_31 ?_
          refine lv_istore_n (lv' := [(3, .int (y3_5 ||| (jshl 1 y4_5))), (0, .ref (ad 10)), (1, .ref (ad 23)), (2, .int x2), (4, .int y4_5)]) hx hb dX1_heardFrom_32 rfl hl (by decide) rfl (fun ls hl => ?_)
          refine lv_iinc (v := y4_5 + 1) (lv' := [(4, .int (y4_5 + 1)), (3, .int (y3_5 ||| (jshl 1 y4_5))), (0, .ref (ad 10)), (1, .ref (ad 23)), (2, .int x2)]) hx hb dX1_heardFrom_33 hl (k := 4) rfl rfl (by decide) rfl (fun ls hl => ?_)
          refine lv_goto (tgt := 5) hx hb dX1_heardFrom_36 (by decide) ?_
          exact ih_5 _ _ _ _ _ hR hP hD hS (lv_sub hl [2, 3, 4, 1, 0] rfl)
  exact lp_5 _ _ _ _ _ _ hR hP hD hS (lv_sub hl [2, 3, 4, 1, 0] rfl)
abbrev rm_X1_stepsToHear : Room := { frames := 2, cells := 0, slots := 0, locals := 43 }
set_option maxHeartbeats 4000000 in
set_option maxRecDepth 100000 in
theorem c_X1_stepsToHear (l : Launch) (D : va_G) (cI cO : ClassId) (ad : Nat → Nat) (sz : Nat) {st : St} {x1 : Int32} {x2 : Int32} {r : Int32} (hR : F_X1_stepsToHear st x1 x2 = some r) : CI l yX1_stepsToHear wsX1_stepsToHear rm_X1_stepsToHear D cI cO [.ref (ad 10), .int x1, .int x2] (BW cI cO ad st) (BW cI cO ad st) sz r := by
  refine mk_i (cc := cX1_stepsToHear) (maxL := 5) (own := RX1) rfl (by decide) rfl (Nat.le_of_ble_eq_true rfl) ?_
  intro p e s m args below meth c A Q ls hx hb hml hown hts hK hN hA ret_ hP hD hS hl
  have i_X1 : ∀ w ∈ u_ws RX1 TX1 7, w ∈ wsX1_stepsToHear := (fun _ h => List.mem_cons_of_mem _ (List.mem_append_right _ h))
  have f_24 := hts (.fieldLink RX1 24 "BellNames$Herd" "count" "I") (by decide +kernel)
  have f_18 := hts (.fieldLink RX1 18 "BellNames$Herd" "spotOf" "[I") (by decide +kernel)
  have hl : lv_has ls 5 [(0, .ref (ad 10)), (1, .int x1), (2, .int x2)] := hl
  unfold F_X1_stepsToHear at hR
  refine lv_iconst (v := 0) hx hb dX1_stepsToHear_0 (by decide) ?_
  refine lv_istore_n (lv' := [(3, .int 0), (0, .ref (ad 10)), (1, .int x1), (2, .int x2)]) hx hb dX1_stepsToHear_1 rfl hl (by decide) rfl (fun ls hl => ?_)
  refine lv_iconst (v := 0) hx hb dX1_stepsToHear_2 (by decide) ?_
  refine lv_istore (lv' := [(4, .int 0), (3, .int 0), (0, .ref (ad 10)), (1, .int x1), (2, .int x2)]) hx hb dX1_stepsToHear_3 hl (by decide) rfl (fun ls hl => ?_)
  have lp_5 : ∀ (n_5 : Nat) (y3_5 : Int32) (y4_5 : Int32) (H : Heap) (locs : List Loc) (ls : Array Slot), L_X1_stepsToHear_5 st x1 x2 (fun y3_5 y4_5 => some y3_5) n_5 y3_5 y4_5 = some r → va_P D vwCl (BW cI cO ad st) H → va_D A (BW cI cO ad st) → va_S A s.heap H locs → lv_has ls 5 [(0, .ref (ad 10)), (1, .int x1), (2, .int x2), (3, .int y3_5), (4, .int y4_5)] → W p l e rm_X1_stepsToHear s m args below meth c H locs 0 0 Q (F0 m 5 ls []) := by
    intro n_5
    induction n_5 with
    | zero => intro y3_5 y4_5 H locs ls hR; exact absurd (L_X1_stepsToHear_5_z.symm.trans hR) (fun h => nomatch h)
    | succ n_5 ih_5 =>
      intro y3_5 y4_5 H locs ls hR hP hD hS hl
      have hR := L_X1_stepsToHear_5_s.symm.trans hR
      refine lv_iload hx hb dX1_stepsToHear_5 (lv_at hl 4 rfl) ?_
      refine lv_aload_n hx hb dX1_stepsToHear_7 rfl (lv_at hl 0 rfl) ?_
      refine bw_get (ci := 1) (v := .int (gI st 2)) (C := RX1) (T := TX1) (N := 7) hx hb hts i_X1 hown hK hP 10 rfl rfl 4 (by decide) f_24 rfl dX1_stepsToHear_8 ?_
      refine lv_icmp_ge (tgt := 45) hx hb dX1_stepsToHear_11 (by decide) (fun c_1 => ?_) (fun c_1 => ?_)
      · have hR := (if_pos c_1).symm.trans hR
        refine lv_iload_n hx hb dX1_stepsToHear_45 rfl (lv_at hl 3 rfl) ?_
        exact ret_ _ _ _ _ _ _ dX1_stepsToHear_46  (Option.some.inj hR) rfl hP hD hS
      · have hR := (if_neg c_1).symm.trans hR
        refine lv_iload_n hx hb dX1_stepsToHear_14 rfl (lv_at hl 1 rfl) ?_
        refine lv_iload hx hb dX1_stepsToHear_15 (lv_at hl 4 rfl) ?_
        refine lv_ishr hx hb dX1_stepsToHear_17 ?_
        refine W.eq (g2 := F0 m 18 ls (.int (jshr x1 y4_5) :: [])) rfl ?_
        refine lv_iconst (v := 1) hx hb dX1_stepsToHear_18 (by decide) ?_
        refine lv_iand hx hb dX1_stepsToHear_19 ?_
        refine lv_iconst (v := 1) hx hb dX1_stepsToHear_20 (by decide) ?_
        refine lv_icmp_ne (tgt := 39) hx hb dX1_stepsToHear_21 (by decide) (fun c_2 => ?_) (fun c_2 => ?_)
        · have hR := (if_neg c_2).symm.trans hR
          refine lv_iinc (v := y4_5 + 1) (lv' := [(4, .int (y4_5 + 1)), (0, .ref (ad 10)), (1, .int x1), (2, .int x2), (3, .int y3_5)]) hx hb dX1_stepsToHear_39 hl (k := 4) rfl rfl (by decide) rfl (fun ls hl => ?_)
          refine lv_goto (tgt := 5) hx hb dX1_stepsToHear_42 (by decide) ?_
          exact ih_5 _ _ _ _ _ hR hP hD hS (lv_sub hl [1, 2, 3, 4, 0] rfl)
        · have hR := (if_pos c_2).symm.trans hR
          refine lv_iload_n hx hb dX1_stepsToHear_24 rfl (lv_at hl 3 rfl) ?_
          refine lv_aload_n hx hb dX1_stepsToHear_25 rfl (lv_at hl 0 rfl) ?_
          refine lv_aload_n hx hb dX1_stepsToHear_26 rfl (lv_at hl 0 rfl) ?_
          refine bw_get (ci := 1) (v := .ref (ad 13)) (C := RX1) (T := TX1) (N := 7) hx hb hts i_X1 hown hK hP 10 rfl rfl 2 (by decide) f_18 rfl dX1_stepsToHear_27 ?_
          refine lv_iload hx hb dX1_stepsToHear_30 (lv_at hl 4 rfl) ?_
          obtain ⟨h_3, hR⟩ := ck_some hR
          refine bw_ald (v := gA st 2 y4_5) hx hb hK hP 13 rfl h_3 rfl dX1_stepsToHear_32 ?_
          refine lv_iload_n hx hb dX1_stepsToHear_33 rfl (lv_at hl 2 rfl) ?_
          obtain ⟨v_4, e_4, hR⟩ := b1_some hR
          refine bc_i (va_runV (As := [.int (gA st 2 y4_5), .int x2]) (rest := [.int y3_5]) ⟨hx, hb, hml, hown, hts⟩ (c_X1_stepsFrom l D cI cO ad _ e_4) (cwV 2 hts gX1_stepsToHear_X1_stepsFrom rfl rfl rfl (by decide +kernel) ⟨Nat.le_of_ble_eq_true rfl, Nat.le_of_ble_eq_true rfl⟩) (preV hK hN hP hD (va_recv hK hP (ci := 1) (q0 := 10) rfl rfl)) rfl rfl hl.1 rfl (lv_room (Nat.le_of_ble_eq_true rfl)) dX1_stepsToHear_34 ⟨Nat.zero_le _, Nat.zero_le _⟩) hS hD hA (fun H locs hP hD hS => ?_)
          refine lv_iadd hx hb dX1_stepsToHear_37 ?_
          refine lv_istore_n (lv' := [(3, .int (y3_5 + v_4)), (0, .ref (ad 10)), (1, .int x1), (2, .int x2), (4, .int y4_5)]) hx hb dX1_stepsToHear_38 rfl hl (by decide) rfl (fun ls hl => ?_)
          refine lv_iinc (v := y4_5 + 1) (lv' := [(4, .int (y4_5 + 1)), (3, .int (y3_5 + v_4)), (0, .ref (ad 10)), (1, .int x1), (2, .int x2)]) hx hb dX1_stepsToHear_39 hl (k := 4) rfl rfl (by decide) rfl (fun ls hl => ?_)
          refine lv_goto (tgt := 5) hx hb dX1_stepsToHear_42 (by decide) ?_
          exact ih_5 _ _ _ _ _ hR hP hD hS (lv_sub hl [2, 3, 4, 1, 0] rfl)
  exact lp_5 _ _ _ _ _ _ hR hP hD hS (lv_sub hl [2, 3, 4, 1, 0] rfl)
