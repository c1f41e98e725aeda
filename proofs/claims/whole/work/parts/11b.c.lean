abbrev rm_X1_moodsSounding : Room := { frames := 3, cells := 0, slots := 0, locals := 67 }
set_option maxHeartbeats 4000000 in
set_option maxRecDepth 100000 in
theorem c_X1_moodsSounding (l : Launch) (D : va_G) (cI cO : ClassId) (ad : Nat → Nat) (sz : Nat) {st : St} {x1 : Int32} {x2 : Int32} {r : Int32} (hR : F_X1_moodsSounding st x1 x2 = some r) : CI l yX1_moodsSounding wsX1_moodsSounding rm_X1_moodsSounding D cI cO [.ref (ad 10), .int x1, .int x2] (BW cI cO ad st) (BW cI cO ad st) sz r := by
  refine mk_i (cc := cX1_moodsSounding) (maxL := 5) (own := RX1) rfl (by decide) rfl (Nat.le_of_ble_eq_true rfl) ?_
  intro p e s m args below meth c A Q ls hx hb hml hown hts hK hN hA ret_ hP hD hS hl
  have hl : lv_has ls 5 [(0, .ref (ad 10)), (1, .int x1), (2, .int x2)] := hl
  unfold F_X1_moodsSounding at hR
  refine lv_iconst (v := 0) hx hb dX1_moodsSounding_0 (by decide) ?_
  refine lv_istore_n (lv' := [(3, .int 0), (0, .ref (ad 10)), (1, .int x1), (2, .int x2)]) hx hb dX1_moodsSounding_1 rfl hl (by decide) rfl (fun ls hl => ?_)
  refine lv_iconst (v := 0) hx hb dX1_moodsSounding_2 (by decide) ?_
  refine lv_istore (lv' := [(4, .int 0), (3, .int 0), (0, .ref (ad 10)), (1, .int x1), (2, .int x2)]) hx hb dX1_moodsSounding_3 hl (by decide) rfl (fun ls hl => ?_)
  have lp_5 : ∀ (n_5 : Nat) (y3_5 : Int32) (y4_5 : Int32) (H : Heap) (locs : List Loc) (ls : Array Slot), L_X1_moodsSounding_5 st x1 x2 (fun y3_5 y4_5 => some y3_5) n_5 y3_5 y4_5 = some r → va_P D vwCl (BW cI cO ad st) H → va_D A (BW cI cO ad st) → va_S A s.heap H locs → lv_has ls 5 [(0, .ref (ad 10)), (1, .int x1), (2, .int x2), (3, .int y3_5), (4, .int y4_5)] → W p l e rm_X1_moodsSounding s m args below meth c H locs 0 0 Q (F0 m 5 ls []) := by
    intro n_5
    induction n_5 with
    | zero => intro y3_5 y4_5 H locs ls hR; exact absurd (L_X1_moodsSounding_5_z.symm.trans hR) (fun h => nomatch h)
    | succ n_5 ih_5 =>
      intro y3_5 y4_5 H locs ls hR hP hD hS hl
      have hR := L_X1_moodsSounding_5_s.symm.trans hR
      refine lv_iload hx hb dX1_moodsSounding_5 (lv_at hl 4 rfl) ?_
      refine lv_iconst (v := 4) hx hb dX1_moodsSounding_7 (by decide) ?_
      refine lv_icmp_ge (tgt := 31) hx hb dX1_moodsSounding_8 (by decide) (fun c_1 => ?_) (fun c_1 => ?_)
      · have hR := (if_pos c_1).symm.trans hR
        refine lv_iload_n hx hb dX1_moodsSounding_31 rfl (lv_at hl 3 rfl) ?_
        exact ret_ _ _ _ _ _ _ dX1_moodsSounding_32  (Option.some.inj hR) rfl hP hD hS
      · have hR := (if_neg c_1).symm.trans hR
        refine lv_aload_n hx hb dX1_moodsSounding_11 rfl (lv_at hl 0 rfl) ?_
        refine lv_iload_n hx hb dX1_moodsSounding_12 rfl (lv_at hl 1 rfl) ?_
        refine lv_iload hx hb dX1_moodsSounding_13 (lv_at hl 4 rfl) ?_
        obtain ⟨v_2, e_2, hR⟩ := b1_some hR
        refine bc_i (va_runV (As := [.int x1, .int y4_5]) (rest := []) ⟨hx, hb, hml, hown, hts⟩ (c_X1_soundIn l D cI cO ad _ e_2) (cwV 2 hts gX1_moodsSounding_X1_soundIn rfl rfl rfl (by decide +kernel) ⟨Nat.le_of_ble_eq_true rfl, Nat.le_of_ble_eq_true rfl⟩) (preV hK hN hP hD (va_recv hK hP (ci := 1) (q0 := 10) rfl rfl)) rfl rfl hl.1 rfl (lv_room (Nat.le_of_ble_eq_true rfl)) dX1_moodsSounding_15 ⟨Nat.zero_le _, Nat.zero_le _⟩) hS hD hA (fun H locs hP hD hS => ?_)
        refine lv_iload_n hx hb dX1_moodsSounding_18 rfl (lv_at hl 2 rfl) ?_
        refine lv_icmp_ne (tgt := 25) hx hb dX1_moodsSounding_19 (by decide) (fun c_3 => ?_) (fun c_3 => ?_)
        · have hR := (if_neg c_3).symm.trans hR
          refine lv_iinc (v := y4_5 + 1) (lv' := [(4, .int (y4_5 + 1)), (0, .ref (ad 10)), (1, .int x1), (2, .int x2), (3, .int y3_5)]) hx hb dX1_moodsSounding_25 hl (k := 4) rfl rfl (by decide) rfl (fun ls hl => ?_)
          refine lv_goto (tgt := 5) hx hb dX1_moodsSounding_28 (by decide) ?_
          exact ih_5 _ _ _ _ _ hR hP hD hS (lv_sub hl [1, 2, 3, 4, 0] rfl)
        · have hR := (if_pos c_3).symm.trans hR
          refine lv_iinc (v := y3_5 + 1) (lv' := [(3, .int (y3_5 + 1)), (0, .ref (ad 10)), (1, .int x1), (2, .int x2), (4, .int y4_5)]) hx hb dX1_moodsSounding_22 hl (k := 3) rfl rfl (by decide) rfl (fun ls hl => ?_)
          refine lv_iinc (v := y4_5 + 1) (lv' := [(4, .int (y4_5 + 1)), (3, .int (y3_5 + 1)), (0, .ref (ad 10)), (1, .int x1), (2, .int x2)]) hx hb dX1_moodsSounding_25 hl (k := 4) rfl rfl (by decide) rfl (fun ls hl => ?_)
          refine lv_goto (tgt := 5) hx hb dX1_moodsSounding_28 (by decide) ?_
          exact ih_5 _ _ _ _ _ hR hP hD hS (lv_sub hl [2, 3, 4, 1, 0] rfl)
  exact lp_5 _ _ _ _ _ _ hR hP hD hS (lv_sub hl [2, 3, 4, 1, 0] rfl)
abbrev rm_X2_keep : Room := { frames := 0, cells := 0, slots := 0, locals := 0 }
set_option maxHeartbeats 4000000 in
set_option maxRecDepth 100000 in
theorem c_X2_keep (l : Launch) (D : va_G) (cI cO : ClassId) (ad : Nat → Nat) (sz : Nat) {st : St} {x1 : Int32} {x2 : Int32} {x3 : Int32} {r : Int32} {s2 : St} (hR : F_X2_keep st x1 x2 x3 = some (r, s2)) : CI l yX2_keep wsX2_keep rm_X2_keep D cI cO [.ref (ad 15), .int x1, .int x2, .int x3] (BW cI cO ad st) (BW cI cO ad s2) sz r := by
  refine mk_i (cc := cX2_keep) (maxL := 4) (own := RX2) rfl (by decide) rfl (Nat.le_of_ble_eq_true rfl) ?_
  intro p e s m args below meth c A Q ls hx hb hml hown hts hK hN hA ret_ hP hD hS hl
  have i_X2 : ∀ w ∈ u_ws RX2 TX2 4, w ∈ wsX2_keep := (fun _ h => List.mem_cons_of_mem _ (List.mem_append_right _ h))
  have f_9 := hts (.fieldLink RX2 9 "BellNames$Readings" "bellOf" "[I") (by decide +kernel)
  have f_21 := hts (.fieldLink RX2 21 "BellNames$Readings" "count" "I") (by decide +kernel)
  have f_15 := hts (.fieldLink RX2 15 "BellNames$Readings" "moodOf" "[I") (by decide +kernel)
  have f_18 := hts (.fieldLink RX2 18 "BellNames$Readings" "soundHeard" "[I") (by decide +kernel)
  have hl : lv_has ls 4 [(0, .ref (ad 15)), (1, .int x1), (2, .int x2), (3, .int x3)] := hl
  unfold F_X2_keep at hR
  refine lv_aload_n hx hb dX2_keep_0 rfl (lv_at hl 0 rfl) ?_
  refine bw_get (ci := 2) (v := .ref (ad 16)) (C := RX2) (T := TX2) (N := 4) hx hb hts i_X2 hown hK hP 15 rfl rfl 0 (by decide) f_9 rfl dX2_keep_1 ?_
  refine lv_aload_n hx hb dX2_keep_4 rfl (lv_at hl 0 rfl) ?_
  refine bw_get (ci := 2) (v := .int (gI st 5)) (C := RX2) (T := TX2) (N := 4) hx hb hts i_X2 hown hK hP 15 rfl rfl 3 (by decide) f_21 rfl dX2_keep_5 ?_
  refine lv_iload_n hx hb dX2_keep_8 rfl (lv_at hl 1 rfl) ?_
  obtain ⟨h_1, hR⟩ := ck_some hR
  refine bw_ast (w' := (BW cI cO ad (sA st 4 (gI st 5) x1))) hx hb hK hP hD hS 16 rfl h_1 (BW_a4 cI cO ad _ _) dX2_keep_9 (fun H locs hP hD hS => ?_)
  refine lv_aload_n hx hb dX2_keep_10 rfl (lv_at hl 0 rfl) ?_
  refine bw_get (ci := 2) (v := .ref (ad 17)) (C := RX2) (T := TX2) (N := 4) hx hb hts i_X2 hown hK hP 15 rfl rfl 1 (by decide) f_15 rfl dX2_keep_11 ?_
  refine lv_aload_n hx hb dX2_keep_14 rfl (lv_at hl 0 rfl) ?_
  refine bw_get (ci := 2) (v := .int (gI (sA st 4 (gI st 5) x1) 5)) (C := RX2) (T := TX2) (N := 4) hx hb hts i_X2 hown hK hP 15 rfl rfl 3 (by decide) f_21 rfl dX2_keep_15 ?_
  refine lv_iload_n hx hb dX2_keep_18 rfl (lv_at hl 2 rfl) ?_
  obtain ⟨h_2, hR⟩ := ck_some hR
  refine bw_ast (w' := (BW cI cO ad (sA (sA st 4 (gI st 5) x1) 5 (gI (sA st 4 (gI st 5) x1) 5) x2))) hx hb hK hP hD hS 17 rfl h_2 (BW_a5 cI cO ad _ _) dX2_keep_19 (fun H locs hP hD hS => ?_)
  refine lv_aload_n hx hb dX2_keep_20 rfl (lv_at hl 0 rfl) ?_
  refine bw_get (ci := 2) (v := .ref (ad 18)) (C := RX2) (T := TX2) (N := 4) hx hb hts i_X2 hown hK hP 15 rfl rfl 2 (by decide) f_18 rfl dX2_keep_21 ?_
  refine lv_aload_n hx hb dX2_keep_24 rfl (lv_at hl 0 rfl) ?_
  refine bw_get (ci := 2) (v := .int (gI (sA (sA st 4 (gI st 5) x1) 5 (gI (sA st 4 (gI st 5) x1) 5) x2) 5)) (C := RX2) (T := TX2) (N := 4) hx hb hts i_X2 hown hK hP 15 rfl rfl 3 (by decide) f_21 rfl dX2_keep_25 ?_
  refine lv_iload_n hx hb dX2_keep_28 rfl (lv_at hl 3 rfl) ?_
  obtain ⟨h_3, hR⟩ := ck_some hR
  refine bw_ast (w' := (BW cI cO ad (sA (sA (sA st 4 (gI st 5) x1) 5 (gI (sA st 4 (gI st 5) x1) 5) x2) 6 (gI (sA (sA st 4 (gI st 5) x1) 5 (gI (sA st 4 (gI st 5) x1) 5) x2) 5) x3))) hx hb hK hP hD hS 18 rfl h_3 (BW_a6 cI cO ad _ _) dX2_keep_29 (fun H locs hP hD hS => ?_)
  refine lv_aload_n hx hb dX2_keep_30 rfl (lv_at hl 0 rfl) ?_
  refine lv_dup hx hb dX2_keep_31 rfl ?_
  refine bw_get (ci := 2) (v := .int (gI (sA (sA (sA st 4 (gI st 5) x1) 5 (gI (sA st 4 (gI st 5) x1) 5) x2) 6 (gI (sA (sA st 4 (gI st 5) x1) 5 (gI (sA st 4 (gI st 5) x1) 5) x2) 5) x3) 5)) (C := RX2) (T := TX2) (N := 4) hx hb hts i_X2 hown hK hP 15 rfl rfl 3 (by decide) f_21 rfl dX2_keep_32 ?_
  refine lv_iconst (v := 1) hx hb dX2_keep_35 (by decide) ?_
  refine lv_iadd hx hb dX2_keep_36 ?_
  refine bw_put (w' := (BW cI cO ad (sI (sA (sA (sA st 4 (gI st 5) x1) 5 (gI (sA st 4 (gI st 5) x1) 5) x2) 6 (gI (sA (sA st 4 (gI st 5) x1) 5 (gI (sA st 4 (gI st 5) x1) 5) x2) 5) x3) 5 ((gI (sA (sA (sA st 4 (gI st 5) x1) 5 (gI (sA st 4 (gI st 5) x1) 5) x2) 6 (gI (sA (sA st 4 (gI st 5) x1) 5 (gI (sA st 4 (gI st 5) x1) 5) x2) 5) x3) 5) + 1)))) (ci := 2) (C := RX2) (T := TX2) (N := 4) hx hb hts i_X2 tyX2 tyX2_ok nmX2 hown hK hP hD hS 15 rfl rfl 3 (by decide) f_21 rfl rfl (Nat.le_of_ble_eq_true rfl) (BW_i5 cI cO ad _ _) dX2_keep_37 (fun H locs hP hD hS => ?_)
  refine lv_aload_n hx hb dX2_keep_40 rfl (lv_at hl 0 rfl) ?_
  refine bw_get (ci := 2) (v := .int (gI (sI (sA (sA (sA st 4 (gI st 5) x1) 5 (gI (sA st 4 (gI st 5) x1) 5) x2) 6 (gI (sA (sA st 4 (gI st 5) x1) 5 (gI (sA st 4 (gI st 5) x1) 5) x2) 5) x3) 5 ((gI (sA (sA (sA st 4 (gI st 5) x1) 5 (gI (sA st 4 (gI st 5) x1) 5) x2) 6 (gI (sA (sA st 4 (gI st 5) x1) 5 (gI (sA st 4 (gI st 5) x1) 5) x2) 5) x3) 5) + 1)) 5)) (C := RX2) (T := TX2) (N := 4) hx hb hts i_X2 hown hK hP 15 rfl rfl 3 (by decide) f_21 rfl dX2_keep_41 ?_
  refine lv_iconst (v := 1) hx hb dX2_keep_44 (by decide) ?_
  refine lv_isub hx hb dX2_keep_45 ?_
  exact ret_ _ _ _ _ _ _ dX2_keep_46  (sp1 hR) (congrArg (fun z => (BW cI cO ad z)) (sp2 hR)) hP hD hS
abbrev rm_X2_areSo : Room := { frames := 2, cells := 0, slots := 0, locals := 45 }
set_option maxHeartbeats 4000000 in
set_option maxRecDepth 100000 in
theorem c_X2_areSo (l : Launch) (D : va_G) (cI cO : ClassId) (ad : Nat → Nat) (sz : Nat) {st : St} {x2 : Int32} {x3 : Int32} {x4 : Int32} {x5 : Int32} {r : Int32} (hR : F_X2_areSo st x2 x3 x4 x5 = some r) : CZ l yX2_areSo wsX2_areSo rm_X2_areSo D cI cO [.ref (ad 15), .ref (ad 10), .int x2, .int x3, .int x4, .int x5] (BW cI cO ad st) (BW cI cO ad st) sz r := by
  refine mk_z (cc := cX2_areSo) (maxL := 10) (own := RX2) rfl (by decide) rfl (Nat.le_of_ble_eq_true rfl) ?_
  intro p e s m args below meth c A Q ls hx hb hml hown hts hK hN hA ret_ hP hD hS hl
  have i_X2 : ∀ w ∈ u_ws RX2 TX2 4, w ∈ wsX2_areSo := (fun _ h => List.mem_cons_of_mem _ (List.mem_append_left _ (List.mem_append_right _ h)))
  have i_X1 : ∀ w ∈ u_ws RX1 TX1 7, w ∈ wsX2_areSo := (fun _ h => List.mem_cons_of_mem _ (List.mem_append_right _ h))
  have f_21 := hts (.fieldLink RX2 21 "BellNames$Readings" "count" "I") (by decide +kernel)
  have f_9 := hts (.fieldLink RX2 9 "BellNames$Readings" "bellOf" "[I") (by decide +kernel)
  have f_25 := hts (.fieldLink RX2 25 "BellNames$Herd" "kindOf" "[I") (by decide +kernel)
  have f_30 := hts (.fieldLink RX2 30 "BellNames$Herd" "noteOf" "[I") (by decide +kernel)
  have f_15 := hts (.fieldLink RX2 15 "BellNames$Readings" "moodOf" "[I") (by decide +kernel)
  have f_18 := hts (.fieldLink RX2 18 "BellNames$Readings" "soundHeard" "[I") (by decide +kernel)
  have hl : lv_has ls 10 [(0, .ref (ad 15)), (1, .ref (ad 10)), (2, .int x2), (3, .int x3), (4, .int x4), (5, .int x5)] := hl
  unfold F_X2_areSo at hR
  refine lv_iconst (v := 0) hx hb dX2_areSo_0 (by decide) ?_
  refine lv_istore (lv' := [(6, .int 0), (0, .ref (ad 15)), (1, .ref (ad 10)), (2, .int x2), (3, .int x3), (4, .int x4), (5, .int x5)]) hx hb dX2_areSo_1 hl (by decide) rfl (fun ls hl => ?_)
  have lp_3 : ∀ (n_3 : Nat) (y6_3 : Int32) (H : Heap) (locs : List Loc) (ls : Array Slot), L_X2_areSo_3 st x2 x3 x4 x5 (fun y6_3 => some 1) n_3 y6_3 = some r → va_P D vwCl (BW cI cO ad st) H → va_D A (BW cI cO ad st) → va_S A s.heap H locs → lv_has ls 10 [(0, .ref (ad 15)), (1, .ref (ad 10)), (2, .int x2), (3, .int x3), (4, .int x4), (5, .int x5), (6, .int y6_3)] → W p l e rm_X2_areSo s m args below meth c H locs 0 0 Q (F0 m 3 ls []) := by
    intro n_3
    induction n_3 with
    | zero => intro y6_3 H locs ls hR; exact absurd (L_X2_areSo_3_z.symm.trans hR) (fun h => nomatch h)
    | succ n_3 ih_3 =>
      intro y6_3 H locs ls hR hP hD hS hl
      have hR := L_X2_areSo_3_s.symm.trans hR
      refine lv_iload hx hb dX2_areSo_3 (lv_at hl 6 rfl) ?_
      refine lv_aload_n hx hb dX2_areSo_5 rfl (lv_at hl 0 rfl) ?_
      refine bw_get (ci := 2) (v := .int (gI st 5)) (C := RX2) (T := TX2) (N := 4) hx hb hts i_X2 hown hK hP 15 rfl rfl 3 (by decide) f_21 rfl dX2_areSo_6 ?_
      refine lv_icmp_ge (tgt := 94) hx hb dX2_areSo_9 (by decide) (fun c_1 => ?_) (fun c_1 => ?_)
      · have hR := (if_pos c_1).symm.trans hR
        refine lv_iconst (v := 1) hx hb dX2_areSo_94 (by decide) ?_
        exact ret_ _ _ _ _ _ _ dX2_areSo_95 (by decide) (Option.some.inj hR) rfl hP hD hS
      · have hR := (if_neg c_1).symm.trans hR
        refine lv_aload_n hx hb dX2_areSo_12 rfl (lv_at hl 0 rfl) ?_
        refine bw_get (ci := 2) (v := .ref (ad 16)) (C := RX2) (T := TX2) (N := 4) hx hb hts i_X2 hown hK hP 15 rfl rfl 0 (by decide) f_9 rfl dX2_areSo_13 ?_
        refine lv_iload hx hb dX2_areSo_16 (lv_at hl 6 rfl) ?_
        obtain ⟨h_2, hR⟩ := ck_some hR
        refine bw_ald (v := gA st 4 y6_3) hx hb hK hP 16 rfl h_2 rfl dX2_areSo_18 ?_
        refine lv_istore (lv' := [(7, .int (gA st 4 y6_3)), (0, .ref (ad 15)), (1, .ref (ad 10)), (2, .int x2), (3, .int x3), (4, .int x4), (5, .int x5), (6, .int y6_3)]) hx hb dX2_areSo_19 hl (by decide) rfl (fun ls hl => ?_)
        refine lv_iload hx hb dX2_areSo_21 (lv_at hl 0 rfl) ?_
        refine lv_iload_n hx hb dX2_areSo_23 rfl (lv_at hl 3 rfl) ?_
        refine lv_icmp_ne (tgt := 31) hx hb dX2_areSo_24 (by decide) (fun c_3 => ?_) (fun c_3 => ?_)
        · have hR := (if_neg c_3).symm.trans hR
          refine lv_aload_n hx hb dX2_areSo_31 rfl (lv_at hl 2 rfl) ?_
          refine bw_get (ci := 1) (v := .ref (ad 11)) (C := RX1) (T := TX1) (N := 7) hx hb hts i_X1 hown hK hP 10 rfl rfl 0 (by decide) f_25 rfl dX2_areSo_32 ?_
          refine lv_iload hx hb dX2_areSo_35 (lv_at hl 0 rfl) ?_
          obtain ⟨h_4, hR⟩ := ck_some hR
          refine bw_ald (v := gA st 0 (gA st 4 y6_3)) hx hb hK hP 11 rfl h_4 rfl dX2_areSo_37 ?_
          refine lv_istore (lv' := [(8, .int (gA st 0 (gA st 4 y6_3))), (7, .int (gA st 4 y6_3)), (0, .ref (ad 15)), (1, .ref (ad 10)), (2, .int x2), (3, .int x3), (4, .int x4), (5, .int x5), (6, .int y6_3)]) hx hb dX2_areSo_38 hl (by decide) rfl (fun ls hl => ?_)
          refine lv_iload hx hb dX2_areSo_40 (lv_at hl 1 rfl) ?_
          refine lv_iload_n hx hb dX2_areSo_42 rfl (lv_at hl 4 rfl) ?_
          refine lv_icmp_ne (tgt := 51) hx hb dX2_areSo_43 (by decide) (fun c_5 => ?_) (fun c_5 => ?_)
          · have hR := (if_neg c_5).symm.trans hR
            refine lv_aload_n hx hb dX2_areSo_51 rfl (lv_at hl 3 rfl) ?_
            refine bw_get (ci := 1) (v := .ref (ad 12)) (C := RX1) (T := TX1) (N := 7) hx hb hts i_X1 hown hK hP 10 rfl rfl 1 (by decide) f_30 rfl dX2_areSo_52 ?_
            refine lv_iload hx hb dX2_areSo_55 (lv_at hl 1 rfl) ?_
            obtain ⟨h_6, hR⟩ := ck_some hR
            refine bw_ald (v := gA st 1 (gA st 4 y6_3)) hx hb hK hP 12 rfl h_6 rfl dX2_areSo_57 ?_
            refine lv_istore (lv' := [(9, .int (gA st 1 (gA st 4 y6_3))), (8, .int (gA st 0 (gA st 4 y6_3))), (7, .int (gA st 4 y6_3)), (0, .ref (ad 15)), (1, .ref (ad 10)), (2, .int x2), (3, .int x3), (4, .int x4), (5, .int x5), (6, .int y6_3)]) hx hb dX2_areSo_58 hl (by decide) rfl (fun ls hl => ?_)
            refine lv_iload hx hb dX2_areSo_60 (lv_at hl 1 rfl) ?_
            refine lv_iload hx hb dX2_areSo_62 (lv_at hl 0 rfl) ?_
            refine lv_aload_n hx hb dX2_areSo_64 rfl (lv_at hl 3 rfl) ?_
            refine bw_get (ci := 2) (v := .ref (ad 17)) (C := RX2) (T := TX2) (N := 4) hx hb hts i_X2 hown hK hP 15 rfl rfl 1 (by decide) f_15 rfl dX2_areSo_65 ?_
            refine lv_iload hx hb dX2_areSo_68 (lv_at hl 9 rfl) ?_
            obtain ⟨h_7, hR⟩ := ck_some hR
            refine bw_ald (v := gA st 5 y6_3) hx hb hK hP 17 rfl h_7 rfl dX2_areSo_70 ?_
            refine lv_iload hx hb dX2_areSo_71 (lv_at hl 8 rfl) ?_
            obtain ⟨v_8, e_8, hR⟩ := b1_some hR
            refine bc_i (va_runSN (As := [.int (gA st 0 (gA st 4 y6_3)), .int (gA st 1 (gA st 4 y6_3)), .int (gA st 5 y6_3), .int x5]) (rest := []) ⟨hx, hb, hml, hown, hts⟩ (c_X6_soundOf l D cI cO ad _ e_8) ⟨va_cnB 4 hts gX2_areSo_X6_soundOf_n33 rfl rfl rfl hN.2.2.2.2.2.2.2.2.2.1 (hts (.initialized RX6) (by decide +kernel)) (by decide +kernel) ⟨Nat.le_of_ble_eq_true rfl, Nat.le_of_ble_eq_true rfl⟩, hts (.static yX6_soundOf) (by decide +kernel), trivial⟩ (preS hK hN hP hD) rfl rfl hl.1 rfl (lv_room (Nat.le_of_ble_eq_true rfl)) dX2_areSo_73 ⟨Nat.zero_le _, Nat.zero_le _⟩) hS hD hA (fun H locs hP hD hS => ?_)
            refine lv_aload_n hx hb dX2_areSo_76 rfl (lv_at hl 3 rfl) ?_
            refine bw_get (ci := 2) (v := .ref (ad 18)) (C := RX2) (T := TX2) (N := 4) hx hb hts i_X2 hown hK hP 15 rfl rfl 2 (by decide) f_18 rfl dX2_areSo_77 ?_
            refine lv_iload hx hb dX2_areSo_80 (lv_at hl 9 rfl) ?_
            obtain ⟨h_9, hR⟩ := ck_some hR
            refine bw_ald (v := gA st 6 y6_3) hx hb hK hP 18 rfl h_9 rfl dX2_areSo_82 ?_
            refine lv_icmp_eq (tgt := 88) hx hb dX2_areSo_83 (by decide) (fun c_10 => ?_) (fun c_10 => ?_)
            · have hR := (if_pos c_10).symm.trans hR
              refine lv_iinc (v := y6_3 + 1) (lv' := [(6, .int (y6_3 + 1)), (9, .int (gA st 1 (gA st 4 y6_3))), (8, .int (gA st 0 (gA st 4 y6_3))), (7, .int (gA st 4 y6_3)), (0, .ref (ad 15)), (1, .ref (ad 10)), (2, .int x2), (3, .int x3), (4, .int x4), (5, .int x5)]) hx hb dX2_areSo_88 hl (k := 9) rfl rfl (by decide) rfl (fun ls hl => ?_)
              refine lv_goto (tgt := 3) hx hb dX2_areSo_91 (by decide) ?_
              exact ih_3 _ _ _ _ hR hP hD hS (lv_sub hl [4, 5, 6, 7, 8, 9, 0] rfl)
            · have hR := (if_neg c_10).symm.trans hR
              refine lv_iconst (v := 0) hx hb dX2_areSo_86 (by decide) ?_
              exact ret_ _ _ _ _ _ _ dX2_areSo_87 (by decide) (Option.some.inj hR) rfl hP hD hS
          · have hR := (if_pos c_5).symm.trans hR
            refine lv_iload hx hb dX2_areSo_46 (lv_at hl 6 rfl) ?_
            refine lv_goto (tgt := 58) hx hb dX2_areSo_48 (by decide) ?_
            refine lv_istore (lv' := [(9, .int x4), (8, .int (gA st 0 (gA st 4 y6_3))), (7, .int (gA st 4 y6_3)), (0, .ref (ad 15)), (1, .ref (ad 10)), (2, .int x2), (3, .int x3), (4, .int x4), (5, .int x5), (6, .int y6_3)]) hx hb dX2_areSo_58 hl (by decide) rfl (fun ls hl => ?_)
            refine lv_iload hx hb dX2_areSo_60 (lv_at hl 1 rfl) ?_
            refine lv_iload hx hb dX2_areSo_62 (lv_at hl 0 rfl) ?_
            refine lv_aload_n hx hb dX2_areSo_64 rfl (lv_at hl 3 rfl) ?_
            refine bw_get (ci := 2) (v := .ref (ad 17)) (C := RX2) (T := TX2) (N := 4) hx hb hts i_X2 hown hK hP 15 rfl rfl 1 (by decide) f_15 rfl dX2_areSo_65 ?_
            refine lv_iload hx hb dX2_areSo_68 (lv_at hl 9 rfl) ?_
            obtain ⟨h_11, hR⟩ := ck_some hR
            refine bw_ald (v := gA st 5 y6_3) hx hb hK hP 17 rfl h_11 rfl dX2_areSo_70 ?_
            refine lv_iload hx hb dX2_areSo_71 (lv_at hl 8 rfl) ?_
            obtain ⟨v_12, e_12, hR⟩ := b1_some hR
            refine bc_i (va_runSN (As := [.int (gA st 0 (gA st 4 y6_3)), .int x4, .int (gA st 5 y6_3), .int x5]) (rest := []) ⟨hx, hb, hml, hown, hts⟩ (c_X6_soundOf l D cI cO ad _ e_12) ⟨va_cnB 4 hts gX2_areSo_X6_soundOf_n33 rfl rfl rfl hN.2.2.2.2.2.2.2.2.2.1 (hts (.initialized RX6) (by decide +kernel)) (by decide +kernel) ⟨Nat.le_of_ble_eq_true rfl, Nat.le_of_ble_eq_true rfl⟩, hts (.static yX6_soundOf) (by decide +kernel), trivial⟩ (preS hK hN hP hD) rfl rfl hl.1 rfl (lv_room (Nat.le_of_ble_eq_true rfl)) dX2_areSo_73 ⟨Nat.zero_le _, Nat.zero_le _⟩) hS hD hA (fun H locs hP hD hS => ?_)
            refine lv_aload_n hx hb dX2_areSo_76 rfl (lv_at hl 3 rfl) ?_
            refine bw_get (ci := 2) (v := .ref (ad 18)) (C := RX2) (T := TX2) (N := 4) hx hb hts i_X2 hown hK hP 15 rfl rfl 2 (by decide) f_18 rfl dX2_areSo_77 ?_
            refine lv_iload hx hb dX2_areSo_80 (lv_at hl 9 rfl) ?_
            obtain ⟨h_13, hR⟩ := ck_some hR
            refine bw_ald (v := gA st 6 y6_3) hx hb hK hP 18 rfl h_13 rfl dX2_areSo_82 ?_
            refine lv_icmp_eq (tgt := 88) hx hb dX2_areSo_83 (by decide) (fun c_14 => ?_) (fun c_14 => ?_)
            · have hR := (if_pos c_14).symm.trans hR
              refine lv_iinc (v := y6_3 + 1) (lv' := [(6, .int (y6_3 + 1)), (9, .int x4), (8, .int (gA st 0 (gA st 4 y6_3))), (7, .int (gA st 4 y6_3)), (0, .ref (ad 15)), (1, .ref (ad 10)), (2, .int x2), (3, .int x3), (4, .int x4), (5, .int x5)]) hx hb dX2_areSo_88 hl (k := 9) rfl rfl (by decide) rfl (fun ls hl => ?_)
              refine lv_goto (tgt := 3) hx hb dX2_areSo_91 (by decide) ?_
              exact ih_3 _ _ _ _ hR hP hD hS (lv_sub hl [4, 5, 6, 7, 8, 9, 0] rfl)
            · have hR := (if_neg c_14).symm.trans hR
              refine lv_iconst (v := 0) hx hb dX2_areSo_86 (by decide) ?_
              exact ret_ _ _ _ _ _ _ dX2_areSo_87 (by decide) (Option.some.inj hR) rfl hP hD hS
        · have hR := (if_pos c_3).symm.trans hR
          refine lv_iload_n hx hb dX2_areSo_27 rfl (lv_at hl 4 rfl) ?_
          refine lv_goto (tgt := 38) hx hb dX2_areSo_28 (by decide) ?_
          refine lv_istore (lv' := [(8, .int x3), (7, .int (gA st 4 y6_3)), (0, .ref (ad 15)), (1, .ref (ad 10)), (2, .int x2), (3, .int x3), (4, .int x4), (5, .int x5), (6, .int y6_3)]) hx hb dX2_areSo_38 hl (by decide) rfl (fun ls hl => ?_)
          refine lv_iload hx hb dX2_areSo_40 (lv_at hl 1 rfl) ?_
          refine lv_iload_n hx hb dX2_areSo_42 rfl (lv_at hl 4 rfl) ?_
          refine lv_icmp_ne (tgt := 51) hx hb dX2_areSo_43 (by decide) (fun c_15 => ?_) (fun c_15 => ?_)
          · have hR := (if_neg c_15).symm.trans hR
            refine lv_aload_n hx hb dX2_areSo_51 rfl (lv_at hl 3 rfl) ?_
            refine bw_get (ci := 1) (v := .ref (ad 12)) (C := RX1) (T := TX1) (N := 7) hx hb hts i_X1 hown hK hP 10 rfl rfl 1 (by decide) f_30 rfl dX2_areSo_52 ?_
            refine lv_iload hx hb dX2_areSo_55 (lv_at hl 1 rfl) ?_
            obtain ⟨h_16, hR⟩ := ck_some hR
            refine bw_ald (v := gA st 1 (gA st 4 y6_3)) hx hb hK hP 12 rfl h_16 rfl dX2_areSo_57 ?_
            refine lv_istore (lv' := [(9, .int (gA st 1 (gA st 4 y6_3))), (8, .int x3), (7, .int (gA st 4 y6_3)), (0, .ref (ad 15)), (1, .ref (ad 10)), (2, .int x2), (3, .int x3), (4, .int x4), (5, .int x5), (6, .int y6_3)]) hx hb dX2_areSo_58 hl (by decide) rfl (fun ls hl => ?_)
            refine lv_iload hx hb dX2_areSo_60 (lv_at hl 1 rfl) ?_
            refine lv_iload hx hb dX2_areSo_62 (lv_at hl 0 rfl) ?_
            refine lv_aload_n hx hb dX2_areSo_64 rfl (lv_at hl 3 rfl) ?_
            refine bw_get (ci := 2) (v := .ref (ad 17)) (C := RX2) (T := TX2) (N := 4) hx hb hts i_X2 hown hK hP 15 rfl rfl 1 (by decide) f_15 rfl dX2_areSo_65 ?_
            refine lv_iload hx hb dX2_areSo_68 (lv_at hl 9 rfl) ?_
            obtain ⟨h_17, hR⟩ := ck_some hR
            refine bw_ald (v := gA st 5 y6_3) hx hb hK hP 17 rfl h_17 rfl dX2_areSo_70 ?_
            refine lv_iload hx hb dX2_areSo_71 (lv_at hl 8 rfl) ?_
            obtain ⟨v_18, e_18, hR⟩ := b1_some hR
            refine bc_i (va_runSN (As := [.int x3, .int (gA st 1 (gA st 4 y6_3)), .int (gA st 5 y6_3), .int x5]) (rest := []) ⟨hx, hb, hml, hown, hts⟩ (c_X6_soundOf l D cI cO ad _ e_18) ⟨va_cnB 4 hts gX2_areSo_X6_soundOf_n33 rfl rfl rfl hN.2.2.2.2.2.2.2.2.2.1 (hts (.initialized RX6) (by decide +kernel)) (by decide +kernel) ⟨Nat.le_of_ble_eq_true rfl, Nat.le_of_ble_eq_true rfl⟩, hts (.static yX6_soundOf) (by decide +kernel), trivial⟩ (preS hK hN hP hD) rfl rfl hl.1 rfl (lv_room (Nat.le_of_ble_eq_true rfl)) dX2_areSo_73 ⟨Nat.zero_le _, Nat.zero_le _⟩) hS hD hA (fun H locs hP hD hS => ?_)
            refine lv_aload_n hx hb dX2_areSo_76 rfl (lv_at hl 3 rfl) ?_
            refine bw_get (ci := 2) (v := .ref (ad 18)) (C := RX2) (T := TX2) (N := 4) hx hb hts i_X2 hown hK hP 15 rfl rfl 2 (by decide) f_18 rfl dX2_areSo_77 ?_
            refine lv_iload hx hb dX2_areSo_80 (lv_at hl 9 rfl) ?_
            obtain ⟨h_19, hR⟩ := ck_some hR
            refine bw_ald (v := gA st 6 y6_3) hx hb hK hP 18 rfl h_19 rfl dX2_areSo_82 ?_
            refine lv_icmp_eq (tgt := 88) hx hb dX2_areSo_83 (by decide) (fun c_20 => ?_) (fun c_20 => ?_)
            · have hR := (if_pos c_20).symm.trans hR
              refine lv_iinc (v := y6_3 + 1) (lv' := [(6, .int (y6_3 + 1)), (9, .int (gA st 1 (gA st 4 y6_3))), (8, .int x3), (7, .int (gA st 4 y6_3)), (0, .ref (ad 15)), (1, .ref (ad 10)), (2, .int x2), (3, .int x3), (4, .int x4), (5, .int x5)]) hx hb dX2_areSo_88 hl (k := 9) rfl rfl (by decide) rfl (fun ls hl => ?_)
              refine lv_goto (tgt := 3) hx hb dX2_areSo_91 (by decide) ?_
              exact ih_3 _ _ _ _ hR hP hD hS (lv_sub hl [4, 5, 6, 7, 8, 9, 0] rfl)
            · have hR := (if_neg c_20).symm.trans hR
              refine lv_iconst (v := 0) hx hb dX2_areSo_86 (by decide) ?_
              exact ret_ _ _ _ _ _ _ dX2_areSo_87 (by decide) (Option.some.inj hR) rfl hP hD hS
          · have hR := (if_pos c_15).symm.trans hR
            refine lv_iload hx hb dX2_areSo_46 (lv_at hl 6 rfl) ?_
            refine lv_goto (tgt := 58) hx hb dX2_areSo_48 (by decide) ?_
            refine lv_istore (lv' := [(9, .int x4), (8, .int x3), (7, .int (gA st 4 y6_3)), (0, .ref (ad 15)), (1, .ref (ad 10)), (2, .int x2), (3, .int x3), (4, .int x4), (5, .int x5), (6, .int y6_3)]) hx hb dX2_areSo_58 hl (by decide) rfl (fun ls hl => ?_)
            refine lv_iload hx hb dX2_areSo_60 (lv_at hl 1 rfl) ?_
            refine lv_iload hx hb dX2_areSo_62 (lv_at hl 0 rfl) ?_
            refine lv_aload_n hx hb dX2_areSo_64 rfl (lv_at hl 3 rfl) ?_
            refine bw_get (ci := 2) (v := .ref (ad 17)) (C := RX2) (T := TX2) (N := 4) hx hb hts i_X2 hown hK hP 15 rfl rfl 1 (by decide) f_15 rfl dX2_areSo_65 ?_
            refine lv_iload hx hb dX2_areSo_68 (lv_at hl 9 rfl) ?_
            obtain ⟨h_21, hR⟩ := ck_some hR
            refine bw_ald (v := gA st 5 y6_3) hx hb hK hP 17 rfl h_21 rfl dX2_areSo_70 ?_
            refine lv_iload hx hb dX2_areSo_71 (lv_at hl 8 rfl) ?_
            obtain ⟨v_22, e_22, hR⟩ := b1_some hR
            refine bc_i (va_runSN (As := [.int x3, .int x4, .int (gA st 5 y6_3), .int x5]) (rest := []) ⟨hx, hb, hml, hown, hts⟩ (c_X6_soundOf l D cI cO ad _ e_22) ⟨va_cnB 4 hts gX2_areSo_X6_soundOf_n33 rfl rfl rfl hN.2.2.2.2.2.2.2.2.2.1 (hts (.initialized RX6) (by decide +kernel)) (by decide +kernel) ⟨Nat.le_of_ble_eq_true rfl, Nat.le_of_ble_eq_true rfl⟩, hts (.static yX6_soundOf) (by decide +kernel), trivial⟩ (preS hK hN hP hD) rfl rfl hl.1 rfl (lv_room (Nat.le_of_ble_eq_true rfl)) dX2_areSo_73 ⟨Nat.zero_le _, Nat.zero_le _⟩) hS hD hA (fun H locs hP hD hS => ?_)
            refine lv_aload_n hx hb dX2_areSo_76 rfl (lv_at hl 3 rfl) ?_
            refine bw_get (ci := 2) (v := .ref (ad 18)) (C := RX2) (T := TX2) (N := 4) hx hb hts i_X2 hown hK hP 15 rfl rfl 2 (by decide) f_18 rfl dX2_areSo_77 ?_
            refine lv_iload hx hb dX2_areSo_80 (lv_at hl 9 rfl) ?_
            obtain ⟨h_23, hR⟩ := ck_some hR
            refine bw_ald (v := gA st 6 y6_3) hx hb hK hP 18 rfl h_23 rfl dX2_areSo_82 ?_
            refine lv_icmp_eq (tgt := 88) hx hb dX2_areSo_83 (by decide) (fun c_24 => ?_) (fun c_24 => ?_)
            · have hR := (if_pos c_24).symm.trans hR
              refine lv_iinc (v := y6_3 + 1) (lv' := [(6, .int (y6_3 + 1)), (9, .int x4), (8, .int x3), (7, .int (gA st 4 y6_3)), (0, .ref (ad 15)), (1, .ref (ad 10)), (2, .int x2), (3, .int x3), (4, .int x4), (5, .int x5)]) hx hb dX2_areSo_88 hl (k := 9) rfl rfl (by decide) rfl (fun ls hl => ?_)
              refine lv_goto (tgt := 3) hx hb dX2_areSo_91 (by decide) ?_
              exact ih_3 _ _ _ _ hR hP hD hS (lv_sub hl [4, 5, 6, 7, 8, 9, 0] rfl)
            · have hR := (if_neg c_24).symm.trans hR
              refine lv_iconst (v := 0) hx hb dX2_areSo_86 (by decide) ?_
              exact ret_ _ _ _ _ _ _ dX2_areSo_87 (by decide) (Option.some.inj hR) rfl hP hD hS
  exact lp_3 _ _ _ _ _ hR hP hD hS (lv_sub hl [1, 2, 3, 4, 5, 6, 0] rfl)
abbrev rm_X3_hasNothing : Room := { frames := 0, cells := 0, slots := 0, locals := 0 }
set_option maxHeartbeats 4000000 in
set_option maxRecDepth 100000 in
theorem c_X3_hasNothing (l : Launch) (D : va_G) (cI cO : ClassId) (ad : Nat → Nat) (sz : Nat) {st : St} {k : Nat} (hk : k < 4) {r : Int32} (hR : F_X3_hasNothing st k = some r) : CZ l yX3_hasNothing wsX3_hasNothing rm_X3_hasNothing D cI cO [.ref (ad (2 + k))] (BW cI cO ad st) (BW cI cO ad st) sz r := by
  refine mk_z (cc := cX3_hasNothing) (maxL := 1) (own := RX3) rfl (by decide) rfl (Nat.le_of_ble_eq_true rfl) ?_
  intro p e s m args below meth c A Q ls hx hb hml hown hts hK hN hA ret_ hP hD hS hl
  have i_X3 : ∀ w ∈ u_ws RX3 TX3 3, w ∈ wsX3_hasNothing := (fun _ h => List.mem_cons_of_mem _ (List.mem_append_right _ h))
  have f_15 := hts (.fieldLink RX3 15 "BellNames$Sheet" "lane" "I") (by decide +kernel)
  have hl : lv_has ls 1 [(0, .ref (ad (2 + k)))] := hl
  unfold F_X3_hasNothing at hR
  refine lv_aload_n hx hb dX3_hasNothing_0 rfl (lv_at hl 0 rfl) ?_
  refine bw_get (ci := 3) (v := .int (gI st (10 + k))) (C := RX3) (T := TX3) (N := 3) hx hb hts i_X3 hown hK hP (2 + k) (BW_sheet cI cO ad _ hk) rfl 1 (by decide) f_15 rfl dX3_hasNothing_1 ?_
  refine lv_bipush (v := (-9)) hx hb dX3_hasNothing_4 (by decide) ?_
  refine lv_icmp_ne (tgt := 13) hx hb dX3_hasNothing_6 (by decide) (fun c_1 => ?_) (fun c_1 => ?_)
  · have hR := (if_neg c_1).symm.trans hR
    refine lv_iconst (v := 0) hx hb dX3_hasNothing_13 (by decide) ?_
    exact ret_ _ _ _ _ _ _ dX3_hasNothing_14 (by decide) (Option.some.inj hR) rfl hP hD hS
  · have hR := (if_pos c_1).symm.trans hR
    refine lv_iconst (v := 1) hx hb dX3_hasNothing_9 (by decide) ?_
    refine lv_goto (tgt := 14) hx hb dX3_hasNothing_10 (by decide) ?_
    exact ret_ _ _ _ _ _ _ dX3_hasNothing_14 (by decide) (Option.some.inj hR) rfl hP hD hS
abbrev rm_X3_renew : Room := { frames := 0, cells := 0, slots := 0, locals := 0 }
set_option maxHeartbeats 4000000 in
set_option maxRecDepth 100000 in
theorem c_X3_renew (l : Launch) (D : va_G) (cI cO : ClassId) (ad : Nat → Nat) (sz : Nat) {st : St} {k : Nat} (hk : k < 4) {x1 : Int32} {x2 : Int32} {s2 : St} (hR : F_X3_renew st k x1 x2 = some s2) : CV l yX3_renew wsX3_renew rm_X3_renew D cI cO [.ref (ad (2 + k)), .int x1, .int x2] (BW cI cO ad st) (BW cI cO ad s2) sz := by
  refine mk_v (cc := cX3_renew) (maxL := 4) (own := RX3) rfl (by decide) rfl (Nat.le_of_ble_eq_true rfl) ?_
  intro p e s m args below meth c A Q ls hx hb hml hown hts hK hN hA ret_ hP hD hS hl
  have i_X3 : ∀ w ∈ u_ws RX3 TX3 3, w ∈ wsX3_renew := (fun _ h => List.mem_cons_of_mem _ (List.mem_append_right _ h))
  have f_15 := hts (.fieldLink RX3 15 "BellNames$Sheet" "lane" "I") (by decide +kernel)
  have f_19 := hts (.fieldLink RX3 19 "BellNames$Sheet" "size" "I") (by decide +kernel)
  have f_9 := hts (.fieldLink RX3 9 "BellNames$Sheet" "row" "[I") (by decide +kernel)
  have hl : lv_has ls 4 [(0, .ref (ad (2 + k))), (1, .int x1), (2, .int x2)] := hl
  unfold F_X3_renew at hR
  refine lv_aload_n hx hb dX3_renew_0 rfl (lv_at hl 0 rfl) ?_
  refine lv_iload_n hx hb dX3_renew_1 rfl (lv_at hl 1 rfl) ?_
  refine bw_put (w' := (BW cI cO ad (sI st (10 + k) x1))) (ci := 3) (C := RX3) (T := TX3) (N := 3) hx hb hts i_X3 tyX3 tyX3_ok nmX3 hown hK hP hD hS (2 + k) (BW_sheet cI cO ad _ hk) rfl 1 (by decide) f_15 rfl rfl (Nat.le_of_ble_eq_true rfl) (BW_setLane cI cO ad _ hk _) dX3_renew_2 (fun H locs hP hD hS => ?_)
  refine lv_aload_n hx hb dX3_renew_5 rfl (lv_at hl 0 rfl) ?_
  refine lv_iload_n hx hb dX3_renew_6 rfl (lv_at hl 2 rfl) ?_
  refine bw_put (w' := (BW cI cO ad (sI (sI st (10 + k) x1) (14 + k) x2))) (ci := 3) (C := RX3) (T := TX3) (N := 3) hx hb hts i_X3 tyX3 tyX3_ok nmX3 hown hK hP hD hS (2 + k) (BW_sheet cI cO ad _ hk) rfl 2 (by decide) f_19 rfl rfl (Nat.le_of_ble_eq_true rfl) (BW_setSize cI cO ad _ hk _) dX3_renew_7 (fun H locs hP hD hS => ?_)
  refine lv_iconst (v := 0) hx hb dX3_renew_10 (by decide) ?_
  refine lv_istore_n (lv' := [(3, .int 0), (0, .ref (ad (2 + k))), (1, .int x1), (2, .int x2)]) hx hb dX3_renew_11 rfl hl (by decide) rfl (fun ls hl => ?_)
  have lp_12 : ∀ (n_12 : Nat) (y3_12 : Int32) (z_12 : St) (H : Heap) (locs : List Loc) (ls : Array Slot), L_X3_renew_12 k (fun y3_12 z_12 => some z_12) n_12 y3_12 z_12 = some s2 → va_P D vwCl (BW cI cO ad z_12) H → va_D A (BW cI cO ad z_12) → va_S A s.heap H locs → lv_has ls 4 [(0, .ref (ad (2 + k))), (3, .int y3_12)] → W p l e rm_X3_renew s m args below meth c H locs 0 0 Q (F0 m 12 ls []) := by
    intro n_12
    induction n_12 with
    | zero => intro y3_12 z_12 H locs ls hR; exact absurd (L_X3_renew_12_z.symm.trans hR) (fun h => nomatch h)
    | succ n_12 ih_12 =>
      intro y3_12 z_12 H locs ls hR hP hD hS hl
      have hR := L_X3_renew_12_s.symm.trans hR
      refine lv_iload_n hx hb dX3_renew_12 rfl (lv_at hl 1 rfl) ?_
      refine lv_bipush (v := 60) hx hb dX3_renew_13 (by decide) ?_
      refine lv_icmp_ge (tgt := 31) hx hb dX3_renew_15 (by decide) (fun c_1 => ?_) (fun c_1 => ?_)
      · have hR := (if_pos c_1).symm.trans hR
        exact ret_ _ _ _ _ _ dX3_renew_31 (congrArg (fun z => (BW cI cO ad z)) (Option.some.inj hR)) hP hD hS
      · have hR := (if_neg c_1).symm.trans hR
        refine lv_aload_n hx hb dX3_renew_18 rfl (lv_at hl 0 rfl) ?_
        refine bw_get (ci := 3) (v := .ref (ad (6 + k))) (C := RX3) (T := TX3) (N := 3) hx hb hts i_X3 hown hK hP (2 + k) (BW_sheet cI cO ad _ hk) rfl 0 (by decide) f_9 rfl dX3_renew_19 ?_
        refine lv_iload_n hx hb dX3_renew_22 rfl (lv_at hl 1 rfl) ?_
        refine lv_iconst (v := 0) hx hb dX3_renew_23 (by decide) ?_
        obtain ⟨h_2, hR⟩ := ck_some hR
        refine bw_ast (w' := (BW cI cO ad (sA z_12 (10 + k) y3_12 0))) hx hb hK hP hD hS (6 + k) (BW_row cI cO ad _ hk) h_2 (BW_setRow cI cO ad _ hk _) dX3_renew_24 (fun H locs hP hD hS => ?_)
        refine lv_iinc (v := y3_12 + 1) (lv' := [(3, .int (y3_12 + 1)), (0, .ref (ad (2 + k)))]) hx hb dX3_renew_25 hl (k := 1) rfl rfl (by decide) rfl (fun ls hl => ?_)
        refine lv_goto (tgt := 12) hx hb dX3_renew_28 (by decide) ?_
        exact ih_12 _ _ _ _ _ hR hP hD hS (lv_sub hl [1, 0] rfl)
  exact lp_12 _ _ _ _ _ _ hR hP hD hS (lv_sub hl [1, 0] rfl)
abbrev rm_X3_drop : Room := { frames := 0, cells := 0, slots := 0, locals := 0 }
set_option maxHeartbeats 4000000 in
set_option maxRecDepth 100000 in
theorem c_X3_drop (l : Launch) (D : va_G) (cI cO : ClassId) (ad : Nat → Nat) (sz : Nat) {st : St} {k : Nat} (hk : k < 4) {s2 : St} (hR : F_X3_drop st k = some s2) : CV l yX3_drop wsX3_drop rm_X3_drop D cI cO [.ref (ad (2 + k))] (BW cI cO ad st) (BW cI cO ad s2) sz := by
  refine mk_v (cc := cX3_drop) (maxL := 1) (own := RX3) rfl (by decide) rfl (Nat.le_of_ble_eq_true rfl) ?_
  intro p e s m args below meth c A Q ls hx hb hml hown hts hK hN hA ret_ hP hD hS hl
  have i_X3 : ∀ w ∈ u_ws RX3 TX3 3, w ∈ wsX3_drop := (fun _ h => List.mem_cons_of_mem _ (List.mem_append_right _ h))
  have f_15 := hts (.fieldLink RX3 15 "BellNames$Sheet" "lane" "I") (by decide +kernel)
  have f_19 := hts (.fieldLink RX3 19 "BellNames$Sheet" "size" "I") (by decide +kernel)
  have hl : lv_has ls 1 [(0, .ref (ad (2 + k)))] := hl
  unfold F_X3_drop at hR
  refine lv_aload_n hx hb dX3_drop_0 rfl (lv_at hl 0 rfl) ?_
  refine lv_bipush (v := (-9)) hx hb dX3_drop_1 (by decide) ?_
  refine bw_put (w' := (BW cI cO ad (sI st (10 + k) (-9)))) (ci := 3) (C := RX3) (T := TX3) (N := 3) hx hb hts i_X3 tyX3 tyX3_ok nmX3 hown hK hP hD hS (2 + k) (BW_sheet cI cO ad _ hk) rfl 1 (by decide) f_15 rfl rfl (Nat.le_of_ble_eq_true rfl) (BW_setLane cI cO ad _ hk _) dX3_drop_3 (fun H locs hP hD hS => ?_)
  refine lv_aload_n hx hb dX3_drop_6 rfl (lv_at hl 0 rfl) ?_
  refine lv_iconst (v := 0) hx hb dX3_drop_7 (by decide) ?_
  refine bw_put (w' := (BW cI cO ad (sI (sI st (10 + k) (-9)) (14 + k) 0))) (ci := 3) (C := RX3) (T := TX3) (N := 3) hx hb hts i_X3 tyX3 tyX3_ok nmX3 hown hK hP hD hS (2 + k) (BW_sheet cI cO ad _ hk) rfl 2 (by decide) f_19 rfl rfl (Nat.le_of_ble_eq_true rfl) (BW_setSize cI cO ad _ hk _) dX3_drop_8 (fun H locs hP hD hS => ?_)
  exact ret_ _ _ _ _ _ dX3_drop_11 (congrArg (fun z => (BW cI cO ad z)) (Option.some.inj hR)) hP hD hS
abbrev rm_X3_faultAs : Room := { frames := 1, cells := 0, slots := 0, locals := 20 }
set_option maxHeartbeats 4000000 in
set_option maxRecDepth 100000 in
theorem c_X3_faultAs (l : Launch) (D : va_G) (cI cO : ClassId) (ad : Nat → Nat) (sz : Nat) {st : St} {k : Nat} (hk : k < 4) {x1 : Int32} {r : Int32} (hR : F_X3_faultAs st k x1 = some r) : CI l yX3_faultAs wsX3_faultAs rm_X3_faultAs D cI cO [.ref (ad (2 + k)), .int x1] (BW cI cO ad st) (BW cI cO ad st) sz r := by
  refine mk_i (cc := cX3_faultAs) (maxL := 2) (own := RX3) rfl (by decide) rfl (Nat.le_of_ble_eq_true rfl) ?_
  intro p e s m args below meth c A Q ls hx hb hml hown hts hK hN hA ret_ hP hD hS hl
  have i_X3 : ∀ w ∈ u_ws RX3 TX3 3, w ∈ wsX3_faultAs := (fun _ h => List.mem_cons_of_mem _ (List.mem_append_right _ h))
  have f_15 := hts (.fieldLink RX3 15 "BellNames$Sheet" "lane" "I") (by decide +kernel)
  have hl : lv_has ls 2 [(0, .ref (ad (2 + k))), (1, .int x1)] := hl
  unfold F_X3_faultAs at hR
  refine lv_aload_n hx hb dX3_faultAs_0 rfl (lv_at hl 0 rfl) ?_
  obtain ⟨v_1, e_1, hR⟩ := b1_some hR
  refine bc_z (va_runV (As := []) (rest := []) ⟨hx, hb, hml, hown, hts⟩ (c_X3_hasNothing l D cI cO ad _ hk e_1) (cwV 0 hts gX3_faultAs_X3_hasNothing rfl rfl rfl (by decide +kernel) ⟨Nat.le_of_ble_eq_true rfl, Nat.le_of_ble_eq_true rfl⟩) (preV hK hN hP hD (va_recv hK hP (ci := 3) (q0 := (2 + k)) rfl (BW_sheet cI cO ad _ hk))) rfl rfl hl.1 rfl (lv_room (Nat.le_of_ble_eq_true rfl)) dX3_faultAs_1 ⟨Nat.zero_le _, Nat.zero_le _⟩) hS hD hA (fun H locs hP hD hS n_1 => ?_)
  refine lv_if_eq (tgt := 9) hx hb dX3_faultAs_4 (by decide) (fun c_2 => ?_) (fun c_2 => ?_)
  · have hR := (if_pos c_2).symm.trans hR
    refine lv_aload_n hx hb dX3_faultAs_9 rfl (lv_at hl 0 rfl) ?_
    refine bw_get (ci := 3) (v := .int (gI st (10 + k))) (C := RX3) (T := TX3) (N := 3) hx hb hts i_X3 hown hK hP (2 + k) (BW_sheet cI cO ad _ hk) rfl 1 (by decide) f_15 rfl dX3_faultAs_10 ?_
    refine lv_iload_n hx hb dX3_faultAs_13 rfl (lv_at hl 1 rfl) ?_
    refine lv_icmp_ne (tgt := 21) hx hb dX3_faultAs_14 (by decide) (fun c_3 => ?_) (fun c_3 => ?_)
    · have hR := (if_neg c_3).symm.trans hR
      refine lv_iconst (v := 2) hx hb dX3_faultAs_21 (by decide) ?_
      exact ret_ _ _ _ _ _ _ dX3_faultAs_22  (Option.some.inj hR) rfl hP hD hS
    · have hR := (if_pos c_3).symm.trans hR
      refine lv_iconst (v := 0) hx hb dX3_faultAs_17 (by decide) ?_
      refine lv_goto (tgt := 22) hx hb dX3_faultAs_18 (by decide) ?_
      exact ret_ _ _ _ _ _ _ dX3_faultAs_22  (Option.some.inj hR) rfl hP hD hS
  · have hR := (if_neg c_2).symm.trans hR
    refine lv_iconst (v := 1) hx hb dX3_faultAs_7 (by decide) ?_
    exact ret_ _ _ _ _ _ _ dX3_faultAs_8  (Option.some.inj hR) rfl hP hD hS
abbrev rm_X3_hasCells : Room := { frames := 0, cells := 0, slots := 0, locals := 0 }
set_option maxHeartbeats 4000000 in
set_option maxRecDepth 100000 in
theorem c_X3_hasCells (l : Launch) (D : va_G) (cI cO : ClassId) (ad : Nat → Nat) (sz : Nat) {st : St} {k : Nat} (hk : k < 4) {x1 : Int32} {x2 : Int32} {r : Int32} (hR : F_X3_hasCells st k x1 x2 = some r) : CZ l yX3_hasCells wsX3_hasCells rm_X3_hasCells D cI cO [.ref (ad (2 + k)), .int x1, .int x2] (BW cI cO ad st) (BW cI cO ad st) sz r := by
  refine mk_z (cc := cX3_hasCells) (maxL := 3) (own := RX3) rfl (by decide) rfl (Nat.le_of_ble_eq_true rfl) ?_
  intro p e s m args below meth c A Q ls hx hb hml hown hts hK hN hA ret_ hP hD hS hl
  have i_X3 : ∀ w ∈ u_ws RX3 TX3 3, w ∈ wsX3_hasCells := (fun _ h => List.mem_cons_of_mem _ (List.mem_append_right _ h))
  have f_19 := hts (.fieldLink RX3 19 "BellNames$Sheet" "size" "I") (by decide +kernel)
  have hl : lv_has ls 3 [(0, .ref (ad (2 + k))), (1, .int x1), (2, .int x2)] := hl
  unfold F_X3_hasCells at hR
  refine lv_iload_n hx hb dX3_hasCells_0 rfl (lv_at hl 1 rfl) ?_
  refine lv_if_lt (tgt := 30) hx hb dX3_hasCells_1 (by decide) (fun c_1 => ?_) (fun c_1 => ?_)
  · have hR := (if_pos c_1).symm.trans hR
    refine lv_iconst (v := 0) hx hb dX3_hasCells_30 (by decide) ?_
    exact ret_ _ _ _ _ _ _ dX3_hasCells_31 (by decide) (Option.some.inj hR) rfl hP hD hS
  · have hR := (if_neg c_1).symm.trans hR
    refine lv_iload_n hx hb dX3_hasCells_4 rfl (lv_at hl 1 rfl) ?_
    refine lv_aload_n hx hb dX3_hasCells_5 rfl (lv_at hl 0 rfl) ?_
    refine bw_get (ci := 3) (v := .int (gI st (14 + k))) (C := RX3) (T := TX3) (N := 3) hx hb hts i_X3 hown hK hP (2 + k) (BW_sheet cI cO ad _ hk) rfl 2 (by decide) f_19 rfl dX3_hasCells_6 ?_
    refine lv_icmp_gt (tgt := 30) hx hb dX3_hasCells_9 (by decide) (fun c_2 => ?_) (fun c_2 => ?_)
    · have hR := (if_pos c_2).symm.trans hR
      refine lv_iconst (v := 0) hx hb dX3_hasCells_30 (by decide) ?_
      exact ret_ _ _ _ _ _ _ dX3_hasCells_31 (by decide) (Option.some.inj hR) rfl hP hD hS
    · have hR := (if_neg c_2).symm.trans hR
      refine lv_iload_n hx hb dX3_hasCells_12 rfl (lv_at hl 2 rfl) ?_
      refine lv_if_lt (tgt := 30) hx hb dX3_hasCells_13 (by decide) (fun c_3 => ?_) (fun c_3 => ?_)
      · have hR := (if_pos c_3).symm.trans hR
        refine lv_iconst (v := 0) hx hb dX3_hasCells_30 (by decide) ?_
        exact ret_ _ _ _ _ _ _ dX3_hasCells_31 (by decide) (Option.some.inj hR) rfl hP hD hS
      · have hR := (if_neg c_3).symm.trans hR
        refine lv_iload_n hx hb dX3_hasCells_16 rfl (lv_at hl 2 rfl) ?_
        refine lv_aload_n hx hb dX3_hasCells_17 rfl (lv_at hl 0 rfl) ?_
        refine bw_get (ci := 3) (v := .int (gI st (14 + k))) (C := RX3) (T := TX3) (N := 3) hx hb hts i_X3 hown hK hP (2 + k) (BW_sheet cI cO ad _ hk) rfl 2 (by decide) f_19 rfl dX3_hasCells_18 ?_
        refine lv_iload_n hx hb dX3_hasCells_21 rfl (lv_at hl 1 rfl) ?_
        refine lv_isub hx hb dX3_hasCells_22 ?_
        refine lv_icmp_gt (tgt := 30) hx hb dX3_hasCells_23 (by decide) (fun c_4 => ?_) (fun c_4 => ?_)
        · have hR := (if_pos c_4).symm.trans hR
          refine lv_iconst (v := 0) hx hb dX3_hasCells_30 (by decide) ?_
          exact ret_ _ _ _ _ _ _ dX3_hasCells_31 (by decide) (Option.some.inj hR) rfl hP hD hS
        · have hR := (if_neg c_4).symm.trans hR
          refine lv_iconst (v := 1) hx hb dX3_hasCells_26 (by decide) ?_
          refine lv_goto (tgt := 31) hx hb dX3_hasCells_27 (by decide) ?_
          exact ret_ _ _ _ _ _ _ dX3_hasCells_31 (by decide) (Option.some.inj hR) rfl hP hD hS
abbrev rm_X3_write : Room := { frames := 0, cells := 0, slots := 0, locals := 0 }
set_option maxHeartbeats 4000000 in
set_option maxRecDepth 100000 in
theorem c_X3_write (l : Launch) (D : va_G) (cI cO : ClassId) (ad : Nat → Nat) (sz : Nat) {st : St} {k : Nat} (hk : k < 4) {x1 : Int32} {x2 : Int32} {s2 : St} (hR : F_X3_write st k x1 x2 = some s2) : CV l yX3_write wsX3_write rm_X3_write D cI cO [.ref (ad (2 + k)), .int x1, .int x2] (BW cI cO ad st) (BW cI cO ad s2) sz := by
  refine mk_v (cc := cX3_write) (maxL := 3) (own := RX3) rfl (by decide) rfl (Nat.le_of_ble_eq_true rfl) ?_
  intro p e s m args below meth c A Q ls hx hb hml hown hts hK hN hA ret_ hP hD hS hl
  have i_X3 : ∀ w ∈ u_ws RX3 TX3 3, w ∈ wsX3_write := (fun _ h => List.mem_cons_of_mem _ (List.mem_append_right _ h))
  have f_15 := hts (.fieldLink RX3 15 "BellNames$Sheet" "lane" "I") (by decide +kernel)
  have f_9 := hts (.fieldLink RX3 9 "BellNames$Sheet" "row" "[I") (by decide +kernel)
  have hl : lv_has ls 3 [(0, .ref (ad (2 + k))), (1, .int x1), (2, .int x2)] := hl
  unfold F_X3_write at hR
  refine lv_aload_n hx hb dX3_write_0 rfl (lv_at hl 0 rfl) ?_
  refine bw_get (ci := 3) (v := .int (gI st (10 + k))) (C := RX3) (T := TX3) (N := 3) hx hb hts i_X3 hown hK hP (2 + k) (BW_sheet cI cO ad _ hk) rfl 1 (by decide) f_15 rfl dX3_write_1 ?_
  by_cases w_1_0 : (gI st (10 + k)) = 0
  · have hR := (if_pos w_1_0).symm.trans hR
    refine lv_lookup (off := 28) (tgt := 32) hx hb dX3_write_4 (by decide) (by rw [w_1_0]; rfl) (by decide) ?_
    refine lv_aload_n hx hb dX3_write_32 rfl (lv_at hl 0 rfl) ?_
    refine bw_get (ci := 3) (v := .ref (ad (6 + k))) (C := RX3) (T := TX3) (N := 3) hx hb hts i_X3 hown hK hP (2 + k) (BW_sheet cI cO ad _ hk) rfl 0 (by decide) f_9 rfl dX3_write_33 ?_
    refine lv_iload_n hx hb dX3_write_36 rfl (lv_at hl 1 rfl) ?_
    refine lv_iload_n hx hb dX3_write_37 rfl (lv_at hl 2 rfl) ?_
    refine lv_i2b (v := x2.toInt8.toInt32) hx hb dX3_write_38 rfl ?_
    obtain ⟨h_2, hR⟩ := ck_some hR
    refine bw_ast (w' := (BW cI cO ad (sA st (10 + k) x1 x2.toInt8.toInt32))) hx hb hK hP hD hS (6 + k) (BW_row cI cO ad _ hk) h_2 (BW_setRow cI cO ad _ hk _) dX3_write_39 (fun H locs hP hD hS => ?_)
    refine lv_goto (tgt := 61) hx hb dX3_write_40 (by decide) ?_
    exact ret_ _ _ _ _ _ dX3_write_61 (congrArg (fun z => (BW cI cO ad z)) (Option.some.inj hR)) hP hD hS
  have hR := (if_neg w_1_0).symm.trans hR
  by_cases w_1_1 : (gI st (10 + k)) = 1
  · have hR := (if_pos w_1_1).symm.trans hR
    refine lv_lookup (off := 39) (tgt := 43) hx hb dX3_write_4 (by decide) (by rw [w_1_1]; rfl) (by decide) ?_
    refine lv_aload_n hx hb dX3_write_43 rfl (lv_at hl 0 rfl) ?_
    refine bw_get (ci := 3) (v := .ref (ad (6 + k))) (C := RX3) (T := TX3) (N := 3) hx hb hts i_X3 hown hK hP (2 + k) (BW_sheet cI cO ad _ hk) rfl 0 (by decide) f_9 rfl dX3_write_44 ?_
    refine lv_iload_n hx hb dX3_write_47 rfl (lv_at hl 1 rfl) ?_
    refine lv_iload_n hx hb dX3_write_48 rfl (lv_at hl 2 rfl) ?_
    refine lv_i2s (v := x2.toInt16.toInt32) hx hb dX3_write_49 rfl ?_
    obtain ⟨h_3, hR⟩ := ck_some hR
    refine bw_ast (w' := (BW cI cO ad (sA st (10 + k) x1 x2.toInt16.toInt32))) hx hb hK hP hD hS (6 + k) (BW_row cI cO ad _ hk) h_3 (BW_setRow cI cO ad _ hk _) dX3_write_50 (fun H locs hP hD hS => ?_)
    refine lv_goto (tgt := 61) hx hb dX3_write_51 (by decide) ?_
    exact ret_ _ _ _ _ _ dX3_write_61 (congrArg (fun z => (BW cI cO ad z)) (Option.some.inj hR)) hP hD hS
  have hR := (if_neg w_1_1).symm.trans hR
  refine lv_lookup (off := 50) (tgt := 54) hx hb dX3_write_4 (by decide) ((lv_osw w_1_0 rfl).trans ((lv_osw w_1_1 rfl).trans rfl)) (by decide) ?_
  refine lv_aload_n hx hb dX3_write_54 rfl (lv_at hl 0 rfl) ?_
  refine bw_get (ci := 3) (v := .ref (ad (6 + k))) (C := RX3) (T := TX3) (N := 3) hx hb hts i_X3 hown hK hP (2 + k) (BW_sheet cI cO ad _ hk) rfl 0 (by decide) f_9 rfl dX3_write_55 ?_
  refine lv_iload_n hx hb dX3_write_58 rfl (lv_at hl 1 rfl) ?_
  refine lv_iload_n hx hb dX3_write_59 rfl (lv_at hl 2 rfl) ?_
  obtain ⟨h_4, hR⟩ := ck_some hR
  refine bw_ast (w' := (BW cI cO ad (sA st (10 + k) x1 x2))) hx hb hK hP hD hS (6 + k) (BW_row cI cO ad _ hk) h_4 (BW_setRow cI cO ad _ hk _) dX3_write_60 (fun H locs hP hD hS => ?_)
  exact ret_ _ _ _ _ _ dX3_write_61 (congrArg (fun z => (BW cI cO ad z)) (Option.some.inj hR)) hP hD hS
abbrev rm_X4_fits : Room := { frames := 1, cells := 0, slots := 0, locals := 21 }
set_option maxHeartbeats 4000000 in
set_option maxRecDepth 100000 in
theorem c_X4_fits (l : Launch) (D : va_G) (cI cO : ClassId) (ad : Nat → Nat) (sz : Nat) {st : St} {x0 : Int32} {x1 : Int32} {r : Int32} (hR : F_X4_fits st x0 x1 = some r) : CZ l yX4_fits wsX4_fits rm_X4_fits D cI cO [.int x0, .int x1] (BW cI cO ad st) (BW cI cO ad st) sz r := by
  refine mk_z (cc := cX4_fits) (maxL := 2) (own := RX4) rfl (by decide) rfl (Nat.le_of_ble_eq_true rfl) ?_
  intro p e s m args below meth c A Q ls hx hb hml hown hts hK hN hA ret_ hP hD hS hl
  have hl : lv_has ls 2 [(0, .int x0), (1, .int x1)] := hl
  unfold F_X4_fits at hR
  refine lv_iload_n hx hb dX4_fits_0 rfl (lv_at hl 0 rfl) ?_
  refine lv_if_ne (tgt := 16) hx hb dX4_fits_1 (by decide) (fun c_1 => ?_) (fun c_1 => ?_)
  · have hR := (if_neg c_1).symm.trans hR
    refine lv_iload_n hx hb dX4_fits_16 rfl (lv_at hl 0 rfl) ?_
    refine lv_iconst (v := 1) hx hb dX4_fits_17 (by decide) ?_
    refine lv_icmp_ne (tgt := 30) hx hb dX4_fits_18 (by decide) (fun c_2 => ?_) (fun c_2 => ?_)
    · have hR := (if_neg c_2).symm.trans hR
      refine lv_iload_n hx hb dX4_fits_30 rfl (lv_at hl 0 rfl) ?_
      refine lv_iconst (v := 2) hx hb dX4_fits_31 (by decide) ?_
      refine lv_icmp_ne (tgt := 45) hx hb dX4_fits_32 (by decide) (fun c_3 => ?_) (fun c_3 => ?_)
      · have hR := (if_neg c_3).symm.trans hR
        refine lv_iload_n hx hb dX4_fits_45 rfl (lv_at hl 0 rfl) ?_
        refine lv_iconst (v := 5) hx hb dX4_fits_46 (by decide) ?_
        obtain ⟨v_4, e_4, hR⟩ := b1_some hR
        refine bc_i (va_runS (As := [.int 5]) (rest := [.int x0]) ⟨hx, hb, hml, hown, hts⟩ (c_X4_startOf l D cI cO ad _ e_4) (va_cwS 1 hts gX4_fits_X4_startOf rfl rfl rfl (by decide +kernel) ⟨Nat.le_of_ble_eq_true rfl, Nat.le_of_ble_eq_true rfl⟩) (preS hK hN hP hD) rfl rfl hl.1 rfl (lv_room (Nat.le_of_ble_eq_true rfl)) dX4_fits_47 ⟨Nat.zero_le _, Nat.zero_le _⟩) hS hD hA (fun H locs hP hD hS => ?_)
        refine lv_icmp_lt (tgt := 55) hx hb dX4_fits_50 (by decide) (fun c_5 => ?_) (fun c_5 => ?_)
        · have hR := (if_pos c_5).symm.trans hR
          refine lv_iload_n hx hb dX4_fits_55 rfl (lv_at hl 0 rfl) ?_
          refine lv_iconst (v := 3) hx hb dX4_fits_56 (by decide) ?_
          refine lv_isub hx hb dX4_fits_57 ?_
          refine lv_iconst (v := 5) hx hb dX4_fits_58 (by decide) ?_
          refine lv_irem hx hb dX4_fits_59 (by decide) ?_
          refine W.eq (g2 := F0 m 60 ls (.int (jrem (x0 - 3) 5) :: [])) rfl ?_
          by_cases w_7_0 : (jrem (x0 - 3) 5) = 0
          · have hR := (if_pos w_7_0).symm.trans hR
            refine lv_tableIn (off := 32) (tgt := 92) hx hb dX4_fits_60 (by rw [w_7_0]; decide) (by rw [w_7_0]; decide) (by rw [w_7_0]; rfl) (by decide) ?_
            refine lv_iload_n hx hb dX4_fits_92 rfl (lv_at hl 1 rfl) ?_
            refine lv_bipush (v := 59) hx hb dX4_fits_93 (by decide) ?_
            refine lv_icmp_ne (tgt := 102) hx hb dX4_fits_95 (by decide) (fun c_8 => ?_) (fun c_8 => ?_)
            · have hR := (if_neg c_8).symm.trans hR
              refine lv_iconst (v := 0) hx hb dX4_fits_102 (by decide) ?_
              exact ret_ _ _ _ _ _ _ dX4_fits_103 (by decide) (Option.some.inj hR) rfl hP hD hS
            · have hR := (if_pos c_8).symm.trans hR
              refine lv_iconst (v := 1) hx hb dX4_fits_98 (by decide) ?_
              refine lv_goto (tgt := 103) hx hb dX4_fits_99 (by decide) ?_
              exact ret_ _ _ _ _ _ _ dX4_fits_103 (by decide) (Option.some.inj hR) rfl hP hD hS
          have hR := (if_neg w_7_0).symm.trans hR
          by_cases w_7_1 : (jrem (x0 - 3) 5) = 1
          · have hR := (if_pos w_7_1).symm.trans hR
            refine lv_tableIn (off := 44) (tgt := 104) hx hb dX4_fits_60 (by rw [w_7_1]; decide) (by rw [w_7_1]; decide) (by rw [w_7_1]; rfl) (by decide) ?_
            refine lv_iload_n hx hb dX4_fits_104 rfl (lv_at hl 1 rfl) ?_
            obtain ⟨v_9, e_9, hR⟩ := b1_some hR
            refine bc_i (va_runS (As := [.int x1]) (rest := []) ⟨hx, hb, hml, hown, hts⟩ (c_X4_kindBy l D cI cO ad _ e_9) (va_cwS 1 hts gX4_fits_X4_kindBy rfl rfl rfl (by decide +kernel) ⟨Nat.le_of_ble_eq_true rfl, Nat.le_of_ble_eq_true rfl⟩) (preS hK hN hP hD) rfl rfl hl.1 rfl (lv_room (Nat.le_of_ble_eq_true rfl)) dX4_fits_105 ⟨Nat.zero_le _, Nat.zero_le _⟩) hS hD hA (fun H locs hP hD hS => ?_)
            refine lv_bipush (v := (-9)) hx hb dX4_fits_108 (by decide) ?_
            refine lv_icmp_eq (tgt := 117) hx hb dX4_fits_110 (by decide) (fun c_10 => ?_) (fun c_10 => ?_)
            · have hR := (if_pos c_10).symm.trans hR
              refine lv_iconst (v := 0) hx hb dX4_fits_117 (by decide) ?_
              exact ret_ _ _ _ _ _ _ dX4_fits_118 (by decide) (Option.some.inj hR) rfl hP hD hS
            · have hR := (if_neg c_10).symm.trans hR
              refine lv_iconst (v := 1) hx hb dX4_fits_113 (by decide) ?_
              refine lv_goto (tgt := 118) hx hb dX4_fits_114 (by decide) ?_
              exact ret_ _ _ _ _ _ _ dX4_fits_118 (by decide) (Option.some.inj hR) rfl hP hD hS
          have hR := (if_neg w_7_1).symm.trans hR
          by_cases w_7_2 : (jrem (x0 - 3) 5) = 2
          · have hR := (if_pos w_7_2).symm.trans hR
            refine lv_tableIn (off := 59) (tgt := 119) hx hb dX4_fits_60 (by rw [w_7_2]; decide) (by rw [w_7_2]; decide) (by rw [w_7_2]; rfl) (by decide) ?_
            refine lv_iload_n hx hb dX4_fits_119 rfl (lv_at hl 1 rfl) ?_
            refine lv_bipush (v := 48) hx hb dX4_fits_120 (by decide) ?_
            refine lv_isub hx hb dX4_fits_122 ?_
            refine lv_bipush (v := 10) hx hb dX4_fits_123 (by decide) ?_
            obtain ⟨v_11, e_11, hR⟩ := b1_some hR
            refine bc_z (va_runSN (As := [.int (x1 - 48), .int 10]) (rest := []) ⟨hx, hb, hml, hown, hts⟩ (c_X6_isBelow l D cI cO ad _ e_11) ⟨va_cnB 2 hts gX4_fits_X6_isBelow_n21 rfl rfl rfl hN.2.2.2.2.2.1 (hts (.initialized RX6) (by decide +kernel)) (by decide +kernel) ⟨Nat.le_of_ble_eq_true rfl, Nat.le_of_ble_eq_true rfl⟩, hts (.static yX6_isBelow) (by decide +kernel), trivial⟩ (preS hK hN hP hD) rfl rfl hl.1 rfl (lv_room (Nat.le_of_ble_eq_true rfl)) dX4_fits_125 ⟨Nat.zero_le _, Nat.zero_le _⟩) hS hD hA (fun H locs hP hD hS n_11 => ?_)
            exact ret_ _ _ _ _ _ _ dX4_fits_128 n_11 (Option.some.inj hR) rfl hP hD hS
          have hR := (if_neg w_7_2).symm.trans hR
          by_cases w_7_3 : (jrem (x0 - 3) 5) = 3
          · have hR := (if_pos w_7_3).symm.trans hR
            refine lv_tableIn (off := 69) (tgt := 129) hx hb dX4_fits_60 (by rw [w_7_3]; decide) (by rw [w_7_3]; decide) (by rw [w_7_3]; rfl) (by decide) ?_
            refine lv_iload_n hx hb dX4_fits_129 rfl (lv_at hl 1 rfl) ?_
            refine lv_bipush (v := 48) hx hb dX4_fits_130 (by decide) ?_
            refine lv_isub hx hb dX4_fits_132 ?_
            refine lv_bipush (v := 10) hx hb dX4_fits_133 (by decide) ?_
            obtain ⟨v_12, e_12, hR⟩ := b1_some hR
            refine bc_z (va_runSN (As := [.int (x1 - 48), .int 10]) (rest := []) ⟨hx, hb, hml, hown, hts⟩ (c_X6_isBelow l D cI cO ad _ e_12) ⟨va_cnB 2 hts gX4_fits_X6_isBelow_n21 rfl rfl rfl hN.2.2.2.2.2.1 (hts (.initialized RX6) (by decide +kernel)) (by decide +kernel) ⟨Nat.le_of_ble_eq_true rfl, Nat.le_of_ble_eq_true rfl⟩, hts (.static yX6_isBelow) (by decide +kernel), trivial⟩ (preS hK hN hP hD) rfl rfl hl.1 rfl (lv_room (Nat.le_of_ble_eq_true rfl)) dX4_fits_135 ⟨Nat.zero_le _, Nat.zero_le _⟩) hS hD hA (fun H locs hP hD hS n_12 => ?_)
            exact ret_ _ _ _ _ _ _ dX4_fits_138 n_12 (Option.some.inj hR) rfl hP hD hS
          have hR := (if_neg w_7_3).symm.trans hR
          refine lv_tableOut (tgt := 139) hx hb dX4_fits_60 (tb_out (lo := 0) (hi := 3) (jrem (x0 - 3) 5) (by intro j h1 h2; rcases (show j = 0 ∨ j = 1 ∨ j = 2 ∨ j = 3 by omega) with rfl | rfl | rfl | rfl <;> first | exact lv_neT w_7_0 rfl | exact lv_neT w_7_1 rfl | exact lv_neT w_7_2 rfl | exact lv_neT w_7_3 rfl)) (by decide) ?_
          refine lv_iload_n hx hb dX4_fits_139 rfl (lv_at hl 1 rfl) ?_
          refine lv_bipush (v := 48) hx hb dX4_fits_140 (by decide) ?_
          refine lv_isub hx hb dX4_fits_142 ?_
          refine lv_iconst (v := 4) hx hb dX4_fits_143 (by decide) ?_
          obtain ⟨v_13, e_13, hR⟩ := b1_some hR
          refine bc_z (va_runSN (As := [.int (x1 - 48), .int 4]) (rest := []) ⟨hx, hb, hml, hown, hts⟩ (c_X6_isBelow l D cI cO ad _ e_13) ⟨va_cnB 2 hts gX4_fits_X6_isBelow_n21 rfl rfl rfl hN.2.2.2.2.2.1 (hts (.initialized RX6) (by decide +kernel)) (by decide +kernel) ⟨Nat.le_of_ble_eq_true rfl, Nat.le_of_ble_eq_true rfl⟩, hts (.static yX6_isBelow) (by decide +kernel), trivial⟩ (preS hK hN hP hD) rfl rfl hl.1 rfl (lv_room (Nat.le_of_ble_eq_true rfl)) dX4_fits_144 ⟨Nat.zero_le _, Nat.zero_le _⟩) hS hD hA (fun H locs hP hD hS n_13 => ?_)
          exact ret_ _ _ _ _ _ _ dX4_fits_147 n_13 (Option.some.inj hR) rfl hP hD hS
        · have hR := (if_neg c_5).symm.trans hR
          refine lv_iconst (v := 0) hx hb dX4_fits_53 (by decide) ?_
          exact ret_ _ _ _ _ _ _ dX4_fits_54 (by decide) (Option.some.inj hR) rfl hP hD hS
      · have hR := (if_pos c_3).symm.trans hR
        refine lv_iload_n hx hb dX4_fits_35 rfl (lv_at hl 1 rfl) ?_
        refine lv_bipush (v := 48) hx hb dX4_fits_36 (by decide) ?_
        refine lv_isub hx hb dX4_fits_38 ?_
        refine lv_bipush (v := 10) hx hb dX4_fits_39 (by decide) ?_
        obtain ⟨v_14, e_14, hR⟩ := b1_some hR
        refine bc_z (va_runSN (As := [.int (x1 - 48), .int 10]) (rest := []) ⟨hx, hb, hml, hown, hts⟩ (c_X6_isBelow l D cI cO ad _ e_14) ⟨va_cnB 2 hts gX4_fits_X6_isBelow_n21 rfl rfl rfl hN.2.2.2.2.2.1 (hts (.initialized RX6) (by decide +kernel)) (by decide +kernel) ⟨Nat.le_of_ble_eq_true rfl, Nat.le_of_ble_eq_true rfl⟩, hts (.static yX6_isBelow) (by decide +kernel), trivial⟩ (preS hK hN hP hD) rfl rfl hl.1 rfl (lv_room (Nat.le_of_ble_eq_true rfl)) dX4_fits_41 ⟨Nat.zero_le _, Nat.zero_le _⟩) hS hD hA (fun H locs hP hD hS n_14 => ?_)
        exact ret_ _ _ _ _ _ _ dX4_fits_44 n_14 (Option.some.inj hR) rfl hP hD hS
    · have hR := (if_pos c_2).symm.trans hR
      refine lv_iload_n hx hb dX4_fits_21 rfl (lv_at hl 1 rfl) ?_
      refine lv_bipush (v := 48) hx hb dX4_fits_22 (by decide) ?_
      refine lv_isub hx hb dX4_fits_24 ?_
      refine lv_iconst (v := 3) hx hb dX4_fits_25 (by decide) ?_
      obtain ⟨v_15, e_15, hR⟩ := b1_some hR
      refine bc_z (va_runSN (As := [.int (x1 - 48), .int 3]) (rest := []) ⟨hx, hb, hml, hown, hts⟩ (c_X6_isBelow l D cI cO ad _ e_15) ⟨va_cnB 2 hts gX4_fits_X6_isBelow_n21 rfl rfl rfl hN.2.2.2.2.2.1 (hts (.initialized RX6) (by decide +kernel)) (by decide +kernel) ⟨Nat.le_of_ble_eq_true rfl, Nat.le_of_ble_eq_true rfl⟩, hts (.static yX6_isBelow) (by decide +kernel), trivial⟩ (preS hK hN hP hD) rfl rfl hl.1 rfl (lv_room (Nat.le_of_ble_eq_true rfl)) dX4_fits_26 ⟨Nat.zero_le _, Nat.zero_le _⟩) hS hD hA (fun H locs hP hD hS n_15 => ?_)
      exact ret_ _ _ _ _ _ _ dX4_fits_29 n_15 (Option.some.inj hR) rfl hP hD hS
  · have hR := (if_pos c_1).symm.trans hR
    refine lv_iload_n hx hb dX4_fits_4 rfl (lv_at hl 1 rfl) ?_
    refine lv_bipush (v := 98) hx hb dX4_fits_5 (by decide) ?_
    refine lv_icmp_ne (tgt := 14) hx hb dX4_fits_7 (by decide) (fun c_16 => ?_) (fun c_16 => ?_)
    · have hR := (if_neg c_16).symm.trans hR
      refine lv_iconst (v := 0) hx hb dX4_fits_14 (by decide) ?_
      exact ret_ _ _ _ _ _ _ dX4_fits_15 (by decide) (Option.some.inj hR) rfl hP hD hS
    · have hR := (if_pos c_16).symm.trans hR
      refine lv_iconst (v := 1) hx hb dX4_fits_10 (by decide) ?_
      refine lv_goto (tgt := 15) hx hb dX4_fits_11 (by decide) ?_
      exact ret_ _ _ _ _ _ _ dX4_fits_15 (by decide) (Option.some.inj hR) rfl hP hD hS
abbrev rm_X4_firstFault : Room := { frames := 2, cells := 0, slots := 0, locals := 42 }
set_option maxHeartbeats 4000000 in
set_option maxRecDepth 100000 in
theorem c_X4_firstFault (l : Launch) (D : va_G) (cI cO : ClassId) (ad : Nat → Nat) (sz : Nat) {st : St} {k : Nat} (hk : k < 4) {x1 : Int32} {x2 : Int32} {r : Int32} (hR : F_X4_firstFault st k x1 x2 = some r) : CI l yX4_firstFault wsX4_firstFault rm_X4_firstFault D cI cO [.ref (ad (2 + k)), .int x1, .int x2] (BW cI cO ad st) (BW cI cO ad st) sz r := by
  refine mk_i (cc := cX4_firstFault) (maxL := 4) (own := RX4) rfl (by decide) rfl (Nat.le_of_ble_eq_true rfl) ?_
  intro p e s m args below meth c A Q ls hx hb hml hown hts hK hN hA ret_ hP hD hS hl
  have i_X3 : ∀ w ∈ u_ws RX3 TX3 3, w ∈ wsX4_firstFault := (fun _ h => List.mem_cons_of_mem _ (List.mem_append_right _ h))
  have f_9 := hts (.fieldLink RX4 9 "BellNames$Sheet" "row" "[I") (by decide +kernel)
  have hl : lv_has ls 4 [(0, .ref (ad (2 + k))), (1, .int x1), (2, .int x2)] := hl
  unfold F_X4_firstFault at hR
  refine lv_iconst (v := 0) hx hb dX4_firstFault_0 (by decide) ?_
  refine lv_istore_n (lv' := [(3, .int 0), (0, .ref (ad (2 + k))), (1, .int x1), (2, .int x2)]) hx hb dX4_firstFault_1 rfl hl (by decide) rfl (fun ls hl => ?_)
  have lp_2 : ∀ (n_2 : Nat) (y3_2 : Int32) (H : Heap) (locs : List Loc) (ls : Array Slot), L_X4_firstFault_2 st k x1 x2 (fun y3_2 => if x2 ≤ 3 then some x2 else if (jrem (x2 - 3) 5) = 0 then some (-9) else some x2) n_2 y3_2 = some r → va_P D vwCl (BW cI cO ad st) H → va_D A (BW cI cO ad st) → va_S A s.heap H locs → lv_has ls 4 [(0, .ref (ad (2 + k))), (1, .int x1), (2, .int x2), (3, .int y3_2)] → W p l e rm_X4_firstFault s m args below meth c H locs 0 0 Q (F0 m 2 ls []) := by
    intro n_2
    induction n_2 with
    | zero => intro y3_2 H locs ls hR; exact absurd (L_X4_firstFault_2_z.symm.trans hR) (fun h => nomatch h)
    | succ n_2 ih_2 =>
      intro y3_2 H locs ls hR hP hD hS hl
      have hR := L_X4_firstFault_2_s.symm.trans hR
      refine lv_iload_n hx hb dX4_firstFault_2 rfl (lv_at hl 3 rfl) ?_
      refine lv_iload_n hx hb dX4_firstFault_3 rfl (lv_at hl 2 rfl) ?_
      refine lv_icmp_ge (tgt := 30) hx hb dX4_firstFault_4 (by decide) (fun c_1 => ?_) (fun c_1 => ?_)
      · have hR := (if_pos c_1).symm.trans hR
        refine lv_iload_n hx hb dX4_firstFault_30 rfl (lv_at hl 2 rfl) ?_
        refine lv_iconst (v := 3) hx hb dX4_firstFault_31 (by decide) ?_
        refine lv_icmp_le (tgt := 47) hx hb dX4_firstFault_32 (by decide) (fun c_2 => ?_) (fun c_2 => ?_)
        · have hR := (if_pos c_2).symm.trans hR
          refine lv_iconst (v := 0) hx hb dX4_firstFault_47 (by decide) ?_
          refine lv_istore_n (lv' := [(3, .int 0), (0, .ref (ad (2 + k))), (1, .int x1), (2, .int x2)]) hx hb dX4_firstFault_48 rfl hl (by decide) rfl (fun ls hl => ?_)
          refine lv_iload_n hx hb dX4_firstFault_49 rfl (lv_at hl 0 rfl) ?_
          refine lv_if_eq (tgt := 58) hx hb dX4_firstFault_50 (by decide) (fun c_3 => ?_) (fun c_3 => ?_)
          · refine lv_iload_n hx hb dX4_firstFault_58 rfl (lv_at hl 3 rfl) ?_
            exact ret_ _ _ _ _ _ _ dX4_firstFault_59  (Option.some.inj hR) rfl hP hD hS
          · exact absurd c_3 (by decide)
        · have hR := (if_neg c_2).symm.trans hR
          refine lv_iload_n hx hb dX4_firstFault_35 rfl (lv_at hl 2 rfl) ?_
          refine lv_iconst (v := 3) hx hb dX4_firstFault_36 (by decide) ?_
          refine lv_isub hx hb dX4_firstFault_37 ?_
          refine lv_iconst (v := 5) hx hb dX4_firstFault_38 (by decide) ?_
          refine lv_irem hx hb dX4_firstFault_39 (by decide) ?_
          refine W.eq (g2 := F0 m 40 ls (.int (jrem (x2 - 3) 5) :: [])) rfl ?_
          refine lv_if_ne (tgt := 47) hx hb dX4_firstFault_40 (by decide) (fun c_5 => ?_) (fun c_5 => ?_)
          · have hR := (if_neg c_5).symm.trans hR
            refine lv_iconst (v := 0) hx hb dX4_firstFault_47 (by decide) ?_
            refine lv_istore_n (lv' := [(3, .int 0), (0, .ref (ad (2 + k))), (1, .int x1), (2, .int x2)]) hx hb dX4_firstFault_48 rfl hl (by decide) rfl (fun ls hl => ?_)
            refine lv_iload_n hx hb dX4_firstFault_49 rfl (lv_at hl 0 rfl) ?_
            refine lv_if_eq (tgt := 58) hx hb dX4_firstFault_50 (by decide) (fun c_6 => ?_) (fun c_6 => ?_)
            · refine lv_iload_n hx hb dX4_firstFault_58 rfl (lv_at hl 3 rfl) ?_
              exact ret_ _ _ _ _ _ _ dX4_firstFault_59  (Option.some.inj hR) rfl hP hD hS
            · exact absurd c_6 (by decide)
          · have hR := (if_pos c_5).symm.trans hR
            refine lv_iconst (v := 1) hx hb dX4_firstFault_43 (by decide) ?_
            refine lv_goto (tgt := 48) hx hb dX4_firstFault_44 (by decide) ?_
            refine lv_istore_n (lv' := [(3, .int 1), (0, .ref (ad (2 + k))), (1, .int x1), (2, .int x2)]) hx hb dX4_firstFault_48 rfl hl (by decide) rfl (fun ls hl => ?_)
            refine lv_iload_n hx hb dX4_firstFault_49 rfl (lv_at hl 0 rfl) ?_
            refine lv_if_eq (tgt := 58) hx hb dX4_firstFault_50 (by decide) (fun c_7 => ?_) (fun c_7 => ?_)
            · exact absurd c_7 (by decide)
            · refine lv_bipush (v := (-9)) hx hb dX4_firstFault_53 (by decide) ?_
              refine lv_goto (tgt := 59) hx hb dX4_firstFault_55 (by decide) ?_
              exact ret_ _ _ _ _ _ _ dX4_firstFault_59  (Option.some.inj hR) rfl hP hD hS
      · have hR := (if_neg c_1).symm.trans hR
        refine lv_iload_n hx hb dX4_firstFault_7 rfl (lv_at hl 3 rfl) ?_
        refine lv_aload_n hx hb dX4_firstFault_8 rfl (lv_at hl 0 rfl) ?_
        refine bw_get (ci := 3) (v := .ref (ad (6 + k))) (C := RX3) (T := TX3) (N := 3) hx hb hts i_X3 hown hK hP (2 + k) (BW_sheet cI cO ad _ hk) rfl 0 (by decide) f_9 rfl dX4_firstFault_9 ?_
        refine lv_iload_n hx hb dX4_firstFault_12 rfl (lv_at hl 1 rfl) ?_
        refine lv_iload_n hx hb dX4_firstFault_13 rfl (lv_at hl 3 rfl) ?_
        refine lv_iadd hx hb dX4_firstFault_14 ?_
        obtain ⟨h_8, hR⟩ := ck_some hR
        refine bw_ald (v := gA st (10 + k) (x1 + y3_2)) hx hb hK hP (6 + k) (BW_row cI cO ad _ hk) h_8 rfl dX4_firstFault_15 ?_
        obtain ⟨v_9, e_9, hR⟩ := b1_some hR
        refine bc_z (va_runS (As := [.int y3_2, .int (gA st (10 + k) (x1 + y3_2))]) (rest := []) ⟨hx, hb, hml, hown, hts⟩ (c_X4_fits l D cI cO ad _ e_9) (va_cwS 2 hts gX4_firstFault_X4_fits rfl rfl rfl (by decide +kernel) ⟨Nat.le_of_ble_eq_true rfl, Nat.le_of_ble_eq_true rfl⟩) (preS hK hN hP hD) rfl rfl hl.1 rfl (lv_room (Nat.le_of_ble_eq_true rfl)) dX4_firstFault_16 ⟨Nat.zero_le _, Nat.zero_le _⟩) hS hD hA (fun H locs hP hD hS n_9 => ?_)
        refine lv_if_ne (tgt := 24) hx hb dX4_firstFault_19 (by decide) (fun c_10 => ?_) (fun c_10 => ?_)
        · have hR := (if_neg c_10).symm.trans hR
          refine lv_iinc (v := y3_2 + 1) (lv' := [(3, .int (y3_2 + 1)), (0, .ref (ad (2 + k))), (1, .int x1), (2, .int x2)]) hx hb dX4_firstFault_24 hl (k := 3) rfl rfl (by decide) rfl (fun ls hl => ?_)
          refine lv_goto (tgt := 2) hx hb dX4_firstFault_27 (by decide) ?_
          exact ih_2 _ _ _ _ hR hP hD hS (lv_sub hl [1, 2, 3, 0] rfl)
        · have hR := (if_pos c_10).symm.trans hR
          refine lv_iload_n hx hb dX4_firstFault_22 rfl (lv_at hl 3 rfl) ?_
          exact ret_ _ _ _ _ _ _ dX4_firstFault_23  (Option.some.inj hR) rfl hP hD hS
  exact lp_2 _ _ _ _ _ hR hP hD hS (lv_sub hl [1, 2, 3, 0] rfl)
abbrev rm_X5_goAll : Room := { frames := 2, cells := 0, slots := 0, locals := 60 }
set_option maxHeartbeats 4000000 in
set_option maxRecDepth 100000 in
theorem c_X5_goAll (l : Launch) (D : va_G) (cI cO : ClassId) (ad : Nat → Nat) (sz : Nat) {st : St} {k : Nat} (hk : k < 4) {x3 : Int32} {x4 : Int32} {r : Int32} {s2 : St} (hR : F_X5_goAll st k x3 x4 = some (r, s2)) : CI l yX5_goAll wsX5_goAll rm_X5_goAll D cI cO [.ref (ad 22), .ref (ad 10), .ref (ad (2 + k)), .int x3, .int x4] (BW cI cO ad st) (BW cI cO ad s2) sz r := by
  refine mk_i (cc := cX5_goAll) (maxL := 9) (own := RX5) rfl (by decide) rfl (Nat.le_of_ble_eq_true rfl) ?_
  intro p e s m args below meth c A Q ls hx hb hml hown hts hK hN hA ret_ hP hD hS hl
  have i_X1 : ∀ w ∈ u_ws RX1 TX1 7, w ∈ wsX5_goAll := (fun _ h => List.mem_cons_of_mem _ (List.mem_append_left _ (List.mem_append_left _ (List.mem_append_right _ h))))
  have i_X5 : ∀ w ∈ u_ws RX5 TX5 3, w ∈ wsX5_goAll := (fun _ h => List.mem_cons_of_mem _ (List.mem_append_left _ (List.mem_append_right _ h)))
  have i_X3 : ∀ w ∈ u_ws RX3 TX3 3, w ∈ wsX5_goAll := (fun _ h => List.mem_cons_of_mem _ (List.mem_append_right _ h))
  have f_22 := hts (.fieldLink RX5 22 "BellNames$Herd" "spotOf" "[I") (by decide +kernel)
  have f_9 := hts (.fieldLink RX5 9 "BellNames$Walk" "spotOf" "[I") (by decide +kernel)
  have m_25 := hts (.methodLink RX5 25 arraycopyName) (by decide +kernel)
  have an := hts (.native arraycopyName) (by decide +kernel)
  have as_ := hts (.static arraycopyName) (by decide +kernel)
  have ai := hts (.initialized "java/lang/System") (by decide +kernel)
  have f_15 := hts (.fieldLink RX5 15 "BellNames$Walk" "steps" "I") (by decide +kernel)
  have f_19 := hts (.fieldLink RX5 19 "BellNames$Walk" "firstWrong" "I") (by decide +kernel)
  have f_31 := hts (.fieldLink RX5 31 "BellNames$Sheet" "row" "[I") (by decide +kernel)
  have m_44 := hts (.methodLink RX5 44 Lib.Math.abs.name) (by decide +kernel)
  have ms_abs := hts (.static Lib.Math.abs.name) (by decide +kernel)
  have mi := hts (.initialized "java/lang/Math") (by decide +kernel)
  have mc_abs := hts (.code Lib.Math.abs.name Lib.Math.abs.code 1 (some .int)) (by decide +kernel)
  have hl : lv_has ls 9 [(0, .ref (ad 22)), (1, .ref (ad 10)), (2, .ref (ad (2 + k))), (3, .int x3), (4, .int x4)] := hl
  unfold F_X5_goAll at hR
  refine lv_aload_n hx hb dX5_goAll_0 rfl (lv_at hl 1 rfl) ?_
  refine bw_get (ci := 1) (v := .ref (ad 13)) (C := RX1) (T := TX1) (N := 7) hx hb hts i_X1 hown hK hP 10 rfl rfl 2 (by decide) f_22 rfl dX5_goAll_1 ?_
  refine lv_iconst (v := 0) hx hb dX5_goAll_4 (by decide) ?_
  refine lv_aload_n hx hb dX5_goAll_5 rfl (lv_at hl 0 rfl) ?_
  refine bw_get (ci := 4) (v := .ref (ad 23)) (C := RX5) (T := TX5) (N := 3) hx hb hts i_X5 hown hK hP 22 rfl rfl 0 (by decide) f_9 rfl dX5_goAll_6 ?_
  refine lv_iconst (v := 0) hx hb dX5_goAll_9 (by decide) ?_
  refine lv_iconst (v := 5) hx hb dX5_goAll_10 (by decide) ?_
  obtain ⟨h_1, hR⟩ := cc5_some hR
  refine bw_cpy (w' := (BW cI cO ad (sC st 2 9 0 0 5))) hx hb (hml.trans hl.1.symm) hown m_25 an as_ ai hK hP hD hS 13 23 rfl rfl h_1 (Nat.le_of_ble_eq_true rfl) (by decide +kernel) (BW_a9 cI cO ad _ _) dX5_goAll_11 (fun H locs hP hD hS => ?_)
  refine lv_aload_n hx hb dX5_goAll_14 rfl (lv_at hl 0 rfl) ?_
  refine lv_iconst (v := 0) hx hb dX5_goAll_15 (by decide) ?_
  refine bw_put (w' := (BW cI cO ad (sI (sC st 2 9 0 0 5) 7 0))) (ci := 4) (C := RX5) (T := TX5) (N := 3) hx hb hts i_X5 tyX5 tyX5_ok nmX5 hown hK hP hD hS 22 rfl rfl 1 (by decide) f_15 rfl rfl (Nat.le_of_ble_eq_true rfl) (BW_i7 cI cO ad _ _) dX5_goAll_16 (fun H locs hP hD hS => ?_)
  refine lv_aload_n hx hb dX5_goAll_19 rfl (lv_at hl 0 rfl) ?_
  refine lv_bipush (v := (-9)) hx hb dX5_goAll_20 (by decide) ?_
  refine bw_put (w' := (BW cI cO ad (sI (sI (sC st 2 9 0 0 5) 7 0) 8 (-9)))) (ci := 4) (C := RX5) (T := TX5) (N := 3) hx hb hts i_X5 tyX5 tyX5_ok nmX5 hown hK hP hD hS 22 rfl rfl 2 (by decide) f_19 rfl rfl (Nat.le_of_ble_eq_true rfl) (BW_i8 cI cO ad _ _) dX5_goAll_22 (fun H locs hP hD hS => ?_)
  refine lv_iconst (v := 0) hx hb dX5_goAll_25 (by decide) ?_
  refine lv_istore (lv' := [(5, .int 0), (0, .ref (ad 22)), (1, .ref (ad 10)), (2, .ref (ad (2 + k))), (3, .int x3), (4, .int x4)]) hx hb dX5_goAll_26 hl (by decide) rfl (fun ls hl => ?_)
  have lp_28 : ∀ (n_28 : Nat) (y5_28 : Int32) (z_28 : St) (H : Heap) (locs : List Loc) (ls : Array Slot), L_X5_goAll_28 k x3 x4 (fun y5_28 z_28 => some (0, z_28)) n_28 y5_28 z_28 = some (r, s2) → va_P D vwCl (BW cI cO ad z_28) H → va_D A (BW cI cO ad z_28) → va_S A s.heap H locs → lv_has ls 9 [(0, .ref (ad 22)), (1, .ref (ad 10)), (2, .ref (ad (2 + k))), (3, .int x3), (4, .int x4), (5, .int y5_28)] → W p l e rm_X5_goAll s m args below meth c H locs 0 0 Q (F0 m 28 ls []) := by
    intro n_28
    induction n_28 with
    | zero => intro y5_28 z_28 H locs ls hR; exact absurd (L_X5_goAll_28_z.symm.trans hR) (fun h => nomatch h)
    | succ n_28 ih_28 =>
      intro y5_28 z_28 H locs ls hR hP hD hS hl
      have hR := L_X5_goAll_28_s.symm.trans hR
      refine lv_iload hx hb dX5_goAll_28 (lv_at hl 5 rfl) ?_
      refine lv_iload hx hb dX5_goAll_30 (lv_at hl 4 rfl) ?_
      refine lv_icmp_ge (tgt := 148) hx hb dX5_goAll_32 (by decide) (fun c_2 => ?_) (fun c_2 => ?_)
      · have hR := (if_pos c_2).symm.trans hR
        refine lv_iconst (v := 0) hx hb dX5_goAll_148 (by decide) ?_
        exact ret_ _ _ _ _ _ _ dX5_goAll_149  (sp1 hR) (congrArg (fun z => (BW cI cO ad z)) (sp2 hR)) hP hD hS
      · have hR := (if_neg c_2).symm.trans hR
        refine lv_aload_n hx hb dX5_goAll_35 rfl (lv_at hl 2 rfl) ?_
        refine bw_get (ci := 3) (v := .ref (ad (6 + k))) (C := RX3) (T := TX3) (N := 3) hx hb hts i_X3 hown hK hP (2 + k) (BW_sheet cI cO ad _ hk) rfl 0 (by decide) f_31 rfl dX5_goAll_36 ?_
        refine lv_iload_n hx hb dX5_goAll_39 rfl (lv_at hl 3 rfl) ?_
        refine lv_iconst (v := 2) hx hb dX5_goAll_40 (by decide) ?_
        refine lv_iload hx hb dX5_goAll_41 (lv_at hl 5 rfl) ?_
        refine lv_imul hx hb dX5_goAll_43 ?_
        refine lv_iadd hx hb dX5_goAll_44 ?_
        obtain ⟨h_3, hR⟩ := ck_some hR
        refine bw_ald (v := gA z_28 (10 + k) (x3 + (2 * y5_28))) hx hb hK hP (6 + k) (BW_row cI cO ad _ hk) h_3 rfl dX5_goAll_45 ?_
        refine lv_istore (lv' := [(6, .int (gA z_28 (10 + k) (x3 + (2 * y5_28)))), (0, .ref (ad 22)), (1, .ref (ad 10)), (2, .ref (ad (2 + k))), (3, .int x3), (4, .int x4), (5, .int y5_28)]) hx hb dX5_goAll_46 hl (by decide) rfl (fun ls hl => ?_)
        refine lv_aload_n hx hb dX5_goAll_48 rfl (lv_at hl 3 rfl) ?_
        refine bw_get (ci := 3) (v := .ref (ad (6 + k))) (C := RX3) (T := TX3) (N := 3) hx hb hts i_X3 hown hK hP (2 + k) (BW_sheet cI cO ad _ hk) rfl 0 (by decide) f_31 rfl dX5_goAll_49 ?_
        refine lv_iload_n hx hb dX5_goAll_52 rfl (lv_at hl 4 rfl) ?_
        refine lv_iconst (v := 2) hx hb dX5_goAll_53 (by decide) ?_
        refine lv_iload hx hb dX5_goAll_54 (lv_at hl 6 rfl) ?_
        refine lv_imul hx hb dX5_goAll_56 ?_
        refine lv_iadd hx hb dX5_goAll_57 ?_
        refine lv_iconst (v := 1) hx hb dX5_goAll_58 (by decide) ?_
        refine lv_iadd hx hb dX5_goAll_59 ?_
        obtain ⟨h_4, hR⟩ := ck_some hR
        refine bw_ald (v := gA z_28 (10 + k) ((x3 + (2 * y5_28)) + 1)) hx hb hK hP (6 + k) (BW_row cI cO ad _ hk) h_4 rfl dX5_goAll_60 ?_
        refine lv_istore (lv' := [(7, .int (gA z_28 (10 + k) ((x3 + (2 * y5_28)) + 1))), (6, .int (gA z_28 (10 + k) (x3 + (2 * y5_28)))), (0, .ref (ad 22)), (1, .ref (ad 10)), (2, .ref (ad (2 + k))), (3, .int x3), (4, .int x4), (5, .int y5_28)]) hx hb dX5_goAll_61 hl (by decide) rfl (fun ls hl => ?_)
        refine lv_aload_n hx hb dX5_goAll_63 rfl (lv_at hl 3 rfl) ?_
        refine lv_iload hx hb dX5_goAll_64 (lv_at hl 1 rfl) ?_
        obtain ⟨v_5, e_5, hR⟩ := b1_some hR
        refine bc_z (va_runV (As := [.int (gA z_28 (10 + k) (x3 + (2 * y5_28)))]) (rest := []) ⟨hx, hb, hml, hown, hts⟩ (c_X1_hasBell l D cI cO ad _ e_5) (cwV 1 hts gX5_goAll_X1_hasBell rfl rfl rfl (by decide +kernel) ⟨Nat.le_of_ble_eq_true rfl, Nat.le_of_ble_eq_true rfl⟩) (preV hK hN hP hD (va_recv hK hP (ci := 1) (q0 := 10) rfl rfl)) rfl rfl hl.1 rfl (lv_room (Nat.le_of_ble_eq_true rfl)) dX5_goAll_66 ⟨Nat.zero_le _, Nat.zero_le _⟩) hS hD hA (fun H locs hP hD hS n_5 => ?_)
        refine lv_if_ne (tgt := 74) hx hb dX5_goAll_69 (by decide) (fun c_6 => ?_) (fun c_6 => ?_)
        · have hR := (if_neg c_6).symm.trans hR
          refine lv_iload hx hb dX5_goAll_74 (lv_at hl 0 rfl) ?_
          refine lv_bipush (v := 10) hx hb dX5_goAll_76 (by decide) ?_
          obtain ⟨v_7, e_7, hR⟩ := b1_some hR
          refine bc_z (va_runSN (As := [.int (gA z_28 (10 + k) ((x3 + (2 * y5_28)) + 1)), .int 10]) (rest := []) ⟨hx, hb, hml, hown, hts⟩ (c_X6_isBelow l D cI cO ad _ e_7) ⟨va_cnB 2 hts gX5_goAll_X6_isBelow_n40 rfl rfl rfl hN.2.2.2.2.2.2.2.2.1 (hts (.initialized RX6) (by decide +kernel)) (by decide +kernel) ⟨Nat.le_of_ble_eq_true rfl, Nat.le_of_ble_eq_true rfl⟩, hts (.static yX6_isBelow) (by decide +kernel), trivial⟩ (preS hK hN hP hD) rfl rfl hl.1 rfl (lv_room (Nat.le_of_ble_eq_true rfl)) dX5_goAll_78 ⟨Nat.zero_le _, Nat.zero_le _⟩) hS hD hA (fun H locs hP hD hS n_7 => ?_)
          refine lv_if_ne (tgt := 87) hx hb dX5_goAll_81 (by decide) (fun c_8 => ?_) (fun c_8 => ?_)
          · have hR := (if_neg c_8).symm.trans hR
            refine lv_aload_n hx hb dX5_goAll_87 rfl (lv_at hl 2 rfl) ?_
            refine bw_get (ci := 4) (v := .ref (ad 23)) (C := RX5) (T := TX5) (N := 3) hx hb hts i_X5 hown hK hP 22 rfl rfl 0 (by decide) f_9 rfl dX5_goAll_88 ?_
            refine lv_iload hx hb dX5_goAll_91 (lv_at hl 1 rfl) ?_
            obtain ⟨h_9, hR⟩ := ck_some hR
            refine bw_ald (v := gA z_28 9 (gA z_28 (10 + k) (x3 + (2 * y5_28)))) hx hb hK hP 23 rfl h_9 rfl dX5_goAll_93 ?_
            refine lv_iload hx hb dX5_goAll_94 (lv_at hl 0 rfl) ?_
            refine lv_isub hx hb dX5_goAll_96 ?_
            refine bw_abs hx hb (hml.trans hl.1.symm) hown m_44 ms_abs mi mc_abs (Nat.le_of_ble_eq_true rfl) (Nat.le_of_ble_eq_true rfl) (Nat.zero_le _) (Nat.zero_le _) dX5_goAll_97 ?_
            refine lv_istore (lv' := [(8, .int (jabs ((gA z_28 9 (gA z_28 (10 + k) (x3 + (2 * y5_28)))) - (gA z_28 (10 + k) ((x3 + (2 * y5_28)) + 1))))), (7, .int (gA z_28 (10 + k) ((x3 + (2 * y5_28)) + 1))), (6, .int (gA z_28 (10 + k) (x3 + (2 * y5_28)))), (0, .ref (ad 22)), (1, .ref (ad 10)), (2, .ref (ad (2 + k))), (3, .int x3), (4, .int x4), (5, .int y5_28)]) hx hb dX5_goAll_100 hl (by decide) rfl (fun ls hl => ?_)
            refine lv_iload hx hb dX5_goAll_102 (lv_at hl 0 rfl) ?_
            refine lv_if_ne (tgt := 122) hx hb dX5_goAll_104 (by decide) (fun c_10 => ?_) (fun c_10 => ?_)
            · have hR := (if_neg c_10).symm.trans hR
              refine lv_aload_n hx hb dX5_goAll_122 rfl (lv_at hl 3 rfl) ?_
              refine lv_dup hx hb dX5_goAll_123 rfl ?_
              refine bw_get (ci := 4) (v := .int (gI z_28 7)) (C := RX5) (T := TX5) (N := 3) hx hb hts i_X5 hown hK hP 22 rfl rfl 1 (by decide) f_15 rfl dX5_goAll_124 ?_
              refine lv_iload hx hb dX5_goAll_127 (lv_at hl 0 rfl) ?_
              refine lv_iadd hx hb dX5_goAll_129 ?_
              refine bw_put (w' := (BW cI cO ad (sI z_28 7 ((gI z_28 7) + (jabs ((gA z_28 9 (gA z_28 (10 + k) (x3 + (2 * y5_28)))) - (gA z_28 (10 + k) ((x3 + (2 * y5_28)) + 1)))))))) (ci := 4) (C := RX5) (T := TX5) (N := 3) hx hb hts i_X5 tyX5 tyX5_ok nmX5 hown hK hP hD hS 22 rfl rfl 1 (by decide) f_15 rfl rfl (Nat.le_of_ble_eq_true rfl) (BW_i7 cI cO ad _ _) dX5_goAll_130 (fun H locs hP hD hS => ?_)
              refine lv_aload_n hx hb dX5_goAll_133 rfl (lv_at hl 3 rfl) ?_
              refine bw_get (ci := 4) (v := .ref (ad 23)) (C := RX5) (T := TX5) (N := 3) hx hb hts i_X5 hown hK hP 22 rfl rfl 0 (by decide) f_9 rfl dX5_goAll_134 ?_
              refine lv_iload hx hb dX5_goAll_137 (lv_at hl 2 rfl) ?_
              refine lv_iload hx hb dX5_goAll_139 (lv_at hl 1 rfl) ?_
              obtain ⟨h_11, hR⟩ := ck_some hR
              refine bw_ast (w' := (BW cI cO ad (sA (sI z_28 7 ((gI z_28 7) + (jabs ((gA z_28 9 (gA z_28 (10 + k) (x3 + (2 * y5_28)))) - (gA z_28 (10 + k) ((x3 + (2 * y5_28)) + 1)))))) 9 (gA z_28 (10 + k) (x3 + (2 * y5_28))) (gA z_28 (10 + k) ((x3 + (2 * y5_28)) + 1))))) hx hb hK hP hD hS 23 rfl h_11 (BW_a9 cI cO ad _ _) dX5_goAll_141 (fun H locs hP hD hS => ?_)
              refine lv_iinc (v := y5_28 + 1) (lv' := [(5, .int (y5_28 + 1)), (8, .int (jabs ((gA z_28 9 (gA z_28 (10 + k) (x3 + (2 * y5_28)))) - (gA z_28 (10 + k) ((x3 + (2 * y5_28)) + 1))))), (7, .int (gA z_28 (10 + k) ((x3 + (2 * y5_28)) + 1))), (6, .int (gA z_28 (10 + k) (x3 + (2 * y5_28)))), (0, .ref (ad 22)), (1, .ref (ad 10)), (2, .ref (ad (2 + k))), (3, .int x3), (4, .int x4)]) hx hb dX5_goAll_142 hl (k := 8) rfl rfl (by decide) rfl (fun ls hl => ?_)
              refine lv_goto (tgt := 28) hx hb dX5_goAll_145 (by decide) ?_
              exact ih_28 _ _ _ _ _ hR hP hD hS (lv_sub hl [4, 5, 6, 7, 8, 0] rfl)
            · have hR := (if_pos c_10).symm.trans hR
              refine lv_aload_n hx hb dX5_goAll_107 rfl (lv_at hl 3 rfl) ?_
              refine bw_get (ci := 4) (v := .int (gI z_28 8)) (C := RX5) (T := TX5) (N := 3) hx hb hts i_X5 hown hK hP 22 rfl rfl 2 (by decide) f_19 rfl dX5_goAll_108 ?_
              refine lv_bipush (v := (-9)) hx hb dX5_goAll_111 (by decide) ?_
              refine lv_icmp_ne (tgt := 122) hx hb dX5_goAll_113 (by decide) (fun c_12 => ?_) (fun c_12 => ?_)
              · have hR := (if_neg c_12).symm.trans hR
                refine lv_aload_n hx hb dX5_goAll_122 rfl (lv_at hl 3 rfl) ?_
                refine lv_dup hx hb dX5_goAll_123 rfl ?_
                refine bw_get (ci := 4) (v := .int (gI z_28 7)) (C := RX5) (T := TX5) (N := 3) hx hb hts i_X5 hown hK hP 22 rfl rfl 1 (by decide) f_15 rfl dX5_goAll_124 ?_
                refine lv_iload hx hb dX5_goAll_127 (lv_at hl 0 rfl) ?_
                refine lv_iadd hx hb dX5_goAll_129 ?_
                refine bw_put (w' := (BW cI cO ad (sI z_28 7 ((gI z_28 7) + (jabs ((gA z_28 9 (gA z_28 (10 + k) (x3 + (2 * y5_28)))) - (gA z_28 (10 + k) ((x3 + (2 * y5_28)) + 1)))))))) (ci := 4) (C := RX5) (T := TX5) (N := 3) hx hb hts i_X5 tyX5 tyX5_ok nmX5 hown hK hP hD hS 22 rfl rfl 1 (by decide) f_15 rfl rfl (Nat.le_of_ble_eq_true rfl) (BW_i7 cI cO ad _ _) dX5_goAll_130 (fun H locs hP hD hS => ?_)
                refine lv_aload_n hx hb dX5_goAll_133 rfl (lv_at hl 3 rfl) ?_
                refine bw_get (ci := 4) (v := .ref (ad 23)) (C := RX5) (T := TX5) (N := 3) hx hb hts i_X5 hown hK hP 22 rfl rfl 0 (by decide) f_9 rfl dX5_goAll_134 ?_
                refine lv_iload hx hb dX5_goAll_137 (lv_at hl 2 rfl) ?_
                refine lv_iload hx hb dX5_goAll_139 (lv_at hl 1 rfl) ?_
                obtain ⟨h_13, hR⟩ := ck_some hR
                refine bw_ast (w' := (BW cI cO ad (sA (sI z_28 7 ((gI z_28 7) + (jabs ((gA z_28 9 (gA z_28 (10 + k) (x3 + (2 * y5_28)))) - (gA z_28 (10 + k) ((x3 + (2 * y5_28)) + 1)))))) 9 (gA z_28 (10 + k) (x3 + (2 * y5_28))) (gA z_28 (10 + k) ((x3 + (2 * y5_28)) + 1))))) hx hb hK hP hD hS 23 rfl h_13 (BW_a9 cI cO ad _ _) dX5_goAll_141 (fun H locs hP hD hS => ?_)
                refine lv_iinc (v := y5_28 + 1) (lv' := [(5, .int (y5_28 + 1)), (8, .int (jabs ((gA z_28 9 (gA z_28 (10 + k) (x3 + (2 * y5_28)))) - (gA z_28 (10 + k) ((x3 + (2 * y5_28)) + 1))))), (7, .int (gA z_28 (10 + k) ((x3 + (2 * y5_28)) + 1))), (6, .int (gA z_28 (10 + k) (x3 + (2 * y5_28)))), (0, .ref (ad 22)), (1, .ref (ad 10)), (2, .ref (ad (2 + k))), (3, .int x3), (4, .int x4)]) hx hb dX5_goAll_142 hl (k := 8) rfl rfl (by decide) rfl (fun ls hl => ?_)
                refine lv_goto (tgt := 28) hx hb dX5_goAll_145 (by decide) ?_
                exact ih_28 _ _ _ _ _ hR hP hD hS (lv_sub hl [4, 5, 6, 7, 8, 0] rfl)
              · have hR := (if_pos c_12).symm.trans hR
                refine lv_aload_n hx hb dX5_goAll_116 rfl (lv_at hl 3 rfl) ?_
                refine lv_iload hx hb dX5_goAll_117 (lv_at hl 8 rfl) ?_
                refine bw_put (w' := (BW cI cO ad (sI z_28 8 y5_28))) (ci := 4) (C := RX5) (T := TX5) (N := 3) hx hb hts i_X5 tyX5 tyX5_ok nmX5 hown hK hP hD hS 22 rfl rfl 2 (by decide) f_19 rfl rfl (Nat.le_of_ble_eq_true rfl) (BW_i8 cI cO ad _ _) dX5_goAll_119 (fun H locs hP hD hS => ?_)
                refine lv_aload_n hx hb dX5_goAll_122 rfl (lv_at hl 3 rfl) ?_
                refine lv_dup hx hb dX5_goAll_123 rfl ?_
                refine bw_get (ci := 4) (v := .int (gI (sI z_28 8 y5_28) 7)) (C := RX5) (T := TX5) (N := 3) hx hb hts i_X5 hown hK hP 22 rfl rfl 1 (by decide) f_15 rfl dX5_goAll_124 ?_
                refine lv_iload hx hb dX5_goAll_127 (lv_at hl 0 rfl) ?_
                refine lv_iadd hx hb dX5_goAll_129 ?_
                refine bw_put (w' := (BW cI cO ad (sI (sI z_28 8 y5_28) 7 ((gI (sI z_28 8 y5_28) 7) + (jabs ((gA z_28 9 (gA z_28 (10 + k) (x3 + (2 * y5_28)))) - (gA z_28 (10 + k) ((x3 + (2 * y5_28)) + 1)))))))) (ci := 4) (C := RX5) (T := TX5) (N := 3) hx hb hts i_X5 tyX5 tyX5_ok nmX5 hown hK hP hD hS 22 rfl rfl 1 (by decide) f_15 rfl rfl (Nat.le_of_ble_eq_true rfl) (BW_i7 cI cO ad _ _) dX5_goAll_130 (fun H locs hP hD hS => ?_)
                refine lv_aload_n hx hb dX5_goAll_133 rfl (lv_at hl 3 rfl) ?_
                refine bw_get (ci := 4) (v := .ref (ad 23)) (C := RX5) (T := TX5) (N := 3) hx hb hts i_X5 hown hK hP 22 rfl rfl 0 (by decide) f_9 rfl dX5_goAll_134 ?_
                refine lv_iload hx hb dX5_goAll_137 (lv_at hl 2 rfl) ?_
                refine lv_iload hx hb dX5_goAll_139 (lv_at hl 1 rfl) ?_
                obtain ⟨h_14, hR⟩ := ck_some hR
                refine bw_ast (w' := (BW cI cO ad (sA (sI (sI z_28 8 y5_28) 7 ((gI (sI z_28 8 y5_28) 7) + (jabs ((gA z_28 9 (gA z_28 (10 + k) (x3 + (2 * y5_28)))) - (gA z_28 (10 + k) ((x3 + (2 * y5_28)) + 1)))))) 9 (gA z_28 (10 + k) (x3 + (2 * y5_28))) (gA z_28 (10 + k) ((x3 + (2 * y5_28)) + 1))))) hx hb hK hP hD hS 23 rfl h_14 (BW_a9 cI cO ad _ _) dX5_goAll_141 (fun H locs hP hD hS => ?_)
                refine lv_iinc (v := y5_28 + 1) (lv' := [(5, .int (y5_28 + 1)), (8, .int (jabs ((gA z_28 9 (gA z_28 (10 + k) (x3 + (2 * y5_28)))) - (gA z_28 (10 + k) ((x3 + (2 * y5_28)) + 1))))), (7, .int (gA z_28 (10 + k) ((x3 + (2 * y5_28)) + 1))), (6, .int (gA z_28 (10 + k) (x3 + (2 * y5_28)))), (0, .ref (ad 22)), (1, .ref (ad 10)), (2, .ref (ad (2 + k))), (3, .int x3), (4, .int x4)]) hx hb dX5_goAll_142 hl (k := 8) rfl rfl (by decide) rfl (fun ls hl => ?_)
                refine lv_goto (tgt := 28) hx hb dX5_goAll_145 (by decide) ?_
                exact ih_28 _ _ _ _ _ hR hP hD hS (lv_sub hl [4, 5, 6, 7, 8, 0] rfl)
          · have hR := (if_pos c_8).symm.trans hR
            refine lv_bipush (v := (-2)) hx hb dX5_goAll_84 (by decide) ?_
            exact ret_ _ _ _ _ _ _ dX5_goAll_86  (sp1 hR) (congrArg (fun z => (BW cI cO ad z)) (sp2 hR)) hP hD hS
        · have hR := (if_pos c_6).symm.trans hR
          refine lv_iconst (v := (-1)) hx hb dX5_goAll_72 (by decide) ?_
          exact ret_ _ _ _ _ _ _ dX5_goAll_73  (sp1 hR) (congrArg (fun z => (BW cI cO ad z)) (sp2 hR)) hP hD hS
  exact lp_28 _ _ _ _ _ _ hR hP hD hS (lv_sub hl [1, 2, 3, 4, 5, 0] rfl)
abbrev rm_X6_failBy : Room := { frames := 0, cells := 0, slots := 0, locals := 0 }
set_option maxHeartbeats 4000000 in
set_option maxRecDepth 100000 in
theorem c_X6_failBy (l : Launch) (D : va_G) (cI cO : ClassId) (ad : Nat → Nat) (sz : Nat) {st : St} {x1 : Int32} {r : Int32} {s2 : St} (hR : F_X6_failBy st x1 = some (r, s2)) : CI l yX6_failBy wsX6_failBy rm_X6_failBy D cI cO [.ref (ad 0), .int x1] (BW cI cO ad st) (BW cI cO ad s2) sz r := by
  refine mk_i (cc := cX6_failBy) (maxL := 2) (own := RX6) rfl (by decide) rfl (Nat.le_of_ble_eq_true rfl) ?_
  intro p e s m args below meth c A Q ls hx hb hml hown hts hK hN hA ret_ hP hD hS hl
  have i_X6 : ∀ w ∈ u_ws RX6 TX6 7, w ∈ wsX6_failBy := (fun _ h => List.mem_cons_of_mem _ (List.mem_append_right _ h))
  have f_49 := hts (.fieldLink RX6 49 "BellNames" "lastFault" "I") (by decide +kernel)
  have hl : lv_has ls 2 [(0, .ref (ad 0)), (1, .int x1)] := hl
  unfold F_X6_failBy at hR
  refine lv_aload_n hx hb dX6_failBy_0 rfl (lv_at hl 0 rfl) ?_
  refine lv_iload_n hx hb dX6_failBy_1 rfl (lv_at hl 1 rfl) ?_
  refine bw_put (w' := (BW cI cO ad (sI st 1 x1))) (ci := 5) (C := RX6) (T := TX6) (N := 7) hx hb hts i_X6 tyX6 tyX6_ok nmX6 hown hK hP hD hS 0 rfl rfl 6 (by decide) f_49 rfl rfl (Nat.le_of_ble_eq_true rfl) (BW_i1 cI cO ad _ _) dX6_failBy_2 (fun H locs hP hD hS => ?_)
  refine lv_bipush (v := (-10)) hx hb dX6_failBy_5 (by decide) ?_
  refine lv_iload_n hx hb dX6_failBy_7 rfl (lv_at hl 1 rfl) ?_
  refine lv_isub hx hb dX6_failBy_8 ?_
  exact ret_ _ _ _ _ _ _ dX6_failBy_9  (sp1 hR) (congrArg (fun z => (BW cI cO ad z)) (sp2 hR)) hP hD hS
abbrev rm_X6_alp : Room := { frames := 3, cells := 0, slots := 0, locals := 65 }
set_option maxHeartbeats 4000000 in
set_option maxRecDepth 100000 in
theorem c_X6_alp (l : Launch) (D : va_G) (cI cO : ClassId) (ad : Nat → Nat) (sz : Nat) {st : St} {x1 : Int32} {x2 : Int32} {x3 : Int32} {x4 : Int32} {r : Int32} {s2 : St} (hR : F_X6_alp st x1 x2 x3 x4 = some (r, s2)) : CI l yX6_alp wsX6_alp rm_X6_alp D cI cO [.ref (ad 0), .int x1, .int x2, .int x3, .int x4] (BW cI cO ad st) (BW cI cO ad s2) sz r := by
  refine mk_i (cc := cX6_alp) (maxL := 8) (own := RX6) rfl (by decide) rfl (Nat.le_of_ble_eq_true rfl) ?_
  intro p e s m args below meth c A Q ls hx hb hml hown hts hK hN hA ret_ hP hD hS hl
  have i_X6 : ∀ w ∈ u_ws RX6 TX6 7, w ∈ wsX6_alp := (fun _ h => List.mem_cons_of_mem _ (List.mem_append_left _ (List.mem_append_left _ (List.mem_append_left _ (List.mem_append_right _ h)))))
  have i_X2 : ∀ w ∈ u_ws RX2 TX2 4, w ∈ wsX6_alp := (fun _ h => List.mem_cons_of_mem _ (List.mem_append_left _ (List.mem_append_left _ (List.mem_append_right _ h))))
  have i_X1 : ∀ w ∈ u_ws RX1 TX1 7, w ∈ wsX6_alp := (fun _ h => List.mem_cons_of_mem _ (List.mem_append_left _ (List.mem_append_right _ h)))
  have f_49 := hts (.fieldLink RX6 49 "BellNames" "lastFault" "I") (by decide +kernel)
  have f_13 := hts (.fieldLink RX6 13 "BellNames" "sheets" "[LBellNames$Sheet;") (by decide +kernel)
  have f_20 := hts (.fieldLink RX6 20 "BellNames" "herd" "LBellNames$Herd;") (by decide +kernel)
  have f_27 := hts (.fieldLink RX6 27 "BellNames" "readings" "LBellNames$Readings;") (by decide +kernel)
  have f_77 := hts (.fieldLink RX6 77 "BellNames$Readings" "count" "I") (by decide +kernel)
  have f_80 := hts (.fieldLink RX6 80 "BellNames$Herd" "count" "I") (by decide +kernel)
  have hl : lv_has ls 8 [(0, .ref (ad 0)), (1, .int x1), (2, .int x2), (3, .int x3), (4, .int x4)] := hl
  unfold F_X6_alp at hR
  refine lv_aload_n hx hb dX6_alp_0 rfl (lv_at hl 0 rfl) ?_
  refine lv_iconst (v := 0) hx hb dX6_alp_1 (by decide) ?_
  refine bw_put (w' := (BW cI cO ad (sI st 1 0))) (ci := 5) (C := RX6) (T := TX6) (N := 7) hx hb hts i_X6 tyX6 tyX6_ok nmX6 hown hK hP hD hS 0 rfl rfl 6 (by decide) f_49 rfl rfl (Nat.le_of_ble_eq_true rfl) (BW_i1 cI cO ad _ _) dX6_alp_2 (fun H locs hP hD hS => ?_)
  refine lv_iload_n hx hb dX6_alp_5 rfl (lv_at hl 1 rfl) ?_
  refine lv_iconst (v := 4) hx hb dX6_alp_6 (by decide) ?_
  obtain ⟨v_1, e_1, hR⟩ := b1_some hR
  refine bc_z (va_runS (As := [.int x1, .int 4]) (rest := []) ⟨hx, hb, hml, hown, hts⟩ (c_X6_isBelow l D cI cO ad _ e_1) (va_cwS 2 hts gX6_alp_X6_isBelow rfl rfl rfl (by decide +kernel) ⟨Nat.le_of_ble_eq_true rfl, Nat.le_of_ble_eq_true rfl⟩) (preS hK hN hP hD) rfl rfl hl.1 rfl (lv_room (Nat.le_of_ble_eq_true rfl)) dX6_alp_7 ⟨Nat.zero_le _, Nat.zero_le _⟩) hS hD hA (fun H locs hP hD hS n_1 => ?_)
  refine lv_if_ne (tgt := 15) hx hb dX6_alp_10 (by decide) (fun c_2 => ?_) (fun c_2 => ?_)
  · have hR := (if_neg c_2).symm.trans hR
    refine lv_iload_n hx hb dX6_alp_15 rfl (lv_at hl 2 rfl) ?_
    refine lv_iconst (v := 3) hx hb dX6_alp_16 (by decide) ?_
    obtain ⟨v_3, e_3, hR⟩ := b1_some hR
    refine bc_z (va_runS (As := [.int x2, .int 3]) (rest := []) ⟨hx, hb, hml, hown, hts⟩ (c_X6_isBelow l D cI cO ad _ e_3) (va_cwS 2 hts gX6_alp_X6_isBelow rfl rfl rfl (by decide +kernel) ⟨Nat.le_of_ble_eq_true rfl, Nat.le_of_ble_eq_true rfl⟩) (preS hK hN hP hD) rfl rfl hl.1 rfl (lv_room (Nat.le_of_ble_eq_true rfl)) dX6_alp_17 ⟨Nat.zero_le _, Nat.zero_le _⟩) hS hD hA (fun H locs hP hD hS n_3 => ?_)
    refine lv_if_ne (tgt := 26) hx hb dX6_alp_20 (by decide) (fun c_4 => ?_) (fun c_4 => ?_)
    · have hR := (if_neg c_4).symm.trans hR
      refine lv_aload_n hx hb dX6_alp_26 rfl (lv_at hl 0 rfl) ?_
      refine bw_get (ci := 5) (v := .ref (ad 1)) (C := RX6) (T := TX6) (N := 7) hx hb hts i_X6 hown hK hP 0 rfl rfl 0 (by decide) f_13 rfl dX6_alp_27 ?_
      refine lv_iload_n hx hb dX6_alp_30 rfl (lv_at hl 1 rfl) ?_
      obtain ⟨h_5, hR⟩ := ck_some hR
      refine bw_shl (a2 := ad (2 + x1.toNatClampNeg)) hx hb hK hP 1 rfl h_5 rfl dX6_alp_31 ?_
      refine lv_astore (lv' := [(5, .ref (ad (2 + x1.toNatClampNeg))), (0, .ref (ad 0)), (1, .int x1), (2, .int x2), (3, .int x3), (4, .int x4)]) hx hb dX6_alp_32 hl (by decide) rfl (fun ls hl => ?_)
      refine lv_aload hx hb dX6_alp_34 (lv_at hl 0 rfl) ?_
      refine lv_iload_n hx hb dX6_alp_36 rfl (lv_at hl 3 rfl) ?_
      obtain ⟨v_6, e_6, hR⟩ := b1_some hR
      refine bc_i (va_runV (As := [.int x2]) (rest := []) ⟨hx, hb, hml, hown, hts⟩ (c_X3_faultAs l D cI cO ad _ (in_lt h_5) e_6) (cwV 1 hts gX6_alp_X3_faultAs rfl rfl rfl (by decide +kernel) ⟨Nat.le_of_ble_eq_true rfl, Nat.le_of_ble_eq_true rfl⟩) (preV hK hN hP hD (va_recv hK hP (ci := 3) (q0 := (2 + x1.toNatClampNeg)) rfl (BW_sheet cI cO ad _ (in_lt h_5)))) rfl rfl hl.1 rfl (lv_room (Nat.le_of_ble_eq_true rfl)) dX6_alp_37 ⟨Nat.zero_le _, Nat.zero_le _⟩) hS hD hA (fun H locs hP hD hS => ?_)
      refine lv_istore (lv' := [(6, .int v_6), (5, .ref (ad (2 + x1.toNatClampNeg))), (0, .ref (ad 0)), (1, .int x1), (2, .int x2), (3, .int x3), (4, .int x4)]) hx hb dX6_alp_40 hl (by decide) rfl (fun ls hl => ?_)
      refine lv_iload hx hb dX6_alp_42 (lv_at hl 0 rfl) ?_
      refine lv_if_eq (tgt := 54) hx hb dX6_alp_44 (by decide) (fun c_7 => ?_) (fun c_7 => ?_)
      · have hR := (if_pos c_7).symm.trans hR
        refine lv_iload hx hb dX6_alp_54 (lv_at hl 6 rfl) ?_
        refine lv_if_ge (tgt := 65) hx hb dX6_alp_56 (by decide) (fun c_8 => ?_) (fun c_8 => ?_)
        · have hR := (if_pos c_8).symm.trans hR
          refine lv_aload hx hb dX6_alp_65 (lv_at hl 1 rfl) ?_
          refine lv_iload_n hx hb dX6_alp_67 rfl (lv_at hl 5 rfl) ?_
          refine lv_iload hx hb dX6_alp_68 (lv_at hl 6 rfl) ?_
          obtain ⟨v_9, e_9, hR⟩ := b1_some hR
          refine bc_z (va_runV (As := [.int x3, .int x4]) (rest := []) ⟨hx, hb, hml, hown, hts⟩ (c_X3_hasCells l D cI cO ad _ (in_lt h_5) e_9) (cwV 2 hts gX6_alp_X3_hasCells rfl rfl rfl (by decide +kernel) ⟨Nat.le_of_ble_eq_true rfl, Nat.le_of_ble_eq_true rfl⟩) (preV hK hN hP hD (va_recv hK hP (ci := 3) (q0 := (2 + x1.toNatClampNeg)) rfl (BW_sheet cI cO ad _ (in_lt h_5)))) rfl rfl hl.1 rfl (lv_room (Nat.le_of_ble_eq_true rfl)) dX6_alp_70 ⟨Nat.zero_le _, Nat.zero_le _⟩) hS hD hA (fun H locs hP hD hS n_9 => ?_)
          refine lv_if_ne (tgt := 82) hx hb dX6_alp_73 (by decide) (fun c_10 => ?_) (fun c_10 => ?_)
          · have hR := (if_neg c_10).symm.trans hR
            refine lv_aload hx hb dX6_alp_82 (lv_at hl 1 rfl) ?_
            refine lv_iload_n hx hb dX6_alp_84 rfl (lv_at hl 5 rfl) ?_
            refine lv_iload hx hb dX6_alp_85 (lv_at hl 6 rfl) ?_
            obtain ⟨v_11, e_11, hR⟩ := b1_some hR
            refine bc_i (va_runS (As := [.ref (ad (2 + x1.toNatClampNeg)), .int x3, .int x4]) (rest := []) ⟨hx, hb, hml, hown, hts⟩ (c_X4_firstFault l D cI cO ad _ (in_lt h_5) e_11) (va_cwS 3 hts gX6_alp_X4_firstFault rfl rfl rfl (by decide +kernel) ⟨Nat.le_of_ble_eq_true rfl, Nat.le_of_ble_eq_true rfl⟩) (preS hK hN hP hD) rfl rfl hl.1 rfl (lv_room (Nat.le_of_ble_eq_true rfl)) dX6_alp_87 ⟨Nat.zero_le _, Nat.zero_le _⟩) hS hD hA (fun H locs hP hD hS => ?_)
            refine lv_istore (lv' := [(7, .int v_11), (6, .int v_6), (5, .ref (ad (2 + x1.toNatClampNeg))), (0, .ref (ad 0)), (1, .int x1), (2, .int x2), (3, .int x3), (4, .int x4)]) hx hb dX6_alp_90 hl (by decide) rfl (fun ls hl => ?_)
            refine lv_iload hx hb dX6_alp_92 (lv_at hl 0 rfl) ?_
            refine lv_bipush (v := (-9)) hx hb dX6_alp_94 (by decide) ?_
            refine lv_icmp_eq (tgt := 105) hx hb dX6_alp_96 (by decide) (fun c_12 => ?_) (fun c_12 => ?_)
            · have hR := (if_pos c_12).symm.trans hR
              refine lv_aload_n hx hb dX6_alp_105 rfl (lv_at hl 3 rfl) ?_
              refine bw_get (ci := 5) (v := .ref (ad 10)) (C := RX6) (T := TX6) (N := 7) hx hb hts i_X6 hown hK hP 0 rfl rfl 1 (by decide) f_20 rfl dX6_alp_106 ?_
              refine lv_aload hx hb dX6_alp_109 (lv_at hl 2 rfl) ?_
              refine lv_iload_n hx hb dX6_alp_111 rfl (lv_at hl 6 rfl) ?_
              refine lv_iload hx hb dX6_alp_112 (lv_at hl 7 rfl) ?_
              obtain ⟨s_13, e_13, hR⟩ := b1_some hR
              refine bc_v (va_runV (As := [.ref (ad (2 + x1.toNatClampNeg)), .int x3, .int x4]) (rest := []) ⟨hx, hb, hml, hown, hts⟩ (c_X1_settle l D cI cO ad _ (in_lt h_5) e_13) (cwV 3 hts gX6_alp_X1_settle rfl rfl rfl (by decide +kernel) ⟨Nat.le_of_ble_eq_true rfl, Nat.le_of_ble_eq_true rfl⟩) (preV hK hN hP hD (va_recv hK hP (ci := 1) (q0 := 10) rfl rfl)) rfl rfl hl.1 rfl (lv_room (Nat.le_of_ble_eq_true rfl)) dX6_alp_114 ⟨Nat.zero_le _, Nat.zero_le _⟩) hS hD hA (fun H locs hP hD hS => ?_)
              refine lv_aload_n hx hb dX6_alp_117 rfl (lv_at hl 3 rfl) ?_
              refine bw_get (ci := 5) (v := .ref (ad 15)) (C := RX6) (T := TX6) (N := 7) hx hb hts i_X6 hown hK hP 0 rfl rfl 2 (by decide) f_27 rfl dX6_alp_118 ?_
              refine lv_iconst (v := 0) hx hb dX6_alp_121 (by decide) ?_
              refine bw_put (w' := (BW cI cO ad (sI s_13 5 0))) (ci := 2) (C := RX2) (T := TX2) (N := 4) hx hb hts i_X2 tyX2 tyX2_ok nmX2 hown hK hP hD hS 15 rfl rfl 3 (by decide) f_77 rfl rfl (Nat.le_of_ble_eq_true rfl) (BW_i5 cI cO ad _ _) dX6_alp_122 (fun H locs hP hD hS => ?_)
              refine lv_aload_n hx hb dX6_alp_125 rfl (lv_at hl 3 rfl) ?_
              refine bw_get (ci := 5) (v := .ref (ad 10)) (C := RX6) (T := TX6) (N := 7) hx hb hts i_X6 hown hK hP 0 rfl rfl 1 (by decide) f_20 rfl dX6_alp_126 ?_
              refine bw_get (ci := 1) (v := .int (gI (sI s_13 5 0) 2)) (C := RX1) (T := TX1) (N := 7) hx hb hts i_X1 hown hK hP 10 rfl rfl 4 (by decide) f_80 rfl dX6_alp_129 ?_
              exact ret_ _ _ _ _ _ _ dX6_alp_132  (sp1 hR) (congrArg (fun z => (BW cI cO ad z)) (sp2 hR)) hP hD hS
            · have hR := (if_neg c_12).symm.trans hR
              refine lv_bipush (v := (-100)) hx hb dX6_alp_99 (by decide) ?_
              refine lv_iload hx hb dX6_alp_101 (lv_at hl 0 rfl) ?_
              refine lv_isub hx hb dX6_alp_103 ?_
              exact ret_ _ _ _ _ _ _ dX6_alp_104  (sp1 hR) (congrArg (fun z => (BW cI cO ad z)) (sp2 hR)) hP hD hS
          · have hR := (if_pos c_10).symm.trans hR
            refine lv_aload_n hx hb dX6_alp_76 rfl (lv_at hl 2 rfl) ?_
            refine lv_iconst (v := 3) hx hb dX6_alp_77 (by decide) ?_
            obtain ⟨v_14, s_14, e_14, hR⟩ := b2_some hR
            refine bc_i (va_runV (As := [.int 3]) (rest := []) ⟨hx, hb, hml, hown, hts⟩ (c_X6_failBy l D cI cO ad _ e_14) (cwV 1 hts gX6_alp_X6_failBy rfl rfl rfl (by decide +kernel) ⟨Nat.le_of_ble_eq_true rfl, Nat.le_of_ble_eq_true rfl⟩) (preV hK hN hP hD (va_recv hK hP (ci := 5) (q0 := 0) rfl rfl)) rfl rfl hl.1 rfl (lv_room (Nat.le_of_ble_eq_true rfl)) dX6_alp_78 ⟨Nat.zero_le _, Nat.zero_le _⟩) hS hD hA (fun H locs hP hD hS => ?_)
            exact ret_ _ _ _ _ _ _ dX6_alp_81  (sp1 hR) (congrArg (fun z => (BW cI cO ad z)) (sp2 hR)) hP hD hS
        · have hR := (if_neg c_8).symm.trans hR
          refine lv_aload_n hx hb dX6_alp_59 rfl (lv_at hl 2 rfl) ?_
          refine lv_iconst (v := 4) hx hb dX6_alp_60 (by decide) ?_
          obtain ⟨v_15, s_15, e_15, hR⟩ := b2_some hR
          refine bc_i (va_runV (As := [.int 4]) (rest := []) ⟨hx, hb, hml, hown, hts⟩ (c_X6_failBy l D cI cO ad _ e_15) (cwV 1 hts gX6_alp_X6_failBy rfl rfl rfl (by decide +kernel) ⟨Nat.le_of_ble_eq_true rfl, Nat.le_of_ble_eq_true rfl⟩) (preV hK hN hP hD (va_recv hK hP (ci := 5) (q0 := 0) rfl rfl)) rfl rfl hl.1 rfl (lv_room (Nat.le_of_ble_eq_true rfl)) dX6_alp_61 ⟨Nat.zero_le _, Nat.zero_le _⟩) hS hD hA (fun H locs hP hD hS => ?_)
          exact ret_ _ _ _ _ _ _ dX6_alp_64  (sp1 hR) (congrArg (fun z => (BW cI cO ad z)) (sp2 hR)) hP hD hS
      · have hR := (if_neg c_7).symm.trans hR
        refine lv_aload_n hx hb dX6_alp_47 rfl (lv_at hl 2 rfl) ?_
        refine lv_iload hx hb dX6_alp_48 (lv_at hl 0 rfl) ?_
        obtain ⟨v_16, s_16, e_16, hR⟩ := b2_some hR
        refine bc_i (va_runV (As := [.int v_6]) (rest := []) ⟨hx, hb, hml, hown, hts⟩ (c_X6_failBy l D cI cO ad _ e_16) (cwV 1 hts gX6_alp_X6_failBy rfl rfl rfl (by decide +kernel) ⟨Nat.le_of_ble_eq_true rfl, Nat.le_of_ble_eq_true rfl⟩) (preV hK hN hP hD (va_recv hK hP (ci := 5) (q0 := 0) rfl rfl)) rfl rfl hl.1 rfl (lv_room (Nat.le_of_ble_eq_true rfl)) dX6_alp_50 ⟨Nat.zero_le _, Nat.zero_le _⟩) hS hD hA (fun H locs hP hD hS => ?_)
        exact ret_ _ _ _ _ _ _ dX6_alp_53  (sp1 hR) (congrArg (fun z => (BW cI cO ad z)) (sp2 hR)) hP hD hS
    · have hR := (if_pos c_4).symm.trans hR
      refine lv_bipush (v := (-2)) hx hb dX6_alp_23 (by decide) ?_
      exact ret_ _ _ _ _ _ _ dX6_alp_25  (sp1 hR) (congrArg (fun z => (BW cI cO ad z)) (sp2 hR)) hP hD hS
  · have hR := (if_pos c_2).symm.trans hR
    refine lv_iconst (v := (-1)) hx hb dX6_alp_13 (by decide) ?_
    exact ret_ _ _ _ _ _ _ dX6_alp_14  (sp1 hR) (congrArg (fun z => (BW cI cO ad z)) (sp2 hR)) hP hD hS
abbrev rm_X6_ofBell : Room := { frames := 2, cells := 0, slots := 0, locals := 42 }
set_option maxHeartbeats 4000000 in
set_option maxRecDepth 100000 in
theorem c_X6_ofBell (l : Launch) (D : va_G) (cI cO : ClassId) (ad : Nat → Nat) (sz : Nat) {st : St} {x1 : Int32} {x2 : Int32} {r : Int32} (hR : F_X6_ofBell st x1 x2 = some r) : CI l yX6_ofBell wsX6_ofBell rm_X6_ofBell D cI cO [.ref (ad 0), .int x1, .int x2] (BW cI cO ad st) (BW cI cO ad st) sz r := by
  refine mk_i (cc := cX6_ofBell) (maxL := 3) (own := RX6) rfl (by decide) rfl (Nat.le_of_ble_eq_true rfl) ?_
  intro p e s m args below meth c A Q ls hx hb hml hown hts hK hN hA ret_ hP hD hS hl
  have i_X6 : ∀ w ∈ u_ws RX6 TX6 7, w ∈ wsX6_ofBell := (fun _ h => List.mem_cons_of_mem _ (List.mem_append_left _ (List.mem_append_right _ h)))
  have i_X1 : ∀ w ∈ u_ws RX1 TX1 7, w ∈ wsX6_ofBell := (fun _ h => List.mem_cons_of_mem _ (List.mem_append_right _ h))
  have f_20 := hts (.fieldLink RX6 20 "BellNames" "herd" "LBellNames$Herd;") (by decide +kernel)
  have f_85 := hts (.fieldLink RX6 85 "BellNames$Herd" "kindOf" "[I") (by decide +kernel)
  have f_89 := hts (.fieldLink RX6 89 "BellNames$Herd" "noteOf" "[I") (by decide +kernel)
  have f_92 := hts (.fieldLink RX6 92 "BellNames$Herd" "spotOf" "[I") (by decide +kernel)
  have f_95 := hts (.fieldLink RX6 95 "BellNames$Herd" "moodOf" "[I") (by decide +kernel)
  have hl : lv_has ls 3 [(0, .ref (ad 0)), (1, .int x1), (2, .int x2)] := hl
  unfold F_X6_ofBell at hR
  refine lv_aload_n hx hb dX6_ofBell_0 rfl (lv_at hl 0 rfl) ?_
  refine bw_get (ci := 5) (v := .ref (ad 10)) (C := RX6) (T := TX6) (N := 7) hx hb hts i_X6 hown hK hP 0 rfl rfl 1 (by decide) f_20 rfl dX6_ofBell_1 ?_
  refine lv_iload_n hx hb dX6_ofBell_4 rfl (lv_at hl 1 rfl) ?_
  obtain ⟨v_1, e_1, hR⟩ := b1_some hR
  refine bc_z (va_runV (As := [.int x1]) (rest := []) ⟨hx, hb, hml, hown, hts⟩ (c_X1_hasBell l D cI cO ad _ e_1) (cwV 1 hts gX6_ofBell_X1_hasBell rfl rfl rfl (by decide +kernel) ⟨Nat.le_of_ble_eq_true rfl, Nat.le_of_ble_eq_true rfl⟩) (preV hK hN hP hD (va_recv hK hP (ci := 1) (q0 := 10) rfl rfl)) rfl rfl hl.1 rfl (lv_room (Nat.le_of_ble_eq_true rfl)) dX6_ofBell_5 ⟨Nat.zero_le _, Nat.zero_le _⟩) hS hD hA (fun H locs hP hD hS n_1 => ?_)
  refine lv_if_ne (tgt := 13) hx hb dX6_ofBell_8 (by decide) (fun c_2 => ?_) (fun c_2 => ?_)
  · have hR := (if_neg c_2).symm.trans hR
    refine lv_iload_n hx hb dX6_ofBell_13 rfl (lv_at hl 2 rfl) ?_
    by_cases w_3_0 : x2 = 0
    · have hR := (if_pos w_3_0).symm.trans hR
      refine lv_tableIn (off := 30) (tgt := 44) hx hb dX6_ofBell_14 (by rw [w_3_0]; decide) (by rw [w_3_0]; decide) (by rw [w_3_0]; rfl) (by decide) ?_
      refine lv_aload_n hx hb dX6_ofBell_44 rfl (lv_at hl 0 rfl) ?_
      refine bw_get (ci := 5) (v := .ref (ad 10)) (C := RX6) (T := TX6) (N := 7) hx hb hts i_X6 hown hK hP 0 rfl rfl 1 (by decide) f_20 rfl dX6_ofBell_45 ?_
      refine bw_get (ci := 1) (v := .ref (ad 11)) (C := RX1) (T := TX1) (N := 7) hx hb hts i_X1 hown hK hP 10 rfl rfl 0 (by decide) f_85 rfl dX6_ofBell_48 ?_
      refine lv_iload_n hx hb dX6_ofBell_51 rfl (lv_at hl 1 rfl) ?_
      obtain ⟨h_4, hR⟩ := ck_some hR
      refine bw_ald (v := gA st 0 x1) hx hb hK hP 11 rfl h_4 rfl dX6_ofBell_52 ?_
      exact ret_ _ _ _ _ _ _ dX6_ofBell_53  (Option.some.inj hR) rfl hP hD hS
    have hR := (if_neg w_3_0).symm.trans hR
    by_cases w_3_1 : x2 = 1
    · have hR := (if_pos w_3_1).symm.trans hR
      refine lv_tableIn (off := 40) (tgt := 54) hx hb dX6_ofBell_14 (by rw [w_3_1]; decide) (by rw [w_3_1]; decide) (by rw [w_3_1]; rfl) (by decide) ?_
      refine lv_aload_n hx hb dX6_ofBell_54 rfl (lv_at hl 0 rfl) ?_
      refine bw_get (ci := 5) (v := .ref (ad 10)) (C := RX6) (T := TX6) (N := 7) hx hb hts i_X6 hown hK hP 0 rfl rfl 1 (by decide) f_20 rfl dX6_ofBell_55 ?_
      refine bw_get (ci := 1) (v := .ref (ad 12)) (C := RX1) (T := TX1) (N := 7) hx hb hts i_X1 hown hK hP 10 rfl rfl 1 (by decide) f_89 rfl dX6_ofBell_58 ?_
      refine lv_iload_n hx hb dX6_ofBell_61 rfl (lv_at hl 1 rfl) ?_
      obtain ⟨h_5, hR⟩ := ck_some hR
      refine bw_ald (v := gA st 1 x1) hx hb hK hP 12 rfl h_5 rfl dX6_ofBell_62 ?_
      exact ret_ _ _ _ _ _ _ dX6_ofBell_63  (Option.some.inj hR) rfl hP hD hS
    have hR := (if_neg w_3_1).symm.trans hR
    by_cases w_3_2 : x2 = 2
    · have hR := (if_pos w_3_2).symm.trans hR
      refine lv_tableIn (off := 50) (tgt := 64) hx hb dX6_ofBell_14 (by rw [w_3_2]; decide) (by rw [w_3_2]; decide) (by rw [w_3_2]; rfl) (by decide) ?_
      refine lv_aload_n hx hb dX6_ofBell_64 rfl (lv_at hl 0 rfl) ?_
      refine bw_get (ci := 5) (v := .ref (ad 10)) (C := RX6) (T := TX6) (N := 7) hx hb hts i_X6 hown hK hP 0 rfl rfl 1 (by decide) f_20 rfl dX6_ofBell_65 ?_
      refine bw_get (ci := 1) (v := .ref (ad 13)) (C := RX1) (T := TX1) (N := 7) hx hb hts i_X1 hown hK hP 10 rfl rfl 2 (by decide) f_92 rfl dX6_ofBell_68 ?_
      refine lv_iload_n hx hb dX6_ofBell_71 rfl (lv_at hl 1 rfl) ?_
      obtain ⟨h_6, hR⟩ := ck_some hR
      refine bw_ald (v := gA st 2 x1) hx hb hK hP 13 rfl h_6 rfl dX6_ofBell_72 ?_
      exact ret_ _ _ _ _ _ _ dX6_ofBell_73  (Option.some.inj hR) rfl hP hD hS
    have hR := (if_neg w_3_2).symm.trans hR
    by_cases w_3_3 : x2 = 3
    · have hR := (if_pos w_3_3).symm.trans hR
      refine lv_tableIn (off := 60) (tgt := 74) hx hb dX6_ofBell_14 (by rw [w_3_3]; decide) (by rw [w_3_3]; decide) (by rw [w_3_3]; rfl) (by decide) ?_
      refine lv_aload_n hx hb dX6_ofBell_74 rfl (lv_at hl 0 rfl) ?_
      refine bw_get (ci := 5) (v := .ref (ad 10)) (C := RX6) (T := TX6) (N := 7) hx hb hts i_X6 hown hK hP 0 rfl rfl 1 (by decide) f_20 rfl dX6_ofBell_75 ?_
      refine bw_get (ci := 1) (v := .ref (ad 14)) (C := RX1) (T := TX1) (N := 7) hx hb hts i_X1 hown hK hP 10 rfl rfl 3 (by decide) f_95 rfl dX6_ofBell_78 ?_
      refine lv_iload_n hx hb dX6_ofBell_81 rfl (lv_at hl 1 rfl) ?_
      obtain ⟨h_7, hR⟩ := ck_some hR
      refine bw_ald (v := gA st 3 x1) hx hb hK hP 14 rfl h_7 rfl dX6_ofBell_82 ?_
      exact ret_ _ _ _ _ _ _ dX6_ofBell_83  (Option.some.inj hR) rfl hP hD hS
    have hR := (if_neg w_3_3).symm.trans hR
    refine lv_tableOut (tgt := 84) hx hb dX6_ofBell_14 (tb_out (lo := 0) (hi := 3) x2 (by intro j h1 h2; rcases (show j = 0 ∨ j = 1 ∨ j = 2 ∨ j = 3 by omega) with rfl | rfl | rfl | rfl <;> first | exact lv_neT w_3_0 rfl | exact lv_neT w_3_1 rfl | exact lv_neT w_3_2 rfl | exact lv_neT w_3_3 rfl)) (by decide) ?_
    refine lv_bipush (v := (-2)) hx hb dX6_ofBell_84 (by decide) ?_
    exact ret_ _ _ _ _ _ _ dX6_ofBell_86  (Option.some.inj hR) rfl hP hD hS
  · have hR := (if_pos c_2).symm.trans hR
    refine lv_iconst (v := (-1)) hx hb dX6_ofBell_11 (by decide) ?_
    exact ret_ _ _ _ _ _ _ dX6_ofBell_12  (Option.some.inj hR) rfl hP hD hS
