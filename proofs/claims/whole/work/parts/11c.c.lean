abbrev rm_X6_exchange_12 : Room := { frames := 0, cells := 0, slots := 0, locals := 0 }
set_option maxHeartbeats 4000000 in
set_option maxRecDepth 100000 in
theorem c_X6_exchange_12 (l : Launch) (D : va_G) (cI cO : ClassId) (ad : Nat → Nat) (sz : Nat) {st : St} {x1 : Int32} {x2 : Int32} {r : Int32} {s2 : St} (hR : F_X6_exchange_12 st x1 x2 = some (r, s2)) : CI l yX6_exchange wsX6_exchange rm_X6_exchange_12 D cI cO [.ref (ad 12), .int x1, .int x2] (BW cI cO ad st) (BW cI cO ad s2) sz r := by
  refine mk_i (cc := cX6_exchange) (maxL := 4) (own := RX6) rfl (by decide) rfl (Nat.le_of_ble_eq_true rfl) ?_
  intro p e s m args below meth c A Q ls hx hb hml hown hts hK hN hA ret_ hP hD hS hl
  have hl : lv_has ls 4 [(0, .ref (ad 12)), (1, .int x1), (2, .int x2)] := hl
  unfold F_X6_exchange_12 at hR
  refine lv_aload_n hx hb dX6_exchange_0 rfl (lv_at hl 0 rfl) ?_
  refine lv_iload_n hx hb dX6_exchange_1 rfl (lv_at hl 1 rfl) ?_
  obtain ⟨h_1, hR⟩ := ck_some hR
  refine bw_ald (v := gA st 1 x1) hx hb hK hP 12 rfl h_1 rfl dX6_exchange_2 ?_
  refine lv_istore_n (lv' := [(3, .int (gA st 1 x1)), (0, .ref (ad 12)), (1, .int x1), (2, .int x2)]) hx hb dX6_exchange_3 rfl hl (by decide) rfl (fun ls hl => ?_)
  refine lv_aload_n hx hb dX6_exchange_4 rfl (lv_at hl 1 rfl) ?_
  refine lv_iload_n hx hb dX6_exchange_5 rfl (lv_at hl 2 rfl) ?_
  refine lv_iload_n hx hb dX6_exchange_6 rfl (lv_at hl 3 rfl) ?_
  obtain ⟨h_2, hR⟩ := ck_some hR
  refine bw_ast (w' := (BW cI cO ad (sA st 1 x1 x2))) hx hb hK hP hD hS 12 rfl h_2 (BW_a1 cI cO ad _ _) dX6_exchange_7 (fun H locs hP hD hS => ?_)
  refine lv_iload_n hx hb dX6_exchange_8 rfl (lv_at hl 0 rfl) ?_
  exact ret_ _ _ _ _ _ _ dX6_exchange_9  (sp1 hR) (congrArg (fun z => (BW cI cO ad z)) (sp2 hR)) hP hD hS
abbrev rm_X6_exchange_13 : Room := { frames := 0, cells := 0, slots := 0, locals := 0 }
set_option maxHeartbeats 4000000 in
set_option maxRecDepth 100000 in
theorem c_X6_exchange_13 (l : Launch) (D : va_G) (cI cO : ClassId) (ad : Nat → Nat) (sz : Nat) {st : St} {x1 : Int32} {x2 : Int32} {r : Int32} {s2 : St} (hR : F_X6_exchange_13 st x1 x2 = some (r, s2)) : CI l yX6_exchange wsX6_exchange rm_X6_exchange_13 D cI cO [.ref (ad 13), .int x1, .int x2] (BW cI cO ad st) (BW cI cO ad s2) sz r := by
  refine mk_i (cc := cX6_exchange) (maxL := 4) (own := RX6) rfl (by decide) rfl (Nat.le_of_ble_eq_true rfl) ?_
  intro p e s m args below meth c A Q ls hx hb hml hown hts hK hN hA ret_ hP hD hS hl
  have hl : lv_has ls 4 [(0, .ref (ad 13)), (1, .int x1), (2, .int x2)] := hl
  unfold F_X6_exchange_13 at hR
  refine lv_aload_n hx hb dX6_exchange_0 rfl (lv_at hl 0 rfl) ?_
  refine lv_iload_n hx hb dX6_exchange_1 rfl (lv_at hl 1 rfl) ?_
  obtain ⟨h_1, hR⟩ := ck_some hR
  refine bw_ald (v := gA st 2 x1) hx hb hK hP 13 rfl h_1 rfl dX6_exchange_2 ?_
  refine lv_istore_n (lv' := [(3, .int (gA st 2 x1)), (0, .ref (ad 13)), (1, .int x1), (2, .int x2)]) hx hb dX6_exchange_3 rfl hl (by decide) rfl (fun ls hl => ?_)
  refine lv_aload_n hx hb dX6_exchange_4 rfl (lv_at hl 1 rfl) ?_
  refine lv_iload_n hx hb dX6_exchange_5 rfl (lv_at hl 2 rfl) ?_
  refine lv_iload_n hx hb dX6_exchange_6 rfl (lv_at hl 3 rfl) ?_
  obtain ⟨h_2, hR⟩ := ck_some hR
  refine bw_ast (w' := (BW cI cO ad (sA st 2 x1 x2))) hx hb hK hP hD hS 13 rfl h_2 (BW_a2 cI cO ad _ _) dX6_exchange_7 (fun H locs hP hD hS => ?_)
  refine lv_iload_n hx hb dX6_exchange_8 rfl (lv_at hl 0 rfl) ?_
  exact ret_ _ _ _ _ _ _ dX6_exchange_9  (sp1 hR) (congrArg (fun z => (BW cI cO ad z)) (sp2 hR)) hP hD hS
abbrev rm_X6_exchange_14 : Room := { frames := 0, cells := 0, slots := 0, locals := 0 }
set_option maxHeartbeats 4000000 in
set_option maxRecDepth 100000 in
theorem c_X6_exchange_14 (l : Launch) (D : va_G) (cI cO : ClassId) (ad : Nat → Nat) (sz : Nat) {st : St} {x1 : Int32} {x2 : Int32} {r : Int32} {s2 : St} (hR : F_X6_exchange_14 st x1 x2 = some (r, s2)) : CI l yX6_exchange wsX6_exchange rm_X6_exchange_14 D cI cO [.ref (ad 14), .int x1, .int x2] (BW cI cO ad st) (BW cI cO ad s2) sz r := by
  refine mk_i (cc := cX6_exchange) (maxL := 4) (own := RX6) rfl (by decide) rfl (Nat.le_of_ble_eq_true rfl) ?_
  intro p e s m args below meth c A Q ls hx hb hml hown hts hK hN hA ret_ hP hD hS hl
  have hl : lv_has ls 4 [(0, .ref (ad 14)), (1, .int x1), (2, .int x2)] := hl
  unfold F_X6_exchange_14 at hR
  refine lv_aload_n hx hb dX6_exchange_0 rfl (lv_at hl 0 rfl) ?_
  refine lv_iload_n hx hb dX6_exchange_1 rfl (lv_at hl 1 rfl) ?_
  obtain ⟨h_1, hR⟩ := ck_some hR
  refine bw_ald (v := gA st 3 x1) hx hb hK hP 14 rfl h_1 rfl dX6_exchange_2 ?_
  refine lv_istore_n (lv' := [(3, .int (gA st 3 x1)), (0, .ref (ad 14)), (1, .int x1), (2, .int x2)]) hx hb dX6_exchange_3 rfl hl (by decide) rfl (fun ls hl => ?_)
  refine lv_aload_n hx hb dX6_exchange_4 rfl (lv_at hl 1 rfl) ?_
  refine lv_iload_n hx hb dX6_exchange_5 rfl (lv_at hl 2 rfl) ?_
  refine lv_iload_n hx hb dX6_exchange_6 rfl (lv_at hl 3 rfl) ?_
  obtain ⟨h_2, hR⟩ := ck_some hR
  refine bw_ast (w' := (BW cI cO ad (sA st 3 x1 x2))) hx hb hK hP hD hS 14 rfl h_2 (BW_a3 cI cO ad _ _) dX6_exchange_7 (fun H locs hP hD hS => ?_)
  refine lv_iload_n hx hb dX6_exchange_8 rfl (lv_at hl 0 rfl) ?_
  exact ret_ _ _ _ _ _ _ dX6_exchange_9  (sp1 hR) (congrArg (fun z => (BW cI cO ad z)) (sp2 hR)) hP hD hS
abbrev rm_X6_cheer : Room := { frames := 2, cells := 0, slots := 0, locals := 42 }
set_option maxHeartbeats 4000000 in
set_option maxRecDepth 100000 in
theorem c_X6_cheer (l : Launch) (D : va_G) (cI cO : ClassId) (ad : Nat → Nat) (sz : Nat) {st : St} {x1 : Int32} {x2 : Int32} {r : Int32} {s2 : St} (hR : F_X6_cheer st x1 x2 = some (r, s2)) : CI l yX6_cheer wsX6_cheer rm_X6_cheer D cI cO [.ref (ad 0), .int x1, .int x2] (BW cI cO ad st) (BW cI cO ad s2) sz r := by
  refine mk_i (cc := cX6_cheer) (maxL := 3) (own := RX6) rfl (by decide) rfl (Nat.le_of_ble_eq_true rfl) ?_
  intro p e s m args below meth c A Q ls hx hb hml hown hts hK hN hA ret_ hP hD hS hl
  have i_X6 : ∀ w ∈ u_ws RX6 TX6 7, w ∈ wsX6_cheer := (fun _ h => List.mem_cons_of_mem _ (List.mem_append_left _ (List.mem_append_right _ h)))
  have i_X1 : ∀ w ∈ u_ws RX1 TX1 7, w ∈ wsX6_cheer := (fun _ h => List.mem_cons_of_mem _ (List.mem_append_right _ h))
  have f_20 := hts (.fieldLink RX6 20 "BellNames" "herd" "LBellNames$Herd;") (by decide +kernel)
  have f_95 := hts (.fieldLink RX6 95 "BellNames$Herd" "moodOf" "[I") (by decide +kernel)
  have hl : lv_has ls 3 [(0, .ref (ad 0)), (1, .int x1), (2, .int x2)] := hl
  unfold F_X6_cheer at hR
  refine lv_aload_n hx hb dX6_cheer_0 rfl (lv_at hl 0 rfl) ?_
  refine bw_get (ci := 5) (v := .ref (ad 10)) (C := RX6) (T := TX6) (N := 7) hx hb hts i_X6 hown hK hP 0 rfl rfl 1 (by decide) f_20 rfl dX6_cheer_1 ?_
  refine lv_iload_n hx hb dX6_cheer_4 rfl (lv_at hl 1 rfl) ?_
  obtain ⟨v_1, e_1, hR⟩ := b1_some hR
  refine bc_z (va_runV (As := [.int x1]) (rest := []) ⟨hx, hb, hml, hown, hts⟩ (c_X1_hasBell l D cI cO ad _ e_1) (cwV 1 hts gX6_cheer_X1_hasBell rfl rfl rfl (by decide +kernel) ⟨Nat.le_of_ble_eq_true rfl, Nat.le_of_ble_eq_true rfl⟩) (preV hK hN hP hD (va_recv hK hP (ci := 1) (q0 := 10) rfl rfl)) rfl rfl hl.1 rfl (lv_room (Nat.le_of_ble_eq_true rfl)) dX6_cheer_5 ⟨Nat.zero_le _, Nat.zero_le _⟩) hS hD hA (fun H locs hP hD hS n_1 => ?_)
  refine lv_if_ne (tgt := 13) hx hb dX6_cheer_8 (by decide) (fun c_2 => ?_) (fun c_2 => ?_)
  · have hR := (if_neg c_2).symm.trans hR
    refine lv_iload_n hx hb dX6_cheer_13 rfl (lv_at hl 2 rfl) ?_
    refine lv_iconst (v := 4) hx hb dX6_cheer_14 (by decide) ?_
    obtain ⟨v_3, e_3, hR⟩ := b1_some hR
    refine bc_z (va_runS (As := [.int x2, .int 4]) (rest := []) ⟨hx, hb, hml, hown, hts⟩ (c_X6_isBelow l D cI cO ad _ e_3) (va_cwS 2 hts gX6_cheer_X6_isBelow rfl rfl rfl (by decide +kernel) ⟨Nat.le_of_ble_eq_true rfl, Nat.le_of_ble_eq_true rfl⟩) (preS hK hN hP hD) rfl rfl hl.1 rfl (lv_room (Nat.le_of_ble_eq_true rfl)) dX6_cheer_15 ⟨Nat.zero_le _, Nat.zero_le _⟩) hS hD hA (fun H locs hP hD hS n_3 => ?_)
    refine lv_if_ne (tgt := 24) hx hb dX6_cheer_18 (by decide) (fun c_4 => ?_) (fun c_4 => ?_)
    · have hR := (if_neg c_4).symm.trans hR
      refine lv_aload_n hx hb dX6_cheer_24 rfl (lv_at hl 0 rfl) ?_
      refine bw_get (ci := 5) (v := .ref (ad 10)) (C := RX6) (T := TX6) (N := 7) hx hb hts i_X6 hown hK hP 0 rfl rfl 1 (by decide) f_20 rfl dX6_cheer_25 ?_
      refine bw_get (ci := 1) (v := .ref (ad 14)) (C := RX1) (T := TX1) (N := 7) hx hb hts i_X1 hown hK hP 10 rfl rfl 3 (by decide) f_95 rfl dX6_cheer_28 ?_
      refine lv_iload_n hx hb dX6_cheer_31 rfl (lv_at hl 1 rfl) ?_
      refine lv_iload_n hx hb dX6_cheer_32 rfl (lv_at hl 2 rfl) ?_
      obtain ⟨v_5, s_5, e_5, hR⟩ := b2_some hR
      refine bc_i (va_runS (As := [.ref (ad 14), .int x1, .int x2]) (rest := []) ⟨hx, hb, hml, hown, hts⟩ (c_X6_exchange_14 l D cI cO ad _ e_5) (va_cwS 3 hts gX6_cheer_X6_exchange rfl rfl rfl (by decide +kernel) ⟨Nat.le_of_ble_eq_true rfl, Nat.le_of_ble_eq_true rfl⟩) (preS hK hN hP hD) rfl rfl hl.1 rfl (lv_room (Nat.le_of_ble_eq_true rfl)) dX6_cheer_33 ⟨Nat.zero_le _, Nat.zero_le _⟩) hS hD hA (fun H locs hP hD hS => ?_)
      exact ret_ _ _ _ _ _ _ dX6_cheer_36  (sp1 hR) (congrArg (fun z => (BW cI cO ad z)) (sp2 hR)) hP hD hS
    · have hR := (if_pos c_4).symm.trans hR
      refine lv_bipush (v := (-2)) hx hb dX6_cheer_21 (by decide) ?_
      exact ret_ _ _ _ _ _ _ dX6_cheer_23  (sp1 hR) (congrArg (fun z => (BW cI cO ad z)) (sp2 hR)) hP hD hS
  · have hR := (if_pos c_2).symm.trans hR
    refine lv_iconst (v := (-1)) hx hb dX6_cheer_11 (by decide) ?_
    exact ret_ _ _ _ _ _ _ dX6_cheer_12  (sp1 hR) (congrArg (fun z => (BW cI cO ad z)) (sp2 hR)) hP hD hS
abbrev rm_X6_recast : Room := { frames := 2, cells := 0, slots := 0, locals := 42 }
set_option maxHeartbeats 4000000 in
set_option maxRecDepth 100000 in
theorem c_X6_recast (l : Launch) (D : va_G) (cI cO : ClassId) (ad : Nat → Nat) (sz : Nat) {st : St} {x1 : Int32} {x2 : Int32} {r : Int32} {s2 : St} (hR : F_X6_recast st x1 x2 = some (r, s2)) : CI l yX6_recast wsX6_recast rm_X6_recast D cI cO [.ref (ad 0), .int x1, .int x2] (BW cI cO ad st) (BW cI cO ad s2) sz r := by
  refine mk_i (cc := cX6_recast) (maxL := 3) (own := RX6) rfl (by decide) rfl (Nat.le_of_ble_eq_true rfl) ?_
  intro p e s m args below meth c A Q ls hx hb hml hown hts hK hN hA ret_ hP hD hS hl
  have i_X6 : ∀ w ∈ u_ws RX6 TX6 7, w ∈ wsX6_recast := (fun _ h => List.mem_cons_of_mem _ (List.mem_append_left _ (List.mem_append_right _ h)))
  have i_X1 : ∀ w ∈ u_ws RX1 TX1 7, w ∈ wsX6_recast := (fun _ h => List.mem_cons_of_mem _ (List.mem_append_right _ h))
  have f_20 := hts (.fieldLink RX6 20 "BellNames" "herd" "LBellNames$Herd;") (by decide +kernel)
  have f_89 := hts (.fieldLink RX6 89 "BellNames$Herd" "noteOf" "[I") (by decide +kernel)
  have hl : lv_has ls 3 [(0, .ref (ad 0)), (1, .int x1), (2, .int x2)] := hl
  unfold F_X6_recast at hR
  refine lv_aload_n hx hb dX6_recast_0 rfl (lv_at hl 0 rfl) ?_
  refine bw_get (ci := 5) (v := .ref (ad 10)) (C := RX6) (T := TX6) (N := 7) hx hb hts i_X6 hown hK hP 0 rfl rfl 1 (by decide) f_20 rfl dX6_recast_1 ?_
  refine lv_iload_n hx hb dX6_recast_4 rfl (lv_at hl 1 rfl) ?_
  obtain ⟨v_1, e_1, hR⟩ := b1_some hR
  refine bc_z (va_runV (As := [.int x1]) (rest := []) ⟨hx, hb, hml, hown, hts⟩ (c_X1_hasBell l D cI cO ad _ e_1) (cwV 1 hts gX6_recast_X1_hasBell rfl rfl rfl (by decide +kernel) ⟨Nat.le_of_ble_eq_true rfl, Nat.le_of_ble_eq_true rfl⟩) (preV hK hN hP hD (va_recv hK hP (ci := 1) (q0 := 10) rfl rfl)) rfl rfl hl.1 rfl (lv_room (Nat.le_of_ble_eq_true rfl)) dX6_recast_5 ⟨Nat.zero_le _, Nat.zero_le _⟩) hS hD hA (fun H locs hP hD hS n_1 => ?_)
  refine lv_if_ne (tgt := 13) hx hb dX6_recast_8 (by decide) (fun c_2 => ?_) (fun c_2 => ?_)
  · have hR := (if_neg c_2).symm.trans hR
    refine lv_iload_n hx hb dX6_recast_13 rfl (lv_at hl 2 rfl) ?_
    refine lv_bipush (v := 10) hx hb dX6_recast_14 (by decide) ?_
    obtain ⟨v_3, e_3, hR⟩ := b1_some hR
    refine bc_z (va_runS (As := [.int x2, .int 10]) (rest := []) ⟨hx, hb, hml, hown, hts⟩ (c_X6_isBelow l D cI cO ad _ e_3) (va_cwS 2 hts gX6_recast_X6_isBelow rfl rfl rfl (by decide +kernel) ⟨Nat.le_of_ble_eq_true rfl, Nat.le_of_ble_eq_true rfl⟩) (preS hK hN hP hD) rfl rfl hl.1 rfl (lv_room (Nat.le_of_ble_eq_true rfl)) dX6_recast_16 ⟨Nat.zero_le _, Nat.zero_le _⟩) hS hD hA (fun H locs hP hD hS n_3 => ?_)
    refine lv_if_ne (tgt := 25) hx hb dX6_recast_19 (by decide) (fun c_4 => ?_) (fun c_4 => ?_)
    · have hR := (if_neg c_4).symm.trans hR
      refine lv_aload_n hx hb dX6_recast_25 rfl (lv_at hl 0 rfl) ?_
      refine bw_get (ci := 5) (v := .ref (ad 10)) (C := RX6) (T := TX6) (N := 7) hx hb hts i_X6 hown hK hP 0 rfl rfl 1 (by decide) f_20 rfl dX6_recast_26 ?_
      refine bw_get (ci := 1) (v := .ref (ad 12)) (C := RX1) (T := TX1) (N := 7) hx hb hts i_X1 hown hK hP 10 rfl rfl 1 (by decide) f_89 rfl dX6_recast_29 ?_
      refine lv_iload_n hx hb dX6_recast_32 rfl (lv_at hl 1 rfl) ?_
      refine lv_iload_n hx hb dX6_recast_33 rfl (lv_at hl 2 rfl) ?_
      obtain ⟨v_5, s_5, e_5, hR⟩ := b2_some hR
      refine bc_i (va_runS (As := [.ref (ad 12), .int x1, .int x2]) (rest := []) ⟨hx, hb, hml, hown, hts⟩ (c_X6_exchange_12 l D cI cO ad _ e_5) (va_cwS 3 hts gX6_recast_X6_exchange rfl rfl rfl (by decide +kernel) ⟨Nat.le_of_ble_eq_true rfl, Nat.le_of_ble_eq_true rfl⟩) (preS hK hN hP hD) rfl rfl hl.1 rfl (lv_room (Nat.le_of_ble_eq_true rfl)) dX6_recast_34 ⟨Nat.zero_le _, Nat.zero_le _⟩) hS hD hA (fun H locs hP hD hS => ?_)
      exact ret_ _ _ _ _ _ _ dX6_recast_37  (sp1 hR) (congrArg (fun z => (BW cI cO ad z)) (sp2 hR)) hP hD hS
    · have hR := (if_pos c_4).symm.trans hR
      refine lv_bipush (v := (-2)) hx hb dX6_recast_22 (by decide) ?_
      exact ret_ _ _ _ _ _ _ dX6_recast_24  (sp1 hR) (congrArg (fun z => (BW cI cO ad z)) (sp2 hR)) hP hD hS
  · have hR := (if_pos c_2).symm.trans hR
    refine lv_iconst (v := (-1)) hx hb dX6_recast_11 (by decide) ?_
    exact ret_ _ _ _ _ _ _ dX6_recast_12  (sp1 hR) (congrArg (fun z => (BW cI cO ad z)) (sp2 hR)) hP hD hS
abbrev rm_X6_go : Room := { frames := 2, cells := 0, slots := 0, locals := 42 }
set_option maxHeartbeats 4000000 in
set_option maxRecDepth 100000 in
theorem c_X6_go (l : Launch) (D : va_G) (cI cO : ClassId) (ad : Nat → Nat) (sz : Nat) {st : St} {x1 : Int32} {x2 : Int32} {r : Int32} {s2 : St} (hR : F_X6_go st x1 x2 = some (r, s2)) : CI l yX6_go wsX6_go rm_X6_go D cI cO [.ref (ad 0), .int x1, .int x2] (BW cI cO ad st) (BW cI cO ad s2) sz r := by
  refine mk_i (cc := cX6_go) (maxL := 3) (own := RX6) rfl (by decide) rfl (Nat.le_of_ble_eq_true rfl) ?_
  intro p e s m args below meth c A Q ls hx hb hml hown hts hK hN hA ret_ hP hD hS hl
  have i_X6 : ∀ w ∈ u_ws RX6 TX6 7, w ∈ wsX6_go := (fun _ h => List.mem_cons_of_mem _ (List.mem_append_left _ (List.mem_append_right _ h)))
  have i_X1 : ∀ w ∈ u_ws RX1 TX1 7, w ∈ wsX6_go := (fun _ h => List.mem_cons_of_mem _ (List.mem_append_right _ h))
  have f_20 := hts (.fieldLink RX6 20 "BellNames" "herd" "LBellNames$Herd;") (by decide +kernel)
  have f_92 := hts (.fieldLink RX6 92 "BellNames$Herd" "spotOf" "[I") (by decide +kernel)
  have hl : lv_has ls 3 [(0, .ref (ad 0)), (1, .int x1), (2, .int x2)] := hl
  unfold F_X6_go at hR
  refine lv_aload_n hx hb dX6_go_0 rfl (lv_at hl 0 rfl) ?_
  refine bw_get (ci := 5) (v := .ref (ad 10)) (C := RX6) (T := TX6) (N := 7) hx hb hts i_X6 hown hK hP 0 rfl rfl 1 (by decide) f_20 rfl dX6_go_1 ?_
  refine lv_iload_n hx hb dX6_go_4 rfl (lv_at hl 1 rfl) ?_
  obtain ⟨v_1, e_1, hR⟩ := b1_some hR
  refine bc_z (va_runV (As := [.int x1]) (rest := []) ⟨hx, hb, hml, hown, hts⟩ (c_X1_hasBell l D cI cO ad _ e_1) (cwV 1 hts gX6_go_X1_hasBell rfl rfl rfl (by decide +kernel) ⟨Nat.le_of_ble_eq_true rfl, Nat.le_of_ble_eq_true rfl⟩) (preV hK hN hP hD (va_recv hK hP (ci := 1) (q0 := 10) rfl rfl)) rfl rfl hl.1 rfl (lv_room (Nat.le_of_ble_eq_true rfl)) dX6_go_5 ⟨Nat.zero_le _, Nat.zero_le _⟩) hS hD hA (fun H locs hP hD hS n_1 => ?_)
  refine lv_if_ne (tgt := 13) hx hb dX6_go_8 (by decide) (fun c_2 => ?_) (fun c_2 => ?_)
  · have hR := (if_neg c_2).symm.trans hR
    refine lv_iload_n hx hb dX6_go_13 rfl (lv_at hl 2 rfl) ?_
    refine lv_bipush (v := 10) hx hb dX6_go_14 (by decide) ?_
    obtain ⟨v_3, e_3, hR⟩ := b1_some hR
    refine bc_z (va_runS (As := [.int x2, .int 10]) (rest := []) ⟨hx, hb, hml, hown, hts⟩ (c_X6_isBelow l D cI cO ad _ e_3) (va_cwS 2 hts gX6_go_X6_isBelow rfl rfl rfl (by decide +kernel) ⟨Nat.le_of_ble_eq_true rfl, Nat.le_of_ble_eq_true rfl⟩) (preS hK hN hP hD) rfl rfl hl.1 rfl (lv_room (Nat.le_of_ble_eq_true rfl)) dX6_go_16 ⟨Nat.zero_le _, Nat.zero_le _⟩) hS hD hA (fun H locs hP hD hS n_3 => ?_)
    refine lv_if_ne (tgt := 25) hx hb dX6_go_19 (by decide) (fun c_4 => ?_) (fun c_4 => ?_)
    · have hR := (if_neg c_4).symm.trans hR
      refine lv_aload_n hx hb dX6_go_25 rfl (lv_at hl 0 rfl) ?_
      refine bw_get (ci := 5) (v := .ref (ad 10)) (C := RX6) (T := TX6) (N := 7) hx hb hts i_X6 hown hK hP 0 rfl rfl 1 (by decide) f_20 rfl dX6_go_26 ?_
      refine bw_get (ci := 1) (v := .ref (ad 13)) (C := RX1) (T := TX1) (N := 7) hx hb hts i_X1 hown hK hP 10 rfl rfl 2 (by decide) f_92 rfl dX6_go_29 ?_
      refine lv_iload_n hx hb dX6_go_32 rfl (lv_at hl 1 rfl) ?_
      refine lv_iload_n hx hb dX6_go_33 rfl (lv_at hl 2 rfl) ?_
      obtain ⟨v_5, s_5, e_5, hR⟩ := b2_some hR
      refine bc_i (va_runS (As := [.ref (ad 13), .int x1, .int x2]) (rest := []) ⟨hx, hb, hml, hown, hts⟩ (c_X6_exchange_13 l D cI cO ad _ e_5) (va_cwS 3 hts gX6_go_X6_exchange rfl rfl rfl (by decide +kernel) ⟨Nat.le_of_ble_eq_true rfl, Nat.le_of_ble_eq_true rfl⟩) (preS hK hN hP hD) rfl rfl hl.1 rfl (lv_room (Nat.le_of_ble_eq_true rfl)) dX6_go_34 ⟨Nat.zero_le _, Nat.zero_le _⟩) hS hD hA (fun H locs hP hD hS => ?_)
      exact ret_ _ _ _ _ _ _ dX6_go_37  (sp1 hR) (congrArg (fun z => (BW cI cO ad z)) (sp2 hR)) hP hD hS
    · have hR := (if_pos c_4).symm.trans hR
      refine lv_bipush (v := (-2)) hx hb dX6_go_22 (by decide) ?_
      exact ret_ _ _ _ _ _ _ dX6_go_24  (sp1 hR) (congrArg (fun z => (BW cI cO ad z)) (sp2 hR)) hP hD hS
  · have hR := (if_pos c_2).symm.trans hR
    refine lv_iconst (v := (-1)) hx hb dX6_go_11 (by decide) ?_
    exact ret_ _ _ _ _ _ _ dX6_go_12  (sp1 hR) (congrArg (fun z => (BW cI cO ad z)) (sp2 hR)) hP hD hS
abbrev rm_X6_blow : Room := { frames := 1, cells := 0, slots := 0, locals := 21 }
set_option maxHeartbeats 4000000 in
set_option maxRecDepth 100000 in
theorem c_X6_blow (l : Launch) (D : va_G) (cI cO : ClassId) (ad : Nat → Nat) (sz : Nat) {st : St} {x1 : Int32} {r : Int32} {s2 : St} (hR : F_X6_blow st x1 = some (r, s2)) : CI l yX6_blow wsX6_blow rm_X6_blow D cI cO [.ref (ad 0), .int x1] (BW cI cO ad st) (BW cI cO ad s2) sz r := by
  refine mk_i (cc := cX6_blow) (maxL := 3) (own := RX6) rfl (by decide) rfl (Nat.le_of_ble_eq_true rfl) ?_
  intro p e s m args below meth c A Q ls hx hb hml hown hts hK hN hA ret_ hP hD hS hl
  have i_X6 : ∀ w ∈ u_ws RX6 TX6 7, w ∈ wsX6_blow := (fun _ h => List.mem_cons_of_mem _ (List.mem_append_left _ (List.mem_append_right _ h)))
  have i_X1 : ∀ w ∈ u_ws RX1 TX1 7, w ∈ wsX6_blow := (fun _ h => List.mem_cons_of_mem _ (List.mem_append_right _ h))
  have f_20 := hts (.fieldLink RX6 20 "BellNames" "herd" "LBellNames$Herd;") (by decide +kernel)
  have f_106 := hts (.fieldLink RX6 106 "BellNames$Herd" "wind" "I") (by decide +kernel)
  have hl : lv_has ls 3 [(0, .ref (ad 0)), (1, .int x1)] := hl
  unfold F_X6_blow at hR
  refine lv_iload_n hx hb dX6_blow_0 rfl (lv_at hl 1 rfl) ?_
  refine lv_iconst (v := 3) hx hb dX6_blow_1 (by decide) ?_
  obtain ⟨v_1, e_1, hR⟩ := b1_some hR
  refine bc_z (va_runS (As := [.int x1, .int 3]) (rest := []) ⟨hx, hb, hml, hown, hts⟩ (c_X6_isBelow l D cI cO ad _ e_1) (va_cwS 2 hts gX6_blow_X6_isBelow rfl rfl rfl (by decide +kernel) ⟨Nat.le_of_ble_eq_true rfl, Nat.le_of_ble_eq_true rfl⟩) (preS hK hN hP hD) rfl rfl hl.1 rfl (lv_room (Nat.le_of_ble_eq_true rfl)) dX6_blow_2 ⟨Nat.zero_le _, Nat.zero_le _⟩) hS hD hA (fun H locs hP hD hS n_1 => ?_)
  refine lv_if_ne (tgt := 11) hx hb dX6_blow_5 (by decide) (fun c_2 => ?_) (fun c_2 => ?_)
  · have hR := (if_neg c_2).symm.trans hR
    refine lv_aload_n hx hb dX6_blow_11 rfl (lv_at hl 0 rfl) ?_
    refine bw_get (ci := 5) (v := .ref (ad 10)) (C := RX6) (T := TX6) (N := 7) hx hb hts i_X6 hown hK hP 0 rfl rfl 1 (by decide) f_20 rfl dX6_blow_12 ?_
    obtain ⟨v_3, e_3, hR⟩ := b1_some hR
    refine bc_z (va_runV (As := []) (rest := []) ⟨hx, hb, hml, hown, hts⟩ (c_X1_isNone l D cI cO ad _ e_3) (cwV 0 hts gX6_blow_X1_isNone rfl rfl rfl (by decide +kernel) ⟨Nat.le_of_ble_eq_true rfl, Nat.le_of_ble_eq_true rfl⟩) (preV hK hN hP hD (va_recv hK hP (ci := 1) (q0 := 10) rfl rfl)) rfl rfl hl.1 rfl (lv_room (Nat.le_of_ble_eq_true rfl)) dX6_blow_15 ⟨Nat.zero_le _, Nat.zero_le _⟩) hS hD hA (fun H locs hP hD hS n_3 => ?_)
    refine lv_if_eq (tgt := 24) hx hb dX6_blow_18 (by decide) (fun c_4 => ?_) (fun c_4 => ?_)
    · have hR := (if_pos c_4).symm.trans hR
      refine lv_aload_n hx hb dX6_blow_24 rfl (lv_at hl 0 rfl) ?_
      refine bw_get (ci := 5) (v := .ref (ad 10)) (C := RX6) (T := TX6) (N := 7) hx hb hts i_X6 hown hK hP 0 rfl rfl 1 (by decide) f_20 rfl dX6_blow_25 ?_
      refine bw_get (ci := 1) (v := .int (gI st 3)) (C := RX1) (T := TX1) (N := 7) hx hb hts i_X1 hown hK hP 10 rfl rfl 5 (by decide) f_106 rfl dX6_blow_28 ?_
      refine lv_istore_n (lv' := [(2, .int (gI st 3)), (0, .ref (ad 0)), (1, .int x1)]) hx hb dX6_blow_31 rfl hl (by decide) rfl (fun ls hl => ?_)
      refine lv_aload_n hx hb dX6_blow_32 rfl (lv_at hl 1 rfl) ?_
      refine bw_get (ci := 5) (v := .ref (ad 10)) (C := RX6) (T := TX6) (N := 7) hx hb hts i_X6 hown hK hP 0 rfl rfl 1 (by decide) f_20 rfl dX6_blow_33 ?_
      refine lv_iload_n hx hb dX6_blow_36 rfl (lv_at hl 2 rfl) ?_
      refine bw_put (w' := (BW cI cO ad (sI st 3 x1))) (ci := 1) (C := RX1) (T := TX1) (N := 7) hx hb hts i_X1 tyX1 tyX1_ok nmX1 hown hK hP hD hS 10 rfl rfl 5 (by decide) f_106 rfl rfl (Nat.le_of_ble_eq_true rfl) (BW_i3 cI cO ad _ _) dX6_blow_37 (fun H locs hP hD hS => ?_)
      refine lv_iload_n hx hb dX6_blow_40 rfl (lv_at hl 0 rfl) ?_
      exact ret_ _ _ _ _ _ _ dX6_blow_41  (sp1 hR) (congrArg (fun z => (BW cI cO ad z)) (sp2 hR)) hP hD hS
    · have hR := (if_neg c_4).symm.trans hR
      refine lv_bipush (v := (-3)) hx hb dX6_blow_21 (by decide) ?_
      exact ret_ _ _ _ _ _ _ dX6_blow_23  (sp1 hR) (congrArg (fun z => (BW cI cO ad z)) (sp2 hR)) hP hD hS
  · have hR := (if_pos c_2).symm.trans hR
    refine lv_bipush (v := (-2)) hx hb dX6_blow_8 (by decide) ?_
    exact ret_ _ _ _ _ _ _ dX6_blow_10  (sp1 hR) (congrArg (fun z => (BW cI cO ad z)) (sp2 hR)) hP hD hS
abbrev rm_X6_sound : Room := { frames := 4, cells := 0, slots := 0, locals := 88 }
set_option maxHeartbeats 4000000 in
set_option maxRecDepth 100000 in
theorem c_X6_sound (l : Launch) (D : va_G) (cI cO : ClassId) (ad : Nat → Nat) (sz : Nat) {st : St} {x1 : Int32} {x2 : Int32} {r : Int32} (hR : F_X6_sound st x1 x2 = some r) : CI l yX6_sound wsX6_sound rm_X6_sound D cI cO [.ref (ad 0), .int x1, .int x2] (BW cI cO ad st) (BW cI cO ad st) sz r := by
  refine mk_i (cc := cX6_sound) (maxL := 3) (own := RX6) rfl (by decide) rfl (Nat.le_of_ble_eq_true rfl) ?_
  intro p e s m args below meth c A Q ls hx hb hml hown hts hK hN hA ret_ hP hD hS hl
  have i_X6 : ∀ w ∈ u_ws RX6 TX6 7, w ∈ wsX6_sound := (fun _ h => List.mem_cons_of_mem _ (List.mem_append_left _ (List.mem_append_right _ h)))
  have f_20 := hts (.fieldLink RX6 20 "BellNames" "herd" "LBellNames$Herd;") (by decide +kernel)
  have hl : lv_has ls 3 [(0, .ref (ad 0)), (1, .int x1), (2, .int x2)] := hl
  unfold F_X6_sound at hR
  refine lv_aload_n hx hb dX6_sound_0 rfl (lv_at hl 0 rfl) ?_
  refine bw_get (ci := 5) (v := .ref (ad 10)) (C := RX6) (T := TX6) (N := 7) hx hb hts i_X6 hown hK hP 0 rfl rfl 1 (by decide) f_20 rfl dX6_sound_1 ?_
  refine lv_iload_n hx hb dX6_sound_4 rfl (lv_at hl 1 rfl) ?_
  obtain ⟨v_1, e_1, hR⟩ := b1_some hR
  refine bc_z (va_runV (As := [.int x1]) (rest := []) ⟨hx, hb, hml, hown, hts⟩ (c_X1_hasBell l D cI cO ad _ e_1) (cwV 1 hts gX6_sound_X1_hasBell rfl rfl rfl (by decide +kernel) ⟨Nat.le_of_ble_eq_true rfl, Nat.le_of_ble_eq_true rfl⟩) (preV hK hN hP hD (va_recv hK hP (ci := 1) (q0 := 10) rfl rfl)) rfl rfl hl.1 rfl (lv_room (Nat.le_of_ble_eq_true rfl)) dX6_sound_5 ⟨Nat.zero_le _, Nat.zero_le _⟩) hS hD hA (fun H locs hP hD hS n_1 => ?_)
  refine lv_if_ne (tgt := 13) hx hb dX6_sound_8 (by decide) (fun c_2 => ?_) (fun c_2 => ?_)
  · have hR := (if_neg c_2).symm.trans hR
    refine lv_iload_n hx hb dX6_sound_13 rfl (lv_at hl 2 rfl) ?_
    refine lv_bipush (v := (-9)) hx hb dX6_sound_14 (by decide) ?_
    refine lv_icmp_ne (tgt := 28) hx hb dX6_sound_16 (by decide) (fun c_3 => ?_) (fun c_3 => ?_)
    · have hR := (if_neg c_3).symm.trans hR
      refine lv_iload_n hx hb dX6_sound_28 rfl (lv_at hl 2 rfl) ?_
      refine lv_iconst (v := 4) hx hb dX6_sound_29 (by decide) ?_
      obtain ⟨v_4, e_4, hR⟩ := b1_some hR
      refine bc_z (va_runS (As := [.int x2, .int 4]) (rest := []) ⟨hx, hb, hml, hown, hts⟩ (c_X6_isBelow l D cI cO ad _ e_4) (va_cwS 2 hts gX6_sound_X6_isBelow rfl rfl rfl (by decide +kernel) ⟨Nat.le_of_ble_eq_true rfl, Nat.le_of_ble_eq_true rfl⟩) (preS hK hN hP hD) rfl rfl hl.1 rfl (lv_room (Nat.le_of_ble_eq_true rfl)) dX6_sound_30 ⟨Nat.zero_le _, Nat.zero_le _⟩) hS hD hA (fun H locs hP hD hS n_4 => ?_)
      refine lv_if_ne (tgt := 39) hx hb dX6_sound_33 (by decide) (fun c_5 => ?_) (fun c_5 => ?_)
      · have hR := (if_neg c_5).symm.trans hR
        refine lv_aload_n hx hb dX6_sound_39 rfl (lv_at hl 0 rfl) ?_
        refine bw_get (ci := 5) (v := .ref (ad 10)) (C := RX6) (T := TX6) (N := 7) hx hb hts i_X6 hown hK hP 0 rfl rfl 1 (by decide) f_20 rfl dX6_sound_40 ?_
        refine lv_iload_n hx hb dX6_sound_43 rfl (lv_at hl 1 rfl) ?_
        refine lv_iload_n hx hb dX6_sound_44 rfl (lv_at hl 2 rfl) ?_
        obtain ⟨v_6, e_6, hR⟩ := b1_some hR
        refine bc_i (va_runV (As := [.int x1, .int x2]) (rest := []) ⟨hx, hb, hml, hown, hts⟩ (c_X1_soundIn l D cI cO ad _ e_6) (cwV 2 hts gX6_sound_X1_soundIn rfl rfl rfl (by decide +kernel) ⟨Nat.le_of_ble_eq_true rfl, Nat.le_of_ble_eq_true rfl⟩) (preV hK hN hP hD (va_recv hK hP (ci := 1) (q0 := 10) rfl rfl)) rfl rfl hl.1 rfl (lv_room (Nat.le_of_ble_eq_true rfl)) dX6_sound_45 ⟨Nat.zero_le _, Nat.zero_le _⟩) hS hD hA (fun H locs hP hD hS => ?_)
        exact ret_ _ _ _ _ _ _ dX6_sound_48  (Option.some.inj hR) rfl hP hD hS
      · have hR := (if_pos c_5).symm.trans hR
        refine lv_bipush (v := (-2)) hx hb dX6_sound_36 (by decide) ?_
        exact ret_ _ _ _ _ _ _ dX6_sound_38  (Option.some.inj hR) rfl hP hD hS
    · have hR := (if_pos c_3).symm.trans hR
      refine lv_aload_n hx hb dX6_sound_19 rfl (lv_at hl 0 rfl) ?_
      refine bw_get (ci := 5) (v := .ref (ad 10)) (C := RX6) (T := TX6) (N := 7) hx hb hts i_X6 hown hK hP 0 rfl rfl 1 (by decide) f_20 rfl dX6_sound_20 ?_
      refine lv_iload_n hx hb dX6_sound_23 rfl (lv_at hl 1 rfl) ?_
      obtain ⟨v_7, e_7, hR⟩ := b1_some hR
      refine bc_i (va_runV (As := [.int x1]) (rest := []) ⟨hx, hb, hml, hown, hts⟩ (c_X1_soundNow l D cI cO ad _ e_7) (cwV 1 hts gX6_sound_X1_soundNow rfl rfl rfl (by decide +kernel) ⟨Nat.le_of_ble_eq_true rfl, Nat.le_of_ble_eq_true rfl⟩) (preV hK hN hP hD (va_recv hK hP (ci := 1) (q0 := 10) rfl rfl)) rfl rfl hl.1 rfl (lv_room (Nat.le_of_ble_eq_true rfl)) dX6_sound_24 ⟨Nat.zero_le _, Nat.zero_le _⟩) hS hD hA (fun H locs hP hD hS => ?_)
      exact ret_ _ _ _ _ _ _ dX6_sound_27  (Option.some.inj hR) rfl hP hD hS
  · have hR := (if_pos c_2).symm.trans hR
    refine lv_iconst (v := (-1)) hx hb dX6_sound_11 (by decide) ?_
    exact ret_ _ _ _ _ _ _ dX6_sound_12  (Option.some.inj hR) rfl hP hD hS
abbrev rm_X6_heard : Room := { frames := 3, cells := 0, slots := 0, locals := 67 }
set_option maxHeartbeats 4000000 in
set_option maxRecDepth 100000 in
theorem c_X6_heard (l : Launch) (D : va_G) (cI cO : ClassId) (ad : Nat → Nat) (sz : Nat) {st : St} {x1 : Int32} {r : Int32} (hR : F_X6_heard st x1 = some r) : CI l yX6_heard wsX6_heard rm_X6_heard D cI cO [.ref (ad 0), .int x1] (BW cI cO ad st) (BW cI cO ad st) sz r := by
  refine mk_i (cc := cX6_heard) (maxL := 2) (own := RX6) rfl (by decide) rfl (Nat.le_of_ble_eq_true rfl) ?_
  intro p e s m args below meth c A Q ls hx hb hml hown hts hK hN hA ret_ hP hD hS hl
  have i_X6 : ∀ w ∈ u_ws RX6 TX6 7, w ∈ wsX6_heard := (fun _ h => List.mem_cons_of_mem _ (List.mem_append_left _ (List.mem_append_right _ h)))
  have i_X1 : ∀ w ∈ u_ws RX1 TX1 7, w ∈ wsX6_heard := (fun _ h => List.mem_cons_of_mem _ (List.mem_append_right _ h))
  have f_20 := hts (.fieldLink RX6 20 "BellNames" "herd" "LBellNames$Herd;") (by decide +kernel)
  have f_92 := hts (.fieldLink RX6 92 "BellNames$Herd" "spotOf" "[I") (by decide +kernel)
  have hl : lv_has ls 2 [(0, .ref (ad 0)), (1, .int x1)] := hl
  unfold F_X6_heard at hR
  refine lv_iload_n hx hb dX6_heard_0 rfl (lv_at hl 1 rfl) ?_
  refine lv_bipush (v := 10) hx hb dX6_heard_1 (by decide) ?_
  obtain ⟨v_1, e_1, hR⟩ := b1_some hR
  refine bc_z (va_runS (As := [.int x1, .int 10]) (rest := []) ⟨hx, hb, hml, hown, hts⟩ (c_X6_isBelow l D cI cO ad _ e_1) (va_cwS 2 hts gX6_heard_X6_isBelow rfl rfl rfl (by decide +kernel) ⟨Nat.le_of_ble_eq_true rfl, Nat.le_of_ble_eq_true rfl⟩) (preS hK hN hP hD) rfl rfl hl.1 rfl (lv_room (Nat.le_of_ble_eq_true rfl)) dX6_heard_3 ⟨Nat.zero_le _, Nat.zero_le _⟩) hS hD hA (fun H locs hP hD hS n_1 => ?_)
  refine lv_if_ne (tgt := 12) hx hb dX6_heard_6 (by decide) (fun c_2 => ?_) (fun c_2 => ?_)
  · have hR := (if_neg c_2).symm.trans hR
    refine lv_aload_n hx hb dX6_heard_12 rfl (lv_at hl 0 rfl) ?_
    refine bw_get (ci := 5) (v := .ref (ad 10)) (C := RX6) (T := TX6) (N := 7) hx hb hts i_X6 hown hK hP 0 rfl rfl 1 (by decide) f_20 rfl dX6_heard_13 ?_
    obtain ⟨v_3, e_3, hR⟩ := b1_some hR
    refine bc_z (va_runV (As := []) (rest := []) ⟨hx, hb, hml, hown, hts⟩ (c_X1_isNone l D cI cO ad _ e_3) (cwV 0 hts gX6_heard_X1_isNone rfl rfl rfl (by decide +kernel) ⟨Nat.le_of_ble_eq_true rfl, Nat.le_of_ble_eq_true rfl⟩) (preV hK hN hP hD (va_recv hK hP (ci := 1) (q0 := 10) rfl rfl)) rfl rfl hl.1 rfl (lv_room (Nat.le_of_ble_eq_true rfl)) dX6_heard_16 ⟨Nat.zero_le _, Nat.zero_le _⟩) hS hD hA (fun H locs hP hD hS n_3 => ?_)
    refine lv_if_eq (tgt := 25) hx hb dX6_heard_19 (by decide) (fun c_4 => ?_) (fun c_4 => ?_)
    · have hR := (if_pos c_4).symm.trans hR
      refine lv_aload_n hx hb dX6_heard_25 rfl (lv_at hl 0 rfl) ?_
      refine bw_get (ci := 5) (v := .ref (ad 10)) (C := RX6) (T := TX6) (N := 7) hx hb hts i_X6 hown hK hP 0 rfl rfl 1 (by decide) f_20 rfl dX6_heard_26 ?_
      refine lv_aload_n hx hb dX6_heard_29 rfl (lv_at hl 0 rfl) ?_
      refine bw_get (ci := 5) (v := .ref (ad 10)) (C := RX6) (T := TX6) (N := 7) hx hb hts i_X6 hown hK hP 0 rfl rfl 1 (by decide) f_20 rfl dX6_heard_30 ?_
      refine bw_get (ci := 1) (v := .ref (ad 13)) (C := RX1) (T := TX1) (N := 7) hx hb hts i_X1 hown hK hP 10 rfl rfl 2 (by decide) f_92 rfl dX6_heard_33 ?_
      refine lv_iload_n hx hb dX6_heard_36 rfl (lv_at hl 1 rfl) ?_
      obtain ⟨v_5, e_5, hR⟩ := b1_some hR
      refine bc_i (va_runV (As := [.ref (ad 13), .int x1]) (rest := []) ⟨hx, hb, hml, hown, hts⟩ (c_X1_heardFrom_13 l D cI cO ad _ e_5) (cwV 2 hts gX6_heard_X1_heardFrom rfl rfl rfl (by decide +kernel) ⟨Nat.le_of_ble_eq_true rfl, Nat.le_of_ble_eq_true rfl⟩) (preV hK hN hP hD (va_recv hK hP (ci := 1) (q0 := 10) rfl rfl)) rfl rfl hl.1 rfl (lv_room (Nat.le_of_ble_eq_true rfl)) dX6_heard_37 ⟨Nat.zero_le _, Nat.zero_le _⟩) hS hD hA (fun H locs hP hD hS => ?_)
      exact ret_ _ _ _ _ _ _ dX6_heard_40  (Option.some.inj hR) rfl hP hD hS
    · have hR := (if_neg c_4).symm.trans hR
      refine lv_bipush (v := (-3)) hx hb dX6_heard_22 (by decide) ?_
      exact ret_ _ _ _ _ _ _ dX6_heard_24  (Option.some.inj hR) rfl hP hD hS
  · have hR := (if_pos c_2).symm.trans hR
    refine lv_bipush (v := (-2)) hx hb dX6_heard_9 (by decide) ?_
    exact ret_ _ _ _ _ _ _ dX6_heard_11  (Option.some.inj hR) rfl hP hD hS
abbrev rm_X6_taken : Room := { frames := 4, cells := 0, slots := 0, locals := 88 }
set_option maxHeartbeats 4000000 in
set_option maxRecDepth 100000 in
theorem c_X6_taken (l : Launch) (D : va_G) (cI cO : ClassId) (ad : Nat → Nat) (sz : Nat) {st : St} {x1 : Int32} {x2 : Int32} {r : Int32} (hR : F_X6_taken st x1 x2 = some r) : CI l yX6_taken wsX6_taken rm_X6_taken D cI cO [.ref (ad 0), .int x1, .int x2] (BW cI cO ad st) (BW cI cO ad st) sz r := by
  refine mk_i (cc := cX6_taken) (maxL := 7) (own := RX6) rfl (by decide) rfl (Nat.le_of_ble_eq_true rfl) ?_
  intro p e s m args below meth c A Q ls hx hb hml hown hts hK hN hA ret_ hP hD hS hl
  have i_X6 : ∀ w ∈ u_ws RX6 TX6 7, w ∈ wsX6_taken := (fun _ h => List.mem_cons_of_mem _ (List.mem_append_left _ (List.mem_append_right _ h)))
  have i_X1 : ∀ w ∈ u_ws RX1 TX1 7, w ∈ wsX6_taken := (fun _ h => List.mem_cons_of_mem _ (List.mem_append_right _ h))
  have f_20 := hts (.fieldLink RX6 20 "BellNames" "herd" "LBellNames$Herd;") (by decide +kernel)
  have f_80 := hts (.fieldLink RX6 80 "BellNames$Herd" "count" "I") (by decide +kernel)
  have m_120 := hts (.methodLink RX6 120 Lib.Math.abs.name) (by decide +kernel)
  have ms_abs := hts (.static Lib.Math.abs.name) (by decide +kernel)
  have mi := hts (.initialized "java/lang/Math") (by decide +kernel)
  have mc_abs := hts (.code Lib.Math.abs.name Lib.Math.abs.code 1 (some .int)) (by decide +kernel)
  have hl : lv_has ls 7 [(0, .ref (ad 0)), (1, .int x1), (2, .int x2)] := hl
  unfold F_X6_taken at hR
  refine lv_iload_n hx hb dX6_taken_0 rfl (lv_at hl 1 rfl) ?_
  refine lv_bipush (v := 10) hx hb dX6_taken_1 (by decide) ?_
  obtain ⟨v_1, e_1, hR⟩ := b1_some hR
  refine bc_z (va_runS (As := [.int x1, .int 10]) (rest := []) ⟨hx, hb, hml, hown, hts⟩ (c_X6_isBelow l D cI cO ad _ e_1) (va_cwS 2 hts gX6_taken_X6_isBelow rfl rfl rfl (by decide +kernel) ⟨Nat.le_of_ble_eq_true rfl, Nat.le_of_ble_eq_true rfl⟩) (preS hK hN hP hD) rfl rfl hl.1 rfl (lv_room (Nat.le_of_ble_eq_true rfl)) dX6_taken_3 ⟨Nat.zero_le _, Nat.zero_le _⟩) hS hD hA (fun H locs hP hD hS n_1 => ?_)
  refine lv_if_eq (tgt := 18) hx hb dX6_taken_6 (by decide) (fun c_2 => ?_) (fun c_2 => ?_)
  · have hR := (if_pos c_2).symm.trans hR
    refine lv_bipush (v := (-2)) hx hb dX6_taken_18 (by decide) ?_
    exact ret_ _ _ _ _ _ _ dX6_taken_20  (Option.some.inj hR) rfl hP hD hS
  · have hR := (if_neg c_2).symm.trans hR
    refine lv_iload_n hx hb dX6_taken_9 rfl (lv_at hl 2 rfl) ?_
    refine lv_bipush (v := 20) hx hb dX6_taken_10 (by decide) ?_
    obtain ⟨v_3, e_3, hR⟩ := b1_some hR
    refine bc_z (va_runS (As := [.int x2, .int 20]) (rest := []) ⟨hx, hb, hml, hown, hts⟩ (c_X6_isBelow l D cI cO ad _ e_3) (va_cwS 2 hts gX6_taken_X6_isBelow rfl rfl rfl (by decide +kernel) ⟨Nat.le_of_ble_eq_true rfl, Nat.le_of_ble_eq_true rfl⟩) (preS hK hN hP hD) rfl rfl hl.1 rfl (lv_room (Nat.le_of_ble_eq_true rfl)) dX6_taken_12 ⟨Nat.zero_le _, Nat.zero_le _⟩) hS hD hA (fun H locs hP hD hS n_3 => ?_)
    refine lv_if_ne (tgt := 21) hx hb dX6_taken_15 (by decide) (fun c_4 => ?_) (fun c_4 => ?_)
    · have hR := (if_neg c_4).symm.trans hR
      refine lv_aload_n hx hb dX6_taken_21 rfl (lv_at hl 0 rfl) ?_
      refine bw_get (ci := 5) (v := .ref (ad 10)) (C := RX6) (T := TX6) (N := 7) hx hb hts i_X6 hown hK hP 0 rfl rfl 1 (by decide) f_20 rfl dX6_taken_22 ?_
      obtain ⟨v_5, e_5, hR⟩ := b1_some hR
      refine bc_z (va_runV (As := []) (rest := []) ⟨hx, hb, hml, hown, hts⟩ (c_X1_isNone l D cI cO ad _ e_5) (cwV 0 hts gX6_taken_X1_isNone rfl rfl rfl (by decide +kernel) ⟨Nat.le_of_ble_eq_true rfl, Nat.le_of_ble_eq_true rfl⟩) (preV hK hN hP hD (va_recv hK hP (ci := 1) (q0 := 10) rfl rfl)) rfl rfl hl.1 rfl (lv_room (Nat.le_of_ble_eq_true rfl)) dX6_taken_25 ⟨Nat.zero_le _, Nat.zero_le _⟩) hS hD hA (fun H locs hP hD hS n_5 => ?_)
      refine lv_if_eq (tgt := 34) hx hb dX6_taken_28 (by decide) (fun c_6 => ?_) (fun c_6 => ?_)
      · have hR := (if_pos c_6).symm.trans hR
        refine lv_bipush (v := (-9)) hx hb dX6_taken_34 (by decide) ?_
        refine lv_istore_n (lv' := [(3, .int (-9)), (0, .ref (ad 0)), (1, .int x1), (2, .int x2)]) hx hb dX6_taken_36 rfl hl (by decide) rfl (fun ls hl => ?_)
        refine lv_bipush (v := 20) hx hb dX6_taken_37 (by decide) ?_
        refine lv_istore (lv' := [(4, .int 20), (3, .int (-9)), (0, .ref (ad 0)), (1, .int x1), (2, .int x2)]) hx hb dX6_taken_39 hl (by decide) rfl (fun ls hl => ?_)
        refine lv_iconst (v := 0) hx hb dX6_taken_41 (by decide) ?_
        refine lv_istore (lv' := [(5, .int 0), (4, .int 20), (3, .int (-9)), (0, .ref (ad 0)), (1, .int x1), (2, .int x2)]) hx hb dX6_taken_42 hl (by decide) rfl (fun ls hl => ?_)
        have lp_44 : ∀ (n_44 : Nat) (y3_44 : Int32) (y4_44 : Int32) (y5_44 : Int32) (H : Heap) (locs : List Loc) (ls : Array Slot), L_X6_taken_44 st x1 x2 (fun y3_44 y4_44 y5_44 => some y3_44) n_44 y3_44 y4_44 y5_44 = some r → va_P D vwCl (BW cI cO ad st) H → va_D A (BW cI cO ad st) → va_S A s.heap H locs → lv_has ls 7 [(0, .ref (ad 0)), (1, .int x1), (2, .int x2), (3, .int y3_44), (4, .int y4_44), (5, .int y5_44)] → W p l e rm_X6_taken s m args below meth c H locs 0 0 Q (F0 m 44 ls []) := by
          intro n_44
          induction n_44 with
          | zero => intro y3_44 y4_44 y5_44 H locs ls hR; exact absurd (L_X6_taken_44_z.symm.trans hR) (fun h => nomatch h)
          | succ n_44 ih_44 =>
            intro y3_44 y4_44 y5_44 H locs ls hR hP hD hS hl
            have hR := L_X6_taken_44_s.symm.trans hR
            refine lv_iload hx hb dX6_taken_44 (lv_at hl 5 rfl) ?_
            refine lv_aload_n hx hb dX6_taken_46 rfl (lv_at hl 0 rfl) ?_
            refine bw_get (ci := 5) (v := .ref (ad 10)) (C := RX6) (T := TX6) (N := 7) hx hb hts i_X6 hown hK hP 0 rfl rfl 1 (by decide) f_20 rfl dX6_taken_47 ?_
            refine bw_get (ci := 1) (v := .int (gI st 2)) (C := RX1) (T := TX1) (N := 7) hx hb hts i_X1 hown hK hP 10 rfl rfl 4 (by decide) f_80 rfl dX6_taken_50 ?_
            refine lv_icmp_ge (tgt := 105) hx hb dX6_taken_53 (by decide) (fun c_7 => ?_) (fun c_7 => ?_)
            · have hR := (if_pos c_7).symm.trans hR
              refine lv_iload_n hx hb dX6_taken_105 rfl (lv_at hl 3 rfl) ?_
              exact ret_ _ _ _ _ _ _ dX6_taken_106  (Option.some.inj hR) rfl hP hD hS
            · have hR := (if_neg c_7).symm.trans hR
              refine lv_aload_n hx hb dX6_taken_56 rfl (lv_at hl 0 rfl) ?_
              refine bw_get (ci := 5) (v := .ref (ad 10)) (C := RX6) (T := TX6) (N := 7) hx hb hts i_X6 hown hK hP 0 rfl rfl 1 (by decide) f_20 rfl dX6_taken_57 ?_
              refine lv_iload hx hb dX6_taken_60 (lv_at hl 5 rfl) ?_
              obtain ⟨v_8, e_8, hR⟩ := b1_some hR
              refine bc_i (va_runV (As := [.int y5_44]) (rest := []) ⟨hx, hb, hml, hown, hts⟩ (c_X1_soundNow l D cI cO ad _ e_8) (cwV 1 hts gX6_taken_X1_soundNow rfl rfl rfl (by decide +kernel) ⟨Nat.le_of_ble_eq_true rfl, Nat.le_of_ble_eq_true rfl⟩) (preV hK hN hP hD (va_recv hK hP (ci := 1) (q0 := 10) rfl rfl)) rfl rfl hl.1 rfl (lv_room (Nat.le_of_ble_eq_true rfl)) dX6_taken_62 ⟨Nat.zero_le _, Nat.zero_le _⟩) hS hD hA (fun H locs hP hD hS => ?_)
              refine lv_iload_n hx hb dX6_taken_65 rfl (lv_at hl 2 rfl) ?_
              refine lv_isub hx hb dX6_taken_66 ?_
              refine bw_abs hx hb (hml.trans hl.1.symm) hown m_120 ms_abs mi mc_abs (Nat.le_of_ble_eq_true rfl) (Nat.le_of_ble_eq_true rfl) (Nat.zero_le _) (Nat.zero_le _) dX6_taken_67 ?_
              refine lv_istore (lv' := [(6, .int (jabs (v_8 - x2))), (0, .ref (ad 0)), (1, .int x1), (2, .int x2), (3, .int y3_44), (4, .int y4_44), (5, .int y5_44)]) hx hb dX6_taken_70 hl (by decide) rfl (fun ls hl => ?_)
              refine lv_aload_n hx hb dX6_taken_72 rfl (lv_at hl 1 rfl) ?_
              refine bw_get (ci := 5) (v := .ref (ad 10)) (C := RX6) (T := TX6) (N := 7) hx hb hts i_X6 hown hK hP 0 rfl rfl 1 (by decide) f_20 rfl dX6_taken_73 ?_
              refine lv_iload hx hb dX6_taken_76 (lv_at hl 6 rfl) ?_
              refine lv_iload_n hx hb dX6_taken_78 rfl (lv_at hl 2 rfl) ?_
              obtain ⟨v_9, e_9, hR⟩ := b1_some hR
              refine bc_z (va_runV (As := [.int y5_44, .int x1]) (rest := []) ⟨hx, hb, hml, hown, hts⟩ (c_X1_isHeard l D cI cO ad _ e_9) (cwV 2 hts gX6_taken_X1_isHeard rfl rfl rfl (by decide +kernel) ⟨Nat.le_of_ble_eq_true rfl, Nat.le_of_ble_eq_true rfl⟩) (preV hK hN hP hD (va_recv hK hP (ci := 1) (q0 := 10) rfl rfl)) rfl rfl hl.1 rfl (lv_room (Nat.le_of_ble_eq_true rfl)) dX6_taken_79 ⟨Nat.zero_le _, Nat.zero_le _⟩) hS hD hA (fun H locs hP hD hS n_9 => ?_)
              refine lv_if_eq (tgt := 99) hx hb dX6_taken_82 (by decide) (fun c_10 => ?_) (fun c_10 => ?_)
              · have hR := (if_pos c_10).symm.trans hR
                refine lv_iinc (v := y5_44 + 1) (lv' := [(5, .int (y5_44 + 1)), (6, .int (jabs (v_8 - x2))), (0, .ref (ad 0)), (1, .int x1), (2, .int x2), (3, .int y3_44), (4, .int y4_44)]) hx hb dX6_taken_99 hl (k := 6) rfl rfl (by decide) rfl (fun ls hl => ?_)
                refine lv_goto (tgt := 44) hx hb dX6_taken_102 (by decide) ?_
                exact ih_44 _ _ _ _ _ _ hR hP hD hS (lv_sub hl [2, 3, 4, 5, 6, 0] rfl)
              · have hR := (if_neg c_10).symm.trans hR
                refine lv_iload hx hb dX6_taken_85 (lv_at hl 0 rfl) ?_
                refine lv_iload hx hb dX6_taken_87 (lv_at hl 5 rfl) ?_
                refine lv_icmp_ge (tgt := 99) hx hb dX6_taken_89 (by decide) (fun c_11 => ?_) (fun c_11 => ?_)
                · have hR := (if_pos c_11).symm.trans hR
                  refine lv_iinc (v := y5_44 + 1) (lv' := [(5, .int (y5_44 + 1)), (6, .int (jabs (v_8 - x2))), (0, .ref (ad 0)), (1, .int x1), (2, .int x2), (3, .int y3_44), (4, .int y4_44)]) hx hb dX6_taken_99 hl (k := 6) rfl rfl (by decide) rfl (fun ls hl => ?_)
                  refine lv_goto (tgt := 44) hx hb dX6_taken_102 (by decide) ?_
                  exact ih_44 _ _ _ _ _ _ hR hP hD hS (lv_sub hl [2, 3, 4, 5, 6, 0] rfl)
                · have hR := (if_neg c_11).symm.trans hR
                  refine lv_iload hx hb dX6_taken_92 (lv_at hl 6 rfl) ?_
                  refine lv_istore_n (lv' := [(3, .int y5_44), (6, .int (jabs (v_8 - x2))), (0, .ref (ad 0)), (1, .int x1), (2, .int x2), (4, .int y4_44), (5, .int y5_44)]) hx hb dX6_taken_94 rfl hl (by decide) rfl (fun ls hl => ?_)
                  refine lv_iload hx hb dX6_taken_95 (lv_at hl 1 rfl) ?_
                  refine lv_istore (lv' := [(4, .int (jabs (v_8 - x2))), (3, .int y5_44), (6, .int (jabs (v_8 - x2))), (0, .ref (ad 0)), (1, .int x1), (2, .int x2), (5, .int y5_44)]) hx hb dX6_taken_97 hl (by decide) rfl (fun ls hl => ?_)
                  refine lv_iinc (v := y5_44 + 1) (lv' := [(5, .int (y5_44 + 1)), (4, .int (jabs (v_8 - x2))), (3, .int y5_44), (6, .int (jabs (v_8 - x2))), (0, .ref (ad 0)), (1, .int x1), (2, .int x2)]) hx hb dX6_taken_99 hl (k := 6) rfl rfl (by decide) rfl (fun ls hl => ?_)
                  refine lv_goto (tgt := 44) hx hb dX6_taken_102 (by decide) ?_
                  exact ih_44 _ _ _ _ _ _ hR hP hD hS (lv_sub hl [4, 5, 6, 2, 1, 0] rfl)
        exact lp_44 _ _ _ _ _ _ _ hR hP hD hS (lv_sub hl [3, 4, 5, 2, 1, 0] rfl)
      · have hR := (if_neg c_6).symm.trans hR
        refine lv_bipush (v := (-3)) hx hb dX6_taken_31 (by decide) ?_
        exact ret_ _ _ _ _ _ _ dX6_taken_33  (Option.some.inj hR) rfl hP hD hS
    · have hR := (if_pos c_4).symm.trans hR
      refine lv_bipush (v := (-2)) hx hb dX6_taken_18 (by decide) ?_
      exact ret_ _ _ _ _ _ _ dX6_taken_20  (Option.some.inj hR) rfl hP hD hS
abbrev rm_X6_meant : Room := { frames := 4, cells := 0, slots := 0, locals := 91 }
set_option maxHeartbeats 4000000 in
set_option maxRecDepth 100000 in
theorem c_X6_meant (l : Launch) (D : va_G) (cI cO : ClassId) (ad : Nat → Nat) (sz : Nat) {st : St} {x1 : Int32} {x2 : Int32} {r : Int32} (hR : F_X6_meant st x1 x2 = some r) : CI l yX6_meant wsX6_meant rm_X6_meant D cI cO [.ref (ad 0), .int x1, .int x2] (BW cI cO ad st) (BW cI cO ad st) sz r := by
  refine mk_i (cc := cX6_meant) (maxL := 5) (own := RX6) rfl (by decide) rfl (Nat.le_of_ble_eq_true rfl) ?_
  intro p e s m args below meth c A Q ls hx hb hml hown hts hK hN hA ret_ hP hD hS hl
  have i_X6 : ∀ w ∈ u_ws RX6 TX6 7, w ∈ wsX6_meant := (fun _ h => List.mem_cons_of_mem _ (List.mem_append_left _ (List.mem_append_right _ h)))
  have i_X1 : ∀ w ∈ u_ws RX1 TX1 7, w ∈ wsX6_meant := (fun _ h => List.mem_cons_of_mem _ (List.mem_append_right _ h))
  have f_20 := hts (.fieldLink RX6 20 "BellNames" "herd" "LBellNames$Herd;") (by decide +kernel)
  have f_80 := hts (.fieldLink RX6 80 "BellNames$Herd" "count" "I") (by decide +kernel)
  have hl : lv_has ls 5 [(0, .ref (ad 0)), (1, .int x1), (2, .int x2)] := hl
  unfold F_X6_meant at hR
  refine lv_iload_n hx hb dX6_meant_0 rfl (lv_at hl 1 rfl) ?_
  refine lv_bipush (v := 10) hx hb dX6_meant_1 (by decide) ?_
  obtain ⟨v_1, e_1, hR⟩ := b1_some hR
  refine bc_z (va_runS (As := [.int x1, .int 10]) (rest := []) ⟨hx, hb, hml, hown, hts⟩ (c_X6_isBelow l D cI cO ad _ e_1) (va_cwS 2 hts gX6_meant_X6_isBelow rfl rfl rfl (by decide +kernel) ⟨Nat.le_of_ble_eq_true rfl, Nat.le_of_ble_eq_true rfl⟩) (preS hK hN hP hD) rfl rfl hl.1 rfl (lv_room (Nat.le_of_ble_eq_true rfl)) dX6_meant_3 ⟨Nat.zero_le _, Nat.zero_le _⟩) hS hD hA (fun H locs hP hD hS n_1 => ?_)
  refine lv_if_eq (tgt := 18) hx hb dX6_meant_6 (by decide) (fun c_2 => ?_) (fun c_2 => ?_)
  · have hR := (if_pos c_2).symm.trans hR
    refine lv_bipush (v := (-2)) hx hb dX6_meant_18 (by decide) ?_
    exact ret_ _ _ _ _ _ _ dX6_meant_20  (Option.some.inj hR) rfl hP hD hS
  · have hR := (if_neg c_2).symm.trans hR
    refine lv_iload_n hx hb dX6_meant_9 rfl (lv_at hl 2 rfl) ?_
    refine lv_bipush (v := 20) hx hb dX6_meant_10 (by decide) ?_
    obtain ⟨v_3, e_3, hR⟩ := b1_some hR
    refine bc_z (va_runS (As := [.int x2, .int 20]) (rest := []) ⟨hx, hb, hml, hown, hts⟩ (c_X6_isBelow l D cI cO ad _ e_3) (va_cwS 2 hts gX6_meant_X6_isBelow rfl rfl rfl (by decide +kernel) ⟨Nat.le_of_ble_eq_true rfl, Nat.le_of_ble_eq_true rfl⟩) (preS hK hN hP hD) rfl rfl hl.1 rfl (lv_room (Nat.le_of_ble_eq_true rfl)) dX6_meant_12 ⟨Nat.zero_le _, Nat.zero_le _⟩) hS hD hA (fun H locs hP hD hS n_3 => ?_)
    refine lv_if_ne (tgt := 21) hx hb dX6_meant_15 (by decide) (fun c_4 => ?_) (fun c_4 => ?_)
    · have hR := (if_neg c_4).symm.trans hR
      refine lv_aload_n hx hb dX6_meant_21 rfl (lv_at hl 0 rfl) ?_
      refine bw_get (ci := 5) (v := .ref (ad 10)) (C := RX6) (T := TX6) (N := 7) hx hb hts i_X6 hown hK hP 0 rfl rfl 1 (by decide) f_20 rfl dX6_meant_22 ?_
      obtain ⟨v_5, e_5, hR⟩ := b1_some hR
      refine bc_z (va_runV (As := []) (rest := []) ⟨hx, hb, hml, hown, hts⟩ (c_X1_isNone l D cI cO ad _ e_5) (cwV 0 hts gX6_meant_X1_isNone rfl rfl rfl (by decide +kernel) ⟨Nat.le_of_ble_eq_true rfl, Nat.le_of_ble_eq_true rfl⟩) (preV hK hN hP hD (va_recv hK hP (ci := 1) (q0 := 10) rfl rfl)) rfl rfl hl.1 rfl (lv_room (Nat.le_of_ble_eq_true rfl)) dX6_meant_25 ⟨Nat.zero_le _, Nat.zero_le _⟩) hS hD hA (fun H locs hP hD hS n_5 => ?_)
      refine lv_if_eq (tgt := 34) hx hb dX6_meant_28 (by decide) (fun c_6 => ?_) (fun c_6 => ?_)
      · have hR := (if_pos c_6).symm.trans hR
        refine lv_iconst (v := 0) hx hb dX6_meant_34 (by decide) ?_
        refine lv_istore_n (lv' := [(3, .int 0), (0, .ref (ad 0)), (1, .int x1), (2, .int x2)]) hx hb dX6_meant_35 rfl hl (by decide) rfl (fun ls hl => ?_)
        refine lv_iconst (v := 0) hx hb dX6_meant_36 (by decide) ?_
        refine lv_istore (lv' := [(4, .int 0), (3, .int 0), (0, .ref (ad 0)), (1, .int x1), (2, .int x2)]) hx hb dX6_meant_37 hl (by decide) rfl (fun ls hl => ?_)
        have lp_39 : ∀ (n_39 : Nat) (y3_39 : Int32) (y4_39 : Int32) (H : Heap) (locs : List Loc) (ls : Array Slot), L_X6_meant_39 st x1 x2 (fun y3_39 y4_39 => some y3_39) n_39 y3_39 y4_39 = some r → va_P D vwCl (BW cI cO ad st) H → va_D A (BW cI cO ad st) → va_S A s.heap H locs → lv_has ls 5 [(0, .ref (ad 0)), (1, .int x1), (2, .int x2), (3, .int y3_39), (4, .int y4_39)] → W p l e rm_X6_meant s m args below meth c H locs 0 0 Q (F0 m 39 ls []) := by
          intro n_39
          induction n_39 with
          | zero => intro y3_39 y4_39 H locs ls hR; exact absurd (L_X6_meant_39_z.symm.trans hR) (fun h => nomatch h)
          | succ n_39 ih_39 =>
            intro y3_39 y4_39 H locs ls hR hP hD hS hl
            have hR := L_X6_meant_39_s.symm.trans hR
            refine lv_iload hx hb dX6_meant_39 (lv_at hl 4 rfl) ?_
            refine lv_aload_n hx hb dX6_meant_41 rfl (lv_at hl 0 rfl) ?_
            refine bw_get (ci := 5) (v := .ref (ad 10)) (C := RX6) (T := TX6) (N := 7) hx hb hts i_X6 hown hK hP 0 rfl rfl 1 (by decide) f_20 rfl dX6_meant_42 ?_
            refine bw_get (ci := 1) (v := .int (gI st 2)) (C := RX1) (T := TX1) (N := 7) hx hb hts i_X1 hown hK hP 10 rfl rfl 4 (by decide) f_80 rfl dX6_meant_45 ?_
            refine lv_icmp_ge (tgt := 90) hx hb dX6_meant_48 (by decide) (fun c_7 => ?_) (fun c_7 => ?_)
            · have hR := (if_pos c_7).symm.trans hR
              refine lv_iload_n hx hb dX6_meant_90 rfl (lv_at hl 3 rfl) ?_
              exact ret_ _ _ _ _ _ _ dX6_meant_91  (Option.some.inj hR) rfl hP hD hS
            · have hR := (if_neg c_7).symm.trans hR
              refine lv_aload_n hx hb dX6_meant_51 rfl (lv_at hl 0 rfl) ?_
              refine bw_get (ci := 5) (v := .ref (ad 10)) (C := RX6) (T := TX6) (N := 7) hx hb hts i_X6 hown hK hP 0 rfl rfl 1 (by decide) f_20 rfl dX6_meant_52 ?_
              refine lv_iload hx hb dX6_meant_55 (lv_at hl 4 rfl) ?_
              refine lv_iload_n hx hb dX6_meant_57 rfl (lv_at hl 1 rfl) ?_
              obtain ⟨v_8, e_8, hR⟩ := b1_some hR
              refine bc_z (va_runV (As := [.int y4_39, .int x1]) (rest := []) ⟨hx, hb, hml, hown, hts⟩ (c_X1_isHeard l D cI cO ad _ e_8) (cwV 2 hts gX6_meant_X1_isHeard rfl rfl rfl (by decide +kernel) ⟨Nat.le_of_ble_eq_true rfl, Nat.le_of_ble_eq_true rfl⟩) (preV hK hN hP hD (va_recv hK hP (ci := 1) (q0 := 10) rfl rfl)) rfl rfl hl.1 rfl (lv_room (Nat.le_of_ble_eq_true rfl)) dX6_meant_58 ⟨Nat.zero_le _, Nat.zero_le _⟩) hS hD hA (fun H locs hP hD hS n_8 => ?_)
              refine lv_if_eq (tgt := 84) hx hb dX6_meant_61 (by decide) (fun c_9 => ?_) (fun c_9 => ?_)
              · have hR := (if_pos c_9).symm.trans hR
                refine lv_iinc (v := y4_39 + 1) (lv' := [(4, .int (y4_39 + 1)), (0, .ref (ad 0)), (1, .int x1), (2, .int x2), (3, .int y3_39)]) hx hb dX6_meant_84 hl (k := 4) rfl rfl (by decide) rfl (fun ls hl => ?_)
                refine lv_goto (tgt := 39) hx hb dX6_meant_87 (by decide) ?_
                exact ih_39 _ _ _ _ _ hR hP hD hS (lv_sub hl [1, 2, 3, 4, 0] rfl)
              · have hR := (if_neg c_9).symm.trans hR
                refine lv_aload_n hx hb dX6_meant_64 rfl (lv_at hl 0 rfl) ?_
                refine bw_get (ci := 5) (v := .ref (ad 10)) (C := RX6) (T := TX6) (N := 7) hx hb hts i_X6 hown hK hP 0 rfl rfl 1 (by decide) f_20 rfl dX6_meant_65 ?_
                refine lv_iload hx hb dX6_meant_68 (lv_at hl 4 rfl) ?_
                refine lv_iload_n hx hb dX6_meant_70 rfl (lv_at hl 2 rfl) ?_
                obtain ⟨v_10, e_10, hR⟩ := b1_some hR
                refine bc_i (va_runV (As := [.int y4_39, .int x2]) (rest := []) ⟨hx, hb, hml, hown, hts⟩ (c_X1_moodsSounding l D cI cO ad _ e_10) (cwV 2 hts gX6_meant_X1_moodsSounding rfl rfl rfl (by decide +kernel) ⟨Nat.le_of_ble_eq_true rfl, Nat.le_of_ble_eq_true rfl⟩) (preV hK hN hP hD (va_recv hK hP (ci := 1) (q0 := 10) rfl rfl)) rfl rfl hl.1 rfl (lv_room (Nat.le_of_ble_eq_true rfl)) dX6_meant_71 ⟨Nat.zero_le _, Nat.zero_le _⟩) hS hD hA (fun H locs hP hD hS => ?_)
                refine lv_if_le (tgt := 84) hx hb dX6_meant_74 (by decide) (fun c_11 => ?_) (fun c_11 => ?_)
                · have hR := (if_pos c_11).symm.trans hR
                  refine lv_iinc (v := y4_39 + 1) (lv' := [(4, .int (y4_39 + 1)), (0, .ref (ad 0)), (1, .int x1), (2, .int x2), (3, .int y3_39)]) hx hb dX6_meant_84 hl (k := 4) rfl rfl (by decide) rfl (fun ls hl => ?_)
                  refine lv_goto (tgt := 39) hx hb dX6_meant_87 (by decide) ?_
                  exact ih_39 _ _ _ _ _ hR hP hD hS (lv_sub hl [1, 2, 3, 4, 0] rfl)
                · have hR := (if_neg c_11).symm.trans hR
                  refine lv_iload_n hx hb dX6_meant_77 rfl (lv_at hl 3 rfl) ?_
                  refine lv_iconst (v := 1) hx hb dX6_meant_78 (by decide) ?_
                  refine lv_iload hx hb dX6_meant_79 (lv_at hl 4 rfl) ?_
                  refine lv_ishl hx hb dX6_meant_81 ?_
                  refine W.eq (g2 := F0 m 82 ls (.int (jshl 1 y4_39) :: [.int y3_39])) rfl ?_
                  refine lv_ior hx hb dX6_meant_82 ?_
                  refine lv_istore_n (lv' := [(3, .int (y3_39 ||| (jshl 1 y4_39))), (0, .ref (ad 0)), (1, .int x1), (2, .int x2), (4, .int y4_39)]) hx hb dX6_meant_83 rfl hl (by decide) rfl (fun ls hl => ?_)
                  refine lv_iinc (v := y4_39 + 1) (lv' := [(4, .int (y4_39 + 1)), (3, .int (y3_39 ||| (jshl 1 y4_39))), (0, .ref (ad 0)), (1, .int x1), (2, .int x2)]) hx hb dX6_meant_84 hl (k := 4) rfl rfl (by decide) rfl (fun ls hl => ?_)
                  refine lv_goto (tgt := 39) hx hb dX6_meant_87 (by decide) ?_
                  exact ih_39 _ _ _ _ _ hR hP hD hS (lv_sub hl [2, 3, 4, 1, 0] rfl)
        exact lp_39 _ _ _ _ _ _ hR hP hD hS (lv_sub hl [2, 3, 4, 1, 0] rfl)
      · have hR := (if_neg c_6).symm.trans hR
        refine lv_bipush (v := (-3)) hx hb dX6_meant_31 (by decide) ?_
        exact ret_ _ _ _ _ _ _ dX6_meant_33  (Option.some.inj hR) rfl hP hD hS
    · have hR := (if_pos c_4).symm.trans hR
      refine lv_bipush (v := (-2)) hx hb dX6_meant_18 (by decide) ?_
      exact ret_ _ _ _ _ _ _ dX6_meant_20  (Option.some.inj hR) rfl hP hD hS
abbrev rm_X6_family : Room := { frames := 4, cells := 0, slots := 0, locals := 88 }
set_option maxHeartbeats 4000000 in
set_option maxRecDepth 100000 in
theorem c_X6_family (l : Launch) (D : va_G) (cI cO : ClassId) (ad : Nat → Nat) (sz : Nat) {st : St} {x1 : Int32} {r : Int32} {s2 : St} (hR : F_X6_family st x1 = some (r, s2)) : CI l yX6_family wsX6_family rm_X6_family D cI cO [.ref (ad 0), .int x1] (BW cI cO ad st) (BW cI cO ad s2) sz r := by
  refine mk_i (cc := cX6_family) (maxL := 3) (own := RX6) rfl (by decide) rfl (Nat.le_of_ble_eq_true rfl) ?_
  intro p e s m args below meth c A Q ls hx hb hml hown hts hK hN hA ret_ hP hD hS hl
  have i_X6 : ∀ w ∈ u_ws RX6 TX6 7, w ∈ wsX6_family := (fun _ h => List.mem_cons_of_mem _ (List.mem_append_left _ (List.mem_append_left _ (List.mem_append_right _ h))))
  have i_X1 : ∀ w ∈ u_ws RX1 TX1 7, w ∈ wsX6_family := (fun _ h => List.mem_cons_of_mem _ (List.mem_append_left _ (List.mem_append_right _ h)))
  have i_X0 : ∀ w ∈ u_ws RX0 TX0 3, w ∈ wsX6_family := (fun _ h => List.mem_cons_of_mem _ (List.mem_append_right _ h))
  have f_20 := hts (.fieldLink RX6 20 "BellNames" "herd" "LBellNames$Herd;") (by decide +kernel)
  have f_80 := hts (.fieldLink RX6 80 "BellNames$Herd" "count" "I") (by decide +kernel)
  have f_34 := hts (.fieldLink RX6 34 "BellNames" "families" "LBellNames$Families;") (by decide +kernel)
  have f_131 := hts (.fieldLink RX6 131 "BellNames$Families" "sounds" "[I") (by decide +kernel)
  have hl : lv_has ls 3 [(0, .ref (ad 0)), (1, .int x1)] := hl
  unfold F_X6_family at hR
  refine lv_aload_n hx hb dX6_family_0 rfl (lv_at hl 0 rfl) ?_
  refine bw_get (ci := 5) (v := .ref (ad 10)) (C := RX6) (T := TX6) (N := 7) hx hb hts i_X6 hown hK hP 0 rfl rfl 1 (by decide) f_20 rfl dX6_family_1 ?_
  refine lv_iload_n hx hb dX6_family_4 rfl (lv_at hl 1 rfl) ?_
  obtain ⟨v_1, e_1, hR⟩ := b1_some hR
  refine bc_z (va_runV (As := [.int x1]) (rest := []) ⟨hx, hb, hml, hown, hts⟩ (c_X1_hasBell l D cI cO ad _ e_1) (cwV 1 hts gX6_family_X1_hasBell rfl rfl rfl (by decide +kernel) ⟨Nat.le_of_ble_eq_true rfl, Nat.le_of_ble_eq_true rfl⟩) (preV hK hN hP hD (va_recv hK hP (ci := 1) (q0 := 10) rfl rfl)) rfl rfl hl.1 rfl (lv_room (Nat.le_of_ble_eq_true rfl)) dX6_family_5 ⟨Nat.zero_le _, Nat.zero_le _⟩) hS hD hA (fun H locs hP hD hS n_1 => ?_)
  refine lv_if_ne (tgt := 13) hx hb dX6_family_8 (by decide) (fun c_2 => ?_) (fun c_2 => ?_)
  · have hR := (if_neg c_2).symm.trans hR
    refine lv_iconst (v := 0) hx hb dX6_family_13 (by decide) ?_
    refine lv_istore_n (lv' := [(2, .int 0), (0, .ref (ad 0)), (1, .int x1)]) hx hb dX6_family_14 rfl hl (by decide) rfl (fun ls hl => ?_)
    have lp_15 : ∀ (n_15 : Nat) (y2_15 : Int32) (z_15 : St) (H : Heap) (locs : List Loc) (ls : Array Slot), L_X6_family_15 (fun y2_15 z_15 => b1 (F_X0_familyOf z_15 x1 (gI z_15 2)) (fun v_4 => some (v_4, z_15))) n_15 y2_15 z_15 = some (r, s2) → va_P D vwCl (BW cI cO ad z_15) H → va_D A (BW cI cO ad z_15) → va_S A s.heap H locs → lv_has ls 3 [(0, .ref (ad 0)), (1, .int x1), (2, .int y2_15)] → W p l e rm_X6_family s m args below meth c H locs 0 0 Q (F0 m 15 ls []) := by
      intro n_15
      induction n_15 with
      | zero => intro y2_15 z_15 H locs ls hR; exact absurd (L_X6_family_15_z.symm.trans hR) (fun h => nomatch h)
      | succ n_15 ih_15 =>
        intro y2_15 z_15 H locs ls hR hP hD hS hl
        have hR := L_X6_family_15_s.symm.trans hR
        refine lv_iload_n hx hb dX6_family_15 rfl (lv_at hl 2 rfl) ?_
        refine lv_aload_n hx hb dX6_family_16 rfl (lv_at hl 0 rfl) ?_
        refine bw_get (ci := 5) (v := .ref (ad 10)) (C := RX6) (T := TX6) (N := 7) hx hb hts i_X6 hown hK hP 0 rfl rfl 1 (by decide) f_20 rfl dX6_family_17 ?_
        refine bw_get (ci := 1) (v := .int (gI z_15 2)) (C := RX1) (T := TX1) (N := 7) hx hb hts i_X1 hown hK hP 10 rfl rfl 4 (by decide) f_80 rfl dX6_family_20 ?_
        refine lv_icmp_ge (tgt := 49) hx hb dX6_family_23 (by decide) (fun c_3 => ?_) (fun c_3 => ?_)
        · have hR := (if_pos c_3).symm.trans hR
          refine lv_aload_n hx hb dX6_family_49 rfl (lv_at hl 0 rfl) ?_
          refine bw_get (ci := 5) (v := .ref (ad 19)) (C := RX6) (T := TX6) (N := 7) hx hb hts i_X6 hown hK hP 0 rfl rfl 3 (by decide) f_34 rfl dX6_family_50 ?_
          refine lv_iload_n hx hb dX6_family_53 rfl (lv_at hl 1 rfl) ?_
          refine lv_aload_n hx hb dX6_family_54 rfl (lv_at hl 0 rfl) ?_
          refine bw_get (ci := 5) (v := .ref (ad 10)) (C := RX6) (T := TX6) (N := 7) hx hb hts i_X6 hown hK hP 0 rfl rfl 1 (by decide) f_20 rfl dX6_family_55 ?_
          refine bw_get (ci := 1) (v := .int (gI z_15 2)) (C := RX1) (T := TX1) (N := 7) hx hb hts i_X1 hown hK hP 10 rfl rfl 4 (by decide) f_80 rfl dX6_family_58 ?_
          obtain ⟨v_4, e_4, hR⟩ := b1_some hR
          refine bc_i (va_runV (As := [.int x1, .int (gI z_15 2)]) (rest := []) ⟨hx, hb, hml, hown, hts⟩ (c_X0_familyOf l D cI cO ad _ e_4) (cwV 2 hts gX6_family_X0_familyOf rfl rfl rfl (by decide +kernel) ⟨Nat.le_of_ble_eq_true rfl, Nat.le_of_ble_eq_true rfl⟩) (preV hK hN hP hD (va_recv hK hP (ci := 0) (q0 := 19) rfl rfl)) rfl rfl hl.1 rfl (lv_room (Nat.le_of_ble_eq_true rfl)) dX6_family_61 ⟨Nat.zero_le _, Nat.zero_le _⟩) hS hD hA (fun H locs hP hD hS => ?_)
          exact ret_ _ _ _ _ _ _ dX6_family_64  (sp1 hR) (congrArg (fun z => (BW cI cO ad z)) (sp2 hR)) hP hD hS
        · have hR := (if_neg c_3).symm.trans hR
          refine lv_aload_n hx hb dX6_family_26 rfl (lv_at hl 0 rfl) ?_
          refine bw_get (ci := 5) (v := .ref (ad 19)) (C := RX6) (T := TX6) (N := 7) hx hb hts i_X6 hown hK hP 0 rfl rfl 3 (by decide) f_34 rfl dX6_family_27 ?_
          refine bw_get (ci := 0) (v := .ref (ad 20)) (C := RX0) (T := TX0) (N := 3) hx hb hts i_X0 hown hK hP 19 rfl rfl 0 (by decide) f_131 rfl dX6_family_30 ?_
          refine lv_iload_n hx hb dX6_family_33 rfl (lv_at hl 2 rfl) ?_
          refine lv_aload_n hx hb dX6_family_34 rfl (lv_at hl 0 rfl) ?_
          refine bw_get (ci := 5) (v := .ref (ad 10)) (C := RX6) (T := TX6) (N := 7) hx hb hts i_X6 hown hK hP 0 rfl rfl 1 (by decide) f_20 rfl dX6_family_35 ?_
          refine lv_iload_n hx hb dX6_family_38 rfl (lv_at hl 2 rfl) ?_
          obtain ⟨v_5, e_5, hR⟩ := b1_some hR
          refine bc_i (va_runV (As := [.int y2_15]) (rest := [.int y2_15, .ref (ad 20)]) ⟨hx, hb, hml, hown, hts⟩ (c_X1_soundNow l D cI cO ad _ e_5) (cwV 1 hts gX6_family_X1_soundNow rfl rfl rfl (by decide +kernel) ⟨Nat.le_of_ble_eq_true rfl, Nat.le_of_ble_eq_true rfl⟩) (preV hK hN hP hD (va_recv hK hP (ci := 1) (q0 := 10) rfl rfl)) rfl rfl hl.1 rfl (lv_room (Nat.le_of_ble_eq_true rfl)) dX6_family_39 ⟨Nat.zero_le _, Nat.zero_le _⟩) hS hD hA (fun H locs hP hD hS => ?_)
          obtain ⟨h_6, hR⟩ := ck_some hR
          refine bw_ast (w' := (BW cI cO ad (sA z_15 7 y2_15 v_5))) hx hb hK hP hD hS 20 rfl h_6 (BW_a7 cI cO ad _ _) dX6_family_42 (fun H locs hP hD hS => ?_)
          refine lv_iinc (v := y2_15 + 1) (lv' := [(2, .int (y2_15 + 1)), (0, .ref (ad 0)), (1, .int x1)]) hx hb dX6_family_43 hl (k := 2) rfl rfl (by decide) rfl (fun ls hl => ?_)
          refine lv_goto (tgt := 15) hx hb dX6_family_46 (by decide) ?_
          exact ih_15 _ _ _ _ _ hR hP hD hS (lv_sub hl [1, 2, 0] rfl)
    exact lp_15 _ _ _ _ _ _ hR hP hD hS (lv_sub hl [1, 2, 0] rfl)
  · have hR := (if_pos c_2).symm.trans hR
    refine lv_iconst (v := (-1)) hx hb dX6_family_11 (by decide) ?_
    exact ret_ _ _ _ _ _ _ dX6_family_12  (sp1 hR) (congrArg (fun z => (BW cI cO ad z)) (sp2 hR)) hP hD hS
abbrev rm_X6_isOfGoings : Room := { frames := 1, cells := 0, slots := 0, locals := 21 }
set_option maxHeartbeats 4000000 in
set_option maxRecDepth 100000 in
theorem c_X6_isOfGoings (l : Launch) (D : va_G) (cI cO : ClassId) (ad : Nat → Nat) (sz : Nat) {st : St} {x0 : Int32} {r : Int32} (hR : F_X6_isOfGoings st x0 = some r) : CZ l yX6_isOfGoings wsX6_isOfGoings rm_X6_isOfGoings D cI cO [.int x0] (BW cI cO ad st) (BW cI cO ad st) sz r := by
  refine mk_z (cc := cX6_isOfGoings) (maxL := 1) (own := RX6) rfl (by decide) rfl (Nat.le_of_ble_eq_true rfl) ?_
  intro p e s m args below meth c A Q ls hx hb hml hown hts hK hN hA ret_ hP hD hS hl
  have hl : lv_has ls 1 [(0, .int x0)] := hl
  unfold F_X6_isOfGoings at hR
  refine lv_iload_n hx hb dX6_isOfGoings_0 rfl (lv_at hl 0 rfl) ?_
  refine lv_iconst (v := 4) hx hb dX6_isOfGoings_1 (by decide) ?_
  obtain ⟨v_1, e_1, hR⟩ := b1_some hR
  refine bc_z (va_runS (As := [.int x0, .int 4]) (rest := []) ⟨hx, hb, hml, hown, hts⟩ (c_X6_isBelow l D cI cO ad _ e_1) (va_cwS 2 hts gX6_isOfGoings_X6_isBelow rfl rfl rfl (by decide +kernel) ⟨Nat.le_of_ble_eq_true rfl, Nat.le_of_ble_eq_true rfl⟩) (preS hK hN hP hD) rfl rfl hl.1 rfl (lv_room (Nat.le_of_ble_eq_true rfl)) dX6_isOfGoings_2 ⟨Nat.zero_le _, Nat.zero_le _⟩) hS hD hA (fun H locs hP hD hS n_1 => ?_)
  refine lv_if_ne (tgt := 19) hx hb dX6_isOfGoings_5 (by decide) (fun c_2 => ?_) (fun c_2 => ?_)
  · have hR := (if_neg c_2).symm.trans hR
    refine lv_iconst (v := 1) hx hb dX6_isOfGoings_19 (by decide) ?_
    refine lv_goto (tgt := 24) hx hb dX6_isOfGoings_20 (by decide) ?_
    exact ret_ _ _ _ _ _ _ dX6_isOfGoings_24 (by decide) (Option.some.inj hR) rfl hP hD hS
  · have hR := (if_pos c_2).symm.trans hR
    refine lv_iload_n hx hb dX6_isOfGoings_8 rfl (lv_at hl 0 rfl) ?_
    refine lv_bipush (v := 10) hx hb dX6_isOfGoings_9 (by decide) ?_
    refine lv_isub hx hb dX6_isOfGoings_11 ?_
    refine lv_iconst (v := 5) hx hb dX6_isOfGoings_12 (by decide) ?_
    obtain ⟨v_3, e_3, hR⟩ := b1_some hR
    refine bc_z (va_runS (As := [.int (x0 - 10), .int 5]) (rest := []) ⟨hx, hb, hml, hown, hts⟩ (c_X6_isBelow l D cI cO ad _ e_3) (va_cwS 2 hts gX6_isOfGoings_X6_isBelow rfl rfl rfl (by decide +kernel) ⟨Nat.le_of_ble_eq_true rfl, Nat.le_of_ble_eq_true rfl⟩) (preS hK hN hP hD) rfl rfl hl.1 rfl (lv_room (Nat.le_of_ble_eq_true rfl)) dX6_isOfGoings_13 ⟨Nat.zero_le _, Nat.zero_le _⟩) hS hD hA (fun H locs hP hD hS n_3 => ?_)
    refine lv_if_eq (tgt := 23) hx hb dX6_isOfGoings_16 (by decide) (fun c_4 => ?_) (fun c_4 => ?_)
    · have hR := (if_pos c_4).symm.trans hR
      refine lv_iconst (v := 0) hx hb dX6_isOfGoings_23 (by decide) ?_
      exact ret_ _ _ _ _ _ _ dX6_isOfGoings_24 (by decide) (Option.some.inj hR) rfl hP hD hS
    · have hR := (if_neg c_4).symm.trans hR
      refine lv_iconst (v := 1) hx hb dX6_isOfGoings_19 (by decide) ?_
      refine lv_goto (tgt := 24) hx hb dX6_isOfGoings_20 (by decide) ?_
      exact ret_ _ _ _ _ _ _ dX6_isOfGoings_24 (by decide) (Option.some.inj hR) rfl hP hD hS
abbrev rm_J6_bitCount_0f7a4 : Room := { frames := 0, cells := 0, slots := 0, locals := 0 }
set_option maxHeartbeats 4000000 in
set_option maxRecDepth 100000 in
theorem c_J6_bitCount_0f7a4 (l : Launch) (D : va_G) (cI cO : ClassId) (ad : Nat → Nat) (sz : Nat) {st : St} {x0 : Int32} {r : Int32} (hR : F_J6_bitCount_0f7a4 st x0 = some r) : CI l yJ6_bitCount_0f7a4 wsJ6_bitCount_0f7a4 rm_J6_bitCount_0f7a4 D cI cO [.int x0] (BW cI cO ad st) (BW cI cO ad st) sz r := by
  refine mk_i (cc := cJ6_bitCount_0f7a4) (maxL := 1) (own := RJ6) rfl (by decide) rfl (Nat.le_of_ble_eq_true rfl) ?_
  intro p e s m args below meth c A Q ls hx hb hml hown hts hK hN hA ret_ hP hD hS hl
  have k_265 := hts (.constant RJ6 265 1431655765) (by decide +kernel)
  have k_266 := hts (.constant RJ6 266 858993459) (by decide +kernel)
  have k_267 := hts (.constant RJ6 267 252645135) (by decide +kernel)
  have hl : lv_has ls 1 [(0, .int x0)] := hl
  unfold F_J6_bitCount_0f7a4 at hR
  refine lv_iload_n hx hb dJ6_bitCount_0f7a4_0 rfl (lv_at hl 0 rfl) ?_
  refine lv_iload_n hx hb dJ6_bitCount_0f7a4_1 rfl (lv_at hl 0 rfl) ?_
  refine lv_iconst (v := 1) hx hb dJ6_bitCount_0f7a4_2 (by decide) ?_
  refine lv_iushr (v := jushr x0 1) hx hb dJ6_bitCount_0f7a4_3 rfl ?_
  refine lv_ldcw hx hb hown k_265 dJ6_bitCount_0f7a4_4 ?_
  refine lv_iand hx hb dJ6_bitCount_0f7a4_7 ?_
  refine lv_isub hx hb dJ6_bitCount_0f7a4_8 ?_
  refine lv_istore_n (lv' := [(0, .int (x0 - ((jushr x0 1) &&& 1431655765)))]) hx hb dJ6_bitCount_0f7a4_9 rfl hl (by decide) rfl (fun ls hl => ?_)
  refine lv_iload_n hx hb dJ6_bitCount_0f7a4_10 rfl (lv_at hl 0 rfl) ?_
  refine lv_ldcw hx hb hown k_266 dJ6_bitCount_0f7a4_11 ?_
  refine lv_iand hx hb dJ6_bitCount_0f7a4_14 ?_
  refine lv_iload_n hx hb dJ6_bitCount_0f7a4_15 rfl (lv_at hl 0 rfl) ?_
  refine lv_iconst (v := 2) hx hb dJ6_bitCount_0f7a4_16 (by decide) ?_
  refine lv_iushr (v := jushr (x0 - ((jushr x0 1) &&& 1431655765)) 2) hx hb dJ6_bitCount_0f7a4_17 rfl ?_
  refine lv_ldcw hx hb hown k_266 dJ6_bitCount_0f7a4_18 ?_
  refine lv_iand hx hb dJ6_bitCount_0f7a4_21 ?_
  refine lv_iadd hx hb dJ6_bitCount_0f7a4_22 ?_
  refine lv_istore_n (lv' := [(0, .int (((x0 - ((jushr x0 1) &&& 1431655765)) &&& 858993459) + ((jushr (x0 - ((jushr x0 1) &&& 1431655765)) 2) &&& 858993459)))]) hx hb dJ6_bitCount_0f7a4_23 rfl hl (by decide) rfl (fun ls hl => ?_)
  refine lv_iload_n hx hb dJ6_bitCount_0f7a4_24 rfl (lv_at hl 0 rfl) ?_
  refine lv_iload_n hx hb dJ6_bitCount_0f7a4_25 rfl (lv_at hl 0 rfl) ?_
  refine lv_iconst (v := 4) hx hb dJ6_bitCount_0f7a4_26 (by decide) ?_
  refine lv_iushr (v := jushr (((x0 - ((jushr x0 1) &&& 1431655765)) &&& 858993459) + ((jushr (x0 - ((jushr x0 1) &&& 1431655765)) 2) &&& 858993459)) 4) hx hb dJ6_bitCount_0f7a4_27 rfl ?_
  refine lv_iadd hx hb dJ6_bitCount_0f7a4_28 ?_
  refine lv_ldcw hx hb hown k_267 dJ6_bitCount_0f7a4_29 ?_
  refine lv_iand hx hb dJ6_bitCount_0f7a4_32 ?_
  refine lv_istore_n (lv' := [(0, .int (((((x0 - ((jushr x0 1) &&& 1431655765)) &&& 858993459) + ((jushr (x0 - ((jushr x0 1) &&& 1431655765)) 2) &&& 858993459)) + (jushr (((x0 - ((jushr x0 1) &&& 1431655765)) &&& 858993459) + ((jushr (x0 - ((jushr x0 1) &&& 1431655765)) 2) &&& 858993459)) 4)) &&& 252645135))]) hx hb dJ6_bitCount_0f7a4_33 rfl hl (by decide) rfl (fun ls hl => ?_)
  refine lv_iload_n hx hb dJ6_bitCount_0f7a4_34 rfl (lv_at hl 0 rfl) ?_
  refine lv_iload_n hx hb dJ6_bitCount_0f7a4_35 rfl (lv_at hl 0 rfl) ?_
  refine lv_bipush (v := 8) hx hb dJ6_bitCount_0f7a4_36 (by decide) ?_
  refine lv_iushr (v := jushr (((((x0 - ((jushr x0 1) &&& 1431655765)) &&& 858993459) + ((jushr (x0 - ((jushr x0 1) &&& 1431655765)) 2) &&& 858993459)) + (jushr (((x0 - ((jushr x0 1) &&& 1431655765)) &&& 858993459) + ((jushr (x0 - ((jushr x0 1) &&& 1431655765)) 2) &&& 858993459)) 4)) &&& 252645135) 8) hx hb dJ6_bitCount_0f7a4_38 rfl ?_
  refine lv_iadd hx hb dJ6_bitCount_0f7a4_39 ?_
  refine lv_istore_n (lv' := [(0, .int ((((((x0 - ((jushr x0 1) &&& 1431655765)) &&& 858993459) + ((jushr (x0 - ((jushr x0 1) &&& 1431655765)) 2) &&& 858993459)) + (jushr (((x0 - ((jushr x0 1) &&& 1431655765)) &&& 858993459) + ((jushr (x0 - ((jushr x0 1) &&& 1431655765)) 2) &&& 858993459)) 4)) &&& 252645135) + (jushr (((((x0 - ((jushr x0 1) &&& 1431655765)) &&& 858993459) + ((jushr (x0 - ((jushr x0 1) &&& 1431655765)) 2) &&& 858993459)) + (jushr (((x0 - ((jushr x0 1) &&& 1431655765)) &&& 858993459) + ((jushr (x0 - ((jushr x0 1) &&& 1431655765)) 2) &&& 858993459)) 4)) &&& 252645135) 8)))]) hx hb dJ6_bitCount_0f7a4_40 rfl hl (by decide) rfl (fun ls hl => ?_)
  refine lv_iload_n hx hb dJ6_bitCount_0f7a4_41 rfl (lv_at hl 0 rfl) ?_
  refine lv_iload_n hx hb dJ6_bitCount_0f7a4_42 rfl (lv_at hl 0 rfl) ?_
  refine lv_bipush (v := 16) hx hb dJ6_bitCount_0f7a4_43 (by decide) ?_
  refine lv_iushr (v := jushr ((((((x0 - ((jushr x0 1) &&& 1431655765)) &&& 858993459) + ((jushr (x0 - ((jushr x0 1) &&& 1431655765)) 2) &&& 858993459)) + (jushr (((x0 - ((jushr x0 1) &&& 1431655765)) &&& 858993459) + ((jushr (x0 - ((jushr x0 1) &&& 1431655765)) 2) &&& 858993459)) 4)) &&& 252645135) + (jushr (((((x0 - ((jushr x0 1) &&& 1431655765)) &&& 858993459) + ((jushr (x0 - ((jushr x0 1) &&& 1431655765)) 2) &&& 858993459)) + (jushr (((x0 - ((jushr x0 1) &&& 1431655765)) &&& 858993459) + ((jushr (x0 - ((jushr x0 1) &&& 1431655765)) 2) &&& 858993459)) 4)) &&& 252645135) 8)) 16) hx hb dJ6_bitCount_0f7a4_45 rfl ?_
  refine lv_iadd hx hb dJ6_bitCount_0f7a4_46 ?_
  refine lv_istore_n (lv' := [(0, .int (((((((x0 - ((jushr x0 1) &&& 1431655765)) &&& 858993459) + ((jushr (x0 - ((jushr x0 1) &&& 1431655765)) 2) &&& 858993459)) + (jushr (((x0 - ((jushr x0 1) &&& 1431655765)) &&& 858993459) + ((jushr (x0 - ((jushr x0 1) &&& 1431655765)) 2) &&& 858993459)) 4)) &&& 252645135) + (jushr (((((x0 - ((jushr x0 1) &&& 1431655765)) &&& 858993459) + ((jushr (x0 - ((jushr x0 1) &&& 1431655765)) 2) &&& 858993459)) + (jushr (((x0 - ((jushr x0 1) &&& 1431655765)) &&& 858993459) + ((jushr (x0 - ((jushr x0 1) &&& 1431655765)) 2) &&& 858993459)) 4)) &&& 252645135) 8)) + (jushr ((((((x0 - ((jushr x0 1) &&& 1431655765)) &&& 858993459) + ((jushr (x0 - ((jushr x0 1) &&& 1431655765)) 2) &&& 858993459)) + (jushr (((x0 - ((jushr x0 1) &&& 1431655765)) &&& 858993459) + ((jushr (x0 - ((jushr x0 1) &&& 1431655765)) 2) &&& 858993459)) 4)) &&& 252645135) + (jushr (((((x0 - ((jushr x0 1) &&& 1431655765)) &&& 858993459) + ((jushr (x0 - ((jushr x0 1) &&& 1431655765)) 2) &&& 858993459)) + (jushr (((x0 - ((jushr x0 1) &&& 1431655765)) &&& 858993459) + ((jushr (x0 - ((jushr x0 1) &&& 1431655765)) 2) &&& 858993459)) 4)) &&& 252645135) 8)) 16)))]) hx hb dJ6_bitCount_0f7a4_47 rfl hl (by decide) rfl (fun ls hl => ?_)
  refine lv_iload_n hx hb dJ6_bitCount_0f7a4_48 rfl (lv_at hl 0 rfl) ?_
  refine lv_bipush (v := 63) hx hb dJ6_bitCount_0f7a4_49 (by decide) ?_
  refine lv_iand hx hb dJ6_bitCount_0f7a4_51 ?_
  exact ret_ _ _ _ _ _ _ dJ6_bitCount_0f7a4_52  (Option.some.inj hR) rfl hP hD hS
abbrev rm_X6_loudestSpot : Room := { frames := 3, cells := 0, slots := 0, locals := 67 }
set_option maxHeartbeats 4000000 in
set_option maxRecDepth 100000 in
theorem c_X6_loudestSpot (l : Launch) (D : va_G) (cI cO : ClassId) (ad : Nat → Nat) (sz : Nat) {st : St} {r : Int32} (hR : F_X6_loudestSpot st = some r) : CI l yX6_loudestSpot wsX6_loudestSpot rm_X6_loudestSpot D cI cO [.ref (ad 0)] (BW cI cO ad st) (BW cI cO ad st) sz r := by
  refine mk_i (cc := cX6_loudestSpot) (maxL := 5) (own := RX6) rfl (by decide) rfl (Nat.le_of_ble_eq_true rfl) ?_
  intro p e s m args below meth c A Q ls hx hb hml hown hts hK hN hA ret_ hP hD hS hl
  have i_X6 : ∀ w ∈ u_ws RX6 TX6 7, w ∈ wsX6_loudestSpot := (fun _ h => List.mem_cons_of_mem _ (List.mem_append_left _ (List.mem_append_left _ (List.mem_append_right _ h))))
  have i_X5 : ∀ w ∈ u_ws RX5 TX5 3, w ∈ wsX6_loudestSpot := (fun _ h => List.mem_cons_of_mem _ (List.mem_append_left _ (List.mem_append_right _ h)))
  have f_20 := hts (.fieldLink RX6 20 "BellNames" "herd" "LBellNames$Herd;") (by decide +kernel)
  have f_41 := hts (.fieldLink RX6 41 "BellNames" "walk" "LBellNames$Walk;") (by decide +kernel)
  have f_223 := hts (.fieldLink RX6 223 "BellNames$Walk" "spotOf" "[I") (by decide +kernel)
  have hl : lv_has ls 5 [(0, .ref (ad 0))] := hl
  unfold F_X6_loudestSpot at hR
  refine lv_iconst (v := 0) hx hb dX6_loudestSpot_0 (by decide) ?_
  refine lv_istore_n (lv' := [(1, .int 0), (0, .ref (ad 0))]) hx hb dX6_loudestSpot_1 rfl hl (by decide) rfl (fun ls hl => ?_)
  refine lv_iconst (v := 0) hx hb dX6_loudestSpot_2 (by decide) ?_
  refine lv_istore_n (lv' := [(2, .int 0), (1, .int 0), (0, .ref (ad 0))]) hx hb dX6_loudestSpot_3 rfl hl (by decide) rfl (fun ls hl => ?_)
  refine lv_iconst (v := 0) hx hb dX6_loudestSpot_4 (by decide) ?_
  refine lv_istore_n (lv' := [(3, .int 0), (2, .int 0), (1, .int 0), (0, .ref (ad 0))]) hx hb dX6_loudestSpot_5 rfl hl (by decide) rfl (fun ls hl => ?_)
  have lp_6 : ∀ (n_6 : Nat) (y1_6 : Int32) (y2_6 : Int32) (y3_6 : Int32) (H : Heap) (locs : List Loc) (ls : Array Slot), L_X6_loudestSpot_6 st (fun y1_6 y2_6 y3_6 => some y1_6) n_6 y1_6 y2_6 y3_6 = some r → va_P D vwCl (BW cI cO ad st) H → va_D A (BW cI cO ad st) → va_S A s.heap H locs → lv_has ls 5 [(0, .ref (ad 0)), (1, .int y1_6), (2, .int y2_6), (3, .int y3_6)] → W p l e rm_X6_loudestSpot s m args below meth c H locs 0 0 Q (F0 m 6 ls []) := by
    intro n_6
    induction n_6 with
    | zero => intro y1_6 y2_6 y3_6 H locs ls hR; exact absurd (L_X6_loudestSpot_6_z.symm.trans hR) (fun h => nomatch h)
    | succ n_6 ih_6 =>
      intro y1_6 y2_6 y3_6 H locs ls hR hP hD hS hl
      have hR := L_X6_loudestSpot_6_s.symm.trans hR
      refine lv_iload_n hx hb dX6_loudestSpot_6 rfl (lv_at hl 3 rfl) ?_
      refine lv_bipush (v := 10) hx hb dX6_loudestSpot_7 (by decide) ?_
      refine lv_icmp_ge (tgt := 49) hx hb dX6_loudestSpot_9 (by decide) (fun c_1 => ?_) (fun c_1 => ?_)
      · have hR := (if_pos c_1).symm.trans hR
        refine lv_iload_n hx hb dX6_loudestSpot_49 rfl (lv_at hl 1 rfl) ?_
        exact ret_ _ _ _ _ _ _ dX6_loudestSpot_50  (Option.some.inj hR) rfl hP hD hS
      · have hR := (if_neg c_1).symm.trans hR
        refine lv_aload_n hx hb dX6_loudestSpot_12 rfl (lv_at hl 0 rfl) ?_
        refine bw_get (ci := 5) (v := .ref (ad 10)) (C := RX6) (T := TX6) (N := 7) hx hb hts i_X6 hown hK hP 0 rfl rfl 1 (by decide) f_20 rfl dX6_loudestSpot_13 ?_
        refine lv_aload_n hx hb dX6_loudestSpot_16 rfl (lv_at hl 0 rfl) ?_
        refine bw_get (ci := 5) (v := .ref (ad 22)) (C := RX6) (T := TX6) (N := 7) hx hb hts i_X6 hown hK hP 0 rfl rfl 4 (by decide) f_41 rfl dX6_loudestSpot_17 ?_
        refine bw_get (ci := 4) (v := .ref (ad 23)) (C := RX5) (T := TX5) (N := 3) hx hb hts i_X5 hown hK hP 22 rfl rfl 0 (by decide) f_223 rfl dX6_loudestSpot_20 ?_
        refine lv_iload_n hx hb dX6_loudestSpot_23 rfl (lv_at hl 3 rfl) ?_
        obtain ⟨v_2, e_2, hR⟩ := b1_some hR
        refine bc_i (va_runV (As := [.ref (ad 23), .int y3_6]) (rest := []) ⟨hx, hb, hml, hown, hts⟩ (c_X1_heardFrom_23 l D cI cO ad _ e_2) (cwV 2 hts gX6_loudestSpot_X1_heardFrom rfl rfl rfl (by decide +kernel) ⟨Nat.le_of_ble_eq_true rfl, Nat.le_of_ble_eq_true rfl⟩) (preV hK hN hP hD (va_recv hK hP (ci := 1) (q0 := 10) rfl rfl)) rfl rfl hl.1 rfl (lv_room (Nat.le_of_ble_eq_true rfl)) dX6_loudestSpot_24 ⟨Nat.zero_le _, Nat.zero_le _⟩) hS hD hA (fun H locs hP hD hS => ?_)
        obtain ⟨v_3, e_3, hR⟩ := b1_some hR
        refine bc_i (va_runS (As := [.int v_2]) (rest := []) ⟨hx, hb, hml, hown, hts⟩ (c_J6_bitCount_0f7a4 l D cI cO ad _ e_3) (va_cwS 1 hts gX6_loudestSpot_J6_bitCount_0f7a4 rfl rfl rfl (by decide +kernel) ⟨Nat.le_of_ble_eq_true rfl, Nat.le_of_ble_eq_true rfl⟩) (preS hK hN hP hD) rfl rfl hl.1 rfl (lv_room (Nat.le_of_ble_eq_true rfl)) dX6_loudestSpot_27 ⟨Nat.zero_le _, Nat.zero_le _⟩) hS hD hA (fun H locs hP hD hS => ?_)
        refine lv_istore (lv' := [(4, .int v_3), (0, .ref (ad 0)), (1, .int y1_6), (2, .int y2_6), (3, .int y3_6)]) hx hb dX6_loudestSpot_30 hl (by decide) rfl (fun ls hl => ?_)
        refine lv_iload hx hb dX6_loudestSpot_32 (lv_at hl 0 rfl) ?_
        refine lv_iload_n hx hb dX6_loudestSpot_34 rfl (lv_at hl 3 rfl) ?_
        refine lv_icmp_le (tgt := 43) hx hb dX6_loudestSpot_35 (by decide) (fun c_4 => ?_) (fun c_4 => ?_)
        · have hR := (if_pos c_4).symm.trans hR
          refine lv_iinc (v := y3_6 + 1) (lv' := [(3, .int (y3_6 + 1)), (4, .int v_3), (0, .ref (ad 0)), (1, .int y1_6), (2, .int y2_6)]) hx hb dX6_loudestSpot_43 hl (k := 4) rfl rfl (by decide) rfl (fun ls hl => ?_)
          refine lv_goto (tgt := 6) hx hb dX6_loudestSpot_46 (by decide) ?_
          exact ih_6 _ _ _ _ _ _ hR hP hD hS (lv_sub hl [2, 3, 4, 0] rfl)
        · have hR := (if_neg c_4).symm.trans hR
          refine lv_iload_n hx hb dX6_loudestSpot_38 rfl (lv_at hl 4 rfl) ?_
          refine lv_istore_n (lv' := [(1, .int y3_6), (4, .int v_3), (0, .ref (ad 0)), (2, .int y2_6), (3, .int y3_6)]) hx hb dX6_loudestSpot_39 rfl hl (by decide) rfl (fun ls hl => ?_)
          refine lv_iload hx hb dX6_loudestSpot_40 (lv_at hl 1 rfl) ?_
          refine lv_istore_n (lv' := [(2, .int v_3), (1, .int y3_6), (4, .int v_3), (0, .ref (ad 0)), (3, .int y3_6)]) hx hb dX6_loudestSpot_42 rfl hl (by decide) rfl (fun ls hl => ?_)
          refine lv_iinc (v := y3_6 + 1) (lv' := [(3, .int (y3_6 + 1)), (2, .int v_3), (1, .int y3_6), (4, .int v_3), (0, .ref (ad 0))]) hx hb dX6_loudestSpot_43 hl (k := 4) rfl rfl (by decide) rfl (fun ls hl => ?_)
          refine lv_goto (tgt := 6) hx hb dX6_loudestSpot_46 (by decide) ?_
          exact ih_6 _ _ _ _ _ _ hR hP hD hS (lv_sub hl [4, 2, 1, 0] rfl)
  exact lp_6 _ _ _ _ _ _ _ hR hP hD hS (lv_sub hl [3, 2, 1, 0] rfl)
abbrev rm_X6_ofWalk : Room := { frames := 4, cells := 0, slots := 0, locals := 91 }
set_option maxHeartbeats 4000000 in
set_option maxRecDepth 100000 in
theorem c_X6_ofWalk (l : Launch) (D : va_G) (cI cO : ClassId) (ad : Nat → Nat) (sz : Nat) {st : St} {x1 : Int32} {r : Int32} (hR : F_X6_ofWalk st x1 = some r) : CI l yX6_ofWalk wsX6_ofWalk rm_X6_ofWalk D cI cO [.ref (ad 0), .int x1] (BW cI cO ad st) (BW cI cO ad st) sz r := by
  refine mk_i (cc := cX6_ofWalk) (maxL := 3) (own := RX6) rfl (by decide) rfl (Nat.le_of_ble_eq_true rfl) ?_
  intro p e s m args below meth c A Q ls hx hb hml hown hts hK hN hA ret_ hP hD hS hl
  have i_X6 : ∀ w ∈ u_ws RX6 TX6 7, w ∈ wsX6_ofWalk := (fun _ h => List.mem_cons_of_mem _ (List.mem_append_left _ (List.mem_append_left _ (List.mem_append_right _ h))))
  have i_X5 : ∀ w ∈ u_ws RX5 TX5 3, w ∈ wsX6_ofWalk := (fun _ h => List.mem_cons_of_mem _ (List.mem_append_left _ (List.mem_append_right _ h)))
  have f_41 := hts (.fieldLink RX6 41 "BellNames" "walk" "LBellNames$Walk;") (by decide +kernel)
  have f_220 := hts (.fieldLink RX6 220 "BellNames$Walk" "firstWrong" "I") (by decide +kernel)
  have f_20 := hts (.fieldLink RX6 20 "BellNames" "herd" "LBellNames$Herd;") (by decide +kernel)
  have f_223 := hts (.fieldLink RX6 223 "BellNames$Walk" "spotOf" "[I") (by decide +kernel)
  have f_229 := hts (.fieldLink RX6 229 "BellNames$Walk" "steps" "I") (by decide +kernel)
  have hl : lv_has ls 3 [(0, .ref (ad 0)), (1, .int x1)] := hl
  unfold F_X6_ofWalk at hR
  refine lv_iload_n hx hb dX6_ofWalk_0 rfl (lv_at hl 1 rfl) ?_
  refine lv_iconst (v := 1) hx hb dX6_ofWalk_1 (by decide) ?_
  refine lv_icmp_ne (tgt := 13) hx hb dX6_ofWalk_2 (by decide) (fun c_1 => ?_) (fun c_1 => ?_)
  · have hR := (if_neg c_1).symm.trans hR
    refine lv_aload_n hx hb dX6_ofWalk_13 rfl (lv_at hl 0 rfl) ?_
    refine bw_get (ci := 5) (v := .ref (ad 22)) (C := RX6) (T := TX6) (N := 7) hx hb hts i_X6 hown hK hP 0 rfl rfl 4 (by decide) f_41 rfl dX6_ofWalk_14 ?_
    refine bw_get (ci := 4) (v := .int (gI st 8)) (C := RX5) (T := TX5) (N := 3) hx hb hts i_X5 hown hK hP 22 rfl rfl 2 (by decide) f_220 rfl dX6_ofWalk_17 ?_
    refine lv_bipush (v := (-9)) hx hb dX6_ofWalk_20 (by decide) ?_
    refine lv_icmp_eq (tgt := 36) hx hb dX6_ofWalk_22 (by decide) (fun c_2 => ?_) (fun c_2 => ?_)
    · have hR := (if_pos c_2).symm.trans hR
      refine lv_iload_n hx hb dX6_ofWalk_36 rfl (lv_at hl 1 rfl) ?_
      refine lv_if_ne (tgt := 59) hx hb dX6_ofWalk_37 (by decide) (fun c_3 => ?_) (fun c_3 => ?_)
      · have hR := (if_neg c_3).symm.trans hR
        refine lv_iload_n hx hb dX6_ofWalk_59 rfl (lv_at hl 1 rfl) ?_
        refine lv_iconst (v := 2) hx hb dX6_ofWalk_60 (by decide) ?_
        refine lv_icmp_ne (tgt := 72) hx hb dX6_ofWalk_61 (by decide) (fun c_4 => ?_) (fun c_4 => ?_)
        · have hR := (if_neg c_4).symm.trans hR
          refine lv_iload_n hx hb dX6_ofWalk_72 rfl (lv_at hl 1 rfl) ?_
          refine lv_iconst (v := 3) hx hb dX6_ofWalk_73 (by decide) ?_
          refine lv_icmp_ne (tgt := 82) hx hb dX6_ofWalk_74 (by decide) (fun c_5 => ?_) (fun c_5 => ?_)
          · have hR := (if_neg c_5).symm.trans hR
            refine lv_iload_n hx hb dX6_ofWalk_82 rfl (lv_at hl 1 rfl) ?_
            refine lv_bipush (v := 10) hx hb dX6_ofWalk_83 (by decide) ?_
            refine lv_isub hx hb dX6_ofWalk_85 ?_
            refine lv_istore_n (lv' := [(2, .int (x1 - 10)), (0, .ref (ad 0)), (1, .int x1)]) hx hb dX6_ofWalk_86 rfl hl (by decide) rfl (fun ls hl => ?_)
            refine lv_aload_n hx hb dX6_ofWalk_87 rfl (lv_at hl 1 rfl) ?_
            refine bw_get (ci := 5) (v := .ref (ad 10)) (C := RX6) (T := TX6) (N := 7) hx hb hts i_X6 hown hK hP 0 rfl rfl 1 (by decide) f_20 rfl dX6_ofWalk_88 ?_
            refine lv_iload_n hx hb dX6_ofWalk_91 rfl (lv_at hl 0 rfl) ?_
            obtain ⟨v_6, e_6, hR⟩ := b1_some hR
            refine bc_z (va_runV (As := [.int (x1 - 10)]) (rest := []) ⟨hx, hb, hml, hown, hts⟩ (c_X1_hasBell l D cI cO ad _ e_6) (cwV 1 hts gX6_ofWalk_X1_hasBell rfl rfl rfl (by decide +kernel) ⟨Nat.le_of_ble_eq_true rfl, Nat.le_of_ble_eq_true rfl⟩) (preV hK hN hP hD (va_recv hK hP (ci := 1) (q0 := 10) rfl rfl)) rfl rfl hl.1 rfl (lv_room (Nat.le_of_ble_eq_true rfl)) dX6_ofWalk_92 ⟨Nat.zero_le _, Nat.zero_le _⟩) hS hD hA (fun H locs hP hD hS n_6 => ?_)
            refine lv_if_eq (tgt := 110) hx hb dX6_ofWalk_95 (by decide) (fun c_7 => ?_) (fun c_7 => ?_)
            · have hR := (if_pos c_7).symm.trans hR
              refine lv_bipush (v := (-9)) hx hb dX6_ofWalk_110 (by decide) ?_
              exact ret_ _ _ _ _ _ _ dX6_ofWalk_112  (Option.some.inj hR) rfl hP hD hS
            · have hR := (if_neg c_7).symm.trans hR
              refine lv_aload_n hx hb dX6_ofWalk_98 rfl (lv_at hl 1 rfl) ?_
              refine bw_get (ci := 5) (v := .ref (ad 22)) (C := RX6) (T := TX6) (N := 7) hx hb hts i_X6 hown hK hP 0 rfl rfl 4 (by decide) f_41 rfl dX6_ofWalk_99 ?_
              refine bw_get (ci := 4) (v := .ref (ad 23)) (C := RX5) (T := TX5) (N := 3) hx hb hts i_X5 hown hK hP 22 rfl rfl 0 (by decide) f_223 rfl dX6_ofWalk_102 ?_
              refine lv_iload_n hx hb dX6_ofWalk_105 rfl (lv_at hl 0 rfl) ?_
              obtain ⟨h_8, hR⟩ := ck_some hR
              refine bw_ald (v := gA st 9 (x1 - 10)) hx hb hK hP 23 rfl h_8 rfl dX6_ofWalk_106 ?_
              refine lv_goto (tgt := 112) hx hb dX6_ofWalk_107 (by decide) ?_
              exact ret_ _ _ _ _ _ _ dX6_ofWalk_112  (Option.some.inj hR) rfl hP hD hS
          · have hR := (if_pos c_5).symm.trans hR
            refine lv_aload_n hx hb dX6_ofWalk_77 rfl (lv_at hl 0 rfl) ?_
            obtain ⟨v_9, e_9, hR⟩ := b1_some hR
            refine bc_i (va_runV (As := []) (rest := []) ⟨hx, hb, hml, hown, hts⟩ (c_X6_loudestSpot l D cI cO ad _ e_9) (cwV 0 hts gX6_ofWalk_X6_loudestSpot rfl rfl rfl (by decide +kernel) ⟨Nat.le_of_ble_eq_true rfl, Nat.le_of_ble_eq_true rfl⟩) (preV hK hN hP hD (va_recv hK hP (ci := 5) (q0 := 0) rfl rfl)) rfl rfl hl.1 rfl (lv_room (Nat.le_of_ble_eq_true rfl)) dX6_ofWalk_78 ⟨Nat.zero_le _, Nat.zero_le _⟩) hS hD hA (fun H locs hP hD hS => ?_)
            exact ret_ _ _ _ _ _ _ dX6_ofWalk_81  (Option.some.inj hR) rfl hP hD hS
        · have hR := (if_pos c_4).symm.trans hR
          refine lv_aload_n hx hb dX6_ofWalk_64 rfl (lv_at hl 0 rfl) ?_
          refine bw_get (ci := 5) (v := .ref (ad 22)) (C := RX6) (T := TX6) (N := 7) hx hb hts i_X6 hown hK hP 0 rfl rfl 4 (by decide) f_41 rfl dX6_ofWalk_65 ?_
          refine bw_get (ci := 4) (v := .int (gI st 7)) (C := RX5) (T := TX5) (N := 3) hx hb hts i_X5 hown hK hP 22 rfl rfl 1 (by decide) f_229 rfl dX6_ofWalk_68 ?_
          exact ret_ _ _ _ _ _ _ dX6_ofWalk_71  (Option.some.inj hR) rfl hP hD hS
      · have hR := (if_pos c_3).symm.trans hR
        refine lv_aload_n hx hb dX6_ofWalk_40 rfl (lv_at hl 0 rfl) ?_
        refine bw_get (ci := 5) (v := .ref (ad 10)) (C := RX6) (T := TX6) (N := 7) hx hb hts i_X6 hown hK hP 0 rfl rfl 1 (by decide) f_20 rfl dX6_ofWalk_41 ?_
        refine lv_aload_n hx hb dX6_ofWalk_44 rfl (lv_at hl 0 rfl) ?_
        refine bw_get (ci := 5) (v := .ref (ad 22)) (C := RX6) (T := TX6) (N := 7) hx hb hts i_X6 hown hK hP 0 rfl rfl 4 (by decide) f_41 rfl dX6_ofWalk_45 ?_
        refine bw_get (ci := 4) (v := .ref (ad 23)) (C := RX5) (T := TX5) (N := 3) hx hb hts i_X5 hown hK hP 22 rfl rfl 0 (by decide) f_223 rfl dX6_ofWalk_48 ?_
        refine lv_iconst (v := 0) hx hb dX6_ofWalk_51 (by decide) ?_
        obtain ⟨v_10, e_10, hR⟩ := b1_some hR
        refine bc_i (va_runV (As := [.ref (ad 23), .int 0]) (rest := []) ⟨hx, hb, hml, hown, hts⟩ (c_X1_heardFrom_23 l D cI cO ad _ e_10) (cwV 2 hts gX6_ofWalk_X1_heardFrom rfl rfl rfl (by decide +kernel) ⟨Nat.le_of_ble_eq_true rfl, Nat.le_of_ble_eq_true rfl⟩) (preV hK hN hP hD (va_recv hK hP (ci := 1) (q0 := 10) rfl rfl)) rfl rfl hl.1 rfl (lv_room (Nat.le_of_ble_eq_true rfl)) dX6_ofWalk_52 ⟨Nat.zero_le _, Nat.zero_le _⟩) hS hD hA (fun H locs hP hD hS => ?_)
        obtain ⟨v_11, e_11, hR⟩ := b1_some hR
        refine bc_i (va_runS (As := [.int v_10]) (rest := []) ⟨hx, hb, hml, hown, hts⟩ (c_J6_bitCount_0f7a4 l D cI cO ad _ e_11) (va_cwS 1 hts gX6_ofWalk_J6_bitCount_0f7a4 rfl rfl rfl (by decide +kernel) ⟨Nat.le_of_ble_eq_true rfl, Nat.le_of_ble_eq_true rfl⟩) (preS hK hN hP hD) rfl rfl hl.1 rfl (lv_room (Nat.le_of_ble_eq_true rfl)) dX6_ofWalk_55 ⟨Nat.zero_le _, Nat.zero_le _⟩) hS hD hA (fun H locs hP hD hS => ?_)
        exact ret_ _ _ _ _ _ _ dX6_ofWalk_58  (Option.some.inj hR) rfl hP hD hS
    · have hR := (if_neg c_2).symm.trans hR
      refine lv_bipush (v := (-100)) hx hb dX6_ofWalk_25 (by decide) ?_
      refine lv_aload_n hx hb dX6_ofWalk_27 rfl (lv_at hl 0 rfl) ?_
      refine bw_get (ci := 5) (v := .ref (ad 22)) (C := RX6) (T := TX6) (N := 7) hx hb hts i_X6 hown hK hP 0 rfl rfl 4 (by decide) f_41 rfl dX6_ofWalk_28 ?_
      refine bw_get (ci := 4) (v := .int (gI st 8)) (C := RX5) (T := TX5) (N := 3) hx hb hts i_X5 hown hK hP 22 rfl rfl 2 (by decide) f_220 rfl dX6_ofWalk_31 ?_
      refine lv_isub hx hb dX6_ofWalk_34 ?_
      exact ret_ _ _ _ _ _ _ dX6_ofWalk_35  (Option.some.inj hR) rfl hP hD hS
  · have hR := (if_pos c_1).symm.trans hR
    refine lv_aload_n hx hb dX6_ofWalk_5 rfl (lv_at hl 0 rfl) ?_
    refine bw_get (ci := 5) (v := .ref (ad 22)) (C := RX6) (T := TX6) (N := 7) hx hb hts i_X6 hown hK hP 0 rfl rfl 4 (by decide) f_41 rfl dX6_ofWalk_6 ?_
    refine bw_get (ci := 4) (v := .int (gI st 8)) (C := RX5) (T := TX5) (N := 3) hx hb hts i_X5 hown hK hP 22 rfl rfl 2 (by decide) f_220 rfl dX6_ofWalk_9 ?_
    exact ret_ _ _ _ _ _ _ dX6_ofWalk_12  (Option.some.inj hR) rfl hP hD hS
abbrev rm_X6_goings : Room := { frames := 5, cells := 0, slots := 0, locals := 113 }
set_option maxHeartbeats 4000000 in
set_option maxRecDepth 100000 in
theorem c_X6_goings (l : Launch) (D : va_G) (cI cO : ClassId) (ad : Nat → Nat) (sz : Nat) {st : St} {x1 : Int32} {x2 : Int32} {x3 : Int32} {x4 : Int32} {x5 : Int32} {r : Int32} {s2 : St} (hR : F_X6_goings st x1 x2 x3 x4 x5 = some (r, s2)) : CI l yX6_goings wsX6_goings rm_X6_goings D cI cO [.ref (ad 0), .int x1, .int x2, .int x3, .int x4, .int x5] (BW cI cO ad st) (BW cI cO ad s2) sz r := by
  refine mk_i (cc := cX6_goings) (maxL := 9) (own := RX6) rfl (by decide) rfl (Nat.le_of_ble_eq_true rfl) ?_
  intro p e s m args below meth c A Q ls hx hb hml hown hts hK hN hA ret_ hP hD hS hl
  have i_X6 : ∀ w ∈ u_ws RX6 TX6 7, w ∈ wsX6_goings := (fun _ h => List.mem_cons_of_mem _ (List.mem_append_left _ (List.mem_append_left _ (List.mem_append_left _ (List.mem_append_right _ h)))))
  have f_49 := hts (.fieldLink RX6 49 "BellNames" "lastFault" "I") (by decide +kernel)
  have f_13 := hts (.fieldLink RX6 13 "BellNames" "sheets" "[LBellNames$Sheet;") (by decide +kernel)
  have f_20 := hts (.fieldLink RX6 20 "BellNames" "herd" "LBellNames$Herd;") (by decide +kernel)
  have f_41 := hts (.fieldLink RX6 41 "BellNames" "walk" "LBellNames$Walk;") (by decide +kernel)
  have hl : lv_has ls 9 [(0, .ref (ad 0)), (1, .int x1), (2, .int x2), (3, .int x3), (4, .int x4), (5, .int x5)] := hl
  unfold F_X6_goings at hR
  refine lv_aload_n hx hb dX6_goings_0 rfl (lv_at hl 0 rfl) ?_
  refine lv_iconst (v := 0) hx hb dX6_goings_1 (by decide) ?_
  refine bw_put (w' := (BW cI cO ad (sI st 1 0))) (ci := 5) (C := RX6) (T := TX6) (N := 7) hx hb hts i_X6 tyX6 tyX6_ok nmX6 hown hK hP hD hS 0 rfl rfl 6 (by decide) f_49 rfl rfl (Nat.le_of_ble_eq_true rfl) (BW_i1 cI cO ad _ _) dX6_goings_2 (fun H locs hP hD hS => ?_)
  refine lv_iload_n hx hb dX6_goings_5 rfl (lv_at hl 1 rfl) ?_
  refine lv_iconst (v := 4) hx hb dX6_goings_6 (by decide) ?_
  obtain ⟨v_1, e_1, hR⟩ := b1_some hR
  refine bc_z (va_runS (As := [.int x1, .int 4]) (rest := []) ⟨hx, hb, hml, hown, hts⟩ (c_X6_isBelow l D cI cO ad _ e_1) (va_cwS 2 hts gX6_goings_X6_isBelow rfl rfl rfl (by decide +kernel) ⟨Nat.le_of_ble_eq_true rfl, Nat.le_of_ble_eq_true rfl⟩) (preS hK hN hP hD) rfl rfl hl.1 rfl (lv_room (Nat.le_of_ble_eq_true rfl)) dX6_goings_7 ⟨Nat.zero_le _, Nat.zero_le _⟩) hS hD hA (fun H locs hP hD hS n_1 => ?_)
  refine lv_if_ne (tgt := 15) hx hb dX6_goings_10 (by decide) (fun c_2 => ?_) (fun c_2 => ?_)
  · have hR := (if_neg c_2).symm.trans hR
    refine lv_iload_n hx hb dX6_goings_15 rfl (lv_at hl 2 rfl) ?_
    refine lv_iconst (v := 3) hx hb dX6_goings_16 (by decide) ?_
    obtain ⟨v_3, e_3, hR⟩ := b1_some hR
    refine bc_z (va_runS (As := [.int x2, .int 3]) (rest := []) ⟨hx, hb, hml, hown, hts⟩ (c_X6_isBelow l D cI cO ad _ e_3) (va_cwS 2 hts gX6_goings_X6_isBelow rfl rfl rfl (by decide +kernel) ⟨Nat.le_of_ble_eq_true rfl, Nat.le_of_ble_eq_true rfl⟩) (preS hK hN hP hD) rfl rfl hl.1 rfl (lv_room (Nat.le_of_ble_eq_true rfl)) dX6_goings_17 ⟨Nat.zero_le _, Nat.zero_le _⟩) hS hD hA (fun H locs hP hD hS n_3 => ?_)
    refine lv_if_eq (tgt := 41) hx hb dX6_goings_20 (by decide) (fun c_4 => ?_) (fun c_4 => ?_)
    · have hR := (if_pos c_4).symm.trans hR
      refine lv_bipush (v := (-2)) hx hb dX6_goings_41 (by decide) ?_
      exact ret_ _ _ _ _ _ _ dX6_goings_43  (sp1 hR) (congrArg (fun z => (BW cI cO ad z)) (sp2 hR)) hP hD hS
    · have hR := (if_neg c_4).symm.trans hR
      refine lv_iload hx hb dX6_goings_23 (lv_at hl 4 rfl) ?_
      refine lv_bipush (v := 21) hx hb dX6_goings_25 (by decide) ?_
      obtain ⟨v_5, e_5, hR⟩ := b1_some hR
      refine bc_z (va_runS (As := [.int x4, .int 21]) (rest := []) ⟨hx, hb, hml, hown, hts⟩ (c_X6_isBelow l D cI cO ad _ e_5) (va_cwS 2 hts gX6_goings_X6_isBelow rfl rfl rfl (by decide +kernel) ⟨Nat.le_of_ble_eq_true rfl, Nat.le_of_ble_eq_true rfl⟩) (preS hK hN hP hD) rfl rfl hl.1 rfl (lv_room (Nat.le_of_ble_eq_true rfl)) dX6_goings_27 ⟨Nat.zero_le _, Nat.zero_le _⟩) hS hD hA (fun H locs hP hD hS n_5 => ?_)
      refine lv_if_eq (tgt := 41) hx hb dX6_goings_30 (by decide) (fun c_6 => ?_) (fun c_6 => ?_)
      · have hR := (if_pos c_6).symm.trans hR
        refine lv_bipush (v := (-2)) hx hb dX6_goings_41 (by decide) ?_
        exact ret_ _ _ _ _ _ _ dX6_goings_43  (sp1 hR) (congrArg (fun z => (BW cI cO ad z)) (sp2 hR)) hP hD hS
      · have hR := (if_neg c_6).symm.trans hR
        refine lv_iload hx hb dX6_goings_33 (lv_at hl 5 rfl) ?_
        obtain ⟨v_7, e_7, hR⟩ := b1_some hR
        refine bc_z (va_runS (As := [.int x5]) (rest := []) ⟨hx, hb, hml, hown, hts⟩ (c_X6_isOfGoings l D cI cO ad _ e_7) (va_cwS 1 hts gX6_goings_X6_isOfGoings rfl rfl rfl (by decide +kernel) ⟨Nat.le_of_ble_eq_true rfl, Nat.le_of_ble_eq_true rfl⟩) (preS hK hN hP hD) rfl rfl hl.1 rfl (lv_room (Nat.le_of_ble_eq_true rfl)) dX6_goings_35 ⟨Nat.zero_le _, Nat.zero_le _⟩) hS hD hA (fun H locs hP hD hS n_7 => ?_)
        refine lv_if_ne (tgt := 44) hx hb dX6_goings_38 (by decide) (fun c_8 => ?_) (fun c_8 => ?_)
        · have hR := (if_neg c_8).symm.trans hR
          refine lv_aload_n hx hb dX6_goings_44 rfl (lv_at hl 0 rfl) ?_
          refine bw_get (ci := 5) (v := .ref (ad 1)) (C := RX6) (T := TX6) (N := 7) hx hb hts i_X6 hown hK hP 0 rfl rfl 0 (by decide) f_13 rfl dX6_goings_45 ?_
          refine lv_iload_n hx hb dX6_goings_48 rfl (lv_at hl 1 rfl) ?_
          obtain ⟨h_9, hR⟩ := ck_some hR
          refine bw_shl (a2 := ad (2 + x1.toNatClampNeg)) hx hb hK hP 1 rfl h_9 rfl dX6_goings_49 ?_
          refine lv_astore (lv' := [(6, .ref (ad (2 + x1.toNatClampNeg))), (0, .ref (ad 0)), (1, .int x1), (2, .int x2), (3, .int x3), (4, .int x4), (5, .int x5)]) hx hb dX6_goings_50 hl (by decide) rfl (fun ls hl => ?_)
          refine lv_aload hx hb dX6_goings_52 (lv_at hl 0 rfl) ?_
          refine lv_iload_n hx hb dX6_goings_54 rfl (lv_at hl 3 rfl) ?_
          obtain ⟨v_10, e_10, hR⟩ := b1_some hR
          refine bc_i (va_runV (As := [.int x2]) (rest := []) ⟨hx, hb, hml, hown, hts⟩ (c_X3_faultAs l D cI cO ad _ (in_lt h_9) e_10) (cwV 1 hts gX6_goings_X3_faultAs rfl rfl rfl (by decide +kernel) ⟨Nat.le_of_ble_eq_true rfl, Nat.le_of_ble_eq_true rfl⟩) (preV hK hN hP hD (va_recv hK hP (ci := 3) (q0 := (2 + x1.toNatClampNeg)) rfl (BW_sheet cI cO ad _ (in_lt h_9)))) rfl rfl hl.1 rfl (lv_room (Nat.le_of_ble_eq_true rfl)) dX6_goings_55 ⟨Nat.zero_le _, Nat.zero_le _⟩) hS hD hA (fun H locs hP hD hS => ?_)
          refine lv_istore (lv' := [(7, .int v_10), (6, .ref (ad (2 + x1.toNatClampNeg))), (0, .ref (ad 0)), (1, .int x1), (2, .int x2), (3, .int x3), (4, .int x4), (5, .int x5)]) hx hb dX6_goings_58 hl (by decide) rfl (fun ls hl => ?_)
          refine lv_iload hx hb dX6_goings_60 (lv_at hl 0 rfl) ?_
          refine lv_if_eq (tgt := 72) hx hb dX6_goings_62 (by decide) (fun c_11 => ?_) (fun c_11 => ?_)
          · have hR := (if_pos c_11).symm.trans hR
            refine lv_aload hx hb dX6_goings_72 (lv_at hl 1 rfl) ?_
            refine lv_iload_n hx hb dX6_goings_74 rfl (lv_at hl 5 rfl) ?_
            refine lv_iconst (v := 2) hx hb dX6_goings_75 (by decide) ?_
            refine lv_iload hx hb dX6_goings_76 (lv_at hl 6 rfl) ?_
            refine lv_imul hx hb dX6_goings_78 ?_
            obtain ⟨v_12, e_12, hR⟩ := b1_some hR
            refine bc_z (va_runV (As := [.int x3, .int (2 * x4)]) (rest := []) ⟨hx, hb, hml, hown, hts⟩ (c_X3_hasCells l D cI cO ad _ (in_lt h_9) e_12) (cwV 2 hts gX6_goings_X3_hasCells rfl rfl rfl (by decide +kernel) ⟨Nat.le_of_ble_eq_true rfl, Nat.le_of_ble_eq_true rfl⟩) (preV hK hN hP hD (va_recv hK hP (ci := 3) (q0 := (2 + x1.toNatClampNeg)) rfl (BW_sheet cI cO ad _ (in_lt h_9)))) rfl rfl hl.1 rfl (lv_room (Nat.le_of_ble_eq_true rfl)) dX6_goings_79 ⟨Nat.zero_le _, Nat.zero_le _⟩) hS hD hA (fun H locs hP hD hS n_12 => ?_)
            refine lv_if_ne (tgt := 91) hx hb dX6_goings_82 (by decide) (fun c_13 => ?_) (fun c_13 => ?_)
            · have hR := (if_neg c_13).symm.trans hR
              refine lv_aload_n hx hb dX6_goings_91 rfl (lv_at hl 2 rfl) ?_
              refine bw_get (ci := 5) (v := .ref (ad 10)) (C := RX6) (T := TX6) (N := 7) hx hb hts i_X6 hown hK hP 0 rfl rfl 1 (by decide) f_20 rfl dX6_goings_92 ?_
              obtain ⟨v_14, e_14, hR⟩ := b1_some hR
              refine bc_z (va_runV (As := []) (rest := []) ⟨hx, hb, hml, hown, hts⟩ (c_X1_isNone l D cI cO ad _ e_14) (cwV 0 hts gX6_goings_X1_isNone rfl rfl rfl (by decide +kernel) ⟨Nat.le_of_ble_eq_true rfl, Nat.le_of_ble_eq_true rfl⟩) (preV hK hN hP hD (va_recv hK hP (ci := 1) (q0 := 10) rfl rfl)) rfl rfl hl.1 rfl (lv_room (Nat.le_of_ble_eq_true rfl)) dX6_goings_95 ⟨Nat.zero_le _, Nat.zero_le _⟩) hS hD hA (fun H locs hP hD hS n_14 => ?_)
              refine lv_if_eq (tgt := 104) hx hb dX6_goings_98 (by decide) (fun c_15 => ?_) (fun c_15 => ?_)
              · have hR := (if_pos c_15).symm.trans hR
                refine lv_aload_n hx hb dX6_goings_104 rfl (lv_at hl 2 rfl) ?_
                refine bw_get (ci := 5) (v := .ref (ad 22)) (C := RX6) (T := TX6) (N := 7) hx hb hts i_X6 hown hK hP 0 rfl rfl 4 (by decide) f_41 rfl dX6_goings_105 ?_
                refine lv_aload_n hx hb dX6_goings_108 rfl (lv_at hl 2 rfl) ?_
                refine bw_get (ci := 5) (v := .ref (ad 10)) (C := RX6) (T := TX6) (N := 7) hx hb hts i_X6 hown hK hP 0 rfl rfl 1 (by decide) f_20 rfl dX6_goings_109 ?_
                refine lv_aload hx hb dX6_goings_112 (lv_at hl 1 rfl) ?_
                refine lv_iload_n hx hb dX6_goings_114 rfl (lv_at hl 5 rfl) ?_
                refine lv_iload hx hb dX6_goings_115 (lv_at hl 6 rfl) ?_
                obtain ⟨v_16, s_16, e_16, hR⟩ := b2_some hR
                refine bc_i (va_runV (As := [.ref (ad 10), .ref (ad (2 + x1.toNatClampNeg)), .int x3, .int x4]) (rest := []) ⟨hx, hb, hml, hown, hts⟩ (c_X5_goAll l D cI cO ad _ (in_lt h_9) e_16) (cwV 4 hts gX6_goings_X5_goAll rfl rfl rfl (by decide +kernel) ⟨Nat.le_of_ble_eq_true rfl, Nat.le_of_ble_eq_true rfl⟩) (preV hK hN hP hD (va_recv hK hP (ci := 4) (q0 := 22) rfl rfl)) rfl rfl hl.1 rfl (lv_room (Nat.le_of_ble_eq_true rfl)) dX6_goings_117 ⟨Nat.zero_le _, Nat.zero_le _⟩) hS hD hA (fun H locs hP hD hS => ?_)
                refine lv_istore (lv' := [(8, .int v_16), (7, .int v_10), (6, .ref (ad (2 + x1.toNatClampNeg))), (0, .ref (ad 0)), (1, .int x1), (2, .int x2), (3, .int x3), (4, .int x4), (5, .int x5)]) hx hb dX6_goings_120 hl (by decide) rfl (fun ls hl => ?_)
                refine lv_iload hx hb dX6_goings_122 (lv_at hl 0 rfl) ?_
                refine lv_if_eq (tgt := 130) hx hb dX6_goings_124 (by decide) (fun c_17 => ?_) (fun c_17 => ?_)
                · have hR := (if_pos c_17).symm.trans hR
                  refine lv_aload_n hx hb dX6_goings_130 rfl (lv_at hl 3 rfl) ?_
                  refine lv_iload hx hb dX6_goings_131 (lv_at hl 8 rfl) ?_
                  obtain ⟨v_18, e_18, hR⟩ := b1_some hR
                  refine bc_i (va_runV (As := [.int x5]) (rest := []) ⟨hx, hb, hml, hown, hts⟩ (c_X6_ofWalk l D cI cO ad _ e_18) (cwV 1 hts gX6_goings_X6_ofWalk rfl rfl rfl (by decide +kernel) ⟨Nat.le_of_ble_eq_true rfl, Nat.le_of_ble_eq_true rfl⟩) (preV hK hN hP hD (va_recv hK hP (ci := 5) (q0 := 0) rfl rfl)) rfl rfl hl.1 rfl (lv_room (Nat.le_of_ble_eq_true rfl)) dX6_goings_133 ⟨Nat.zero_le _, Nat.zero_le _⟩) hS hD hA (fun H locs hP hD hS => ?_)
                  exact ret_ _ _ _ _ _ _ dX6_goings_136  (sp1 hR) (congrArg (fun z => (BW cI cO ad z)) (sp2 hR)) hP hD hS
                · have hR := (if_neg c_17).symm.trans hR
                  refine lv_iload hx hb dX6_goings_127 (lv_at hl 0 rfl) ?_
                  exact ret_ _ _ _ _ _ _ dX6_goings_129  (sp1 hR) (congrArg (fun z => (BW cI cO ad z)) (sp2 hR)) hP hD hS
              · have hR := (if_neg c_15).symm.trans hR
                refine lv_bipush (v := (-3)) hx hb dX6_goings_101 (by decide) ?_
                exact ret_ _ _ _ _ _ _ dX6_goings_103  (sp1 hR) (congrArg (fun z => (BW cI cO ad z)) (sp2 hR)) hP hD hS
            · have hR := (if_pos c_13).symm.trans hR
              refine lv_aload_n hx hb dX6_goings_85 rfl (lv_at hl 2 rfl) ?_
              refine lv_iconst (v := 3) hx hb dX6_goings_86 (by decide) ?_
              obtain ⟨v_19, s_19, e_19, hR⟩ := b2_some hR
              refine bc_i (va_runV (As := [.int 3]) (rest := []) ⟨hx, hb, hml, hown, hts⟩ (c_X6_failBy l D cI cO ad _ e_19) (cwV 1 hts gX6_goings_X6_failBy rfl rfl rfl (by decide +kernel) ⟨Nat.le_of_ble_eq_true rfl, Nat.le_of_ble_eq_true rfl⟩) (preV hK hN hP hD (va_recv hK hP (ci := 5) (q0 := 0) rfl rfl)) rfl rfl hl.1 rfl (lv_room (Nat.le_of_ble_eq_true rfl)) dX6_goings_87 ⟨Nat.zero_le _, Nat.zero_le _⟩) hS hD hA (fun H locs hP hD hS => ?_)
              exact ret_ _ _ _ _ _ _ dX6_goings_90  (sp1 hR) (congrArg (fun z => (BW cI cO ad z)) (sp2 hR)) hP hD hS
          · have hR := (if_neg c_11).symm.trans hR
            refine lv_aload_n hx hb dX6_goings_65 rfl (lv_at hl 2 rfl) ?_
            refine lv_iload hx hb dX6_goings_66 (lv_at hl 0 rfl) ?_
            obtain ⟨v_20, s_20, e_20, hR⟩ := b2_some hR
            refine bc_i (va_runV (As := [.int v_10]) (rest := []) ⟨hx, hb, hml, hown, hts⟩ (c_X6_failBy l D cI cO ad _ e_20) (cwV 1 hts gX6_goings_X6_failBy rfl rfl rfl (by decide +kernel) ⟨Nat.le_of_ble_eq_true rfl, Nat.le_of_ble_eq_true rfl⟩) (preV hK hN hP hD (va_recv hK hP (ci := 5) (q0 := 0) rfl rfl)) rfl rfl hl.1 rfl (lv_room (Nat.le_of_ble_eq_true rfl)) dX6_goings_68 ⟨Nat.zero_le _, Nat.zero_le _⟩) hS hD hA (fun H locs hP hD hS => ?_)
            exact ret_ _ _ _ _ _ _ dX6_goings_71  (sp1 hR) (congrArg (fun z => (BW cI cO ad z)) (sp2 hR)) hP hD hS
        · have hR := (if_pos c_8).symm.trans hR
          refine lv_bipush (v := (-2)) hx hb dX6_goings_41 (by decide) ?_
          exact ret_ _ _ _ _ _ _ dX6_goings_43  (sp1 hR) (congrArg (fun z => (BW cI cO ad z)) (sp2 hR)) hP hD hS
  · have hR := (if_pos c_2).symm.trans hR
    refine lv_iconst (v := (-1)) hx hb dX6_goings_13 (by decide) ?_
    exact ret_ _ _ _ _ _ _ dX6_goings_14  (sp1 hR) (congrArg (fun z => (BW cI cO ad z)) (sp2 hR)) hP hD hS
abbrev rm_X6_post : Room := { frames := 3, cells := 0, slots := 0, locals := 67 }
set_option maxHeartbeats 4000000 in
set_option maxRecDepth 100000 in
theorem c_X6_post (l : Launch) (D : va_G) (cI cO : ClassId) (ad : Nat → Nat) (sz : Nat) {st : St} {x1 : Int32} {r : Int32} (hR : F_X6_post st x1 = some r) : CI l yX6_post wsX6_post rm_X6_post D cI cO [.ref (ad 0), .int x1] (BW cI cO ad st) (BW cI cO ad st) sz r := by
  refine mk_i (cc := cX6_post) (maxL := 3) (own := RX6) rfl (by decide) rfl (Nat.le_of_ble_eq_true rfl) ?_
  intro p e s m args below meth c A Q ls hx hb hml hown hts hK hN hA ret_ hP hD hS hl
  have i_X6 : ∀ w ∈ u_ws RX6 TX6 7, w ∈ wsX6_post := (fun _ h => List.mem_cons_of_mem _ (List.mem_append_left _ (List.mem_append_right _ h)))
  have i_X1 : ∀ w ∈ u_ws RX1 TX1 7, w ∈ wsX6_post := (fun _ h => List.mem_cons_of_mem _ (List.mem_append_right _ h))
  have f_20 := hts (.fieldLink RX6 20 "BellNames" "herd" "LBellNames$Herd;") (by decide +kernel)
  have f_92 := hts (.fieldLink RX6 92 "BellNames$Herd" "spotOf" "[I") (by decide +kernel)
  have hl : lv_has ls 3 [(0, .ref (ad 0)), (1, .int x1)] := hl
  unfold F_X6_post at hR
  refine lv_aload_n hx hb dX6_post_0 rfl (lv_at hl 0 rfl) ?_
  refine bw_get (ci := 5) (v := .ref (ad 10)) (C := RX6) (T := TX6) (N := 7) hx hb hts i_X6 hown hK hP 0 rfl rfl 1 (by decide) f_20 rfl dX6_post_1 ?_
  obtain ⟨v_1, e_1, hR⟩ := b1_some hR
  refine bc_z (va_runV (As := []) (rest := []) ⟨hx, hb, hml, hown, hts⟩ (c_X1_isNone l D cI cO ad _ e_1) (cwV 0 hts gX6_post_X1_isNone rfl rfl rfl (by decide +kernel) ⟨Nat.le_of_ble_eq_true rfl, Nat.le_of_ble_eq_true rfl⟩) (preV hK hN hP hD (va_recv hK hP (ci := 1) (q0 := 10) rfl rfl)) rfl rfl hl.1 rfl (lv_room (Nat.le_of_ble_eq_true rfl)) dX6_post_4 ⟨Nat.zero_le _, Nat.zero_le _⟩) hS hD hA (fun H locs hP hD hS n_1 => ?_)
  refine lv_if_eq (tgt := 13) hx hb dX6_post_7 (by decide) (fun c_2 => ?_) (fun c_2 => ?_)
  · have hR := (if_pos c_2).symm.trans hR
    refine lv_aload_n hx hb dX6_post_13 rfl (lv_at hl 0 rfl) ?_
    refine bw_get (ci := 5) (v := .ref (ad 10)) (C := RX6) (T := TX6) (N := 7) hx hb hts i_X6 hown hK hP 0 rfl rfl 1 (by decide) f_20 rfl dX6_post_14 ?_
    refine lv_iload_n hx hb dX6_post_17 rfl (lv_at hl 1 rfl) ?_
    obtain ⟨v_3, e_3, hR⟩ := b1_some hR
    refine bc_z (va_runV (As := [.int x1]) (rest := []) ⟨hx, hb, hml, hown, hts⟩ (c_X1_hasAll l D cI cO ad _ e_3) (cwV 1 hts gX6_post_X1_hasAll rfl rfl rfl (by decide +kernel) ⟨Nat.le_of_ble_eq_true rfl, Nat.le_of_ble_eq_true rfl⟩) (preV hK hN hP hD (va_recv hK hP (ci := 1) (q0 := 10) rfl rfl)) rfl rfl hl.1 rfl (lv_room (Nat.le_of_ble_eq_true rfl)) dX6_post_18 ⟨Nat.zero_le _, Nat.zero_le _⟩) hS hD hA (fun H locs hP hD hS n_3 => ?_)
    refine lv_if_ne (tgt := 27) hx hb dX6_post_21 (by decide) (fun c_4 => ?_) (fun c_4 => ?_)
    · have hR := (if_neg c_4).symm.trans hR
      refine lv_iconst (v := 0) hx hb dX6_post_27 (by decide) ?_
      refine lv_istore_n (lv' := [(2, .int 0), (0, .ref (ad 0)), (1, .int x1)]) hx hb dX6_post_28 rfl hl (by decide) rfl (fun ls hl => ?_)
      have lp_29 : ∀ (n_29 : Nat) (y2_29 : Int32) (H : Heap) (locs : List Loc) (ls : Array Slot), L_X6_post_29 st x1 (fun y2_29 => some (-9)) n_29 y2_29 = some r → va_P D vwCl (BW cI cO ad st) H → va_D A (BW cI cO ad st) → va_S A s.heap H locs → lv_has ls 3 [(0, .ref (ad 0)), (1, .int x1), (2, .int y2_29)] → W p l e rm_X6_post s m args below meth c H locs 0 0 Q (F0 m 29 ls []) := by
        intro n_29
        induction n_29 with
        | zero => intro y2_29 H locs ls hR; exact absurd (L_X6_post_29_z.symm.trans hR) (fun h => nomatch h)
        | succ n_29 ih_29 =>
          intro y2_29 H locs ls hR hP hD hS hl
          have hR := L_X6_post_29_s.symm.trans hR
          refine lv_iload_n hx hb dX6_post_29 rfl (lv_at hl 2 rfl) ?_
          refine lv_bipush (v := 10) hx hb dX6_post_30 (by decide) ?_
          refine lv_icmp_ge (tgt := 65) hx hb dX6_post_32 (by decide) (fun c_5 => ?_) (fun c_5 => ?_)
          · have hR := (if_pos c_5).symm.trans hR
            refine lv_bipush (v := (-9)) hx hb dX6_post_65 (by decide) ?_
            exact ret_ _ _ _ _ _ _ dX6_post_67  (Option.some.inj hR) rfl hP hD hS
          · have hR := (if_neg c_5).symm.trans hR
            refine lv_iload_n hx hb dX6_post_35 rfl (lv_at hl 1 rfl) ?_
            refine lv_aload_n hx hb dX6_post_36 rfl (lv_at hl 0 rfl) ?_
            refine bw_get (ci := 5) (v := .ref (ad 10)) (C := RX6) (T := TX6) (N := 7) hx hb hts i_X6 hown hK hP 0 rfl rfl 1 (by decide) f_20 rfl dX6_post_37 ?_
            refine lv_aload_n hx hb dX6_post_40 rfl (lv_at hl 0 rfl) ?_
            refine bw_get (ci := 5) (v := .ref (ad 10)) (C := RX6) (T := TX6) (N := 7) hx hb hts i_X6 hown hK hP 0 rfl rfl 1 (by decide) f_20 rfl dX6_post_41 ?_
            refine bw_get (ci := 1) (v := .ref (ad 13)) (C := RX1) (T := TX1) (N := 7) hx hb hts i_X1 hown hK hP 10 rfl rfl 2 (by decide) f_92 rfl dX6_post_44 ?_
            refine lv_iload_n hx hb dX6_post_47 rfl (lv_at hl 2 rfl) ?_
            obtain ⟨v_6, e_6, hR⟩ := b1_some hR
            refine bc_i (va_runV (As := [.ref (ad 13), .int y2_29]) (rest := [.int x1]) ⟨hx, hb, hml, hown, hts⟩ (c_X1_heardFrom_13 l D cI cO ad _ e_6) (cwV 2 hts gX6_post_X1_heardFrom rfl rfl rfl (by decide +kernel) ⟨Nat.le_of_ble_eq_true rfl, Nat.le_of_ble_eq_true rfl⟩) (preV hK hN hP hD (va_recv hK hP (ci := 1) (q0 := 10) rfl rfl)) rfl rfl hl.1 rfl (lv_room (Nat.le_of_ble_eq_true rfl)) dX6_post_48 ⟨Nat.zero_le _, Nat.zero_le _⟩) hS hD hA (fun H locs hP hD hS => ?_)
            refine lv_iconst (v := (-1)) hx hb dX6_post_51 (by decide) ?_
            refine lv_ixor hx hb dX6_post_52 ?_
            refine lv_iand hx hb dX6_post_53 ?_
            refine lv_if_ne (tgt := 59) hx hb dX6_post_54 (by decide) (fun c_7 => ?_) (fun c_7 => ?_)
            · have hR := (if_neg c_7).symm.trans hR
              refine lv_iinc (v := y2_29 + 1) (lv' := [(2, .int (y2_29 + 1)), (0, .ref (ad 0)), (1, .int x1)]) hx hb dX6_post_59 hl (k := 2) rfl rfl (by decide) rfl (fun ls hl => ?_)
              refine lv_goto (tgt := 29) hx hb dX6_post_62 (by decide) ?_
              exact ih_29 _ _ _ _ hR hP hD hS (lv_sub hl [1, 2, 0] rfl)
            · have hR := (if_pos c_7).symm.trans hR
              refine lv_iload_n hx hb dX6_post_57 rfl (lv_at hl 2 rfl) ?_
              exact ret_ _ _ _ _ _ _ dX6_post_58  (Option.some.inj hR) rfl hP hD hS
      exact lp_29 _ _ _ _ _ hR hP hD hS (lv_sub hl [1, 2, 0] rfl)
    · have hR := (if_pos c_4).symm.trans hR
      refine lv_bipush (v := (-2)) hx hb dX6_post_24 (by decide) ?_
      exact ret_ _ _ _ _ _ _ dX6_post_26  (Option.some.inj hR) rfl hP hD hS
  · have hR := (if_neg c_2).symm.trans hR
    refine lv_bipush (v := (-3)) hx hb dX6_post_10 (by decide) ?_
    exact ret_ _ _ _ _ _ _ dX6_post_12  (Option.some.inj hR) rfl hP hD hS
abbrev rm_X6_call : Room := { frames := 3, cells := 0, slots := 0, locals := 67 }
set_option maxHeartbeats 4000000 in
set_option maxRecDepth 100000 in
theorem c_X6_call (l : Launch) (D : va_G) (cI cO : ClassId) (ad : Nat → Nat) (sz : Nat) {st : St} {x1 : Int32} {x2 : Int32} {r : Int32} (hR : F_X6_call st x1 x2 = some r) : CI l yX6_call wsX6_call rm_X6_call D cI cO [.ref (ad 0), .int x1, .int x2] (BW cI cO ad st) (BW cI cO ad st) sz r := by
  refine mk_i (cc := cX6_call) (maxL := 5) (own := RX6) rfl (by decide) rfl (Nat.le_of_ble_eq_true rfl) ?_
  intro p e s m args below meth c A Q ls hx hb hml hown hts hK hN hA ret_ hP hD hS hl
  have i_X6 : ∀ w ∈ u_ws RX6 TX6 7, w ∈ wsX6_call := (fun _ h => List.mem_cons_of_mem _ (List.mem_append_left _ (List.mem_append_right _ h)))
  have f_20 := hts (.fieldLink RX6 20 "BellNames" "herd" "LBellNames$Herd;") (by decide +kernel)
  have hl : lv_has ls 5 [(0, .ref (ad 0)), (1, .int x1), (2, .int x2)] := hl
  unfold F_X6_call at hR
  refine lv_aload_n hx hb dX6_call_0 rfl (lv_at hl 0 rfl) ?_
  refine bw_get (ci := 5) (v := .ref (ad 10)) (C := RX6) (T := TX6) (N := 7) hx hb hts i_X6 hown hK hP 0 rfl rfl 1 (by decide) f_20 rfl dX6_call_1 ?_
  obtain ⟨v_1, e_1, hR⟩ := b1_some hR
  refine bc_z (va_runV (As := []) (rest := []) ⟨hx, hb, hml, hown, hts⟩ (c_X1_isNone l D cI cO ad _ e_1) (cwV 0 hts gX6_call_X1_isNone rfl rfl rfl (by decide +kernel) ⟨Nat.le_of_ble_eq_true rfl, Nat.le_of_ble_eq_true rfl⟩) (preV hK hN hP hD (va_recv hK hP (ci := 1) (q0 := 10) rfl rfl)) rfl rfl hl.1 rfl (lv_room (Nat.le_of_ble_eq_true rfl)) dX6_call_4 ⟨Nat.zero_le _, Nat.zero_le _⟩) hS hD hA (fun H locs hP hD hS n_1 => ?_)
  refine lv_if_eq (tgt := 13) hx hb dX6_call_7 (by decide) (fun c_2 => ?_) (fun c_2 => ?_)
  · have hR := (if_pos c_2).symm.trans hR
    refine lv_aload_n hx hb dX6_call_13 rfl (lv_at hl 0 rfl) ?_
    refine bw_get (ci := 5) (v := .ref (ad 10)) (C := RX6) (T := TX6) (N := 7) hx hb hts i_X6 hown hK hP 0 rfl rfl 1 (by decide) f_20 rfl dX6_call_14 ?_
    refine lv_iload_n hx hb dX6_call_17 rfl (lv_at hl 1 rfl) ?_
    obtain ⟨v_3, e_3, hR⟩ := b1_some hR
    refine bc_z (va_runV (As := [.int x1]) (rest := []) ⟨hx, hb, hml, hown, hts⟩ (c_X1_hasAll l D cI cO ad _ e_3) (cwV 1 hts gX6_call_X1_hasAll rfl rfl rfl (by decide +kernel) ⟨Nat.le_of_ble_eq_true rfl, Nat.le_of_ble_eq_true rfl⟩) (preV hK hN hP hD (va_recv hK hP (ci := 1) (q0 := 10) rfl rfl)) rfl rfl hl.1 rfl (lv_room (Nat.le_of_ble_eq_true rfl)) dX6_call_18 ⟨Nat.zero_le _, Nat.zero_le _⟩) hS hD hA (fun H locs hP hD hS n_3 => ?_)
    refine lv_if_eq (tgt := 32) hx hb dX6_call_21 (by decide) (fun c_4 => ?_) (fun c_4 => ?_)
    · have hR := (if_pos c_4).symm.trans hR
      refine lv_bipush (v := (-2)) hx hb dX6_call_32 (by decide) ?_
      exact ret_ _ _ _ _ _ _ dX6_call_34  (Option.some.inj hR) rfl hP hD hS
    · have hR := (if_neg c_4).symm.trans hR
      refine lv_iload_n hx hb dX6_call_24 rfl (lv_at hl 2 rfl) ?_
      refine lv_iconst (v := 2) hx hb dX6_call_25 (by decide) ?_
      obtain ⟨v_5, e_5, hR⟩ := b1_some hR
      refine bc_z (va_runS (As := [.int x2, .int 2]) (rest := []) ⟨hx, hb, hml, hown, hts⟩ (c_X6_isBelow l D cI cO ad _ e_5) (va_cwS 2 hts gX6_call_X6_isBelow rfl rfl rfl (by decide +kernel) ⟨Nat.le_of_ble_eq_true rfl, Nat.le_of_ble_eq_true rfl⟩) (preS hK hN hP hD) rfl rfl hl.1 rfl (lv_room (Nat.le_of_ble_eq_true rfl)) dX6_call_26 ⟨Nat.zero_le _, Nat.zero_le _⟩) hS hD hA (fun H locs hP hD hS n_5 => ?_)
      refine lv_if_ne (tgt := 35) hx hb dX6_call_29 (by decide) (fun c_6 => ?_) (fun c_6 => ?_)
      · have hR := (if_neg c_6).symm.trans hR
        refine lv_iconst (v := 0) hx hb dX6_call_35 (by decide) ?_
        refine lv_istore_n (lv' := [(3, .int 0), (0, .ref (ad 0)), (1, .int x1), (2, .int x2)]) hx hb dX6_call_36 rfl hl (by decide) rfl (fun ls hl => ?_)
        refine lv_iconst (v := 1) hx hb dX6_call_37 (by decide) ?_
        refine lv_istore (lv' := [(4, .int 1), (3, .int 0), (0, .ref (ad 0)), (1, .int x1), (2, .int x2)]) hx hb dX6_call_38 hl (by decide) rfl (fun ls hl => ?_)
        have lp_40 : ∀ (n_40 : Nat) (y3_40 : Int32) (y4_40 : Int32) (H : Heap) (locs : List Loc) (ls : Array Slot), L_X6_call_40 st x1 (fun y3_40 y4_40 => if x2 = 0 then some y3_40 else b1 (F_X1_stepsToHear st x1 y3_40) (fun v_9 => some v_9)) n_40 y3_40 y4_40 = some r → va_P D vwCl (BW cI cO ad st) H → va_D A (BW cI cO ad st) → va_S A s.heap H locs → lv_has ls 5 [(0, .ref (ad 0)), (1, .int x1), (2, .int x2), (3, .int y3_40), (4, .int y4_40)] → W p l e rm_X6_call s m args below meth c H locs 0 0 Q (F0 m 40 ls []) := by
          intro n_40
          induction n_40 with
          | zero => intro y3_40 y4_40 H locs ls hR; exact absurd (L_X6_call_40_z.symm.trans hR) (fun h => nomatch h)
          | succ n_40 ih_40 =>
            intro y3_40 y4_40 H locs ls hR hP hD hS hl
            have hR := L_X6_call_40_s.symm.trans hR
            refine lv_iload hx hb dX6_call_40 (lv_at hl 4 rfl) ?_
            refine lv_bipush (v := 10) hx hb dX6_call_42 (by decide) ?_
            refine lv_icmp_ge (tgt := 78) hx hb dX6_call_44 (by decide) (fun c_7 => ?_) (fun c_7 => ?_)
            · have hR := (if_pos c_7).symm.trans hR
              refine lv_iload_n hx hb dX6_call_78 rfl (lv_at hl 2 rfl) ?_
              refine lv_if_ne (tgt := 86) hx hb dX6_call_79 (by decide) (fun c_8 => ?_) (fun c_8 => ?_)
              · have hR := (if_neg c_8).symm.trans hR
                refine lv_aload_n hx hb dX6_call_86 rfl (lv_at hl 0 rfl) ?_
                refine bw_get (ci := 5) (v := .ref (ad 10)) (C := RX6) (T := TX6) (N := 7) hx hb hts i_X6 hown hK hP 0 rfl rfl 1 (by decide) f_20 rfl dX6_call_87 ?_
                refine lv_iload_n hx hb dX6_call_90 rfl (lv_at hl 1 rfl) ?_
                refine lv_iload_n hx hb dX6_call_91 rfl (lv_at hl 3 rfl) ?_
                obtain ⟨v_9, e_9, hR⟩ := b1_some hR
                refine bc_i (va_runV (As := [.int x1, .int y3_40]) (rest := []) ⟨hx, hb, hml, hown, hts⟩ (c_X1_stepsToHear l D cI cO ad _ e_9) (cwV 2 hts gX6_call_X1_stepsToHear rfl rfl rfl (by decide +kernel) ⟨Nat.le_of_ble_eq_true rfl, Nat.le_of_ble_eq_true rfl⟩) (preV hK hN hP hD (va_recv hK hP (ci := 1) (q0 := 10) rfl rfl)) rfl rfl hl.1 rfl (lv_room (Nat.le_of_ble_eq_true rfl)) dX6_call_92 ⟨Nat.zero_le _, Nat.zero_le _⟩) hS hD hA (fun H locs hP hD hS => ?_)
                exact ret_ _ _ _ _ _ _ dX6_call_95  (Option.some.inj hR) rfl hP hD hS
              · have hR := (if_pos c_8).symm.trans hR
                refine lv_iload_n hx hb dX6_call_82 rfl (lv_at hl 3 rfl) ?_
                refine lv_goto (tgt := 95) hx hb dX6_call_83 (by decide) ?_
                exact ret_ _ _ _ _ _ _ dX6_call_95  (Option.some.inj hR) rfl hP hD hS
            · have hR := (if_neg c_7).symm.trans hR
              refine lv_aload_n hx hb dX6_call_47 rfl (lv_at hl 0 rfl) ?_
              refine bw_get (ci := 5) (v := .ref (ad 10)) (C := RX6) (T := TX6) (N := 7) hx hb hts i_X6 hown hK hP 0 rfl rfl 1 (by decide) f_20 rfl dX6_call_48 ?_
              refine lv_iload_n hx hb dX6_call_51 rfl (lv_at hl 1 rfl) ?_
              refine lv_iload hx hb dX6_call_52 (lv_at hl 4 rfl) ?_
              obtain ⟨v_10, e_10, hR⟩ := b1_some hR
              refine bc_i (va_runV (As := [.int x1, .int y4_40]) (rest := []) ⟨hx, hb, hml, hown, hts⟩ (c_X1_stepsToHear l D cI cO ad _ e_10) (cwV 2 hts gX6_call_X1_stepsToHear rfl rfl rfl (by decide +kernel) ⟨Nat.le_of_ble_eq_true rfl, Nat.le_of_ble_eq_true rfl⟩) (preV hK hN hP hD (va_recv hK hP (ci := 1) (q0 := 10) rfl rfl)) rfl rfl hl.1 rfl (lv_room (Nat.le_of_ble_eq_true rfl)) dX6_call_54 ⟨Nat.zero_le _, Nat.zero_le _⟩) hS hD hA (fun H locs hP hD hS => ?_)
              refine lv_aload_n hx hb dX6_call_57 rfl (lv_at hl 0 rfl) ?_
              refine bw_get (ci := 5) (v := .ref (ad 10)) (C := RX6) (T := TX6) (N := 7) hx hb hts i_X6 hown hK hP 0 rfl rfl 1 (by decide) f_20 rfl dX6_call_58 ?_
              refine lv_iload_n hx hb dX6_call_61 rfl (lv_at hl 1 rfl) ?_
              refine lv_iload_n hx hb dX6_call_62 rfl (lv_at hl 3 rfl) ?_
              obtain ⟨v_11, e_11, hR⟩ := b1_some hR
              refine bc_i (va_runV (As := [.int x1, .int y3_40]) (rest := [.int v_10]) ⟨hx, hb, hml, hown, hts⟩ (c_X1_stepsToHear l D cI cO ad _ e_11) (cwV 2 hts gX6_call_X1_stepsToHear rfl rfl rfl (by decide +kernel) ⟨Nat.le_of_ble_eq_true rfl, Nat.le_of_ble_eq_true rfl⟩) (preV hK hN hP hD (va_recv hK hP (ci := 1) (q0 := 10) rfl rfl)) rfl rfl hl.1 rfl (lv_room (Nat.le_of_ble_eq_true rfl)) dX6_call_63 ⟨Nat.zero_le _, Nat.zero_le _⟩) hS hD hA (fun H locs hP hD hS => ?_)
              refine lv_icmp_ge (tgt := 72) hx hb dX6_call_66 (by decide) (fun c_12 => ?_) (fun c_12 => ?_)
              · have hR := (if_pos c_12).symm.trans hR
                refine lv_iinc (v := y4_40 + 1) (lv' := [(4, .int (y4_40 + 1)), (0, .ref (ad 0)), (1, .int x1), (2, .int x2), (3, .int y3_40)]) hx hb dX6_call_72 hl (k := 4) rfl rfl (by decide) rfl (fun ls hl => ?_)
                refine lv_goto (tgt := 40) hx hb dX6_call_75 (by decide) ?_
                exact ih_40 _ _ _ _ _ hR hP hD hS (lv_sub hl [1, 2, 3, 4, 0] rfl)
              · have hR := (if_neg c_12).symm.trans hR
                refine lv_iload hx hb dX6_call_69 (lv_at hl 4 rfl) ?_
                refine lv_istore_n (lv' := [(3, .int y4_40), (0, .ref (ad 0)), (1, .int x1), (2, .int x2), (4, .int y4_40)]) hx hb dX6_call_71 rfl hl (by decide) rfl (fun ls hl => ?_)
                refine lv_iinc (v := y4_40 + 1) (lv' := [(4, .int (y4_40 + 1)), (3, .int y4_40), (0, .ref (ad 0)), (1, .int x1), (2, .int x2)]) hx hb dX6_call_72 hl (k := 4) rfl rfl (by decide) rfl (fun ls hl => ?_)
                refine lv_goto (tgt := 40) hx hb dX6_call_75 (by decide) ?_
                exact ih_40 _ _ _ _ _ hR hP hD hS (lv_sub hl [2, 3, 4, 1, 0] rfl)
        exact lp_40 _ _ _ _ _ _ hR hP hD hS (lv_sub hl [2, 3, 4, 1, 0] rfl)
      · have hR := (if_pos c_6).symm.trans hR
        refine lv_bipush (v := (-2)) hx hb dX6_call_32 (by decide) ?_
        exact ret_ _ _ _ _ _ _ dX6_call_34  (Option.some.inj hR) rfl hP hD hS
  · have hR := (if_neg c_2).symm.trans hR
    refine lv_bipush (v := (-3)) hx hb dX6_call_10 (by decide) ?_
    exact ret_ _ _ _ _ _ _ dX6_call_12  (Option.some.inj hR) rfl hP hD hS
