abbrev rm_X6_leave : Room := { frames := 0, cells := 0, slots := 0, locals := 0 }
set_option maxHeartbeats 4000000 in
set_option maxRecDepth 100000 in
theorem c_X6_leave (l : Launch) (D : va_G) (cI cO : ClassId) (ad : Nat → Nat) (sz : Nat) {st : St} {x1 : Int32} {s2 : St} (hR : F_X6_leave st x1 = some s2) : CV l yX6_leave wsX6_leave rm_X6_leave D cI cO [.ref (ad 0), .int x1] (BW cI cO ad st) (BW cI cO ad s2) sz := by
  refine mk_v (cc := cX6_leave) (maxL := 2) (own := RX6) rfl (by decide) rfl (Nat.le_of_ble_eq_true rfl) ?_
  intro p e s m args below meth c A Q ls hx hb hml hown hts hK hN hA ret_ hP hD hS hl
  have i_X6 : ∀ w ∈ u_ws RX6 TX6 7, w ∈ wsX6_leave := (fun _ h => List.mem_cons_of_mem _ (List.mem_append_right _ h))
  have f_45 := hts (.fieldLink RX6 45 "BellNames" "traceLeft" "I") (by decide +kernel)
  have hl : lv_has ls 2 [(0, .ref (ad 0)), (1, .int x1)] := hl
  unfold F_X6_leave at hR
  refine lv_aload_n hx hb dX6_leave_0 rfl (lv_at hl 0 rfl) ?_
  refine lv_bipush (v := 31) hx hb dX6_leave_1 (by decide) ?_
  refine lv_aload_n hx hb dX6_leave_3 rfl (lv_at hl 0 rfl) ?_
  refine bw_get (ci := 5) (v := .int (gI st 0)) (C := RX6) (T := TX6) (N := 7) hx hb hts i_X6 hown hK hP 0 rfl rfl 5 (by decide) f_45 rfl dX6_leave_4 ?_
  refine lv_imul hx hb dX6_leave_7 ?_
  refine lv_iload_n hx hb dX6_leave_8 rfl (lv_at hl 1 rfl) ?_
  refine lv_iadd hx hb dX6_leave_9 ?_
  refine bw_put (w' := (BW cI cO ad (sI st 0 ((31 * (gI st 0)) + x1)))) (ci := 5) (C := RX6) (T := TX6) (N := 7) hx hb hts i_X6 tyX6 tyX6_ok nmX6 hown hK hP hD hS 0 rfl rfl 5 (by decide) f_45 rfl rfl (Nat.le_of_ble_eq_true rfl) (BW_i0 cI cO ad _ _) dX6_leave_10 (fun H locs hP hD hS => ?_)
  exact ret_ _ _ _ _ _ dX6_leave_13 (congrArg (fun z => (BW cI cO ad z)) (Option.some.inj hR)) hP hD hS
abbrev rm_X6_plainBody : Room := { frames := 1, cells := 0, slots := 0, locals := 21 }
set_option maxHeartbeats 4000000 in
set_option maxRecDepth 100000 in
theorem c_X6_plainBody (l : Launch) (D : va_G) (cI cO : ClassId) (ad : Nat → Nat) (sz : Nat) {st : St} {x1 : Int32} {r : Int32} {s2 : St} (hR : F_X6_plainBody st x1 = some (r, s2)) : CI l yX6_plainBody wsX6_plainBody rm_X6_plainBody D cI cO [.ref (ad 0), .int x1] (BW cI cO ad st) (BW cI cO ad s2) sz r := by
  refine mk_i (cc := cX6_plainBody) (maxL := 2) (own := RX6) rfl (by decide) rfl (Nat.le_of_ble_eq_true rfl) ?_
  intro p e s m args below meth c A Q ls hx hb hml hown hts hK hN hA ret_ hP hD hS hl
  have i_X6 : ∀ w ∈ u_ws RX6 TX6 7, w ∈ wsX6_plainBody := (fun _ h => List.mem_cons_of_mem _ (List.mem_append_left _ (List.mem_append_right _ h)))
  have i_X1 : ∀ w ∈ u_ws RX1 TX1 7, w ∈ wsX6_plainBody := (fun _ h => List.mem_cons_of_mem _ (List.mem_append_right _ h))
  have f_20 := hts (.fieldLink RX6 20 "BellNames" "herd" "LBellNames$Herd;") (by decide +kernel)
  have f_89 := hts (.fieldLink RX6 89 "BellNames$Herd" "noteOf" "[I") (by decide +kernel)
  have hl : lv_has ls 2 [(0, .ref (ad 0)), (1, .int x1)] := hl
  unfold F_X6_plainBody at hR
  refine lv_aload_n hx hb dX6_plainBody_0 rfl (lv_at hl 0 rfl) ?_
  refine lv_iconst (v := 1) hx hb dX6_plainBody_1 (by decide) ?_
  obtain ⟨s_1, e_1, hR⟩ := b1_some hR
  refine bc_v (va_runV (As := [.int 1]) (rest := []) ⟨hx, hb, hml, hown, hts⟩ (c_X6_leave l D cI cO ad _ e_1) (cwV 1 hts gX6_plainBody_X6_leave rfl rfl rfl (by decide +kernel) ⟨Nat.le_of_ble_eq_true rfl, Nat.le_of_ble_eq_true rfl⟩) (preV hK hN hP hD (va_recv hK hP (ci := 5) (q0 := 0) rfl rfl)) rfl rfl hl.1 rfl (lv_room (Nat.le_of_ble_eq_true rfl)) dX6_plainBody_2 ⟨Nat.zero_le _, Nat.zero_le _⟩) hS hD hA (fun H locs hP hD hS => ?_)
  refine lv_aload_n hx hb dX6_plainBody_5 rfl (lv_at hl 0 rfl) ?_
  refine bw_get (ci := 5) (v := .ref (ad 10)) (C := RX6) (T := TX6) (N := 7) hx hb hts i_X6 hown hK hP 0 rfl rfl 1 (by decide) f_20 rfl dX6_plainBody_6 ?_
  refine bw_get (ci := 1) (v := .ref (ad 12)) (C := RX1) (T := TX1) (N := 7) hx hb hts i_X1 hown hK hP 10 rfl rfl 1 (by decide) f_89 rfl dX6_plainBody_9 ?_
  refine lv_iload_n hx hb dX6_plainBody_12 rfl (lv_at hl 1 rfl) ?_
  obtain ⟨h_2, hR⟩ := ck_some hR
  refine bw_ald (v := gA s_1 1 x1) hx hb hK hP 12 rfl h_2 rfl dX6_plainBody_13 ?_
  exact ret_ _ _ _ _ _ _ dX6_plainBody_14  (sp1 hR) (congrArg (fun z => (BW cI cO ad z)) (sp2 hR)) hP hD hS
abbrev rm_X6_crackedBody : Room := { frames := 2, cells := 0, slots := 0, locals := 42 }
set_option maxHeartbeats 4000000 in
set_option maxRecDepth 100000 in
theorem c_X6_crackedBody (l : Launch) (D : va_G) (cI cO : ClassId) (ad : Nat → Nat) (sz : Nat) {st : St} {x1 : Int32} {r : Int32} {s2 : St} (hR : F_X6_crackedBody st x1 = some (r, s2)) : CI l yX6_crackedBody wsX6_crackedBody rm_X6_crackedBody D cI cO [.ref (ad 0), .int x1] (BW cI cO ad st) (BW cI cO ad s2) sz r := by
  refine mk_i (cc := cX6_crackedBody) (maxL := 2) (own := RX6) rfl (by decide) rfl (Nat.le_of_ble_eq_true rfl) ?_
  intro p e s m args below meth c A Q ls hx hb hml hown hts hK hN hA ret_ hP hD hS hl
  have hl : lv_has ls 2 [(0, .ref (ad 0)), (1, .int x1)] := hl
  unfold F_X6_crackedBody at hR
  refine lv_aload_n hx hb dX6_crackedBody_0 rfl (lv_at hl 0 rfl) ?_
  refine lv_iconst (v := 2) hx hb dX6_crackedBody_1 (by decide) ?_
  obtain ⟨s_1, e_1, hR⟩ := b1_some hR
  refine bc_v (va_runV (As := [.int 2]) (rest := []) ⟨hx, hb, hml, hown, hts⟩ (c_X6_leave l D cI cO ad _ e_1) (cwV 1 hts gX6_crackedBody_X6_leave rfl rfl rfl (by decide +kernel) ⟨Nat.le_of_ble_eq_true rfl, Nat.le_of_ble_eq_true rfl⟩) (preV hK hN hP hD (va_recv hK hP (ci := 5) (q0 := 0) rfl rfl)) rfl rfl hl.1 rfl (lv_room (Nat.le_of_ble_eq_true rfl)) dX6_crackedBody_2 ⟨Nat.zero_le _, Nat.zero_le _⟩) hS hD hA (fun H locs hP hD hS => ?_)
  refine lv_aload_n hx hb dX6_crackedBody_5 rfl (lv_at hl 0 rfl) ?_
  refine lv_iload_n hx hb dX6_crackedBody_6 rfl (lv_at hl 1 rfl) ?_
  obtain ⟨v_2, s_2, e_2, hR⟩ := b2_some hR
  refine bc_i (va_runV (As := [.int x1]) (rest := []) ⟨hx, hb, hml, hown, hts⟩ (c_X6_plainBody l D cI cO ad _ e_2) (cwV 1 hts gX6_crackedBody_X6_plainBody rfl rfl rfl (by decide +kernel) ⟨Nat.le_of_ble_eq_true rfl, Nat.le_of_ble_eq_true rfl⟩) (preV hK hN hP hD (va_recv hK hP (ci := 5) (q0 := 0) rfl rfl)) rfl rfl hl.1 rfl (lv_room (Nat.le_of_ble_eq_true rfl)) dX6_crackedBody_7 ⟨Nat.zero_le _, Nat.zero_le _⟩) hS hD hA (fun H locs hP hD hS => ?_)
  refine lv_bipush (v := 100) hx hb dX6_crackedBody_10 (by decide) ?_
  refine lv_iadd hx hb dX6_crackedBody_12 ?_
  exact ret_ _ _ _ _ _ _ dX6_crackedBody_13  (sp1 hR) (congrArg (fun z => (BW cI cO ad z)) (sp2 hR)) hP hD hS
abbrev rm_X6_stuffedBody : Room := { frames := 3, cells := 0, slots := 0, locals := 63 }
set_option maxHeartbeats 4000000 in
set_option maxRecDepth 100000 in
theorem c_X6_stuffedBody (l : Launch) (D : va_G) (cI cO : ClassId) (ad : Nat → Nat) (sz : Nat) {st : St} {x1 : Int32} {r : Int32} {s2 : St} (hR : F_X6_stuffedBody st x1 = some (r, s2)) : CI l yX6_stuffedBody wsX6_stuffedBody rm_X6_stuffedBody D cI cO [.ref (ad 0), .int x1] (BW cI cO ad st) (BW cI cO ad s2) sz r := by
  refine mk_i (cc := cX6_stuffedBody) (maxL := 3) (own := RX6) rfl (by decide) rfl (Nat.le_of_ble_eq_true rfl) ?_
  intro p e s m args below meth c A Q ls hx hb hml hown hts hK hN hA ret_ hP hD hS hl
  have hl : lv_has ls 3 [(0, .ref (ad 0)), (1, .int x1)] := hl
  unfold F_X6_stuffedBody at hR
  refine lv_aload_n hx hb dX6_stuffedBody_0 rfl (lv_at hl 0 rfl) ?_
  refine lv_iconst (v := 3) hx hb dX6_stuffedBody_1 (by decide) ?_
  obtain ⟨s_1, e_1, hR⟩ := b1_some hR
  refine bc_v (va_runV (As := [.int 3]) (rest := []) ⟨hx, hb, hml, hown, hts⟩ (c_X6_leave l D cI cO ad _ e_1) (cwV 1 hts gX6_stuffedBody_X6_leave rfl rfl rfl (by decide +kernel) ⟨Nat.le_of_ble_eq_true rfl, Nat.le_of_ble_eq_true rfl⟩) (preV hK hN hP hD (va_recv hK hP (ci := 5) (q0 := 0) rfl rfl)) rfl rfl hl.1 rfl (lv_room (Nat.le_of_ble_eq_true rfl)) dX6_stuffedBody_2 ⟨Nat.zero_le _, Nat.zero_le _⟩) hS hD hA (fun H locs hP hD hS => ?_)
  refine lv_aload_n hx hb dX6_stuffedBody_5 rfl (lv_at hl 0 rfl) ?_
  refine lv_iload_n hx hb dX6_stuffedBody_6 rfl (lv_at hl 1 rfl) ?_
  obtain ⟨v_2, s_2, e_2, hR⟩ := b2_some hR
  refine bc_i (va_runV (As := [.int x1]) (rest := []) ⟨hx, hb, hml, hown, hts⟩ (c_X6_crackedBody l D cI cO ad _ e_2) (cwV 1 hts gX6_stuffedBody_X6_crackedBody rfl rfl rfl (by decide +kernel) ⟨Nat.le_of_ble_eq_true rfl, Nat.le_of_ble_eq_true rfl⟩) (preV hK hN hP hD (va_recv hK hP (ci := 5) (q0 := 0) rfl rfl)) rfl rfl hl.1 rfl (lv_room (Nat.le_of_ble_eq_true rfl)) dX6_stuffedBody_7 ⟨Nat.zero_le _, Nat.zero_le _⟩) hS hD hA (fun H locs hP hD hS => ?_)
  refine lv_istore_n (lv' := [(2, .int v_2), (0, .ref (ad 0)), (1, .int x1)]) hx hb dX6_stuffedBody_10 rfl hl (by decide) rfl (fun ls hl => ?_)
  refine lv_iload_n hx hb dX6_stuffedBody_11 rfl (lv_at hl 0 rfl) ?_
  refine lv_aload_n hx hb dX6_stuffedBody_12 rfl (lv_at hl 1 rfl) ?_
  refine lv_iload_n hx hb dX6_stuffedBody_13 rfl (lv_at hl 2 rfl) ?_
  obtain ⟨v_3, s_3, e_3, hR⟩ := b2_some hR
  refine bc_i (va_runV (As := [.int x1]) (rest := [.int v_2]) ⟨hx, hb, hml, hown, hts⟩ (c_X6_plainBody l D cI cO ad _ e_3) (cwV 1 hts gX6_stuffedBody_X6_plainBody rfl rfl rfl (by decide +kernel) ⟨Nat.le_of_ble_eq_true rfl, Nat.le_of_ble_eq_true rfl⟩) (preV hK hN hP hD (va_recv hK hP (ci := 5) (q0 := 0) rfl rfl)) rfl rfl hl.1 rfl (lv_room (Nat.le_of_ble_eq_true rfl)) dX6_stuffedBody_14 ⟨Nat.zero_le _, Nat.zero_le _⟩) hS hD hA (fun H locs hP hD hS => ?_)
  refine lv_iadd hx hb dX6_stuffedBody_17 ?_
  exact ret_ _ _ _ _ _ _ dX6_stuffedBody_18  (sp1 hR) (congrArg (fun z => (BW cI cO ad z)) (sp2 hR)) hP hD hS
abbrev rm_X6_tell : Room := { frames := 4, cells := 0, slots := 0, locals := 85 }
set_option maxHeartbeats 4000000 in
set_option maxRecDepth 100000 in
theorem c_X6_tell (l : Launch) (D : va_G) (cI cO : ClassId) (ad : Nat → Nat) (sz : Nat) {st : St} {x1 : Int32} {r : Int32} {s2 : St} (hR : F_X6_tell st x1 = some (r, s2)) : CI l yX6_tell wsX6_tell rm_X6_tell D cI cO [.ref (ad 0), .int x1] (BW cI cO ad st) (BW cI cO ad s2) sz r := by
  refine mk_i (cc := cX6_tell) (maxL := 2) (own := RX6) rfl (by decide) rfl (Nat.le_of_ble_eq_true rfl) ?_
  intro p e s m args below meth c A Q ls hx hb hml hown hts hK hN hA ret_ hP hD hS hl
  have i_X6 : ∀ w ∈ u_ws RX6 TX6 7, w ∈ wsX6_tell := (fun _ h => List.mem_cons_of_mem _ (List.mem_append_left _ (List.mem_append_right _ h)))
  have i_X1 : ∀ w ∈ u_ws RX1 TX1 7, w ∈ wsX6_tell := (fun _ h => List.mem_cons_of_mem _ (List.mem_append_right _ h))
  have f_20 := hts (.fieldLink RX6 20 "BellNames" "herd" "LBellNames$Herd;") (by decide +kernel)
  have f_85 := hts (.fieldLink RX6 85 "BellNames$Herd" "kindOf" "[I") (by decide +kernel)
  have hl : lv_has ls 2 [(0, .ref (ad 0)), (1, .int x1)] := hl
  unfold F_X6_tell at hR
  refine lv_aload_n hx hb dX6_tell_0 rfl (lv_at hl 0 rfl) ?_
  refine bw_get (ci := 5) (v := .ref (ad 10)) (C := RX6) (T := TX6) (N := 7) hx hb hts i_X6 hown hK hP 0 rfl rfl 1 (by decide) f_20 rfl dX6_tell_1 ?_
  refine lv_iload_n hx hb dX6_tell_4 rfl (lv_at hl 1 rfl) ?_
  obtain ⟨v_1, e_1, hR⟩ := b1_some hR
  refine bc_z (va_runV (As := [.int x1]) (rest := []) ⟨hx, hb, hml, hown, hts⟩ (c_X1_hasBell l D cI cO ad _ e_1) (cwV 1 hts gX6_tell_X1_hasBell rfl rfl rfl (by decide +kernel) ⟨Nat.le_of_ble_eq_true rfl, Nat.le_of_ble_eq_true rfl⟩) (preV hK hN hP hD (va_recv hK hP (ci := 1) (q0 := 10) rfl rfl)) rfl rfl hl.1 rfl (lv_room (Nat.le_of_ble_eq_true rfl)) dX6_tell_5 ⟨Nat.zero_le _, Nat.zero_le _⟩) hS hD hA (fun H locs hP hD hS n_1 => ?_)
  refine lv_if_ne (tgt := 13) hx hb dX6_tell_8 (by decide) (fun c_2 => ?_) (fun c_2 => ?_)
  · have hR := (if_neg c_2).symm.trans hR
    refine lv_aload_n hx hb dX6_tell_13 rfl (lv_at hl 0 rfl) ?_
    refine bw_get (ci := 5) (v := .ref (ad 10)) (C := RX6) (T := TX6) (N := 7) hx hb hts i_X6 hown hK hP 0 rfl rfl 1 (by decide) f_20 rfl dX6_tell_14 ?_
    refine bw_get (ci := 1) (v := .ref (ad 11)) (C := RX1) (T := TX1) (N := 7) hx hb hts i_X1 hown hK hP 10 rfl rfl 0 (by decide) f_85 rfl dX6_tell_17 ?_
    refine lv_iload_n hx hb dX6_tell_20 rfl (lv_at hl 1 rfl) ?_
    obtain ⟨h_3, hR⟩ := ck_some hR
    refine bw_ald (v := gA st 0 x1) hx hb hK hP 11 rfl h_3 rfl dX6_tell_21 ?_
    by_cases w_4_0 : (gA st 0 x1) = 1
    · have hR := (if_pos w_4_0).symm.trans hR
      refine lv_lookup (off := 32) (tgt := 54) hx hb dX6_tell_22 (by decide) (by rw [w_4_0]; rfl) (by decide) ?_
      refine lv_aload_n hx hb dX6_tell_54 rfl (lv_at hl 0 rfl) ?_
      refine lv_iload_n hx hb dX6_tell_55 rfl (lv_at hl 1 rfl) ?_
      obtain ⟨v_5, s_5, e_5, hR⟩ := b2_some hR
      refine bc_i (va_runV (As := [.int x1]) (rest := []) ⟨hx, hb, hml, hown, hts⟩ (c_X6_crackedBody l D cI cO ad _ e_5) (cwV 1 hts gX6_tell_X6_crackedBody rfl rfl rfl (by decide +kernel) ⟨Nat.le_of_ble_eq_true rfl, Nat.le_of_ble_eq_true rfl⟩) (preV hK hN hP hD (va_recv hK hP (ci := 5) (q0 := 0) rfl rfl)) rfl rfl hl.1 rfl (lv_room (Nat.le_of_ble_eq_true rfl)) dX6_tell_56 ⟨Nat.zero_le _, Nat.zero_le _⟩) hS hD hA (fun H locs hP hD hS => ?_)
      exact ret_ _ _ _ _ _ _ dX6_tell_59  (sp1 hR) (congrArg (fun z => (BW cI cO ad z)) (sp2 hR)) hP hD hS
    have hR := (if_neg w_4_0).symm.trans hR
    by_cases w_4_1 : (gA st 0 x1) = 2
    · have hR := (if_pos w_4_1).symm.trans hR
      refine lv_lookup (off := 26) (tgt := 48) hx hb dX6_tell_22 (by decide) (by rw [w_4_1]; rfl) (by decide) ?_
      refine lv_aload_n hx hb dX6_tell_48 rfl (lv_at hl 0 rfl) ?_
      refine lv_iload_n hx hb dX6_tell_49 rfl (lv_at hl 1 rfl) ?_
      obtain ⟨v_6, s_6, e_6, hR⟩ := b2_some hR
      refine bc_i (va_runV (As := [.int x1]) (rest := []) ⟨hx, hb, hml, hown, hts⟩ (c_X6_stuffedBody l D cI cO ad _ e_6) (cwV 1 hts gX6_tell_X6_stuffedBody rfl rfl rfl (by decide +kernel) ⟨Nat.le_of_ble_eq_true rfl, Nat.le_of_ble_eq_true rfl⟩) (preV hK hN hP hD (va_recv hK hP (ci := 5) (q0 := 0) rfl rfl)) rfl rfl hl.1 rfl (lv_room (Nat.le_of_ble_eq_true rfl)) dX6_tell_50 ⟨Nat.zero_le _, Nat.zero_le _⟩) hS hD hA (fun H locs hP hD hS => ?_)
      exact ret_ _ _ _ _ _ _ dX6_tell_53  (sp1 hR) (congrArg (fun z => (BW cI cO ad z)) (sp2 hR)) hP hD hS
    have hR := (if_neg w_4_1).symm.trans hR
    refine lv_lookup (off := 38) (tgt := 60) hx hb dX6_tell_22 (by decide) ((lv_osw w_4_0 rfl).trans ((lv_osw w_4_1 rfl).trans rfl)) (by decide) ?_
    refine lv_aload_n hx hb dX6_tell_60 rfl (lv_at hl 0 rfl) ?_
    refine lv_iload_n hx hb dX6_tell_61 rfl (lv_at hl 1 rfl) ?_
    obtain ⟨v_7, s_7, e_7, hR⟩ := b2_some hR
    refine bc_i (va_runV (As := [.int x1]) (rest := []) ⟨hx, hb, hml, hown, hts⟩ (c_X6_plainBody l D cI cO ad _ e_7) (cwV 1 hts gX6_tell_X6_plainBody rfl rfl rfl (by decide +kernel) ⟨Nat.le_of_ble_eq_true rfl, Nat.le_of_ble_eq_true rfl⟩) (preV hK hN hP hD (va_recv hK hP (ci := 5) (q0 := 0) rfl rfl)) rfl rfl hl.1 rfl (lv_room (Nat.le_of_ble_eq_true rfl)) dX6_tell_62 ⟨Nat.zero_le _, Nat.zero_le _⟩) hS hD hA (fun H locs hP hD hS => ?_)
    exact ret_ _ _ _ _ _ _ dX6_tell_65  (sp1 hR) (congrArg (fun z => (BW cI cO ad z)) (sp2 hR)) hP hD hS
  · have hR := (if_pos c_2).symm.trans hR
    refine lv_iconst (v := (-1)) hx hb dX6_tell_11 (by decide) ?_
    exact ret_ _ _ _ _ _ _ dX6_tell_12  (sp1 hR) (congrArg (fun z => (BW cI cO ad z)) (sp2 hR)) hP hD hS
abbrev rm_X6_echo : Room := { frames := 2, cells := 0, slots := 0, locals := 42 }
set_option maxHeartbeats 4000000 in
set_option maxRecDepth 100000 in
theorem c_X6_echo (l : Launch) (D : va_G) (cI cO : ClassId) (ad : Nat → Nat) (sz : Nat) {st : St} {x1 : Int32} {r : Int32} {s2 : St} (hR : F_X6_echo st x1 = some (r, s2)) : CI l yX6_echo wsX6_echo rm_X6_echo D cI cO [.ref (ad 0), .int x1] (BW cI cO ad st) (BW cI cO ad s2) sz r := by
  refine mk_i (cc := cX6_echo) (maxL := 2) (own := RX6) rfl (by decide) rfl (Nat.le_of_ble_eq_true rfl) ?_
  intro p e s m args below meth c A Q ls hx hb hml hown hts hK hN hA ret_ hP hD hS hl
  have i_X6 : ∀ w ∈ u_ws RX6 TX6 7, w ∈ wsX6_echo := (fun _ h => List.mem_cons_of_mem _ (List.mem_append_left _ (List.mem_append_right _ h)))
  have i_X1 : ∀ w ∈ u_ws RX1 TX1 7, w ∈ wsX6_echo := (fun _ h => List.mem_cons_of_mem _ (List.mem_append_right _ h))
  have f_20 := hts (.fieldLink RX6 20 "BellNames" "herd" "LBellNames$Herd;") (by decide +kernel)
  have f_85 := hts (.fieldLink RX6 85 "BellNames$Herd" "kindOf" "[I") (by decide +kernel)
  have hl : lv_has ls 2 [(0, .ref (ad 0)), (1, .int x1)] := hl
  unfold F_X6_echo at hR
  refine lv_aload_n hx hb dX6_echo_0 rfl (lv_at hl 0 rfl) ?_
  refine bw_get (ci := 5) (v := .ref (ad 10)) (C := RX6) (T := TX6) (N := 7) hx hb hts i_X6 hown hK hP 0 rfl rfl 1 (by decide) f_20 rfl dX6_echo_1 ?_
  refine lv_iload_n hx hb dX6_echo_4 rfl (lv_at hl 1 rfl) ?_
  obtain ⟨v_1, e_1, hR⟩ := b1_some hR
  refine bc_z (va_runV (As := [.int x1]) (rest := []) ⟨hx, hb, hml, hown, hts⟩ (c_X1_hasBell l D cI cO ad _ e_1) (cwV 1 hts gX6_echo_X1_hasBell rfl rfl rfl (by decide +kernel) ⟨Nat.le_of_ble_eq_true rfl, Nat.le_of_ble_eq_true rfl⟩) (preV hK hN hP hD (va_recv hK hP (ci := 1) (q0 := 10) rfl rfl)) rfl rfl hl.1 rfl (lv_room (Nat.le_of_ble_eq_true rfl)) dX6_echo_5 ⟨Nat.zero_le _, Nat.zero_le _⟩) hS hD hA (fun H locs hP hD hS n_1 => ?_)
  refine lv_if_ne (tgt := 13) hx hb dX6_echo_8 (by decide) (fun c_2 => ?_) (fun c_2 => ?_)
  · have hR := (if_neg c_2).symm.trans hR
    refine lv_aload_n hx hb dX6_echo_13 rfl (lv_at hl 0 rfl) ?_
    refine bw_get (ci := 5) (v := .ref (ad 10)) (C := RX6) (T := TX6) (N := 7) hx hb hts i_X6 hown hK hP 0 rfl rfl 1 (by decide) f_20 rfl dX6_echo_14 ?_
    refine bw_get (ci := 1) (v := .ref (ad 11)) (C := RX1) (T := TX1) (N := 7) hx hb hts i_X1 hown hK hP 10 rfl rfl 0 (by decide) f_85 rfl dX6_echo_17 ?_
    refine lv_iload_n hx hb dX6_echo_20 rfl (lv_at hl 1 rfl) ?_
    obtain ⟨h_3, hR⟩ := ck_some hR
    refine bw_ald (v := gA st 0 x1) hx hb hK hP 11 rfl h_3 rfl dX6_echo_21 ?_
    refine lv_iconst (v := 2) hx hb dX6_echo_22 (by decide) ?_
    refine lv_icmp_ne (tgt := 34) hx hb dX6_echo_23 (by decide) (fun c_4 => ?_) (fun c_4 => ?_)
    · have hR := (if_neg c_4).symm.trans hR
      refine lv_aload_n hx hb dX6_echo_34 rfl (lv_at hl 0 rfl) ?_
      refine lv_iconst (v := 4) hx hb dX6_echo_35 (by decide) ?_
      obtain ⟨s_5, e_5, hR⟩ := b1_some hR
      refine bc_v (va_runV (As := [.int 4]) (rest := []) ⟨hx, hb, hml, hown, hts⟩ (c_X6_leave l D cI cO ad _ e_5) (cwV 1 hts gX6_echo_X6_leave rfl rfl rfl (by decide +kernel) ⟨Nat.le_of_ble_eq_true rfl, Nat.le_of_ble_eq_true rfl⟩) (preV hK hN hP hD (va_recv hK hP (ci := 5) (q0 := 0) rfl rfl)) rfl rfl hl.1 rfl (lv_room (Nat.le_of_ble_eq_true rfl)) dX6_echo_36 ⟨Nat.zero_le _, Nat.zero_le _⟩) hS hD hA (fun H locs hP hD hS => ?_)
      refine lv_iload_n hx hb dX6_echo_39 rfl (lv_at hl 1 rfl) ?_
      exact ret_ _ _ _ _ _ _ dX6_echo_40  (sp1 hR) (congrArg (fun z => (BW cI cO ad z)) (sp2 hR)) hP hD hS
    · have hR := (if_pos c_4).symm.trans hR
      refine lv_aload_n hx hb dX6_echo_26 rfl (lv_at hl 0 rfl) ?_
      refine lv_iconst (v := 5) hx hb dX6_echo_27 (by decide) ?_
      obtain ⟨s_6, e_6, hR⟩ := b1_some hR
      refine bc_v (va_runV (As := [.int 5]) (rest := []) ⟨hx, hb, hml, hown, hts⟩ (c_X6_leave l D cI cO ad _ e_6) (cwV 1 hts gX6_echo_X6_leave rfl rfl rfl (by decide +kernel) ⟨Nat.le_of_ble_eq_true rfl, Nat.le_of_ble_eq_true rfl⟩) (preV hK hN hP hD (va_recv hK hP (ci := 5) (q0 := 0) rfl rfl)) rfl rfl hl.1 rfl (lv_room (Nat.le_of_ble_eq_true rfl)) dX6_echo_28 ⟨Nat.zero_le _, Nat.zero_le _⟩) hS hD hA (fun H locs hP hD hS => ?_)
      refine lv_bipush (v := 20) hx hb dX6_echo_31 (by decide) ?_
      exact ret_ _ _ _ _ _ _ dX6_echo_33  (sp1 hR) (congrArg (fun z => (BW cI cO ad z)) (sp2 hR)) hP hD hS
  · have hR := (if_pos c_2).symm.trans hR
    refine lv_iconst (v := (-1)) hx hb dX6_echo_11 (by decide) ?_
    exact ret_ _ _ _ _ _ _ dX6_echo_12  (sp1 hR) (congrArg (fun z => (BW cI cO ad z)) (sp2 hR)) hP hD hS
abbrev rm_X6_as : Room := { frames := 2, cells := 0, slots := 0, locals := 42 }
set_option maxHeartbeats 4000000 in
set_option maxRecDepth 100000 in
theorem c_X6_as (l : Launch) (D : va_G) (cI cO : ClassId) (ad : Nat → Nat) (sz : Nat) {st : St} {x1 : Int32} {x2 : Int32} {r : Int32} {s2 : St} (hR : F_X6_as st x1 x2 = some (r, s2)) : CI l yX6_as wsX6_as rm_X6_as D cI cO [.ref (ad 0), .int x1, .int x2] (BW cI cO ad st) (BW cI cO ad s2) sz r := by
  refine mk_i (cc := cX6_as) (maxL := 3) (own := RX6) rfl (by decide) rfl (Nat.le_of_ble_eq_true rfl) ?_
  intro p e s m args below meth c A Q ls hx hb hml hown hts hK hN hA ret_ hP hD hS hl
  have i_X6 : ∀ w ∈ u_ws RX6 TX6 7, w ∈ wsX6_as := (fun _ h => List.mem_cons_of_mem _ (List.mem_append_left _ (List.mem_append_right _ h)))
  have i_X1 : ∀ w ∈ u_ws RX1 TX1 7, w ∈ wsX6_as := (fun _ h => List.mem_cons_of_mem _ (List.mem_append_right _ h))
  have f_49 := hts (.fieldLink RX6 49 "BellNames" "lastFault" "I") (by decide +kernel)
  have f_20 := hts (.fieldLink RX6 20 "BellNames" "herd" "LBellNames$Herd;") (by decide +kernel)
  have f_85 := hts (.fieldLink RX6 85 "BellNames$Herd" "kindOf" "[I") (by decide +kernel)
  have hl : lv_has ls 3 [(0, .ref (ad 0)), (1, .int x1), (2, .int x2)] := hl
  unfold F_X6_as at hR
  refine lv_aload_n hx hb dX6_as_0 rfl (lv_at hl 0 rfl) ?_
  refine lv_iconst (v := 0) hx hb dX6_as_1 (by decide) ?_
  refine bw_put (w' := (BW cI cO ad (sI st 1 0))) (ci := 5) (C := RX6) (T := TX6) (N := 7) hx hb hts i_X6 tyX6 tyX6_ok nmX6 hown hK hP hD hS 0 rfl rfl 6 (by decide) f_49 rfl rfl (Nat.le_of_ble_eq_true rfl) (BW_i1 cI cO ad _ _) dX6_as_2 (fun H locs hP hD hS => ?_)
  refine lv_aload_n hx hb dX6_as_5 rfl (lv_at hl 0 rfl) ?_
  refine bw_get (ci := 5) (v := .ref (ad 10)) (C := RX6) (T := TX6) (N := 7) hx hb hts i_X6 hown hK hP 0 rfl rfl 1 (by decide) f_20 rfl dX6_as_6 ?_
  refine lv_iload_n hx hb dX6_as_9 rfl (lv_at hl 1 rfl) ?_
  obtain ⟨v_1, e_1, hR⟩ := b1_some hR
  refine bc_z (va_runV (As := [.int x1]) (rest := []) ⟨hx, hb, hml, hown, hts⟩ (c_X1_hasBell l D cI cO ad _ e_1) (cwV 1 hts gX6_as_X1_hasBell rfl rfl rfl (by decide +kernel) ⟨Nat.le_of_ble_eq_true rfl, Nat.le_of_ble_eq_true rfl⟩) (preV hK hN hP hD (va_recv hK hP (ci := 1) (q0 := 10) rfl rfl)) rfl rfl hl.1 rfl (lv_room (Nat.le_of_ble_eq_true rfl)) dX6_as_10 ⟨Nat.zero_le _, Nat.zero_le _⟩) hS hD hA (fun H locs hP hD hS n_1 => ?_)
  refine lv_if_ne (tgt := 18) hx hb dX6_as_13 (by decide) (fun c_2 => ?_) (fun c_2 => ?_)
  · have hR := (if_neg c_2).symm.trans hR
    refine lv_iload_n hx hb dX6_as_18 rfl (lv_at hl 2 rfl) ?_
    refine lv_iconst (v := 3) hx hb dX6_as_19 (by decide) ?_
    obtain ⟨v_3, e_3, hR⟩ := b1_some hR
    refine bc_z (va_runS (As := [.int x2, .int 3]) (rest := []) ⟨hx, hb, hml, hown, hts⟩ (c_X6_isBelow l D cI cO ad _ e_3) (va_cwS 2 hts gX6_as_X6_isBelow rfl rfl rfl (by decide +kernel) ⟨Nat.le_of_ble_eq_true rfl, Nat.le_of_ble_eq_true rfl⟩) (preS hK hN hP hD) rfl rfl hl.1 rfl (lv_room (Nat.le_of_ble_eq_true rfl)) dX6_as_20 ⟨Nat.zero_le _, Nat.zero_le _⟩) hS hD hA (fun H locs hP hD hS n_3 => ?_)
    refine lv_if_ne (tgt := 29) hx hb dX6_as_23 (by decide) (fun c_4 => ?_) (fun c_4 => ?_)
    · have hR := (if_neg c_4).symm.trans hR
      refine lv_iload_n hx hb dX6_as_29 rfl (lv_at hl 2 rfl) ?_
      refine lv_aload_n hx hb dX6_as_30 rfl (lv_at hl 0 rfl) ?_
      refine bw_get (ci := 5) (v := .ref (ad 10)) (C := RX6) (T := TX6) (N := 7) hx hb hts i_X6 hown hK hP 0 rfl rfl 1 (by decide) f_20 rfl dX6_as_31 ?_
      refine bw_get (ci := 1) (v := .ref (ad 11)) (C := RX1) (T := TX1) (N := 7) hx hb hts i_X1 hown hK hP 10 rfl rfl 0 (by decide) f_85 rfl dX6_as_34 ?_
      refine lv_iload_n hx hb dX6_as_37 rfl (lv_at hl 1 rfl) ?_
      obtain ⟨h_5, hR⟩ := ck_some hR
      refine bw_ald (v := gA (sI st 1 0) 0 x1) hx hb hK hP 11 rfl h_5 rfl dX6_as_38 ?_
      refine lv_icmp_le (tgt := 48) hx hb dX6_as_39 (by decide) (fun c_6 => ?_) (fun c_6 => ?_)
      · have hR := (if_pos c_6).symm.trans hR
        refine lv_iconst (v := 1) hx hb dX6_as_48 (by decide) ?_
        exact ret_ _ _ _ _ _ _ dX6_as_49  (sp1 hR) (congrArg (fun z => (BW cI cO ad z)) (sp2 hR)) hP hD hS
      · have hR := (if_neg c_6).symm.trans hR
        refine lv_aload_n hx hb dX6_as_42 rfl (lv_at hl 0 rfl) ?_
        refine lv_iconst (v := 2) hx hb dX6_as_43 (by decide) ?_
        obtain ⟨v_7, s_7, e_7, hR⟩ := b2_some hR
        refine bc_i (va_runV (As := [.int 2]) (rest := []) ⟨hx, hb, hml, hown, hts⟩ (c_X6_failBy l D cI cO ad _ e_7) (cwV 1 hts gX6_as_X6_failBy rfl rfl rfl (by decide +kernel) ⟨Nat.le_of_ble_eq_true rfl, Nat.le_of_ble_eq_true rfl⟩) (preV hK hN hP hD (va_recv hK hP (ci := 5) (q0 := 0) rfl rfl)) rfl rfl hl.1 rfl (lv_room (Nat.le_of_ble_eq_true rfl)) dX6_as_44 ⟨Nat.zero_le _, Nat.zero_le _⟩) hS hD hA (fun H locs hP hD hS => ?_)
        exact ret_ _ _ _ _ _ _ dX6_as_47  (sp1 hR) (congrArg (fun z => (BW cI cO ad z)) (sp2 hR)) hP hD hS
    · have hR := (if_pos c_4).symm.trans hR
      refine lv_bipush (v := (-2)) hx hb dX6_as_26 (by decide) ?_
      exact ret_ _ _ _ _ _ _ dX6_as_28  (sp1 hR) (congrArg (fun z => (BW cI cO ad z)) (sp2 hR)) hP hD hS
  · have hR := (if_pos c_2).symm.trans hR
    refine lv_iconst (v := (-1)) hx hb dX6_as_16 (by decide) ?_
    exact ret_ _ _ _ _ _ _ dX6_as_17  (sp1 hR) (congrArg (fun z => (BW cI cO ad z)) (sp2 hR)) hP hD hS
abbrev rm_X6_trace : Room := { frames := 0, cells := 0, slots := 0, locals := 0 }
set_option maxHeartbeats 4000000 in
set_option maxRecDepth 100000 in
theorem c_X6_trace (l : Launch) (D : va_G) (cI cO : ClassId) (ad : Nat → Nat) (sz : Nat) {st : St} {r : Int32} (hR : F_X6_trace st = some r) : CI l yX6_trace wsX6_trace rm_X6_trace D cI cO [.ref (ad 0)] (BW cI cO ad st) (BW cI cO ad st) sz r := by
  refine mk_i (cc := cX6_trace) (maxL := 1) (own := RX6) rfl (by decide) rfl (Nat.le_of_ble_eq_true rfl) ?_
  intro p e s m args below meth c A Q ls hx hb hml hown hts hK hN hA ret_ hP hD hS hl
  have i_X6 : ∀ w ∈ u_ws RX6 TX6 7, w ∈ wsX6_trace := (fun _ h => List.mem_cons_of_mem _ (List.mem_append_right _ h))
  have f_45 := hts (.fieldLink RX6 45 "BellNames" "traceLeft" "I") (by decide +kernel)
  have hl : lv_has ls 1 [(0, .ref (ad 0))] := hl
  unfold F_X6_trace at hR
  refine lv_aload_n hx hb dX6_trace_0 rfl (lv_at hl 0 rfl) ?_
  refine bw_get (ci := 5) (v := .int (gI st 0)) (C := RX6) (T := TX6) (N := 7) hx hb hts i_X6 hown hK hP 0 rfl rfl 5 (by decide) f_45 rfl dX6_trace_1 ?_
  exact ret_ _ _ _ _ _ _ dX6_trace_4  (Option.some.inj hR) rfl hP hD hS
abbrev rm_X6_fault : Room := { frames := 0, cells := 0, slots := 0, locals := 0 }
set_option maxHeartbeats 4000000 in
set_option maxRecDepth 100000 in
theorem c_X6_fault (l : Launch) (D : va_G) (cI cO : ClassId) (ad : Nat → Nat) (sz : Nat) {st : St} {r : Int32} (hR : F_X6_fault st = some r) : CI l yX6_fault wsX6_fault rm_X6_fault D cI cO [.ref (ad 0)] (BW cI cO ad st) (BW cI cO ad st) sz r := by
  refine mk_i (cc := cX6_fault) (maxL := 1) (own := RX6) rfl (by decide) rfl (Nat.le_of_ble_eq_true rfl) ?_
  intro p e s m args below meth c A Q ls hx hb hml hown hts hK hN hA ret_ hP hD hS hl
  have i_X6 : ∀ w ∈ u_ws RX6 TX6 7, w ∈ wsX6_fault := (fun _ h => List.mem_cons_of_mem _ (List.mem_append_right _ h))
  have f_49 := hts (.fieldLink RX6 49 "BellNames" "lastFault" "I") (by decide +kernel)
  have hl : lv_has ls 1 [(0, .ref (ad 0))] := hl
  unfold F_X6_fault at hR
  refine lv_aload_n hx hb dX6_fault_0 rfl (lv_at hl 0 rfl) ?_
  refine bw_get (ci := 5) (v := .int (gI st 1)) (C := RX6) (T := TX6) (N := 7) hx hb hts i_X6 hown hK hP 0 rfl rfl 6 (by decide) f_49 rfl dX6_fault_1 ?_
  exact ret_ _ _ _ _ _ _ dX6_fault_4  (Option.some.inj hR) rfl hP hD hS
abbrev rm_X6_many : Room := { frames := 0, cells := 0, slots := 0, locals := 0 }
set_option maxHeartbeats 4000000 in
set_option maxRecDepth 100000 in
theorem c_X6_many (l : Launch) (D : va_G) (cI cO : ClassId) (ad : Nat → Nat) (sz : Nat) {st : St} {x1 : Int32} {r : Int32} (hR : F_X6_many st x1 = some r) : CI l yX6_many wsX6_many rm_X6_many D cI cO [.ref (ad 0), .int x1] (BW cI cO ad st) (BW cI cO ad st) sz r := by
  refine mk_i (cc := cX6_many) (maxL := 2) (own := RX6) rfl (by decide) rfl (Nat.le_of_ble_eq_true rfl) ?_
  intro p e s m args below meth c A Q ls hx hb hml hown hts hK hN hA ret_ hP hD hS hl
  have i_X6 : ∀ w ∈ u_ws RX6 TX6 7, w ∈ wsX6_many := (fun _ h => List.mem_cons_of_mem _ (List.mem_append_left _ (List.mem_append_left _ (List.mem_append_right _ h))))
  have i_X1 : ∀ w ∈ u_ws RX1 TX1 7, w ∈ wsX6_many := (fun _ h => List.mem_cons_of_mem _ (List.mem_append_left _ (List.mem_append_right _ h)))
  have i_X2 : ∀ w ∈ u_ws RX2 TX2 4, w ∈ wsX6_many := (fun _ h => List.mem_cons_of_mem _ (List.mem_append_right _ h))
  have f_20 := hts (.fieldLink RX6 20 "BellNames" "herd" "LBellNames$Herd;") (by decide +kernel)
  have f_80 := hts (.fieldLink RX6 80 "BellNames$Herd" "count" "I") (by decide +kernel)
  have f_106 := hts (.fieldLink RX6 106 "BellNames$Herd" "wind" "I") (by decide +kernel)
  have f_214 := hts (.fieldLink RX6 214 "BellNames$Herd" "reach" "I") (by decide +kernel)
  have f_27 := hts (.fieldLink RX6 27 "BellNames" "readings" "LBellNames$Readings;") (by decide +kernel)
  have f_77 := hts (.fieldLink RX6 77 "BellNames$Readings" "count" "I") (by decide +kernel)
  have hl : lv_has ls 2 [(0, .ref (ad 0)), (1, .int x1)] := hl
  unfold F_X6_many at hR
  refine lv_iload_n hx hb dX6_many_0 rfl (lv_at hl 1 rfl) ?_
  by_cases w_1_0 : x1 = 0
  · have hR := (if_pos w_1_0).symm.trans hR
    refine lv_tableIn (off := 31) (tgt := 32) hx hb dX6_many_1 (by rw [w_1_0]; decide) (by rw [w_1_0]; decide) (by rw [w_1_0]; rfl) (by decide) ?_
    refine lv_aload_n hx hb dX6_many_32 rfl (lv_at hl 0 rfl) ?_
    refine bw_get (ci := 5) (v := .ref (ad 10)) (C := RX6) (T := TX6) (N := 7) hx hb hts i_X6 hown hK hP 0 rfl rfl 1 (by decide) f_20 rfl dX6_many_33 ?_
    refine bw_get (ci := 1) (v := .int (gI st 2)) (C := RX1) (T := TX1) (N := 7) hx hb hts i_X1 hown hK hP 10 rfl rfl 4 (by decide) f_80 rfl dX6_many_36 ?_
    exact ret_ _ _ _ _ _ _ dX6_many_39  (Option.some.inj hR) rfl hP hD hS
  have hR := (if_neg w_1_0).symm.trans hR
  by_cases w_1_1 : x1 = 1
  · have hR := (if_pos w_1_1).symm.trans hR
    refine lv_tableIn (off := 39) (tgt := 40) hx hb dX6_many_1 (by rw [w_1_1]; decide) (by rw [w_1_1]; decide) (by rw [w_1_1]; rfl) (by decide) ?_
    refine lv_aload_n hx hb dX6_many_40 rfl (lv_at hl 0 rfl) ?_
    refine bw_get (ci := 5) (v := .ref (ad 10)) (C := RX6) (T := TX6) (N := 7) hx hb hts i_X6 hown hK hP 0 rfl rfl 1 (by decide) f_20 rfl dX6_many_41 ?_
    refine bw_get (ci := 1) (v := .int (gI st 3)) (C := RX1) (T := TX1) (N := 7) hx hb hts i_X1 hown hK hP 10 rfl rfl 5 (by decide) f_106 rfl dX6_many_44 ?_
    exact ret_ _ _ _ _ _ _ dX6_many_47  (Option.some.inj hR) rfl hP hD hS
  have hR := (if_neg w_1_1).symm.trans hR
  by_cases w_1_2 : x1 = 2
  · have hR := (if_pos w_1_2).symm.trans hR
    refine lv_tableIn (off := 47) (tgt := 48) hx hb dX6_many_1 (by rw [w_1_2]; decide) (by rw [w_1_2]; decide) (by rw [w_1_2]; rfl) (by decide) ?_
    refine lv_aload_n hx hb dX6_many_48 rfl (lv_at hl 0 rfl) ?_
    refine bw_get (ci := 5) (v := .ref (ad 10)) (C := RX6) (T := TX6) (N := 7) hx hb hts i_X6 hown hK hP 0 rfl rfl 1 (by decide) f_20 rfl dX6_many_49 ?_
    refine bw_get (ci := 1) (v := .int (gI st 4)) (C := RX1) (T := TX1) (N := 7) hx hb hts i_X1 hown hK hP 10 rfl rfl 6 (by decide) f_214 rfl dX6_many_52 ?_
    exact ret_ _ _ _ _ _ _ dX6_many_55  (Option.some.inj hR) rfl hP hD hS
  have hR := (if_neg w_1_2).symm.trans hR
  by_cases w_1_3 : x1 = 3
  · have hR := (if_pos w_1_3).symm.trans hR
    refine lv_tableIn (off := 55) (tgt := 56) hx hb dX6_many_1 (by rw [w_1_3]; decide) (by rw [w_1_3]; decide) (by rw [w_1_3]; rfl) (by decide) ?_
    refine lv_aload_n hx hb dX6_many_56 rfl (lv_at hl 0 rfl) ?_
    refine bw_get (ci := 5) (v := .ref (ad 15)) (C := RX6) (T := TX6) (N := 7) hx hb hts i_X6 hown hK hP 0 rfl rfl 2 (by decide) f_27 rfl dX6_many_57 ?_
    refine bw_get (ci := 2) (v := .int (gI st 5)) (C := RX2) (T := TX2) (N := 4) hx hb hts i_X2 hown hK hP 15 rfl rfl 3 (by decide) f_77 rfl dX6_many_60 ?_
    exact ret_ _ _ _ _ _ _ dX6_many_63  (Option.some.inj hR) rfl hP hD hS
  have hR := (if_neg w_1_3).symm.trans hR
  refine lv_tableOut (tgt := 64) hx hb dX6_many_1 (tb_out (lo := 0) (hi := 3) x1 (by intro j h1 h2; rcases (show j = 0 ∨ j = 1 ∨ j = 2 ∨ j = 3 by omega) with rfl | rfl | rfl | rfl <;> first | exact lv_neT w_1_0 rfl | exact lv_neT w_1_1 rfl | exact lv_neT w_1_2 rfl | exact lv_neT w_1_3 rfl)) (by decide) ?_
  refine lv_bipush (v := (-2)) hx hb dX6_many_64 (by decide) ?_
  exact ret_ _ _ _ _ _ _ dX6_many_66  (Option.some.inj hR) rfl hP hD hS
abbrev rm_X7_fails : Room := { frames := 0, cells := 0, slots := 0, locals := 0 }
set_option maxHeartbeats 4000000 in
set_option maxRecDepth 100000 in
theorem c_X7_fails (l : Launch) (D : va_G) (cI cO : ClassId) (ad : Nat → Nat) (sz : Nat) {st : St} {x1 : Int32} {r : Int32} {s2 : St} (hR : F_X7_fails st x1 = some (r, s2)) : CI l yX7_fails wsX7_fails rm_X7_fails D cI cO [.ref (ad 0), .int x1] (MW cI ad st) (MW cI ad s2) sz r := by
  refine mk_i (cc := cX7_fails) (maxL := 2) (own := RX7) rfl (by decide) rfl (Nat.le_of_ble_eq_true rfl) ?_
  intro p e s m args below meth c A Q ls hx hb hml hown hts hK hN hA ret_ hP hD hS hl
  have i_X7 : ∀ w ∈ u_ws RX7 TX7 28, w ∈ wsX7_fails := (fun _ h => List.mem_cons_of_mem _ (List.mem_append_right _ h))
  have f_61 := hts (.fieldLink RX7 61 "BellNamesModel" "fault" "I") (by decide +kernel)
  have hl : lv_has ls 2 [(0, .ref (ad 0)), (1, .int x1)] := hl
  unfold F_X7_fails at hR
  refine lv_aload_n hx hb dX7_fails_0 rfl (lv_at hl 0 rfl) ?_
  refine lv_iload_n hx hb dX7_fails_1 rfl (lv_at hl 1 rfl) ?_
  refine bw_put (w' := (MW cI ad (sI st 0 x1))) (ci := 6) (C := RX7) (T := TX7) (N := 28) hx hb hts i_X7 tyX7 tyX7_ok nmX7 hown hK hP hD hS 0 rfl rfl 0 (by decide) f_61 rfl rfl (Nat.le_of_ble_eq_true rfl) (MW_i0 cI ad _ _) dX7_fails_2 (fun H locs hP hD hS => ?_)
  refine lv_bipush (v := (-10)) hx hb dX7_fails_5 (by decide) ?_
  refine lv_iload_n hx hb dX7_fails_7 rfl (lv_at hl 1 rfl) ?_
  refine lv_isub hx hb dX7_fails_8 ?_
  exact ret_ _ _ _ _ _ _ dX7_fails_9  (sp1 hR) (congrArg (fun z => (MW cI ad z)) (sp2 hR)) hP hD hS
abbrev rm_X7_lost : Room := { frames := 0, cells := 0, slots := 0, locals := 0 }
set_option maxHeartbeats 4000000 in
set_option maxRecDepth 100000 in
theorem c_X7_lost (l : Launch) (D : va_G) (cI cO : ClassId) (ad : Nat → Nat) (sz : Nat) {st : St} {x1 : Int32} {r : Int64} {s2 : St} (hR : F_X7_lost st x1 = some (r, s2)) : CL l yX7_lost wsX7_lost rm_X7_lost D cI cO [.ref (ad 0), .int x1] (MW cI ad st) (MW cI ad s2) sz r := by
  refine mk_l (cc := cX7_lost) (maxL := 2) (own := RX7) rfl (by decide) rfl (Nat.le_of_ble_eq_true rfl) ?_
  intro p e s m args below meth c A Q ls hx hb hml hown hts hK hN hA ret_ hP hD hS hl
  have i_X7 : ∀ w ∈ u_ws RX7 TX7 28, w ∈ wsX7_lost := (fun _ h => List.mem_cons_of_mem _ (List.mem_append_right _ h))
  have f_61 := hts (.fieldLink RX7 61 "BellNamesModel" "fault" "I") (by decide +kernel)
  have k_65 := hts (.constantLong RX7 65 (-9223372036854775808)) (by decide +kernel)
  have hl : lv_has ls 2 [(0, .ref (ad 0)), (1, .int x1)] := hl
  unfold F_X7_lost at hR
  refine lv_aload_n hx hb dX7_lost_0 rfl (lv_at hl 0 rfl) ?_
  refine lv_iload_n hx hb dX7_lost_1 rfl (lv_at hl 1 rfl) ?_
  refine bw_put (w' := (MW cI ad (sI st 0 x1))) (ci := 6) (C := RX7) (T := TX7) (N := 28) hx hb hts i_X7 tyX7 tyX7_ok nmX7 hown hK hP hD hS 0 rfl rfl 0 (by decide) f_61 rfl rfl (Nat.le_of_ble_eq_true rfl) (MW_i0 cI ad _ _) dX7_lost_2 (fun H locs hP hD hS => ?_)
  refine lv_ldc2 hx hb hown k_65 dX7_lost_5 ?_
  exact ret_ _ _ _ _ _ _ dX7_lost_8  (sp1 hR) (congrArg (fun z => (MW cI ad z)) (sp2 hR)) hP hD hS
abbrev rm_X7_within : Room := { frames := 0, cells := 0, slots := 0, locals := 0 }
set_option maxHeartbeats 4000000 in
set_option maxRecDepth 100000 in
theorem c_X7_within (l : Launch) (D : va_G) (cI cO : ClassId) (ad : Nat → Nat) (sz : Nat) {st : St} {x0 : Int32} {x1 : Int32} {x2 : Int32} {r : Int32} (hR : F_X7_within st x0 x1 x2 = some r) : CZ l yX7_within wsX7_within rm_X7_within D cI cO [.int x0, .int x1, .int x2] (MW cI ad st) (MW cI ad st) sz r := by
  refine mk_z (cc := cX7_within) (maxL := 3) (own := RX7) rfl (by decide) rfl (Nat.le_of_ble_eq_true rfl) ?_
  intro p e s m args below meth c A Q ls hx hb hml hown hts hK hN hA ret_ hP hD hS hl
  have hl : lv_has ls 3 [(0, .int x0), (1, .int x1), (2, .int x2)] := hl
  unfold F_X7_within at hR
  refine lv_iload_n hx hb dX7_within_0 rfl (lv_at hl 0 rfl) ?_
  refine lv_iload_n hx hb dX7_within_1 rfl (lv_at hl 1 rfl) ?_
  refine lv_icmp_lt (tgt := 14) hx hb dX7_within_2 (by decide) (fun c_1 => ?_) (fun c_1 => ?_)
  · have hR := (if_pos c_1).symm.trans hR
    refine lv_iconst (v := 0) hx hb dX7_within_14 (by decide) ?_
    exact ret_ _ _ _ _ _ _ dX7_within_15 (by decide) (Option.some.inj hR) rfl hP hD hS
  · have hR := (if_neg c_1).symm.trans hR
    refine lv_iload_n hx hb dX7_within_5 rfl (lv_at hl 0 rfl) ?_
    refine lv_iload_n hx hb dX7_within_6 rfl (lv_at hl 2 rfl) ?_
    refine lv_icmp_gt (tgt := 14) hx hb dX7_within_7 (by decide) (fun c_2 => ?_) (fun c_2 => ?_)
    · have hR := (if_pos c_2).symm.trans hR
      refine lv_iconst (v := 0) hx hb dX7_within_14 (by decide) ?_
      exact ret_ _ _ _ _ _ _ dX7_within_15 (by decide) (Option.some.inj hR) rfl hP hD hS
    · have hR := (if_neg c_2).symm.trans hR
      refine lv_iconst (v := 1) hx hb dX7_within_10 (by decide) ?_
      refine lv_goto (tgt := 15) hx hb dX7_within_11 (by decide) ?_
      exact ret_ _ _ _ _ _ _ dX7_within_15 (by decide) (Option.some.inj hR) rfl hP hD hS
abbrev rm_X7_isSheet : Room := { frames := 1, cells := 0, slots := 0, locals := 22 }
set_option maxHeartbeats 4000000 in
set_option maxRecDepth 100000 in
theorem c_X7_isSheet (l : Launch) (D : va_G) (cI cO : ClassId) (ad : Nat → Nat) (sz : Nat) {st : St} {x0 : Int32} {r : Int32} (hR : F_X7_isSheet st x0 = some r) : CZ l yX7_isSheet wsX7_isSheet rm_X7_isSheet D cI cO [.int x0] (MW cI ad st) (MW cI ad st) sz r := by
  refine mk_z (cc := cX7_isSheet) (maxL := 1) (own := RX7) rfl (by decide) rfl (Nat.le_of_ble_eq_true rfl) ?_
  intro p e s m args below meth c A Q ls hx hb hml hown hts hK hN hA ret_ hP hD hS hl
  have hl : lv_has ls 1 [(0, .int x0)] := hl
  unfold F_X7_isSheet at hR
  refine lv_iload_n hx hb dX7_isSheet_0 rfl (lv_at hl 0 rfl) ?_
  refine lv_iconst (v := 0) hx hb dX7_isSheet_1 (by decide) ?_
  refine lv_iconst (v := 3) hx hb dX7_isSheet_2 (by decide) ?_
  obtain ⟨v_1, e_1, hR⟩ := b1_some hR
  refine bc_z (va_runS (As := [.int x0, .int 0, .int 3]) (rest := []) ⟨hx, hb, hml, hown, hts⟩ (c_X7_within l D cI cO ad _ e_1) (va_cwS 3 hts gX7_isSheet_X7_within rfl rfl rfl (by decide +kernel) ⟨Nat.le_of_ble_eq_true rfl, Nat.le_of_ble_eq_true rfl⟩) (preS hK hN hP hD) rfl rfl hl.1 rfl (lv_room (Nat.le_of_ble_eq_true rfl)) dX7_isSheet_3 ⟨Nat.zero_le _, Nat.zero_le _⟩) hS hD hA (fun H locs hP hD hS n_1 => ?_)
  exact ret_ _ _ _ _ _ _ dX7_isSheet_6 n_1 (Option.some.inj hR) rfl hP hD hS
abbrev rm_X7_isSort : Room := { frames := 1, cells := 0, slots := 0, locals := 22 }
set_option maxHeartbeats 4000000 in
set_option maxRecDepth 100000 in
theorem c_X7_isSort (l : Launch) (D : va_G) (cI cO : ClassId) (ad : Nat → Nat) (sz : Nat) {st : St} {x0 : Int32} {r : Int32} (hR : F_X7_isSort st x0 = some r) : CZ l yX7_isSort wsX7_isSort rm_X7_isSort D cI cO [.int x0] (MW cI ad st) (MW cI ad st) sz r := by
  refine mk_z (cc := cX7_isSort) (maxL := 1) (own := RX7) rfl (by decide) rfl (Nat.le_of_ble_eq_true rfl) ?_
  intro p e s m args below meth c A Q ls hx hb hml hown hts hK hN hA ret_ hP hD hS hl
  have hl : lv_has ls 1 [(0, .int x0)] := hl
  unfold F_X7_isSort at hR
  refine lv_iload_n hx hb dX7_isSort_0 rfl (lv_at hl 0 rfl) ?_
  refine lv_iconst (v := 0) hx hb dX7_isSort_1 (by decide) ?_
  refine lv_iconst (v := 2) hx hb dX7_isSort_2 (by decide) ?_
  obtain ⟨v_1, e_1, hR⟩ := b1_some hR
  refine bc_z (va_runS (As := [.int x0, .int 0, .int 2]) (rest := []) ⟨hx, hb, hml, hown, hts⟩ (c_X7_within l D cI cO ad _ e_1) (va_cwS 3 hts gX7_isSort_X7_within rfl rfl rfl (by decide +kernel) ⟨Nat.le_of_ble_eq_true rfl, Nat.le_of_ble_eq_true rfl⟩) (preS hK hN hP hD) rfl rfl hl.1 rfl (lv_room (Nat.le_of_ble_eq_true rfl)) dX7_isSort_3 ⟨Nat.zero_le _, Nat.zero_le _⟩) hS hD hA (fun H locs hP hD hS n_1 => ?_)
  exact ret_ _ _ _ _ _ _ dX7_isSort_6 n_1 (Option.some.inj hR) rfl hP hD hS
abbrev rm_X7_against : Room := { frames := 0, cells := 0, slots := 0, locals := 0 }
set_option maxHeartbeats 4000000 in
set_option maxRecDepth 100000 in
theorem c_X7_against (l : Launch) (D : va_G) (cI cO : ClassId) (ad : Nat → Nat) (sz : Nat) {st : St} {x1 : Int32} {x2 : Int32} {x3 : Int32} {x4 : Int32} {r : Int32} (hR : F_X7_against st x1 x2 x3 x4 = some r) : CI l yX7_against wsX7_against rm_X7_against D cI cO [.ref (ad 0), .int x1, .int x2, .int x3, .int x4] (MW cI ad st) (MW cI ad st) sz r := by
  refine mk_i (cc := cX7_against) (maxL := 5) (own := RX7) rfl (by decide) rfl (Nat.le_of_ble_eq_true rfl) ?_
  intro p e s m args below meth c A Q ls hx hb hml hown hts hK hN hA ret_ hP hD hS hl
  have i_X7 : ∀ w ∈ u_ws RX7 TX7 28, w ∈ wsX7_against := (fun _ h => List.mem_cons_of_mem _ (List.mem_append_right _ h))
  have f_9 := hts (.fieldLink RX7 9 "BellNamesModel" "sorts" "[I") (by decide +kernel)
  have f_13 := hts (.fieldLink RX7 13 "BellNamesModel" "sheetLong" "[I") (by decide +kernel)
  have hl : lv_has ls 5 [(0, .ref (ad 0)), (1, .int x1), (2, .int x2), (3, .int x3), (4, .int x4)] := hl
  unfold F_X7_against at hR
  refine lv_aload_n hx hb dX7_against_0 rfl (lv_at hl 0 rfl) ?_
  refine bw_get (ci := 6) (v := .ref (ad 1)) (C := RX7) (T := TX7) (N := 28) hx hb hts i_X7 hown hK hP 0 rfl rfl 2 (by decide) f_9 rfl dX7_against_1 ?_
  refine lv_iload_n hx hb dX7_against_4 rfl (lv_at hl 1 rfl) ?_
  obtain ⟨h_1, hR⟩ := ck_some hR
  refine bw_ald (v := gA st 2 x1) hx hb hK hP 1 rfl h_1 rfl dX7_against_5 ?_
  refine lv_bipush (v := (-9)) hx hb dX7_against_6 (by decide) ?_
  refine lv_icmp_eq (tgt := 23) hx hb dX7_against_8 (by decide) (fun c_2 => ?_) (fun c_2 => ?_)
  · have hR := (if_pos c_2).symm.trans hR
    refine lv_aload_n hx hb dX7_against_23 rfl (lv_at hl 0 rfl) ?_
    refine bw_get (ci := 6) (v := .ref (ad 1)) (C := RX7) (T := TX7) (N := 28) hx hb hts i_X7 hown hK hP 0 rfl rfl 2 (by decide) f_9 rfl dX7_against_24 ?_
    refine lv_iload_n hx hb dX7_against_27 rfl (lv_at hl 1 rfl) ?_
    obtain ⟨h_3, hR⟩ := ck_some hR
    refine bw_ald (v := gA st 2 x1) hx hb hK hP 1 rfl h_3 rfl dX7_against_28 ?_
    refine lv_bipush (v := (-9)) hx hb dX7_against_29 (by decide) ?_
    refine lv_icmp_ne (tgt := 36) hx hb dX7_against_31 (by decide) (fun c_4 => ?_) (fun c_4 => ?_)
    · have hR := (if_neg c_4).symm.trans hR
      refine lv_iload hx hb dX7_against_36 (lv_at hl 4 rfl) ?_
      refine lv_if_ge (tgt := 43) hx hb dX7_against_38 (by decide) (fun c_5 => ?_) (fun c_5 => ?_)
      · have hR := (if_pos c_5).symm.trans hR
        refine lv_iload_n hx hb dX7_against_43 rfl (lv_at hl 3 rfl) ?_
        refine lv_if_lt (tgt := 70) hx hb dX7_against_44 (by decide) (fun c_6 => ?_) (fun c_6 => ?_)
        · have hR := (if_pos c_6).symm.trans hR
          refine lv_iconst (v := 3) hx hb dX7_against_70 (by decide) ?_
          refine lv_goto (tgt := 75) hx hb dX7_against_71 (by decide) ?_
          exact ret_ _ _ _ _ _ _ dX7_against_75  (Option.some.inj hR) rfl hP hD hS
        · have hR := (if_neg c_6).symm.trans hR
          refine lv_iload_n hx hb dX7_against_47 rfl (lv_at hl 3 rfl) ?_
          refine lv_aload_n hx hb dX7_against_48 rfl (lv_at hl 0 rfl) ?_
          refine bw_get (ci := 6) (v := .ref (ad 2)) (C := RX7) (T := TX7) (N := 28) hx hb hts i_X7 hown hK hP 0 rfl rfl 3 (by decide) f_13 rfl dX7_against_49 ?_
          refine lv_iload_n hx hb dX7_against_52 rfl (lv_at hl 1 rfl) ?_
          obtain ⟨h_7, hR⟩ := ck_some hR
          refine bw_ald (v := gA st 3 x1) hx hb hK hP 2 rfl h_7 rfl dX7_against_53 ?_
          refine lv_icmp_gt (tgt := 70) hx hb dX7_against_54 (by decide) (fun c_8 => ?_) (fun c_8 => ?_)
          · have hR := (if_pos c_8).symm.trans hR
            refine lv_iconst (v := 3) hx hb dX7_against_70 (by decide) ?_
            refine lv_goto (tgt := 75) hx hb dX7_against_71 (by decide) ?_
            exact ret_ _ _ _ _ _ _ dX7_against_75  (Option.some.inj hR) rfl hP hD hS
          · have hR := (if_neg c_8).symm.trans hR
            refine lv_iload hx hb dX7_against_57 (lv_at hl 4 rfl) ?_
            refine lv_aload_n hx hb dX7_against_59 rfl (lv_at hl 0 rfl) ?_
            refine bw_get (ci := 6) (v := .ref (ad 2)) (C := RX7) (T := TX7) (N := 28) hx hb hts i_X7 hown hK hP 0 rfl rfl 3 (by decide) f_13 rfl dX7_against_60 ?_
            refine lv_iload_n hx hb dX7_against_63 rfl (lv_at hl 1 rfl) ?_
            obtain ⟨h_9, hR⟩ := ck_some hR
            refine bw_ald (v := gA st 3 x1) hx hb hK hP 2 rfl h_9 rfl dX7_against_64 ?_
            refine lv_iload_n hx hb dX7_against_65 rfl (lv_at hl 3 rfl) ?_
            refine lv_isub hx hb dX7_against_66 ?_
            refine lv_icmp_le (tgt := 74) hx hb dX7_against_67 (by decide) (fun c_10 => ?_) (fun c_10 => ?_)
            · have hR := (if_pos c_10).symm.trans hR
              refine lv_iconst (v := 0) hx hb dX7_against_74 (by decide) ?_
              exact ret_ _ _ _ _ _ _ dX7_against_75  (Option.some.inj hR) rfl hP hD hS
            · have hR := (if_neg c_10).symm.trans hR
              refine lv_iconst (v := 3) hx hb dX7_against_70 (by decide) ?_
              refine lv_goto (tgt := 75) hx hb dX7_against_71 (by decide) ?_
              exact ret_ _ _ _ _ _ _ dX7_against_75  (Option.some.inj hR) rfl hP hD hS
      · have hR := (if_neg c_5).symm.trans hR
        refine lv_iconst (v := 4) hx hb dX7_against_41 (by decide) ?_
        exact ret_ _ _ _ _ _ _ dX7_against_42  (Option.some.inj hR) rfl hP hD hS
    · have hR := (if_pos c_4).symm.trans hR
      refine lv_iconst (v := 1) hx hb dX7_against_34 (by decide) ?_
      exact ret_ _ _ _ _ _ _ dX7_against_35  (Option.some.inj hR) rfl hP hD hS
  · have hR := (if_neg c_2).symm.trans hR
    refine lv_aload_n hx hb dX7_against_11 rfl (lv_at hl 0 rfl) ?_
    refine bw_get (ci := 6) (v := .ref (ad 1)) (C := RX7) (T := TX7) (N := 28) hx hb hts i_X7 hown hK hP 0 rfl rfl 2 (by decide) f_9 rfl dX7_against_12 ?_
    refine lv_iload_n hx hb dX7_against_15 rfl (lv_at hl 1 rfl) ?_
    obtain ⟨h_11, hR⟩ := ck_some hR
    refine bw_ald (v := gA st 2 x1) hx hb hK hP 1 rfl h_11 rfl dX7_against_16 ?_
    refine lv_iload_n hx hb dX7_against_17 rfl (lv_at hl 2 rfl) ?_
    refine lv_icmp_eq (tgt := 23) hx hb dX7_against_18 (by decide) (fun c_12 => ?_) (fun c_12 => ?_)
    · have hR := (if_pos c_12).symm.trans hR
      refine lv_aload_n hx hb dX7_against_23 rfl (lv_at hl 0 rfl) ?_
      refine bw_get (ci := 6) (v := .ref (ad 1)) (C := RX7) (T := TX7) (N := 28) hx hb hts i_X7 hown hK hP 0 rfl rfl 2 (by decide) f_9 rfl dX7_against_24 ?_
      refine lv_iload_n hx hb dX7_against_27 rfl (lv_at hl 1 rfl) ?_
      obtain ⟨h_13, hR⟩ := ck_some hR
      refine bw_ald (v := gA st 2 x1) hx hb hK hP 1 rfl h_13 rfl dX7_against_28 ?_
      refine lv_bipush (v := (-9)) hx hb dX7_against_29 (by decide) ?_
      refine lv_icmp_ne (tgt := 36) hx hb dX7_against_31 (by decide) (fun c_14 => ?_) (fun c_14 => ?_)
      · have hR := (if_neg c_14).symm.trans hR
        refine lv_iload hx hb dX7_against_36 (lv_at hl 4 rfl) ?_
        refine lv_if_ge (tgt := 43) hx hb dX7_against_38 (by decide) (fun c_15 => ?_) (fun c_15 => ?_)
        · have hR := (if_pos c_15).symm.trans hR
          refine lv_iload_n hx hb dX7_against_43 rfl (lv_at hl 3 rfl) ?_
          refine lv_if_lt (tgt := 70) hx hb dX7_against_44 (by decide) (fun c_16 => ?_) (fun c_16 => ?_)
          · have hR := (if_pos c_16).symm.trans hR
            refine lv_iconst (v := 3) hx hb dX7_against_70 (by decide) ?_
            refine lv_goto (tgt := 75) hx hb dX7_against_71 (by decide) ?_
            exact ret_ _ _ _ _ _ _ dX7_against_75  (Option.some.inj hR) rfl hP hD hS
          · have hR := (if_neg c_16).symm.trans hR
            refine lv_iload_n hx hb dX7_against_47 rfl (lv_at hl 3 rfl) ?_
            refine lv_aload_n hx hb dX7_against_48 rfl (lv_at hl 0 rfl) ?_
            refine bw_get (ci := 6) (v := .ref (ad 2)) (C := RX7) (T := TX7) (N := 28) hx hb hts i_X7 hown hK hP 0 rfl rfl 3 (by decide) f_13 rfl dX7_against_49 ?_
            refine lv_iload_n hx hb dX7_against_52 rfl (lv_at hl 1 rfl) ?_
            obtain ⟨h_17, hR⟩ := ck_some hR
            refine bw_ald (v := gA st 3 x1) hx hb hK hP 2 rfl h_17 rfl dX7_against_53 ?_
            refine lv_icmp_gt (tgt := 70) hx hb dX7_against_54 (by decide) (fun c_18 => ?_) (fun c_18 => ?_)
            · have hR := (if_pos c_18).symm.trans hR
              refine lv_iconst (v := 3) hx hb dX7_against_70 (by decide) ?_
              refine lv_goto (tgt := 75) hx hb dX7_against_71 (by decide) ?_
              exact ret_ _ _ _ _ _ _ dX7_against_75  (Option.some.inj hR) rfl hP hD hS
            · have hR := (if_neg c_18).symm.trans hR
              refine lv_iload hx hb dX7_against_57 (lv_at hl 4 rfl) ?_
              refine lv_aload_n hx hb dX7_against_59 rfl (lv_at hl 0 rfl) ?_
              refine bw_get (ci := 6) (v := .ref (ad 2)) (C := RX7) (T := TX7) (N := 28) hx hb hts i_X7 hown hK hP 0 rfl rfl 3 (by decide) f_13 rfl dX7_against_60 ?_
              refine lv_iload_n hx hb dX7_against_63 rfl (lv_at hl 1 rfl) ?_
              obtain ⟨h_19, hR⟩ := ck_some hR
              refine bw_ald (v := gA st 3 x1) hx hb hK hP 2 rfl h_19 rfl dX7_against_64 ?_
              refine lv_iload_n hx hb dX7_against_65 rfl (lv_at hl 3 rfl) ?_
              refine lv_isub hx hb dX7_against_66 ?_
              refine lv_icmp_le (tgt := 74) hx hb dX7_against_67 (by decide) (fun c_20 => ?_) (fun c_20 => ?_)
              · have hR := (if_pos c_20).symm.trans hR
                refine lv_iconst (v := 0) hx hb dX7_against_74 (by decide) ?_
                exact ret_ _ _ _ _ _ _ dX7_against_75  (Option.some.inj hR) rfl hP hD hS
              · have hR := (if_neg c_20).symm.trans hR
                refine lv_iconst (v := 3) hx hb dX7_against_70 (by decide) ?_
                refine lv_goto (tgt := 75) hx hb dX7_against_71 (by decide) ?_
                exact ret_ _ _ _ _ _ _ dX7_against_75  (Option.some.inj hR) rfl hP hD hS
        · have hR := (if_neg c_15).symm.trans hR
          refine lv_iconst (v := 4) hx hb dX7_against_41 (by decide) ?_
          exact ret_ _ _ _ _ _ _ dX7_against_42  (Option.some.inj hR) rfl hP hD hS
      · have hR := (if_pos c_14).symm.trans hR
        refine lv_iconst (v := 1) hx hb dX7_against_34 (by decide) ?_
        exact ret_ _ _ _ _ _ _ dX7_against_35  (Option.some.inj hR) rfl hP hD hS
    · have hR := (if_neg c_12).symm.trans hR
      refine lv_iconst (v := 2) hx hb dX7_against_21 (by decide) ?_
      exact ret_ _ _ _ _ _ _ dX7_against_22  (Option.some.inj hR) rfl hP hD hS
abbrev rm_X7_isBell : Room := { frames := 0, cells := 0, slots := 0, locals := 0 }
set_option maxHeartbeats 4000000 in
set_option maxRecDepth 100000 in
theorem c_X7_isBell (l : Launch) (D : va_G) (cI cO : ClassId) (ad : Nat → Nat) (sz : Nat) {st : St} {x1 : Int32} {r : Int32} (hR : F_X7_isBell st x1 = some r) : CZ l yX7_isBell wsX7_isBell rm_X7_isBell D cI cO [.ref (ad 0), .int x1] (MW cI ad st) (MW cI ad st) sz r := by
  refine mk_z (cc := cX7_isBell) (maxL := 2) (own := RX7) rfl (by decide) rfl (Nat.le_of_ble_eq_true rfl) ?_
  intro p e s m args below meth c A Q ls hx hb hml hown hts hK hN hA ret_ hP hD hS hl
  have i_X7 : ∀ w ∈ u_ws RX7 TX7 28, w ∈ wsX7_isBell := (fun _ h => List.mem_cons_of_mem _ (List.mem_append_right _ h))
  have f_71 := hts (.fieldLink RX7 71 "BellNamesModel" "bells" "I") (by decide +kernel)
  have hl : lv_has ls 2 [(0, .ref (ad 0)), (1, .int x1)] := hl
  unfold F_X7_isBell at hR
  refine lv_iload_n hx hb dX7_isBell_0 rfl (lv_at hl 1 rfl) ?_
  refine lv_if_lt (tgt := 16) hx hb dX7_isBell_1 (by decide) (fun c_1 => ?_) (fun c_1 => ?_)
  · have hR := (if_pos c_1).symm.trans hR
    refine lv_iconst (v := 0) hx hb dX7_isBell_16 (by decide) ?_
    exact ret_ _ _ _ _ _ _ dX7_isBell_17 (by decide) (Option.some.inj hR) rfl hP hD hS
  · have hR := (if_neg c_1).symm.trans hR
    refine lv_iload_n hx hb dX7_isBell_4 rfl (lv_at hl 1 rfl) ?_
    refine lv_aload_n hx hb dX7_isBell_5 rfl (lv_at hl 0 rfl) ?_
    refine bw_get (ci := 6) (v := .int (gI st 5)) (C := RX7) (T := TX7) (N := 28) hx hb hts i_X7 hown hK hP 0 rfl rfl 5 (by decide) f_71 rfl dX7_isBell_6 ?_
    refine lv_icmp_ge (tgt := 16) hx hb dX7_isBell_9 (by decide) (fun c_2 => ?_) (fun c_2 => ?_)
    · have hR := (if_pos c_2).symm.trans hR
      refine lv_iconst (v := 0) hx hb dX7_isBell_16 (by decide) ?_
      exact ret_ _ _ _ _ _ _ dX7_isBell_17 (by decide) (Option.some.inj hR) rfl hP hD hS
    · have hR := (if_neg c_2).symm.trans hR
      refine lv_iconst (v := 1) hx hb dX7_isBell_12 (by decide) ?_
      refine lv_goto (tgt := 17) hx hb dX7_isBell_13 (by decide) ?_
      exact ret_ _ _ _ _ _ _ dX7_isBell_17 (by decide) (Option.some.inj hR) rfl hP hD hS
abbrev rm_X7_isDigit : Room := { frames := 1, cells := 0, slots := 0, locals := 22 }
set_option maxHeartbeats 4000000 in
set_option maxRecDepth 100000 in
theorem c_X7_isDigit (l : Launch) (D : va_G) (cI cO : ClassId) (ad : Nat → Nat) (sz : Nat) {st : St} {x0 : Int32} {r : Int32} (hR : F_X7_isDigit st x0 = some r) : CZ l yX7_isDigit wsX7_isDigit rm_X7_isDigit D cI cO [.int x0] (MW cI ad st) (MW cI ad st) sz r := by
  refine mk_z (cc := cX7_isDigit) (maxL := 1) (own := RX7) rfl (by decide) rfl (Nat.le_of_ble_eq_true rfl) ?_
  intro p e s m args below meth c A Q ls hx hb hml hown hts hK hN hA ret_ hP hD hS hl
  have hl : lv_has ls 1 [(0, .int x0)] := hl
  unfold F_X7_isDigit at hR
  refine lv_iload_n hx hb dX7_isDigit_0 rfl (lv_at hl 0 rfl) ?_
  refine lv_iconst (v := 0) hx hb dX7_isDigit_1 (by decide) ?_
  refine lv_bipush (v := 9) hx hb dX7_isDigit_2 (by decide) ?_
  obtain ⟨v_1, e_1, hR⟩ := b1_some hR
  refine bc_z (va_runS (As := [.int x0, .int 0, .int 9]) (rest := []) ⟨hx, hb, hml, hown, hts⟩ (c_X7_within l D cI cO ad _ e_1) (va_cwS 3 hts gX7_isDigit_X7_within rfl rfl rfl (by decide +kernel) ⟨Nat.le_of_ble_eq_true rfl, Nat.le_of_ble_eq_true rfl⟩) (preS hK hN hP hD) rfl rfl hl.1 rfl (lv_room (Nat.le_of_ble_eq_true rfl)) dX7_isDigit_4 ⟨Nat.zero_le _, Nat.zero_le _⟩) hS hD hA (fun H locs hP hD hS n_1 => ?_)
  exact ret_ _ _ _ _ _ _ dX7_isDigit_7 n_1 (Option.some.inj hR) rfl hP hD hS
abbrev rm_X7_isMood : Room := { frames := 1, cells := 0, slots := 0, locals := 22 }
set_option maxHeartbeats 4000000 in
set_option maxRecDepth 100000 in
theorem c_X7_isMood (l : Launch) (D : va_G) (cI cO : ClassId) (ad : Nat → Nat) (sz : Nat) {st : St} {x0 : Int32} {r : Int32} (hR : F_X7_isMood st x0 = some r) : CZ l yX7_isMood wsX7_isMood rm_X7_isMood D cI cO [.int x0] (MW cI ad st) (MW cI ad st) sz r := by
  refine mk_z (cc := cX7_isMood) (maxL := 1) (own := RX7) rfl (by decide) rfl (Nat.le_of_ble_eq_true rfl) ?_
  intro p e s m args below meth c A Q ls hx hb hml hown hts hK hN hA ret_ hP hD hS hl
  have hl : lv_has ls 1 [(0, .int x0)] := hl
  unfold F_X7_isMood at hR
  refine lv_iload_n hx hb dX7_isMood_0 rfl (lv_at hl 0 rfl) ?_
  refine lv_iconst (v := 0) hx hb dX7_isMood_1 (by decide) ?_
  refine lv_iconst (v := 3) hx hb dX7_isMood_2 (by decide) ?_
  obtain ⟨v_1, e_1, hR⟩ := b1_some hR
  refine bc_z (va_runS (As := [.int x0, .int 0, .int 3]) (rest := []) ⟨hx, hb, hml, hown, hts⟩ (c_X7_within l D cI cO ad _ e_1) (va_cwS 3 hts gX7_isMood_X7_within rfl rfl rfl (by decide +kernel) ⟨Nat.le_of_ble_eq_true rfl, Nat.le_of_ble_eq_true rfl⟩) (preS hK hN hP hD) rfl rfl hl.1 rfl (lv_room (Nat.le_of_ble_eq_true rfl)) dX7_isMood_3 ⟨Nat.zero_le _, Nat.zero_le _⟩) hS hD hA (fun H locs hP hD hS n_1 => ?_)
  exact ret_ _ _ _ _ _ _ dX7_isMood_6 n_1 (Option.some.inj hR) rfl hP hD hS
abbrev rm_X7_isSet : Room := { frames := 0, cells := 0, slots := 0, locals := 0 }
set_option maxHeartbeats 4000000 in
set_option maxRecDepth 100000 in
theorem c_X7_isSet (l : Launch) (D : va_G) (cI cO : ClassId) (ad : Nat → Nat) (sz : Nat) {st : St} {x1 : Int32} {r : Int32} (hR : F_X7_isSet st x1 = some r) : CZ l yX7_isSet wsX7_isSet rm_X7_isSet D cI cO [.ref (ad 0), .int x1] (MW cI ad st) (MW cI ad st) sz r := by
  refine mk_z (cc := cX7_isSet) (maxL := 2) (own := RX7) rfl (by decide) rfl (Nat.le_of_ble_eq_true rfl) ?_
  intro p e s m args below meth c A Q ls hx hb hml hown hts hK hN hA ret_ hP hD hS hl
  have i_X7 : ∀ w ∈ u_ws RX7 TX7 28, w ∈ wsX7_isSet := (fun _ h => List.mem_cons_of_mem _ (List.mem_append_right _ h))
  have f_71 := hts (.fieldLink RX7 71 "BellNamesModel" "bells" "I") (by decide +kernel)
  have hl : lv_has ls 2 [(0, .ref (ad 0)), (1, .int x1)] := hl
  unfold F_X7_isSet at hR
  refine lv_iload_n hx hb dX7_isSet_0 rfl (lv_at hl 1 rfl) ?_
  refine lv_if_lt (tgt := 18) hx hb dX7_isSet_1 (by decide) (fun c_1 => ?_) (fun c_1 => ?_)
  · have hR := (if_pos c_1).symm.trans hR
    refine lv_iconst (v := 0) hx hb dX7_isSet_18 (by decide) ?_
    exact ret_ _ _ _ _ _ _ dX7_isSet_19 (by decide) (Option.some.inj hR) rfl hP hD hS
  · have hR := (if_neg c_1).symm.trans hR
    refine lv_iload_n hx hb dX7_isSet_4 rfl (lv_at hl 1 rfl) ?_
    refine lv_iconst (v := 1) hx hb dX7_isSet_5 (by decide) ?_
    refine lv_aload_n hx hb dX7_isSet_6 rfl (lv_at hl 0 rfl) ?_
    refine bw_get (ci := 6) (v := .int (gI st 5)) (C := RX7) (T := TX7) (N := 28) hx hb hts i_X7 hown hK hP 0 rfl rfl 5 (by decide) f_71 rfl dX7_isSet_7 ?_
    refine lv_ishl hx hb dX7_isSet_10 ?_
    refine W.eq (g2 := F0 m 11 ls (.int (jshl 1 (gI st 5)) :: [.int x1])) rfl ?_
    refine lv_icmp_ge (tgt := 18) hx hb dX7_isSet_11 (by decide) (fun c_2 => ?_) (fun c_2 => ?_)
    · have hR := (if_pos c_2).symm.trans hR
      refine lv_iconst (v := 0) hx hb dX7_isSet_18 (by decide) ?_
      exact ret_ _ _ _ _ _ _ dX7_isSet_19 (by decide) (Option.some.inj hR) rfl hP hD hS
    · have hR := (if_neg c_2).symm.trans hR
      refine lv_iconst (v := 1) hx hb dX7_isSet_14 (by decide) ?_
      refine lv_goto (tgt := 19) hx hb dX7_isSet_15 (by decide) ?_
      exact ret_ _ _ _ _ _ _ dX7_isSet_19 (by decide) (Option.some.inj hR) rfl hP hD hS
abbrev rm_X7_digit : Room := { frames := 1, cells := 0, slots := 0, locals := 22 }
set_option maxHeartbeats 4000000 in
set_option maxRecDepth 100000 in
theorem c_X7_digit (l : Launch) (D : va_G) (cI cO : ClassId) (ad : Nat → Nat) (sz : Nat) {st : St} {x1 : Int32} {x2 : Int32} {r : Int32} {s2 : St} (hR : F_X7_digit st x1 x2 = some (r, s2)) : CI l yX7_digit wsX7_digit rm_X7_digit D cI cO [.ref (ad 0), .int x1, .int x2] (MW cI ad st) (MW cI ad s2) sz r := by
  refine mk_i (cc := cX7_digit) (maxL := 3) (own := RX7) rfl (by decide) rfl (Nat.le_of_ble_eq_true rfl) ?_
  intro p e s m args below meth c A Q ls hx hb hml hown hts hK hN hA ret_ hP hD hS hl
  have i_X7 : ∀ w ∈ u_ws RX7 TX7 28, w ∈ wsX7_digit := (fun _ h => List.mem_cons_of_mem _ (List.mem_append_right _ h))
  have f_74 := hts (.fieldLink RX7 74 "BellNamesModel" "at" "I") (by decide +kernel)
  have f_16 := hts (.fieldLink RX7 16 "BellNamesModel" "cells" "[I") (by decide +kernel)
  have hl : lv_has ls 3 [(0, .ref (ad 0)), (1, .int x1), (2, .int x2)] := hl
  unfold F_X7_digit at hR
  refine lv_aload_n hx hb dX7_digit_0 rfl (lv_at hl 0 rfl) ?_
  refine bw_get (ci := 6) (v := .int (gI st 12)) (C := RX7) (T := TX7) (N := 28) hx hb hts i_X7 hown hK hP 0 rfl rfl 12 (by decide) f_74 rfl dX7_digit_1 ?_
  refine lv_iload_n hx hb dX7_digit_4 rfl (lv_at hl 1 rfl) ?_
  refine lv_icmp_ge (tgt := 29) hx hb dX7_digit_5 (by decide) (fun c_1 => ?_) (fun c_1 => ?_)
  · have hR := (if_pos c_1).symm.trans hR
    refine lv_bipush (v := (-9)) hx hb dX7_digit_29 (by decide) ?_
    exact ret_ _ _ _ _ _ _ dX7_digit_31  (sp1 hR) (congrArg (fun z => (MW cI ad z)) (sp2 hR)) hP hD hS
  · have hR := (if_neg c_1).symm.trans hR
    refine lv_aload_n hx hb dX7_digit_8 rfl (lv_at hl 0 rfl) ?_
    refine bw_get (ci := 6) (v := .ref (ad 3)) (C := RX7) (T := TX7) (N := 28) hx hb hts i_X7 hown hK hP 0 rfl rfl 4 (by decide) f_16 rfl dX7_digit_9 ?_
    refine lv_aload_n hx hb dX7_digit_12 rfl (lv_at hl 0 rfl) ?_
    refine bw_get (ci := 6) (v := .int (gI st 12)) (C := RX7) (T := TX7) (N := 28) hx hb hts i_X7 hown hK hP 0 rfl rfl 12 (by decide) f_74 rfl dX7_digit_13 ?_
    obtain ⟨h_2, hR⟩ := ck_some hR
    refine bw_ald (v := gA st 4 (gI st 12)) hx hb hK hP 3 rfl h_2 rfl dX7_digit_16 ?_
    refine lv_bipush (v := 48) hx hb dX7_digit_17 (by decide) ?_
    refine lv_bipush (v := 48) hx hb dX7_digit_19 (by decide) ?_
    refine lv_iload_n hx hb dX7_digit_21 rfl (lv_at hl 2 rfl) ?_
    refine lv_iadd hx hb dX7_digit_22 ?_
    obtain ⟨v_3, e_3, hR⟩ := b1_some hR
    refine bc_z (va_runS (As := [.int (gA st 4 (gI st 12)), .int 48, .int (48 + x2)]) (rest := []) ⟨hx, hb, hml, hown, hts⟩ (c_X7_within l D cI cO ad _ e_3) (va_cwS 3 hts gX7_digit_X7_within rfl rfl rfl (by decide +kernel) ⟨Nat.le_of_ble_eq_true rfl, Nat.le_of_ble_eq_true rfl⟩) (preS hK hN hP hD) rfl rfl hl.1 rfl (lv_room (Nat.le_of_ble_eq_true rfl)) dX7_digit_23 ⟨Nat.zero_le _, Nat.zero_le _⟩) hS hD hA (fun H locs hP hD hS n_3 => ?_)
    refine lv_if_ne (tgt := 32) hx hb dX7_digit_26 (by decide) (fun c_4 => ?_) (fun c_4 => ?_)
    · have hR := (if_neg c_4).symm.trans hR
      refine lv_aload_n hx hb dX7_digit_32 rfl (lv_at hl 0 rfl) ?_
      refine lv_dup hx hb dX7_digit_33 rfl ?_
      refine bw_get (ci := 6) (v := .int (gI st 12)) (C := RX7) (T := TX7) (N := 28) hx hb hts i_X7 hown hK hP 0 rfl rfl 12 (by decide) f_74 rfl dX7_digit_34 ?_
      refine lv_iconst (v := 1) hx hb dX7_digit_37 (by decide) ?_
      refine lv_iadd hx hb dX7_digit_38 ?_
      refine bw_put (w' := (MW cI ad (sI st 12 ((gI st 12) + 1)))) (ci := 6) (C := RX7) (T := TX7) (N := 28) hx hb hts i_X7 tyX7 tyX7_ok nmX7 hown hK hP hD hS 0 rfl rfl 12 (by decide) f_74 rfl rfl (Nat.le_of_ble_eq_true rfl) (MW_i12 cI ad _ _) dX7_digit_39 (fun H locs hP hD hS => ?_)
      refine lv_aload_n hx hb dX7_digit_42 rfl (lv_at hl 0 rfl) ?_
      refine bw_get (ci := 6) (v := .ref (ad 3)) (C := RX7) (T := TX7) (N := 28) hx hb hts i_X7 hown hK hP 0 rfl rfl 4 (by decide) f_16 rfl dX7_digit_43 ?_
      refine lv_aload_n hx hb dX7_digit_46 rfl (lv_at hl 0 rfl) ?_
      refine bw_get (ci := 6) (v := .int (gI (sI st 12 ((gI st 12) + 1)) 12)) (C := RX7) (T := TX7) (N := 28) hx hb hts i_X7 hown hK hP 0 rfl rfl 12 (by decide) f_74 rfl dX7_digit_47 ?_
      refine lv_iconst (v := 1) hx hb dX7_digit_50 (by decide) ?_
      refine lv_isub hx hb dX7_digit_51 ?_
      obtain ⟨h_5, hR⟩ := ck_some hR
      refine bw_ald (v := gA (sI st 12 ((gI st 12) + 1)) 4 ((gI (sI st 12 ((gI st 12) + 1)) 12) - 1)) hx hb hK hP 3 rfl h_5 rfl dX7_digit_52 ?_
      refine lv_bipush (v := 48) hx hb dX7_digit_53 (by decide) ?_
      refine lv_isub hx hb dX7_digit_55 ?_
      exact ret_ _ _ _ _ _ _ dX7_digit_56  (sp1 hR) (congrArg (fun z => (MW cI ad z)) (sp2 hR)) hP hD hS
    · have hR := (if_pos c_4).symm.trans hR
      refine lv_bipush (v := (-9)) hx hb dX7_digit_29 (by decide) ?_
      exact ret_ _ _ _ _ _ _ dX7_digit_31  (sp1 hR) (congrArg (fun z => (MW cI ad z)) (sp2 hR)) hP hD hS
abbrev rm_X7_isSign : Room := { frames := 0, cells := 0, slots := 0, locals := 0 }
set_option maxHeartbeats 4000000 in
set_option maxRecDepth 100000 in
theorem c_X7_isSign (l : Launch) (D : va_G) (cI cO : ClassId) (ad : Nat → Nat) (sz : Nat) {st : St} {x1 : Int32} {x2 : Int32} {r : Int32} {s2 : St} (hR : F_X7_isSign st x1 x2 = some (r, s2)) : CZ l yX7_isSign wsX7_isSign rm_X7_isSign D cI cO [.ref (ad 0), .int x1, .int x2] (MW cI ad st) (MW cI ad s2) sz r := by
  refine mk_z (cc := cX7_isSign) (maxL := 3) (own := RX7) rfl (by decide) rfl (Nat.le_of_ble_eq_true rfl) ?_
  intro p e s m args below meth c A Q ls hx hb hml hown hts hK hN hA ret_ hP hD hS hl
  have i_X7 : ∀ w ∈ u_ws RX7 TX7 28, w ∈ wsX7_isSign := (fun _ h => List.mem_cons_of_mem _ (List.mem_append_right _ h))
  have f_74 := hts (.fieldLink RX7 74 "BellNamesModel" "at" "I") (by decide +kernel)
  have f_16 := hts (.fieldLink RX7 16 "BellNamesModel" "cells" "[I") (by decide +kernel)
  have hl : lv_has ls 3 [(0, .ref (ad 0)), (1, .int x1), (2, .int x2)] := hl
  unfold F_X7_isSign at hR
  refine lv_aload_n hx hb dX7_isSign_0 rfl (lv_at hl 0 rfl) ?_
  refine bw_get (ci := 6) (v := .int (gI st 12)) (C := RX7) (T := TX7) (N := 28) hx hb hts i_X7 hown hK hP 0 rfl rfl 12 (by decide) f_74 rfl dX7_isSign_1 ?_
  refine lv_iload_n hx hb dX7_isSign_4 rfl (lv_at hl 1 rfl) ?_
  refine lv_icmp_ge (tgt := 21) hx hb dX7_isSign_5 (by decide) (fun c_1 => ?_) (fun c_1 => ?_)
  · have hR := (if_pos c_1).symm.trans hR
    refine lv_iconst (v := 0) hx hb dX7_isSign_21 (by decide) ?_
    exact ret_ _ _ _ _ _ _ dX7_isSign_22 (by decide) (sp1 hR) (congrArg (fun z => (MW cI ad z)) (sp2 hR)) hP hD hS
  · have hR := (if_neg c_1).symm.trans hR
    refine lv_aload_n hx hb dX7_isSign_8 rfl (lv_at hl 0 rfl) ?_
    refine bw_get (ci := 6) (v := .ref (ad 3)) (C := RX7) (T := TX7) (N := 28) hx hb hts i_X7 hown hK hP 0 rfl rfl 4 (by decide) f_16 rfl dX7_isSign_9 ?_
    refine lv_aload_n hx hb dX7_isSign_12 rfl (lv_at hl 0 rfl) ?_
    refine bw_get (ci := 6) (v := .int (gI st 12)) (C := RX7) (T := TX7) (N := 28) hx hb hts i_X7 hown hK hP 0 rfl rfl 12 (by decide) f_74 rfl dX7_isSign_13 ?_
    obtain ⟨h_2, hR⟩ := ck_some hR
    refine bw_ald (v := gA st 4 (gI st 12)) hx hb hK hP 3 rfl h_2 rfl dX7_isSign_16 ?_
    refine lv_iload_n hx hb dX7_isSign_17 rfl (lv_at hl 2 rfl) ?_
    refine lv_icmp_eq (tgt := 23) hx hb dX7_isSign_18 (by decide) (fun c_3 => ?_) (fun c_3 => ?_)
    · have hR := (if_pos c_3).symm.trans hR
      refine lv_aload_n hx hb dX7_isSign_23 rfl (lv_at hl 0 rfl) ?_
      refine lv_dup hx hb dX7_isSign_24 rfl ?_
      refine bw_get (ci := 6) (v := .int (gI st 12)) (C := RX7) (T := TX7) (N := 28) hx hb hts i_X7 hown hK hP 0 rfl rfl 12 (by decide) f_74 rfl dX7_isSign_25 ?_
      refine lv_iconst (v := 1) hx hb dX7_isSign_28 (by decide) ?_
      refine lv_iadd hx hb dX7_isSign_29 ?_
      refine bw_put (w' := (MW cI ad (sI st 12 ((gI st 12) + 1)))) (ci := 6) (C := RX7) (T := TX7) (N := 28) hx hb hts i_X7 tyX7 tyX7_ok nmX7 hown hK hP hD hS 0 rfl rfl 12 (by decide) f_74 rfl rfl (Nat.le_of_ble_eq_true rfl) (MW_i12 cI ad _ _) dX7_isSign_30 (fun H locs hP hD hS => ?_)
      refine lv_iconst (v := 1) hx hb dX7_isSign_33 (by decide) ?_
      exact ret_ _ _ _ _ _ _ dX7_isSign_34 (by decide) (sp1 hR) (congrArg (fun z => (MW cI ad z)) (sp2 hR)) hP hD hS
    · have hR := (if_neg c_3).symm.trans hR
      refine lv_iconst (v := 0) hx hb dX7_isSign_21 (by decide) ?_
      exact ret_ _ _ _ _ _ _ dX7_isSign_22 (by decide) (sp1 hR) (congrArg (fun z => (MW cI ad z)) (sp2 hR)) hP hD hS
abbrev rm_X7_readBell : Room := { frames := 2, cells := 0, slots := 0, locals := 44 }
set_option maxHeartbeats 4000000 in
set_option maxRecDepth 100000 in
theorem c_X7_readBell (l : Launch) (D : va_G) (cI cO : ClassId) (ad : Nat → Nat) (sz : Nat) {st : St} {x1 : Int32} {r : Int32} {s2 : St} (hR : F_X7_readBell st x1 = some (r, s2)) : CZ l yX7_readBell wsX7_readBell rm_X7_readBell D cI cO [.ref (ad 0), .int x1] (MW cI ad st) (MW cI ad s2) sz r := by
  refine mk_z (cc := cX7_readBell) (maxL := 3) (own := RX7) rfl (by decide) rfl (Nat.le_of_ble_eq_true rfl) ?_
  intro p e s m args below meth c A Q ls hx hb hml hown hts hK hN hA ret_ hP hD hS hl
  have i_X7 : ∀ w ∈ u_ws RX7 TX7 28, w ∈ wsX7_readBell := (fun _ h => List.mem_cons_of_mem _ (List.mem_append_right _ h))
  have f_74 := hts (.fieldLink RX7 74 "BellNamesModel" "at" "I") (by decide +kernel)
  have f_31 := hts (.fieldLink RX7 31 "BellNamesModel" "readKind" "[I") (by decide +kernel)
  have f_107 := hts (.fieldLink RX7 107 "BellNamesModel" "readBells" "I") (by decide +kernel)
  have f_34 := hts (.fieldLink RX7 34 "BellNamesModel" "readNote" "[I") (by decide +kernel)
  have f_37 := hts (.fieldLink RX7 37 "BellNamesModel" "readSpot" "[I") (by decide +kernel)
  have f_40 := hts (.fieldLink RX7 40 "BellNamesModel" "readMood" "[I") (by decide +kernel)
  have f_16 := hts (.fieldLink RX7 16 "BellNamesModel" "cells" "[I") (by decide +kernel)
  have hl : lv_has ls 3 [(0, .ref (ad 0)), (1, .int x1)] := hl
  unfold F_X7_readBell at hR
  refine lv_aload_n hx hb dX7_readBell_0 rfl (lv_at hl 0 rfl) ?_
  refine bw_get (ci := 6) (v := .int (gI st 12)) (C := RX7) (T := TX7) (N := 28) hx hb hts i_X7 hown hK hP 0 rfl rfl 12 (by decide) f_74 rfl dX7_readBell_1 ?_
  refine lv_iload_n hx hb dX7_readBell_4 rfl (lv_at hl 1 rfl) ?_
  refine lv_icmp_ge (tgt := 20) hx hb dX7_readBell_5 (by decide) (fun c_1 => ?_) (fun c_1 => ?_)
  · have hR := (if_pos c_1).symm.trans hR
    refine lv_iconst (v := 0) hx hb dX7_readBell_20 (by decide) ?_
    refine lv_istore_n (lv' := [(2, .int 0), (0, .ref (ad 0)), (1, .int x1)]) hx hb dX7_readBell_21 rfl hl (by decide) rfl (fun ls hl => ?_)
    refine lv_aload_n hx hb dX7_readBell_22 rfl (lv_at hl 1 rfl) ?_
    refine bw_get (ci := 6) (v := .ref (ad 8)) (C := RX7) (T := TX7) (N := 28) hx hb hts i_X7 hown hK hP 0 rfl rfl 16 (by decide) f_31 rfl dX7_readBell_23 ?_
    refine lv_aload_n hx hb dX7_readBell_26 rfl (lv_at hl 1 rfl) ?_
    refine bw_get (ci := 6) (v := .int (gI st 15)) (C := RX7) (T := TX7) (N := 28) hx hb hts i_X7 hown hK hP 0 rfl rfl 15 (by decide) f_107 rfl dX7_readBell_27 ?_
    refine lv_iload_n hx hb dX7_readBell_30 rfl (lv_at hl 0 rfl) ?_
    refine lv_bipush (v := 112) hx hb dX7_readBell_31 (by decide) ?_
    refine lv_icmp_ne (tgt := 40) hx hb dX7_readBell_33 (by decide) (fun c_2 => ?_) (fun c_2 => ?_)
    · refine lv_iload_n hx hb dX7_readBell_40 rfl (lv_at hl 0 rfl) ?_
      refine lv_bipush (v := 107) hx hb dX7_readBell_41 (by decide) ?_
      refine lv_icmp_ne (tgt := 50) hx hb dX7_readBell_43 (by decide) (fun c_3 => ?_) (fun c_3 => ?_)
      · refine lv_iload_n hx hb dX7_readBell_50 rfl (lv_at hl 0 rfl) ?_
        refine lv_bipush (v := 104) hx hb dX7_readBell_51 (by decide) ?_
        refine lv_icmp_ne (tgt := 60) hx hb dX7_readBell_53 (by decide) (fun c_4 => ?_) (fun c_4 => ?_)
        · refine lv_bipush (v := (-9)) hx hb dX7_readBell_60 (by decide) ?_
          obtain ⟨h_5, hR⟩ := ck_some hR
          refine bw_ast (w' := (MW cI ad (sA st 16 (gI st 15) (-9)))) hx hb hK hP hD hS 8 rfl h_5 (MW_a16 cI ad _ _) dX7_readBell_62 (fun H locs hP hD hS => ?_)
          refine lv_aload_n hx hb dX7_readBell_63 rfl (lv_at hl 1 rfl) ?_
          refine bw_get (ci := 6) (v := .ref (ad 8)) (C := RX7) (T := TX7) (N := 28) hx hb hts i_X7 hown hK hP 0 rfl rfl 16 (by decide) f_31 rfl dX7_readBell_64 ?_
          refine lv_aload_n hx hb dX7_readBell_67 rfl (lv_at hl 1 rfl) ?_
          refine bw_get (ci := 6) (v := .int (gI (sA st 16 (gI st 15) (-9)) 15)) (C := RX7) (T := TX7) (N := 28) hx hb hts i_X7 hown hK hP 0 rfl rfl 15 (by decide) f_107 rfl dX7_readBell_68 ?_
          obtain ⟨h_6, hR⟩ := ck_some hR
          refine bw_ald (v := gA (sA st 16 (gI st 15) (-9)) 16 (gI (sA st 16 (gI st 15) (-9)) 15)) hx hb hK hP 8 rfl h_6 rfl dX7_readBell_71 ?_
          refine lv_bipush (v := (-9)) hx hb dX7_readBell_72 (by decide) ?_
          refine lv_icmp_ne (tgt := 79) hx hb dX7_readBell_74 (by decide) (fun c_7 => ?_) (fun c_7 => ?_)
          · have hR := (if_neg c_7).symm.trans hR
            refine lv_aload_n hx hb dX7_readBell_79 rfl (lv_at hl 1 rfl) ?_
            refine lv_dup hx hb dX7_readBell_80 rfl ?_
            refine bw_get (ci := 6) (v := .int (gI (sA st 16 (gI st 15) (-9)) 12)) (C := RX7) (T := TX7) (N := 28) hx hb hts i_X7 hown hK hP 0 rfl rfl 12 (by decide) f_74 rfl dX7_readBell_81 ?_
            refine lv_iconst (v := 1) hx hb dX7_readBell_84 (by decide) ?_
            refine lv_iadd hx hb dX7_readBell_85 ?_
            refine bw_put (w' := (MW cI ad (sI (sA st 16 (gI st 15) (-9)) 12 ((gI (sA st 16 (gI st 15) (-9)) 12) + 1)))) (ci := 6) (C := RX7) (T := TX7) (N := 28) hx hb hts i_X7 tyX7 tyX7_ok nmX7 hown hK hP hD hS 0 rfl rfl 12 (by decide) f_74 rfl rfl (Nat.le_of_ble_eq_true rfl) (MW_i12 cI ad _ _) dX7_readBell_86 (fun H locs hP hD hS => ?_)
            refine lv_aload_n hx hb dX7_readBell_89 rfl (lv_at hl 1 rfl) ?_
            refine bw_get (ci := 6) (v := .ref (ad 9)) (C := RX7) (T := TX7) (N := 28) hx hb hts i_X7 hown hK hP 0 rfl rfl 17 (by decide) f_34 rfl dX7_readBell_90 ?_
            refine lv_aload_n hx hb dX7_readBell_93 rfl (lv_at hl 1 rfl) ?_
            refine bw_get (ci := 6) (v := .int (gI (sI (sA st 16 (gI st 15) (-9)) 12 ((gI (sA st 16 (gI st 15) (-9)) 12) + 1)) 15)) (C := RX7) (T := TX7) (N := 28) hx hb hts i_X7 hown hK hP 0 rfl rfl 15 (by decide) f_107 rfl dX7_readBell_94 ?_
            refine lv_aload_n hx hb dX7_readBell_97 rfl (lv_at hl 1 rfl) ?_
            refine lv_iload_n hx hb dX7_readBell_98 rfl (lv_at hl 2 rfl) ?_
            refine lv_bipush (v := 9) hx hb dX7_readBell_99 (by decide) ?_
            obtain ⟨v_8, s_8, e_8, hR⟩ := b2_some hR
            refine bc_i (va_runV (As := [.int x1, .int 9]) (rest := [.int (gI (sI (sA st 16 (gI st 15) (-9)) 12 ((gI (sA st 16 (gI st 15) (-9)) 12) + 1)) 15), .ref (ad 9)]) ⟨hx, hb, hml, hown, hts⟩ (c_X7_digit l D cI cO ad _ e_8) (cwV 2 hts gX7_readBell_X7_digit rfl rfl rfl (by decide +kernel) ⟨Nat.le_of_ble_eq_true rfl, Nat.le_of_ble_eq_true rfl⟩) (preV hK hN hP hD (va_recv hK hP (ci := 6) (q0 := 0) rfl rfl)) rfl rfl hl.1 rfl (lv_room (Nat.le_of_ble_eq_true rfl)) dX7_readBell_101 ⟨Nat.zero_le _, Nat.zero_le _⟩) hS hD hA (fun H locs hP hD hS => ?_)
            obtain ⟨h_9, hR⟩ := ck_some hR
            refine bw_ast (w' := (MW cI ad (sA s_8 17 (gI (sI (sA st 16 (gI st 15) (-9)) 12 ((gI (sA st 16 (gI st 15) (-9)) 12) + 1)) 15) v_8))) hx hb hK hP hD hS 9 rfl h_9 (MW_a17 cI ad _ _) dX7_readBell_104 (fun H locs hP hD hS => ?_)
            refine lv_aload_n hx hb dX7_readBell_105 rfl (lv_at hl 1 rfl) ?_
            refine bw_get (ci := 6) (v := .ref (ad 9)) (C := RX7) (T := TX7) (N := 28) hx hb hts i_X7 hown hK hP 0 rfl rfl 17 (by decide) f_34 rfl dX7_readBell_106 ?_
            refine lv_aload_n hx hb dX7_readBell_109 rfl (lv_at hl 1 rfl) ?_
            refine bw_get (ci := 6) (v := .int (gI (sA s_8 17 (gI (sI (sA st 16 (gI st 15) (-9)) 12 ((gI (sA st 16 (gI st 15) (-9)) 12) + 1)) 15) v_8) 15)) (C := RX7) (T := TX7) (N := 28) hx hb hts i_X7 hown hK hP 0 rfl rfl 15 (by decide) f_107 rfl dX7_readBell_110 ?_
            obtain ⟨h_10, hR⟩ := ck_some hR
            refine bw_ald (v := gA (sA s_8 17 (gI (sI (sA st 16 (gI st 15) (-9)) 12 ((gI (sA st 16 (gI st 15) (-9)) 12) + 1)) 15) v_8) 17 (gI (sA s_8 17 (gI (sI (sA st 16 (gI st 15) (-9)) 12 ((gI (sA st 16 (gI st 15) (-9)) 12) + 1)) 15) v_8) 15)) hx hb hK hP 9 rfl h_10 rfl dX7_readBell_113 ?_
            refine lv_bipush (v := (-9)) hx hb dX7_readBell_114 (by decide) ?_
            refine lv_icmp_ne (tgt := 121) hx hb dX7_readBell_116 (by decide) (fun c_11 => ?_) (fun c_11 => ?_)
            · have hR := (if_neg c_11).symm.trans hR
              refine lv_aload_n hx hb dX7_readBell_121 rfl (lv_at hl 1 rfl) ?_
              refine bw_get (ci := 6) (v := .ref (ad 10)) (C := RX7) (T := TX7) (N := 28) hx hb hts i_X7 hown hK hP 0 rfl rfl 18 (by decide) f_37 rfl dX7_readBell_122 ?_
              refine lv_aload_n hx hb dX7_readBell_125 rfl (lv_at hl 1 rfl) ?_
              refine bw_get (ci := 6) (v := .int (gI (sA s_8 17 (gI (sI (sA st 16 (gI st 15) (-9)) 12 ((gI (sA st 16 (gI st 15) (-9)) 12) + 1)) 15) v_8) 15)) (C := RX7) (T := TX7) (N := 28) hx hb hts i_X7 hown hK hP 0 rfl rfl 15 (by decide) f_107 rfl dX7_readBell_126 ?_
              refine lv_aload_n hx hb dX7_readBell_129 rfl (lv_at hl 1 rfl) ?_
              refine lv_iload_n hx hb dX7_readBell_130 rfl (lv_at hl 2 rfl) ?_
              refine lv_bipush (v := 9) hx hb dX7_readBell_131 (by decide) ?_
              obtain ⟨v_12, s_12, e_12, hR⟩ := b2_some hR
              refine bc_i (va_runV (As := [.int x1, .int 9]) (rest := [.int (gI (sA s_8 17 (gI (sI (sA st 16 (gI st 15) (-9)) 12 ((gI (sA st 16 (gI st 15) (-9)) 12) + 1)) 15) v_8) 15), .ref (ad 10)]) ⟨hx, hb, hml, hown, hts⟩ (c_X7_digit l D cI cO ad _ e_12) (cwV 2 hts gX7_readBell_X7_digit rfl rfl rfl (by decide +kernel) ⟨Nat.le_of_ble_eq_true rfl, Nat.le_of_ble_eq_true rfl⟩) (preV hK hN hP hD (va_recv hK hP (ci := 6) (q0 := 0) rfl rfl)) rfl rfl hl.1 rfl (lv_room (Nat.le_of_ble_eq_true rfl)) dX7_readBell_133 ⟨Nat.zero_le _, Nat.zero_le _⟩) hS hD hA (fun H locs hP hD hS => ?_)
              obtain ⟨h_13, hR⟩ := ck_some hR
              refine bw_ast (w' := (MW cI ad (sA s_12 18 (gI (sA s_8 17 (gI (sI (sA st 16 (gI st 15) (-9)) 12 ((gI (sA st 16 (gI st 15) (-9)) 12) + 1)) 15) v_8) 15) v_12))) hx hb hK hP hD hS 10 rfl h_13 (MW_a18 cI ad _ _) dX7_readBell_136 (fun H locs hP hD hS => ?_)
              refine lv_aload_n hx hb dX7_readBell_137 rfl (lv_at hl 1 rfl) ?_
              refine bw_get (ci := 6) (v := .ref (ad 10)) (C := RX7) (T := TX7) (N := 28) hx hb hts i_X7 hown hK hP 0 rfl rfl 18 (by decide) f_37 rfl dX7_readBell_138 ?_
              refine lv_aload_n hx hb dX7_readBell_141 rfl (lv_at hl 1 rfl) ?_
              refine bw_get (ci := 6) (v := .int (gI (sA s_12 18 (gI (sA s_8 17 (gI (sI (sA st 16 (gI st 15) (-9)) 12 ((gI (sA st 16 (gI st 15) (-9)) 12) + 1)) 15) v_8) 15) v_12) 15)) (C := RX7) (T := TX7) (N := 28) hx hb hts i_X7 hown hK hP 0 rfl rfl 15 (by decide) f_107 rfl dX7_readBell_142 ?_
              obtain ⟨h_14, hR⟩ := ck_some hR
              refine bw_ald (v := gA (sA s_12 18 (gI (sA s_8 17 (gI (sI (sA st 16 (gI st 15) (-9)) 12 ((gI (sA st 16 (gI st 15) (-9)) 12) + 1)) 15) v_8) 15) v_12) 18 (gI (sA s_12 18 (gI (sA s_8 17 (gI (sI (sA st 16 (gI st 15) (-9)) 12 ((gI (sA st 16 (gI st 15) (-9)) 12) + 1)) 15) v_8) 15) v_12) 15)) hx hb hK hP 10 rfl h_14 rfl dX7_readBell_145 ?_
              refine lv_bipush (v := (-9)) hx hb dX7_readBell_146 (by decide) ?_
              refine lv_icmp_ne (tgt := 153) hx hb dX7_readBell_148 (by decide) (fun c_15 => ?_) (fun c_15 => ?_)
              · have hR := (if_neg c_15).symm.trans hR
                refine lv_aload_n hx hb dX7_readBell_153 rfl (lv_at hl 1 rfl) ?_
                refine bw_get (ci := 6) (v := .ref (ad 11)) (C := RX7) (T := TX7) (N := 28) hx hb hts i_X7 hown hK hP 0 rfl rfl 19 (by decide) f_40 rfl dX7_readBell_154 ?_
                refine lv_aload_n hx hb dX7_readBell_157 rfl (lv_at hl 1 rfl) ?_
                refine bw_get (ci := 6) (v := .int (gI (sA s_12 18 (gI (sA s_8 17 (gI (sI (sA st 16 (gI st 15) (-9)) 12 ((gI (sA st 16 (gI st 15) (-9)) 12) + 1)) 15) v_8) 15) v_12) 15)) (C := RX7) (T := TX7) (N := 28) hx hb hts i_X7 hown hK hP 0 rfl rfl 15 (by decide) f_107 rfl dX7_readBell_158 ?_
                refine lv_aload_n hx hb dX7_readBell_161 rfl (lv_at hl 1 rfl) ?_
                refine lv_iload_n hx hb dX7_readBell_162 rfl (lv_at hl 2 rfl) ?_
                refine lv_iconst (v := 3) hx hb dX7_readBell_163 (by decide) ?_
                obtain ⟨v_16, s_16, e_16, hR⟩ := b2_some hR
                refine bc_i (va_runV (As := [.int x1, .int 3]) (rest := [.int (gI (sA s_12 18 (gI (sA s_8 17 (gI (sI (sA st 16 (gI st 15) (-9)) 12 ((gI (sA st 16 (gI st 15) (-9)) 12) + 1)) 15) v_8) 15) v_12) 15), .ref (ad 11)]) ⟨hx, hb, hml, hown, hts⟩ (c_X7_digit l D cI cO ad _ e_16) (cwV 2 hts gX7_readBell_X7_digit rfl rfl rfl (by decide +kernel) ⟨Nat.le_of_ble_eq_true rfl, Nat.le_of_ble_eq_true rfl⟩) (preV hK hN hP hD (va_recv hK hP (ci := 6) (q0 := 0) rfl rfl)) rfl rfl hl.1 rfl (lv_room (Nat.le_of_ble_eq_true rfl)) dX7_readBell_164 ⟨Nat.zero_le _, Nat.zero_le _⟩) hS hD hA (fun H locs hP hD hS => ?_)
                obtain ⟨h_17, hR⟩ := ck_some hR
                refine bw_ast (w' := (MW cI ad (sA s_16 19 (gI (sA s_12 18 (gI (sA s_8 17 (gI (sI (sA st 16 (gI st 15) (-9)) 12 ((gI (sA st 16 (gI st 15) (-9)) 12) + 1)) 15) v_8) 15) v_12) 15) v_16))) hx hb hK hP hD hS 11 rfl h_17 (MW_a19 cI ad _ _) dX7_readBell_167 (fun H locs hP hD hS => ?_)
                refine lv_aload_n hx hb dX7_readBell_168 rfl (lv_at hl 1 rfl) ?_
                refine lv_dup hx hb dX7_readBell_169 rfl ?_
                refine bw_get (ci := 6) (v := .int (gI (sA s_16 19 (gI (sA s_12 18 (gI (sA s_8 17 (gI (sI (sA st 16 (gI st 15) (-9)) 12 ((gI (sA st 16 (gI st 15) (-9)) 12) + 1)) 15) v_8) 15) v_12) 15) v_16) 15)) (C := RX7) (T := TX7) (N := 28) hx hb hts i_X7 hown hK hP 0 rfl rfl 15 (by decide) f_107 rfl dX7_readBell_170 ?_
                refine lv_iconst (v := 1) hx hb dX7_readBell_173 (by decide) ?_
                refine lv_iadd hx hb dX7_readBell_174 ?_
                refine bw_put (w' := (MW cI ad (sI (sA s_16 19 (gI (sA s_12 18 (gI (sA s_8 17 (gI (sI (sA st 16 (gI st 15) (-9)) 12 ((gI (sA st 16 (gI st 15) (-9)) 12) + 1)) 15) v_8) 15) v_12) 15) v_16) 15 ((gI (sA s_16 19 (gI (sA s_12 18 (gI (sA s_8 17 (gI (sI (sA st 16 (gI st 15) (-9)) 12 ((gI (sA st 16 (gI st 15) (-9)) 12) + 1)) 15) v_8) 15) v_12) 15) v_16) 15) + 1)))) (ci := 6) (C := RX7) (T := TX7) (N := 28) hx hb hts i_X7 tyX7 tyX7_ok nmX7 hown hK hP hD hS 0 rfl rfl 15 (by decide) f_107 rfl rfl (Nat.le_of_ble_eq_true rfl) (MW_i15 cI ad _ _) dX7_readBell_175 (fun H locs hP hD hS => ?_)
                refine lv_aload_n hx hb dX7_readBell_178 rfl (lv_at hl 1 rfl) ?_
                refine bw_get (ci := 6) (v := .ref (ad 11)) (C := RX7) (T := TX7) (N := 28) hx hb hts i_X7 hown hK hP 0 rfl rfl 19 (by decide) f_40 rfl dX7_readBell_179 ?_
                refine lv_aload_n hx hb dX7_readBell_182 rfl (lv_at hl 1 rfl) ?_
                refine bw_get (ci := 6) (v := .int (gI (sI (sA s_16 19 (gI (sA s_12 18 (gI (sA s_8 17 (gI (sI (sA st 16 (gI st 15) (-9)) 12 ((gI (sA st 16 (gI st 15) (-9)) 12) + 1)) 15) v_8) 15) v_12) 15) v_16) 15 ((gI (sA s_16 19 (gI (sA s_12 18 (gI (sA s_8 17 (gI (sI (sA st 16 (gI st 15) (-9)) 12 ((gI (sA st 16 (gI st 15) (-9)) 12) + 1)) 15) v_8) 15) v_12) 15) v_16) 15) + 1)) 15)) (C := RX7) (T := TX7) (N := 28) hx hb hts i_X7 hown hK hP 0 rfl rfl 15 (by decide) f_107 rfl dX7_readBell_183 ?_
                refine lv_iconst (v := 1) hx hb dX7_readBell_186 (by decide) ?_
                refine lv_isub hx hb dX7_readBell_187 ?_
                obtain ⟨h_18, hR⟩ := ck_some hR
                refine bw_ald (v := gA (sI (sA s_16 19 (gI (sA s_12 18 (gI (sA s_8 17 (gI (sI (sA st 16 (gI st 15) (-9)) 12 ((gI (sA st 16 (gI st 15) (-9)) 12) + 1)) 15) v_8) 15) v_12) 15) v_16) 15 ((gI (sA s_16 19 (gI (sA s_12 18 (gI (sA s_8 17 (gI (sI (sA st 16 (gI st 15) (-9)) 12 ((gI (sA st 16 (gI st 15) (-9)) 12) + 1)) 15) v_8) 15) v_12) 15) v_16) 15) + 1)) 19 ((gI (sI (sA s_16 19 (gI (sA s_12 18 (gI (sA s_8 17 (gI (sI (sA st 16 (gI st 15) (-9)) 12 ((gI (sA st 16 (gI st 15) (-9)) 12) + 1)) 15) v_8) 15) v_12) 15) v_16) 15 ((gI (sA s_16 19 (gI (sA s_12 18 (gI (sA s_8 17 (gI (sI (sA st 16 (gI st 15) (-9)) 12 ((gI (sA st 16 (gI st 15) (-9)) 12) + 1)) 15) v_8) 15) v_12) 15) v_16) 15) + 1)) 15) - 1)) hx hb hK hP 11 rfl h_18 rfl dX7_readBell_188 ?_
                refine lv_bipush (v := (-9)) hx hb dX7_readBell_189 (by decide) ?_
                refine lv_icmp_eq (tgt := 198) hx hb dX7_readBell_191 (by decide) (fun c_19 => ?_) (fun c_19 => ?_)
                · have hR := (if_pos c_19).symm.trans hR
                  refine lv_iconst (v := 0) hx hb dX7_readBell_198 (by decide) ?_
                  exact ret_ _ _ _ _ _ _ dX7_readBell_199 (by decide) (sp1 hR) (congrArg (fun z => (MW cI ad z)) (sp2 hR)) hP hD hS
                · have hR := (if_neg c_19).symm.trans hR
                  refine lv_iconst (v := 1) hx hb dX7_readBell_194 (by decide) ?_
                  refine lv_goto (tgt := 199) hx hb dX7_readBell_195 (by decide) ?_
                  exact ret_ _ _ _ _ _ _ dX7_readBell_199 (by decide) (sp1 hR) (congrArg (fun z => (MW cI ad z)) (sp2 hR)) hP hD hS
              · have hR := (if_pos c_15).symm.trans hR
                refine lv_iconst (v := 0) hx hb dX7_readBell_151 (by decide) ?_
                exact ret_ _ _ _ _ _ _ dX7_readBell_152 (by decide) (sp1 hR) (congrArg (fun z => (MW cI ad z)) (sp2 hR)) hP hD hS
            · have hR := (if_pos c_11).symm.trans hR
              refine lv_iconst (v := 0) hx hb dX7_readBell_119 (by decide) ?_
              exact ret_ _ _ _ _ _ _ dX7_readBell_120 (by decide) (sp1 hR) (congrArg (fun z => (MW cI ad z)) (sp2 hR)) hP hD hS
          · have hR := (if_pos c_7).symm.trans hR
            refine lv_iconst (v := 0) hx hb dX7_readBell_77 (by decide) ?_
            exact ret_ _ _ _ _ _ _ dX7_readBell_78 (by decide) (sp1 hR) (congrArg (fun z => (MW cI ad z)) (sp2 hR)) hP hD hS
        · exact absurd c_4 (by decide)
      · exact absurd c_3 (by decide)
    · exact absurd c_2 (by decide)
  · have hR := (if_neg c_1).symm.trans hR
    refine lv_aload_n hx hb dX7_readBell_8 rfl (lv_at hl 0 rfl) ?_
    refine bw_get (ci := 6) (v := .ref (ad 3)) (C := RX7) (T := TX7) (N := 28) hx hb hts i_X7 hown hK hP 0 rfl rfl 4 (by decide) f_16 rfl dX7_readBell_9 ?_
    refine lv_aload_n hx hb dX7_readBell_12 rfl (lv_at hl 0 rfl) ?_
    refine bw_get (ci := 6) (v := .int (gI st 12)) (C := RX7) (T := TX7) (N := 28) hx hb hts i_X7 hown hK hP 0 rfl rfl 12 (by decide) f_74 rfl dX7_readBell_13 ?_
    obtain ⟨h_20, hR⟩ := ck_some hR
    refine bw_ald (v := gA st 4 (gI st 12)) hx hb hK hP 3 rfl h_20 rfl dX7_readBell_16 ?_
    refine lv_goto (tgt := 21) hx hb dX7_readBell_17 (by decide) ?_
    refine lv_istore_n (lv' := [(2, .int (gA st 4 (gI st 12))), (0, .ref (ad 0)), (1, .int x1)]) hx hb dX7_readBell_21 rfl hl (by decide) rfl (fun ls hl => ?_)
    refine lv_aload_n hx hb dX7_readBell_22 rfl (lv_at hl 1 rfl) ?_
    refine bw_get (ci := 6) (v := .ref (ad 8)) (C := RX7) (T := TX7) (N := 28) hx hb hts i_X7 hown hK hP 0 rfl rfl 16 (by decide) f_31 rfl dX7_readBell_23 ?_
    refine lv_aload_n hx hb dX7_readBell_26 rfl (lv_at hl 1 rfl) ?_
    refine bw_get (ci := 6) (v := .int (gI st 15)) (C := RX7) (T := TX7) (N := 28) hx hb hts i_X7 hown hK hP 0 rfl rfl 15 (by decide) f_107 rfl dX7_readBell_27 ?_
    refine lv_iload_n hx hb dX7_readBell_30 rfl (lv_at hl 0 rfl) ?_
    refine lv_bipush (v := 112) hx hb dX7_readBell_31 (by decide) ?_
    refine lv_icmp_ne (tgt := 40) hx hb dX7_readBell_33 (by decide) (fun c_21 => ?_) (fun c_21 => ?_)
    · have hR := (if_neg c_21).symm.trans hR
      refine lv_iload_n hx hb dX7_readBell_40 rfl (lv_at hl 0 rfl) ?_
      refine lv_bipush (v := 107) hx hb dX7_readBell_41 (by decide) ?_
      refine lv_icmp_ne (tgt := 50) hx hb dX7_readBell_43 (by decide) (fun c_22 => ?_) (fun c_22 => ?_)
      · have hR := (if_neg c_22).symm.trans hR
        refine lv_iload_n hx hb dX7_readBell_50 rfl (lv_at hl 0 rfl) ?_
        refine lv_bipush (v := 104) hx hb dX7_readBell_51 (by decide) ?_
        refine lv_icmp_ne (tgt := 60) hx hb dX7_readBell_53 (by decide) (fun c_23 => ?_) (fun c_23 => ?_)
        · have hR := (if_neg c_23).symm.trans hR
          refine lv_bipush (v := (-9)) hx hb dX7_readBell_60 (by decide) ?_
          obtain ⟨h_24, hR⟩ := ck_some hR
          refine bw_ast (w' := (MW cI ad (sA st 16 (gI st 15) (-9)))) hx hb hK hP hD hS 8 rfl h_24 (MW_a16 cI ad _ _) dX7_readBell_62 (fun H locs hP hD hS => ?_)
          refine lv_aload_n hx hb dX7_readBell_63 rfl (lv_at hl 1 rfl) ?_
          refine bw_get (ci := 6) (v := .ref (ad 8)) (C := RX7) (T := TX7) (N := 28) hx hb hts i_X7 hown hK hP 0 rfl rfl 16 (by decide) f_31 rfl dX7_readBell_64 ?_
          refine lv_aload_n hx hb dX7_readBell_67 rfl (lv_at hl 1 rfl) ?_
          refine bw_get (ci := 6) (v := .int (gI (sA st 16 (gI st 15) (-9)) 15)) (C := RX7) (T := TX7) (N := 28) hx hb hts i_X7 hown hK hP 0 rfl rfl 15 (by decide) f_107 rfl dX7_readBell_68 ?_
          obtain ⟨h_25, hR⟩ := ck_some hR
          refine bw_ald (v := gA (sA st 16 (gI st 15) (-9)) 16 (gI (sA st 16 (gI st 15) (-9)) 15)) hx hb hK hP 8 rfl h_25 rfl dX7_readBell_71 ?_
          refine lv_bipush (v := (-9)) hx hb dX7_readBell_72 (by decide) ?_
          refine lv_icmp_ne (tgt := 79) hx hb dX7_readBell_74 (by decide) (fun c_26 => ?_) (fun c_26 => ?_)
          · have hR := (if_neg c_26).symm.trans hR
            refine lv_aload_n hx hb dX7_readBell_79 rfl (lv_at hl 1 rfl) ?_
            refine lv_dup hx hb dX7_readBell_80 rfl ?_
            refine bw_get (ci := 6) (v := .int (gI (sA st 16 (gI st 15) (-9)) 12)) (C := RX7) (T := TX7) (N := 28) hx hb hts i_X7 hown hK hP 0 rfl rfl 12 (by decide) f_74 rfl dX7_readBell_81 ?_
            refine lv_iconst (v := 1) hx hb dX7_readBell_84 (by decide) ?_
            refine lv_iadd hx hb dX7_readBell_85 ?_
            refine bw_put (w' := (MW cI ad (sI (sA st 16 (gI st 15) (-9)) 12 ((gI (sA st 16 (gI st 15) (-9)) 12) + 1)))) (ci := 6) (C := RX7) (T := TX7) (N := 28) hx hb hts i_X7 tyX7 tyX7_ok nmX7 hown hK hP hD hS 0 rfl rfl 12 (by decide) f_74 rfl rfl (Nat.le_of_ble_eq_true rfl) (MW_i12 cI ad _ _) dX7_readBell_86 (fun H locs hP hD hS => ?_)
            refine lv_aload_n hx hb dX7_readBell_89 rfl (lv_at hl 1 rfl) ?_
            refine bw_get (ci := 6) (v := .ref (ad 9)) (C := RX7) (T := TX7) (N := 28) hx hb hts i_X7 hown hK hP 0 rfl rfl 17 (by decide) f_34 rfl dX7_readBell_90 ?_
            refine lv_aload_n hx hb dX7_readBell_93 rfl (lv_at hl 1 rfl) ?_
            refine bw_get (ci := 6) (v := .int (gI (sI (sA st 16 (gI st 15) (-9)) 12 ((gI (sA st 16 (gI st 15) (-9)) 12) + 1)) 15)) (C := RX7) (T := TX7) (N := 28) hx hb hts i_X7 hown hK hP 0 rfl rfl 15 (by decide) f_107 rfl dX7_readBell_94 ?_
            refine lv_aload_n hx hb dX7_readBell_97 rfl (lv_at hl 1 rfl) ?_
            refine lv_iload_n hx hb dX7_readBell_98 rfl (lv_at hl 2 rfl) ?_
            refine lv_bipush (v := 9) hx hb dX7_readBell_99 (by decide) ?_
            obtain ⟨v_27, s_27, e_27, hR⟩ := b2_some hR
            refine bc_i (va_runV (As := [.int x1, .int 9]) (rest := [.int (gI (sI (sA st 16 (gI st 15) (-9)) 12 ((gI (sA st 16 (gI st 15) (-9)) 12) + 1)) 15), .ref (ad 9)]) ⟨hx, hb, hml, hown, hts⟩ (c_X7_digit l D cI cO ad _ e_27) (cwV 2 hts gX7_readBell_X7_digit rfl rfl rfl (by decide +kernel) ⟨Nat.le_of_ble_eq_true rfl, Nat.le_of_ble_eq_true rfl⟩) (preV hK hN hP hD (va_recv hK hP (ci := 6) (q0 := 0) rfl rfl)) rfl rfl hl.1 rfl (lv_room (Nat.le_of_ble_eq_true rfl)) dX7_readBell_101 ⟨Nat.zero_le _, Nat.zero_le _⟩) hS hD hA (fun H locs hP hD hS => ?_)
            obtain ⟨h_28, hR⟩ := ck_some hR
            refine bw_ast (w' := (MW cI ad (sA s_27 17 (gI (sI (sA st 16 (gI st 15) (-9)) 12 ((gI (sA st 16 (gI st 15) (-9)) 12) + 1)) 15) v_27))) hx hb hK hP hD hS 9 rfl h_28 (MW_a17 cI ad _ _) dX7_readBell_104 (fun H locs hP hD hS => ?_)
            refine lv_aload_n hx hb dX7_readBell_105 rfl (lv_at hl 1 rfl) ?_
            refine bw_get (ci := 6) (v := .ref (ad 9)) (C := RX7) (T := TX7) (N := 28) hx hb hts i_X7 hown hK hP 0 rfl rfl 17 (by decide) f_34 rfl dX7_readBell_106 ?_
            refine lv_aload_n hx hb dX7_readBell_109 rfl (lv_at hl 1 rfl) ?_
            refine bw_get (ci := 6) (v := .int (gI (sA s_27 17 (gI (sI (sA st 16 (gI st 15) (-9)) 12 ((gI (sA st 16 (gI st 15) (-9)) 12) + 1)) 15) v_27) 15)) (C := RX7) (T := TX7) (N := 28) hx hb hts i_X7 hown hK hP 0 rfl rfl 15 (by decide) f_107 rfl dX7_readBell_110 ?_
            obtain ⟨h_29, hR⟩ := ck_some hR
            refine bw_ald (v := gA (sA s_27 17 (gI (sI (sA st 16 (gI st 15) (-9)) 12 ((gI (sA st 16 (gI st 15) (-9)) 12) + 1)) 15) v_27) 17 (gI (sA s_27 17 (gI (sI (sA st 16 (gI st 15) (-9)) 12 ((gI (sA st 16 (gI st 15) (-9)) 12) + 1)) 15) v_27) 15)) hx hb hK hP 9 rfl h_29 rfl dX7_readBell_113 ?_
            refine lv_bipush (v := (-9)) hx hb dX7_readBell_114 (by decide) ?_
            refine lv_icmp_ne (tgt := 121) hx hb dX7_readBell_116 (by decide) (fun c_30 => ?_) (fun c_30 => ?_)
            · have hR := (if_neg c_30).symm.trans hR
              refine lv_aload_n hx hb dX7_readBell_121 rfl (lv_at hl 1 rfl) ?_
              refine bw_get (ci := 6) (v := .ref (ad 10)) (C := RX7) (T := TX7) (N := 28) hx hb hts i_X7 hown hK hP 0 rfl rfl 18 (by decide) f_37 rfl dX7_readBell_122 ?_
              refine lv_aload_n hx hb dX7_readBell_125 rfl (lv_at hl 1 rfl) ?_
              refine bw_get (ci := 6) (v := .int (gI (sA s_27 17 (gI (sI (sA st 16 (gI st 15) (-9)) 12 ((gI (sA st 16 (gI st 15) (-9)) 12) + 1)) 15) v_27) 15)) (C := RX7) (T := TX7) (N := 28) hx hb hts i_X7 hown hK hP 0 rfl rfl 15 (by decide) f_107 rfl dX7_readBell_126 ?_
              refine lv_aload_n hx hb dX7_readBell_129 rfl (lv_at hl 1 rfl) ?_
              refine lv_iload_n hx hb dX7_readBell_130 rfl (lv_at hl 2 rfl) ?_
              refine lv_bipush (v := 9) hx hb dX7_readBell_131 (by decide) ?_
              obtain ⟨v_31, s_31, e_31, hR⟩ := b2_some hR
              refine bc_i (va_runV (As := [.int x1, .int 9]) (rest := [.int (gI (sA s_27 17 (gI (sI (sA st 16 (gI st 15) (-9)) 12 ((gI (sA st 16 (gI st 15) (-9)) 12) + 1)) 15) v_27) 15), .ref (ad 10)]) ⟨hx, hb, hml, hown, hts⟩ (c_X7_digit l D cI cO ad _ e_31) (cwV 2 hts gX7_readBell_X7_digit rfl rfl rfl (by decide +kernel) ⟨Nat.le_of_ble_eq_true rfl, Nat.le_of_ble_eq_true rfl⟩) (preV hK hN hP hD (va_recv hK hP (ci := 6) (q0 := 0) rfl rfl)) rfl rfl hl.1 rfl (lv_room (Nat.le_of_ble_eq_true rfl)) dX7_readBell_133 ⟨Nat.zero_le _, Nat.zero_le _⟩) hS hD hA (fun H locs hP hD hS => ?_)
              obtain ⟨h_32, hR⟩ := ck_some hR
              refine bw_ast (w' := (MW cI ad (sA s_31 18 (gI (sA s_27 17 (gI (sI (sA st 16 (gI st 15) (-9)) 12 ((gI (sA st 16 (gI st 15) (-9)) 12) + 1)) 15) v_27) 15) v_31))) hx hb hK hP hD hS 10 rfl h_32 (MW_a18 cI ad _ _) dX7_readBell_136 (fun H locs hP hD hS => ?_)
              refine lv_aload_n hx hb dX7_readBell_137 rfl (lv_at hl 1 rfl) ?_
              refine bw_get (ci := 6) (v := .ref (ad 10)) (C := RX7) (T := TX7) (N := 28) hx hb hts i_X7 hown hK hP 0 rfl rfl 18 (by decide) f_37 rfl dX7_readBell_138 ?_
              refine lv_aload_n hx hb dX7_readBell_141 rfl (lv_at hl 1 rfl) ?_
              refine bw_get (ci := 6) (v := .int (gI (sA s_31 18 (gI (sA s_27 17 (gI (sI (sA st 16 (gI st 15) (-9)) 12 ((gI (sA st 16 (gI st 15) (-9)) 12) + 1)) 15) v_27) 15) v_31) 15)) (C := RX7) (T := TX7) (N := 28) hx hb hts i_X7 hown hK hP 0 rfl rfl 15 (by decide) f_107 rfl dX7_readBell_142 ?_
              obtain ⟨h_33, hR⟩ := ck_some hR
              refine bw_ald (v := gA (sA s_31 18 (gI (sA s_27 17 (gI (sI (sA st 16 (gI st 15) (-9)) 12 ((gI (sA st 16 (gI st 15) (-9)) 12) + 1)) 15) v_27) 15) v_31) 18 (gI (sA s_31 18 (gI (sA s_27 17 (gI (sI (sA st 16 (gI st 15) (-9)) 12 ((gI (sA st 16 (gI st 15) (-9)) 12) + 1)) 15) v_27) 15) v_31) 15)) hx hb hK hP 10 rfl h_33 rfl dX7_readBell_145 ?_
              refine lv_bipush (v := (-9)) hx hb dX7_readBell_146 (by decide) ?_
              refine lv_icmp_ne (tgt := 153) hx hb dX7_readBell_148 (by decide) (fun c_34 => ?_) (fun c_34 => ?_)
              · have hR := (if_neg c_34).symm.trans hR
                refine lv_aload_n hx hb dX7_readBell_153 rfl (lv_at hl 1 rfl) ?_
                refine bw_get (ci := 6) (v := .ref (ad 11)) (C := RX7) (T := TX7) (N := 28) hx hb hts i_X7 hown hK hP 0 rfl rfl 19 (by decide) f_40 rfl dX7_readBell_154 ?_
                refine lv_aload_n hx hb dX7_readBell_157 rfl (lv_at hl 1 rfl) ?_
                refine bw_get (ci := 6) (v := .int (gI (sA s_31 18 (gI (sA s_27 17 (gI (sI (sA st 16 (gI st 15) (-9)) 12 ((gI (sA st 16 (gI st 15) (-9)) 12) + 1)) 15) v_27) 15) v_31) 15)) (C := RX7) (T := TX7) (N := 28) hx hb hts i_X7 hown hK hP 0 rfl rfl 15 (by decide) f_107 rfl dX7_readBell_158 ?_
                refine lv_aload_n hx hb dX7_readBell_161 rfl (lv_at hl 1 rfl) ?_
                refine lv_iload_n hx hb dX7_readBell_162 rfl (lv_at hl 2 rfl) ?_
                refine lv_iconst (v := 3) hx hb dX7_readBell_163 (by decide) ?_
                obtain ⟨v_35, s_35, e_35, hR⟩ := b2_some hR
                refine bc_i (va_runV (As := [.int x1, .int 3]) (rest := [.int (gI (sA s_31 18 (gI (sA s_27 17 (gI (sI (sA st 16 (gI st 15) (-9)) 12 ((gI (sA st 16 (gI st 15) (-9)) 12) + 1)) 15) v_27) 15) v_31) 15), .ref (ad 11)]) ⟨hx, hb, hml, hown, hts⟩ (c_X7_digit l D cI cO ad _ e_35) (cwV 2 hts gX7_readBell_X7_digit rfl rfl rfl (by decide +kernel) ⟨Nat.le_of_ble_eq_true rfl, Nat.le_of_ble_eq_true rfl⟩) (preV hK hN hP hD (va_recv hK hP (ci := 6) (q0 := 0) rfl rfl)) rfl rfl hl.1 rfl (lv_room (Nat.le_of_ble_eq_true rfl)) dX7_readBell_164 ⟨Nat.zero_le _, Nat.zero_le _⟩) hS hD hA (fun H locs hP hD hS => ?_)
                obtain ⟨h_36, hR⟩ := ck_some hR
                refine bw_ast (w' := (MW cI ad (sA s_35 19 (gI (sA s_31 18 (gI (sA s_27 17 (gI (sI (sA st 16 (gI st 15) (-9)) 12 ((gI (sA st 16 (gI st 15) (-9)) 12) + 1)) 15) v_27) 15) v_31) 15) v_35))) hx hb hK hP hD hS 11 rfl h_36 (MW_a19 cI ad _ _) dX7_readBell_167 (fun H locs hP hD hS => ?_)
                refine lv_aload_n hx hb dX7_readBell_168 rfl (lv_at hl 1 rfl) ?_
                refine lv_dup hx hb dX7_readBell_169 rfl ?_
                refine bw_get (ci := 6) (v := .int (gI (sA s_35 19 (gI (sA s_31 18 (gI (sA s_27 17 (gI (sI (sA st 16 (gI st 15) (-9)) 12 ((gI (sA st 16 (gI st 15) (-9)) 12) + 1)) 15) v_27) 15) v_31) 15) v_35) 15)) (C := RX7) (T := TX7) (N := 28) hx hb hts i_X7 hown hK hP 0 rfl rfl 15 (by decide) f_107 rfl dX7_readBell_170 ?_
                refine lv_iconst (v := 1) hx hb dX7_readBell_173 (by decide) ?_
                refine lv_iadd hx hb dX7_readBell_174 ?_
                refine bw_put (w' := (MW cI ad (sI (sA s_35 19 (gI (sA s_31 18 (gI (sA s_27 17 (gI (sI (sA st 16 (gI st 15) (-9)) 12 ((gI (sA st 16 (gI st 15) (-9)) 12) + 1)) 15) v_27) 15) v_31) 15) v_35) 15 ((gI (sA s_35 19 (gI (sA s_31 18 (gI (sA s_27 17 (gI (sI (sA st 16 (gI st 15) (-9)) 12 ((gI (sA st 16 (gI st 15) (-9)) 12) + 1)) 15) v_27) 15) v_31) 15) v_35) 15) + 1)))) (ci := 6) (C := RX7) (T := TX7) (N := 28) hx hb hts i_X7 tyX7 tyX7_ok nmX7 hown hK hP hD hS 0 rfl rfl 15 (by decide) f_107 rfl rfl (Nat.le_of_ble_eq_true rfl) (MW_i15 cI ad _ _) dX7_readBell_175 (fun H locs hP hD hS => ?_)
                refine lv_aload_n hx hb dX7_readBell_178 rfl (lv_at hl 1 rfl) ?_
                refine bw_get (ci := 6) (v := .ref (ad 11)) (C := RX7) (T := TX7) (N := 28) hx hb hts i_X7 hown hK hP 0 rfl rfl 19 (by decide) f_40 rfl dX7_readBell_179 ?_
                refine lv_aload_n hx hb dX7_readBell_182 rfl (lv_at hl 1 rfl) ?_
                refine bw_get (ci := 6) (v := .int (gI (sI (sA s_35 19 (gI (sA s_31 18 (gI (sA s_27 17 (gI (sI (sA st 16 (gI st 15) (-9)) 12 ((gI (sA st 16 (gI st 15) (-9)) 12) + 1)) 15) v_27) 15) v_31) 15) v_35) 15 ((gI (sA s_35 19 (gI (sA s_31 18 (gI (sA s_27 17 (gI (sI (sA st 16 (gI st 15) (-9)) 12 ((gI (sA st 16 (gI st 15) (-9)) 12) + 1)) 15) v_27) 15) v_31) 15) v_35) 15) + 1)) 15)) (C := RX7) (T := TX7) (N := 28) hx hb hts i_X7 hown hK hP 0 rfl rfl 15 (by decide) f_107 rfl dX7_readBell_183 ?_
                refine lv_iconst (v := 1) hx hb dX7_readBell_186 (by decide) ?_
                refine lv_isub hx hb dX7_readBell_187 ?_
                obtain ⟨h_37, hR⟩ := ck_some hR
                refine bw_ald (v := gA (sI (sA s_35 19 (gI (sA s_31 18 (gI (sA s_27 17 (gI (sI (sA st 16 (gI st 15) (-9)) 12 ((gI (sA st 16 (gI st 15) (-9)) 12) + 1)) 15) v_27) 15) v_31) 15) v_35) 15 ((gI (sA s_35 19 (gI (sA s_31 18 (gI (sA s_27 17 (gI (sI (sA st 16 (gI st 15) (-9)) 12 ((gI (sA st 16 (gI st 15) (-9)) 12) + 1)) 15) v_27) 15) v_31) 15) v_35) 15) + 1)) 19 ((gI (sI (sA s_35 19 (gI (sA s_31 18 (gI (sA s_27 17 (gI (sI (sA st 16 (gI st 15) (-9)) 12 ((gI (sA st 16 (gI st 15) (-9)) 12) + 1)) 15) v_27) 15) v_31) 15) v_35) 15 ((gI (sA s_35 19 (gI (sA s_31 18 (gI (sA s_27 17 (gI (sI (sA st 16 (gI st 15) (-9)) 12 ((gI (sA st 16 (gI st 15) (-9)) 12) + 1)) 15) v_27) 15) v_31) 15) v_35) 15) + 1)) 15) - 1)) hx hb hK hP 11 rfl h_37 rfl dX7_readBell_188 ?_
                refine lv_bipush (v := (-9)) hx hb dX7_readBell_189 (by decide) ?_
                refine lv_icmp_eq (tgt := 198) hx hb dX7_readBell_191 (by decide) (fun c_38 => ?_) (fun c_38 => ?_)
                · have hR := (if_pos c_38).symm.trans hR
                  refine lv_iconst (v := 0) hx hb dX7_readBell_198 (by decide) ?_
                  exact ret_ _ _ _ _ _ _ dX7_readBell_199 (by decide) (sp1 hR) (congrArg (fun z => (MW cI ad z)) (sp2 hR)) hP hD hS
                · have hR := (if_neg c_38).symm.trans hR
                  refine lv_iconst (v := 1) hx hb dX7_readBell_194 (by decide) ?_
                  refine lv_goto (tgt := 199) hx hb dX7_readBell_195 (by decide) ?_
                  exact ret_ _ _ _ _ _ _ dX7_readBell_199 (by decide) (sp1 hR) (congrArg (fun z => (MW cI ad z)) (sp2 hR)) hP hD hS
              · have hR := (if_pos c_34).symm.trans hR
                refine lv_iconst (v := 0) hx hb dX7_readBell_151 (by decide) ?_
                exact ret_ _ _ _ _ _ _ dX7_readBell_152 (by decide) (sp1 hR) (congrArg (fun z => (MW cI ad z)) (sp2 hR)) hP hD hS
            · have hR := (if_pos c_30).symm.trans hR
              refine lv_iconst (v := 0) hx hb dX7_readBell_119 (by decide) ?_
              exact ret_ _ _ _ _ _ _ dX7_readBell_120 (by decide) (sp1 hR) (congrArg (fun z => (MW cI ad z)) (sp2 hR)) hP hD hS
          · have hR := (if_pos c_26).symm.trans hR
            refine lv_iconst (v := 0) hx hb dX7_readBell_77 (by decide) ?_
            exact ret_ _ _ _ _ _ _ dX7_readBell_78 (by decide) (sp1 hR) (congrArg (fun z => (MW cI ad z)) (sp2 hR)) hP hD hS
        · have hR := (if_pos c_23).symm.trans hR
          refine lv_iconst (v := 2) hx hb dX7_readBell_56 (by decide) ?_
          refine lv_goto (tgt := 62) hx hb dX7_readBell_57 (by decide) ?_
          obtain ⟨h_39, hR⟩ := ck_some hR
          refine bw_ast (w' := (MW cI ad (sA st 16 (gI st 15) 2))) hx hb hK hP hD hS 8 rfl h_39 (MW_a16 cI ad _ _) dX7_readBell_62 (fun H locs hP hD hS => ?_)
          refine lv_aload_n hx hb dX7_readBell_63 rfl (lv_at hl 1 rfl) ?_
          refine bw_get (ci := 6) (v := .ref (ad 8)) (C := RX7) (T := TX7) (N := 28) hx hb hts i_X7 hown hK hP 0 rfl rfl 16 (by decide) f_31 rfl dX7_readBell_64 ?_
          refine lv_aload_n hx hb dX7_readBell_67 rfl (lv_at hl 1 rfl) ?_
          refine bw_get (ci := 6) (v := .int (gI (sA st 16 (gI st 15) 2) 15)) (C := RX7) (T := TX7) (N := 28) hx hb hts i_X7 hown hK hP 0 rfl rfl 15 (by decide) f_107 rfl dX7_readBell_68 ?_
          obtain ⟨h_40, hR⟩ := ck_some hR
          refine bw_ald (v := gA (sA st 16 (gI st 15) 2) 16 (gI (sA st 16 (gI st 15) 2) 15)) hx hb hK hP 8 rfl h_40 rfl dX7_readBell_71 ?_
          refine lv_bipush (v := (-9)) hx hb dX7_readBell_72 (by decide) ?_
          refine lv_icmp_ne (tgt := 79) hx hb dX7_readBell_74 (by decide) (fun c_41 => ?_) (fun c_41 => ?_)
          · have hR := (if_neg c_41).symm.trans hR
            refine lv_aload_n hx hb dX7_readBell_79 rfl (lv_at hl 1 rfl) ?_
            refine lv_dup hx hb dX7_readBell_80 rfl ?_
            refine bw_get (ci := 6) (v := .int (gI (sA st 16 (gI st 15) 2) 12)) (C := RX7) (T := TX7) (N := 28) hx hb hts i_X7 hown hK hP 0 rfl rfl 12 (by decide) f_74 rfl dX7_readBell_81 ?_
            refine lv_iconst (v := 1) hx hb dX7_readBell_84 (by decide) ?_
            refine lv_iadd hx hb dX7_readBell_85 ?_
            refine bw_put (w' := (MW cI ad (sI (sA st 16 (gI st 15) 2) 12 ((gI (sA st 16 (gI st 15) 2) 12) + 1)))) (ci := 6) (C := RX7) (T := TX7) (N := 28) hx hb hts i_X7 tyX7 tyX7_ok nmX7 hown hK hP hD hS 0 rfl rfl 12 (by decide) f_74 rfl rfl (Nat.le_of_ble_eq_true rfl) (MW_i12 cI ad _ _) dX7_readBell_86 (fun H locs hP hD hS => ?_)
            refine lv_aload_n hx hb dX7_readBell_89 rfl (lv_at hl 1 rfl) ?_
            refine bw_get (ci := 6) (v := .ref (ad 9)) (C := RX7) (T := TX7) (N := 28) hx hb hts i_X7 hown hK hP 0 rfl rfl 17 (by decide) f_34 rfl dX7_readBell_90 ?_
            refine lv_aload_n hx hb dX7_readBell_93 rfl (lv_at hl 1 rfl) ?_
            refine bw_get (ci := 6) (v := .int (gI (sI (sA st 16 (gI st 15) 2) 12 ((gI (sA st 16 (gI st 15) 2) 12) + 1)) 15)) (C := RX7) (T := TX7) (N := 28) hx hb hts i_X7 hown hK hP 0 rfl rfl 15 (by decide) f_107 rfl dX7_readBell_94 ?_
            refine lv_aload_n hx hb dX7_readBell_97 rfl (lv_at hl 1 rfl) ?_
            refine lv_iload_n hx hb dX7_readBell_98 rfl (lv_at hl 2 rfl) ?_
            refine lv_bipush (v := 9) hx hb dX7_readBell_99 (by decide) ?_
            obtain ⟨v_42, s_42, e_42, hR⟩ := b2_some hR
            refine bc_i (va_runV (As := [.int x1, .int 9]) (rest := [.int (gI (sI (sA st 16 (gI st 15) 2) 12 ((gI (sA st 16 (gI st 15) 2) 12) + 1)) 15), .ref (ad 9)]) ⟨hx, hb, hml, hown, hts⟩ (c_X7_digit l D cI cO ad _ e_42) (cwV 2 hts gX7_readBell_X7_digit rfl rfl rfl (by decide +kernel) ⟨Nat.le_of_ble_eq_true rfl, Nat.le_of_ble_eq_true rfl⟩) (preV hK hN hP hD (va_recv hK hP (ci := 6) (q0 := 0) rfl rfl)) rfl rfl hl.1 rfl (lv_room (Nat.le_of_ble_eq_true rfl)) dX7_readBell_101 ⟨Nat.zero_le _, Nat.zero_le _⟩) hS hD hA (fun H locs hP hD hS => ?_)
            obtain ⟨h_43, hR⟩ := ck_some hR
            refine bw_ast (w' := (MW cI ad (sA s_42 17 (gI (sI (sA st 16 (gI st 15) 2) 12 ((gI (sA st 16 (gI st 15) 2) 12) + 1)) 15) v_42))) hx hb hK hP hD hS 9 rfl h_43 (MW_a17 cI ad _ _) dX7_readBell_104 (fun H locs hP hD hS => ?_)
            refine lv_aload_n hx hb dX7_readBell_105 rfl (lv_at hl 1 rfl) ?_
            refine bw_get (ci := 6) (v := .ref (ad 9)) (C := RX7) (T := TX7) (N := 28) hx hb hts i_X7 hown hK hP 0 rfl rfl 17 (by decide) f_34 rfl dX7_readBell_106 ?_
            refine lv_aload_n hx hb dX7_readBell_109 rfl (lv_at hl 1 rfl) ?_
            refine bw_get (ci := 6) (v := .int (gI (sA s_42 17 (gI (sI (sA st 16 (gI st 15) 2) 12 ((gI (sA st 16 (gI st 15) 2) 12) + 1)) 15) v_42) 15)) (C := RX7) (T := TX7) (N := 28) hx hb hts i_X7 hown hK hP 0 rfl rfl 15 (by decide) f_107 rfl dX7_readBell_110 ?_
            obtain ⟨h_44, hR⟩ := ck_some hR
            refine bw_ald (v := gA (sA s_42 17 (gI (sI (sA st 16 (gI st 15) 2) 12 ((gI (sA st 16 (gI st 15) 2) 12) + 1)) 15) v_42) 17 (gI (sA s_42 17 (gI (sI (sA st 16 (gI st 15) 2) 12 ((gI (sA st 16 (gI st 15) 2) 12) + 1)) 15) v_42) 15)) hx hb hK hP 9 rfl h_44 rfl dX7_readBell_113 ?_
            refine lv_bipush (v := (-9)) hx hb dX7_readBell_114 (by decide) ?_
            refine lv_icmp_ne (tgt := 121) hx hb dX7_readBell_116 (by decide) (fun c_45 => ?_) (fun c_45 => ?_)
            · have hR := (if_neg c_45).symm.trans hR
              refine lv_aload_n hx hb dX7_readBell_121 rfl (lv_at hl 1 rfl) ?_
              refine bw_get (ci := 6) (v := .ref (ad 10)) (C := RX7) (T := TX7) (N := 28) hx hb hts i_X7 hown hK hP 0 rfl rfl 18 (by decide) f_37 rfl dX7_readBell_122 ?_
              refine lv_aload_n hx hb dX7_readBell_125 rfl (lv_at hl 1 rfl) ?_
              refine bw_get (ci := 6) (v := .int (gI (sA s_42 17 (gI (sI (sA st 16 (gI st 15) 2) 12 ((gI (sA st 16 (gI st 15) 2) 12) + 1)) 15) v_42) 15)) (C := RX7) (T := TX7) (N := 28) hx hb hts i_X7 hown hK hP 0 rfl rfl 15 (by decide) f_107 rfl dX7_readBell_126 ?_
              refine lv_aload_n hx hb dX7_readBell_129 rfl (lv_at hl 1 rfl) ?_
              refine lv_iload_n hx hb dX7_readBell_130 rfl (lv_at hl 2 rfl) ?_
              refine lv_bipush (v := 9) hx hb dX7_readBell_131 (by decide) ?_
              obtain ⟨v_46, s_46, e_46, hR⟩ := b2_some hR
              refine bc_i (va_runV (As := [.int x1, .int 9]) (rest := [.int (gI (sA s_42 17 (gI (sI (sA st 16 (gI st 15) 2) 12 ((gI (sA st 16 (gI st 15) 2) 12) + 1)) 15) v_42) 15), .ref (ad 10)]) ⟨hx, hb, hml, hown, hts⟩ (c_X7_digit l D cI cO ad _ e_46) (cwV 2 hts gX7_readBell_X7_digit rfl rfl rfl (by decide +kernel) ⟨Nat.le_of_ble_eq_true rfl, Nat.le_of_ble_eq_true rfl⟩) (preV hK hN hP hD (va_recv hK hP (ci := 6) (q0 := 0) rfl rfl)) rfl rfl hl.1 rfl (lv_room (Nat.le_of_ble_eq_true rfl)) dX7_readBell_133 ⟨Nat.zero_le _, Nat.zero_le _⟩) hS hD hA (fun H locs hP hD hS => ?_)
              obtain ⟨h_47, hR⟩ := ck_some hR
              refine bw_ast (w' := (MW cI ad (sA s_46 18 (gI (sA s_42 17 (gI (sI (sA st 16 (gI st 15) 2) 12 ((gI (sA st 16 (gI st 15) 2) 12) + 1)) 15) v_42) 15) v_46))) hx hb hK hP hD hS 10 rfl h_47 (MW_a18 cI ad _ _) dX7_readBell_136 (fun H locs hP hD hS => ?_)
              refine lv_aload_n hx hb dX7_readBell_137 rfl (lv_at hl 1 rfl) ?_
              refine bw_get (ci := 6) (v := .ref (ad 10)) (C := RX7) (T := TX7) (N := 28) hx hb hts i_X7 hown hK hP 0 rfl rfl 18 (by decide) f_37 rfl dX7_readBell_138 ?_
              refine lv_aload_n hx hb dX7_readBell_141 rfl (lv_at hl 1 rfl) ?_
              refine bw_get (ci := 6) (v := .int (gI (sA s_46 18 (gI (sA s_42 17 (gI (sI (sA st 16 (gI st 15) 2) 12 ((gI (sA st 16 (gI st 15) 2) 12) + 1)) 15) v_42) 15) v_46) 15)) (C := RX7) (T := TX7) (N := 28) hx hb hts i_X7 hown hK hP 0 rfl rfl 15 (by decide) f_107 rfl dX7_readBell_142 ?_
              obtain ⟨h_48, hR⟩ := ck_some hR
              refine bw_ald (v := gA (sA s_46 18 (gI (sA s_42 17 (gI (sI (sA st 16 (gI st 15) 2) 12 ((gI (sA st 16 (gI st 15) 2) 12) + 1)) 15) v_42) 15) v_46) 18 (gI (sA s_46 18 (gI (sA s_42 17 (gI (sI (sA st 16 (gI st 15) 2) 12 ((gI (sA st 16 (gI st 15) 2) 12) + 1)) 15) v_42) 15) v_46) 15)) hx hb hK hP 10 rfl h_48 rfl dX7_readBell_145 ?_
              refine lv_bipush (v := (-9)) hx hb dX7_readBell_146 (by decide) ?_
              refine lv_icmp_ne (tgt := 153) hx hb dX7_readBell_148 (by decide) (fun c_49 => ?_) (fun c_49 => ?_)
              · have hR := (if_neg c_49).symm.trans hR
                refine lv_aload_n hx hb dX7_readBell_153 rfl (lv_at hl 1 rfl) ?_
                refine bw_get (ci := 6) (v := .ref (ad 11)) (C := RX7) (T := TX7) (N := 28) hx hb hts i_X7 hown hK hP 0 rfl rfl 19 (by decide) f_40 rfl dX7_readBell_154 ?_
                refine lv_aload_n hx hb dX7_readBell_157 rfl (lv_at hl 1 rfl) ?_
                refine bw_get (ci := 6) (v := .int (gI (sA s_46 18 (gI (sA s_42 17 (gI (sI (sA st 16 (gI st 15) 2) 12 ((gI (sA st 16 (gI st 15) 2) 12) + 1)) 15) v_42) 15) v_46) 15)) (C := RX7) (T := TX7) (N := 28) hx hb hts i_X7 hown hK hP 0 rfl rfl 15 (by decide) f_107 rfl dX7_readBell_158 ?_
                refine lv_aload_n hx hb dX7_readBell_161 rfl (lv_at hl 1 rfl) ?_
                refine lv_iload_n hx hb dX7_readBell_162 rfl (lv_at hl 2 rfl) ?_
                refine lv_iconst (v := 3) hx hb dX7_readBell_163 (by decide) ?_
                obtain ⟨v_50, s_50, e_50, hR⟩ := b2_some hR
                refine bc_i (va_runV (As := [.int x1, .int 3]) (rest := [.int (gI (sA s_46 18 (gI (sA s_42 17 (gI (sI (sA st 16 (gI st 15) 2) 12 ((gI (sA st 16 (gI st 15) 2) 12) + 1)) 15) v_42) 15) v_46) 15), .ref (ad 11)]) ⟨hx, hb, hml, hown, hts⟩ (c_X7_digit l D cI cO ad _ e_50) (cwV 2 hts gX7_readBell_X7_digit rfl rfl rfl (by decide +kernel) ⟨Nat.le_of_ble_eq_true rfl, Nat.le_of_ble_eq_true rfl⟩) (preV hK hN hP hD (va_recv hK hP (ci := 6) (q0 := 0) rfl rfl)) rfl rfl hl.1 rfl (lv_room (Nat.le_of_ble_eq_true rfl)) dX7_readBell_164 ⟨Nat.zero_le _, Nat.zero_le _⟩) hS hD hA (fun H locs hP hD hS => ?_)
                obtain ⟨h_51, hR⟩ := ck_some hR
                refine bw_ast (w' := (MW cI ad (sA s_50 19 (gI (sA s_46 18 (gI (sA s_42 17 (gI (sI (sA st 16 (gI st 15) 2) 12 ((gI (sA st 16 (gI st 15) 2) 12) + 1)) 15) v_42) 15) v_46) 15) v_50))) hx hb hK hP hD hS 11 rfl h_51 (MW_a19 cI ad _ _) dX7_readBell_167 (fun H locs hP hD hS => ?_)
                refine lv_aload_n hx hb dX7_readBell_168 rfl (lv_at hl 1 rfl) ?_
                refine lv_dup hx hb dX7_readBell_169 rfl ?_
                refine bw_get (ci := 6) (v := .int (gI (sA s_50 19 (gI (sA s_46 18 (gI (sA s_42 17 (gI (sI (sA st 16 (gI st 15) 2) 12 ((gI (sA st 16 (gI st 15) 2) 12) + 1)) 15) v_42) 15) v_46) 15) v_50) 15)) (C := RX7) (T := TX7) (N := 28) hx hb hts i_X7 hown hK hP 0 rfl rfl 15 (by decide) f_107 rfl dX7_readBell_170 ?_
                refine lv_iconst (v := 1) hx hb dX7_readBell_173 (by decide) ?_
                refine lv_iadd hx hb dX7_readBell_174 ?_
                refine bw_put (w' := (MW cI ad (sI (sA s_50 19 (gI (sA s_46 18 (gI (sA s_42 17 (gI (sI (sA st 16 (gI st 15) 2) 12 ((gI (sA st 16 (gI st 15) 2) 12) + 1)) 15) v_42) 15) v_46) 15) v_50) 15 ((gI (sA s_50 19 (gI (sA s_46 18 (gI (sA s_42 17 (gI (sI (sA st 16 (gI st 15) 2) 12 ((gI (sA st 16 (gI st 15) 2) 12) + 1)) 15) v_42) 15) v_46) 15) v_50) 15) + 1)))) (ci := 6) (C := RX7) (T := TX7) (N := 28) hx hb hts i_X7 tyX7 tyX7_ok nmX7 hown hK hP hD hS 0 rfl rfl 15 (by decide) f_107 rfl rfl (Nat.le_of_ble_eq_true rfl) (MW_i15 cI ad _ _) dX7_readBell_175 (fun H locs hP hD hS => ?_)
                refine lv_aload_n hx hb dX7_readBell_178 rfl (lv_at hl 1 rfl) ?_
                refine bw_get (ci := 6) (v := .ref (ad 11)) (C := RX7) (T := TX7) (N := 28) hx hb hts i_X7 hown hK hP 0 rfl rfl 19 (by decide) f_40 rfl dX7_readBell_179 ?_
                refine lv_aload_n hx hb dX7_readBell_182 rfl (lv_at hl 1 rfl) ?_
                refine bw_get (ci := 6) (v := .int (gI (sI (sA s_50 19 (gI (sA s_46 18 (gI (sA s_42 17 (gI (sI (sA st 16 (gI st 15) 2) 12 ((gI (sA st 16 (gI st 15) 2) 12) + 1)) 15) v_42) 15) v_46) 15) v_50) 15 ((gI (sA s_50 19 (gI (sA s_46 18 (gI (sA s_42 17 (gI (sI (sA st 16 (gI st 15) 2) 12 ((gI (sA st 16 (gI st 15) 2) 12) + 1)) 15) v_42) 15) v_46) 15) v_50) 15) + 1)) 15)) (C := RX7) (T := TX7) (N := 28) hx hb hts i_X7 hown hK hP 0 rfl rfl 15 (by decide) f_107 rfl dX7_readBell_183 ?_
                refine lv_iconst (v := 1) hx hb dX7_readBell_186 (by decide) ?_
                refine lv_isub hx hb dX7_readBell_187 ?_
                obtain ⟨h_52, hR⟩ := ck_some hR
                refine bw_ald (v := gA (sI (sA s_50 19 (gI (sA s_46 18 (gI (sA s_42 17 (gI (sI (sA st 16 (gI st 15) 2) 12 ((gI (sA st 16 (gI st 15) 2) 12) + 1)) 15) v_42) 15) v_46) 15) v_50) 15 ((gI (sA s_50 19 (gI (sA s_46 18 (gI (sA s_42 17 (gI (sI (sA st 16 (gI st 15) 2) 12 ((gI (sA st 16 (gI st 15) 2) 12) + 1)) 15) v_42) 15) v_46) 15) v_50) 15) + 1)) 19 ((gI (sI (sA s_50 19 (gI (sA s_46 18 (gI (sA s_42 17 (gI (sI (sA st 16 (gI st 15) 2) 12 ((gI (sA st 16 (gI st 15) 2) 12) + 1)) 15) v_42) 15) v_46) 15) v_50) 15 ((gI (sA s_50 19 (gI (sA s_46 18 (gI (sA s_42 17 (gI (sI (sA st 16 (gI st 15) 2) 12 ((gI (sA st 16 (gI st 15) 2) 12) + 1)) 15) v_42) 15) v_46) 15) v_50) 15) + 1)) 15) - 1)) hx hb hK hP 11 rfl h_52 rfl dX7_readBell_188 ?_
                refine lv_bipush (v := (-9)) hx hb dX7_readBell_189 (by decide) ?_
                refine lv_icmp_eq (tgt := 198) hx hb dX7_readBell_191 (by decide) (fun c_53 => ?_) (fun c_53 => ?_)
                · have hR := (if_pos c_53).symm.trans hR
                  refine lv_iconst (v := 0) hx hb dX7_readBell_198 (by decide) ?_
                  exact ret_ _ _ _ _ _ _ dX7_readBell_199 (by decide) (sp1 hR) (congrArg (fun z => (MW cI ad z)) (sp2 hR)) hP hD hS
                · have hR := (if_neg c_53).symm.trans hR
                  refine lv_iconst (v := 1) hx hb dX7_readBell_194 (by decide) ?_
                  refine lv_goto (tgt := 199) hx hb dX7_readBell_195 (by decide) ?_
                  exact ret_ _ _ _ _ _ _ dX7_readBell_199 (by decide) (sp1 hR) (congrArg (fun z => (MW cI ad z)) (sp2 hR)) hP hD hS
              · have hR := (if_pos c_49).symm.trans hR
                refine lv_iconst (v := 0) hx hb dX7_readBell_151 (by decide) ?_
                exact ret_ _ _ _ _ _ _ dX7_readBell_152 (by decide) (sp1 hR) (congrArg (fun z => (MW cI ad z)) (sp2 hR)) hP hD hS
            · have hR := (if_pos c_45).symm.trans hR
              refine lv_iconst (v := 0) hx hb dX7_readBell_119 (by decide) ?_
              exact ret_ _ _ _ _ _ _ dX7_readBell_120 (by decide) (sp1 hR) (congrArg (fun z => (MW cI ad z)) (sp2 hR)) hP hD hS
          · have hR := (if_pos c_41).symm.trans hR
            refine lv_iconst (v := 0) hx hb dX7_readBell_77 (by decide) ?_
            exact ret_ _ _ _ _ _ _ dX7_readBell_78 (by decide) (sp1 hR) (congrArg (fun z => (MW cI ad z)) (sp2 hR)) hP hD hS
      · have hR := (if_pos c_22).symm.trans hR
        refine lv_iconst (v := 1) hx hb dX7_readBell_46 (by decide) ?_
        refine lv_goto (tgt := 62) hx hb dX7_readBell_47 (by decide) ?_
        obtain ⟨h_54, hR⟩ := ck_some hR
        refine bw_ast (w' := (MW cI ad (sA st 16 (gI st 15) 1))) hx hb hK hP hD hS 8 rfl h_54 (MW_a16 cI ad _ _) dX7_readBell_62 (fun H locs hP hD hS => ?_)
        refine lv_aload_n hx hb dX7_readBell_63 rfl (lv_at hl 1 rfl) ?_
        refine bw_get (ci := 6) (v := .ref (ad 8)) (C := RX7) (T := TX7) (N := 28) hx hb hts i_X7 hown hK hP 0 rfl rfl 16 (by decide) f_31 rfl dX7_readBell_64 ?_
        refine lv_aload_n hx hb dX7_readBell_67 rfl (lv_at hl 1 rfl) ?_
        refine bw_get (ci := 6) (v := .int (gI (sA st 16 (gI st 15) 1) 15)) (C := RX7) (T := TX7) (N := 28) hx hb hts i_X7 hown hK hP 0 rfl rfl 15 (by decide) f_107 rfl dX7_readBell_68 ?_
        obtain ⟨h_55, hR⟩ := ck_some hR
        refine bw_ald (v := gA (sA st 16 (gI st 15) 1) 16 (gI (sA st 16 (gI st 15) 1) 15)) hx hb hK hP 8 rfl h_55 rfl dX7_readBell_71 ?_
        refine lv_bipush (v := (-9)) hx hb dX7_readBell_72 (by decide) ?_
        refine lv_icmp_ne (tgt := 79) hx hb dX7_readBell_74 (by decide) (fun c_56 => ?_) (fun c_56 => ?_)
        · have hR := (if_neg c_56).symm.trans hR
          refine lv_aload_n hx hb dX7_readBell_79 rfl (lv_at hl 1 rfl) ?_
          refine lv_dup hx hb dX7_readBell_80 rfl ?_
          refine bw_get (ci := 6) (v := .int (gI (sA st 16 (gI st 15) 1) 12)) (C := RX7) (T := TX7) (N := 28) hx hb hts i_X7 hown hK hP 0 rfl rfl 12 (by decide) f_74 rfl dX7_readBell_81 ?_
          refine lv_iconst (v := 1) hx hb dX7_readBell_84 (by decide) ?_
          refine lv_iadd hx hb dX7_readBell_85 ?_
          refine bw_put (w' := (MW cI ad (sI (sA st 16 (gI st 15) 1) 12 ((gI (sA st 16 (gI st 15) 1) 12) + 1)))) (ci := 6) (C := RX7) (T := TX7) (N := 28) hx hb hts i_X7 tyX7 tyX7_ok nmX7 hown hK hP hD hS 0 rfl rfl 12 (by decide) f_74 rfl rfl (Nat.le_of_ble_eq_true rfl) (MW_i12 cI ad _ _) dX7_readBell_86 (fun H locs hP hD hS => ?_)
          refine lv_aload_n hx hb dX7_readBell_89 rfl (lv_at hl 1 rfl) ?_
          refine bw_get (ci := 6) (v := .ref (ad 9)) (C := RX7) (T := TX7) (N := 28) hx hb hts i_X7 hown hK hP 0 rfl rfl 17 (by decide) f_34 rfl dX7_readBell_90 ?_
          refine lv_aload_n hx hb dX7_readBell_93 rfl (lv_at hl 1 rfl) ?_
          refine bw_get (ci := 6) (v := .int (gI (sI (sA st 16 (gI st 15) 1) 12 ((gI (sA st 16 (gI st 15) 1) 12) + 1)) 15)) (C := RX7) (T := TX7) (N := 28) hx hb hts i_X7 hown hK hP 0 rfl rfl 15 (by decide) f_107 rfl dX7_readBell_94 ?_
          refine lv_aload_n hx hb dX7_readBell_97 rfl (lv_at hl 1 rfl) ?_
          refine lv_iload_n hx hb dX7_readBell_98 rfl (lv_at hl 2 rfl) ?_
          refine lv_bipush (v := 9) hx hb dX7_readBell_99 (by decide) ?_
          obtain ⟨v_57, s_57, e_57, hR⟩ := b2_some hR
          refine bc_i (va_runV (As := [.int x1, .int 9]) (rest := [.int (gI (sI (sA st 16 (gI st 15) 1) 12 ((gI (sA st 16 (gI st 15) 1) 12) + 1)) 15), .ref (ad 9)]) ⟨hx, hb, hml, hown, hts⟩ (c_X7_digit l D cI cO ad _ e_57) (cwV 2 hts gX7_readBell_X7_digit rfl rfl rfl (by decide +kernel) ⟨Nat.le_of_ble_eq_true rfl, Nat.le_of_ble_eq_true rfl⟩) (preV hK hN hP hD (va_recv hK hP (ci := 6) (q0 := 0) rfl rfl)) rfl rfl hl.1 rfl (lv_room (Nat.le_of_ble_eq_true rfl)) dX7_readBell_101 ⟨Nat.zero_le _, Nat.zero_le _⟩) hS hD hA (fun H locs hP hD hS => ?_)
          obtain ⟨h_58, hR⟩ := ck_some hR
          refine bw_ast (w' := (MW cI ad (sA s_57 17 (gI (sI (sA st 16 (gI st 15) 1) 12 ((gI (sA st 16 (gI st 15) 1) 12) + 1)) 15) v_57))) hx hb hK hP hD hS 9 rfl h_58 (MW_a17 cI ad _ _) dX7_readBell_104 (fun H locs hP hD hS => ?_)
          refine lv_aload_n hx hb dX7_readBell_105 rfl (lv_at hl 1 rfl) ?_
          refine bw_get (ci := 6) (v := .ref (ad 9)) (C := RX7) (T := TX7) (N := 28) hx hb hts i_X7 hown hK hP 0 rfl rfl 17 (by decide) f_34 rfl dX7_readBell_106 ?_
          refine lv_aload_n hx hb dX7_readBell_109 rfl (lv_at hl 1 rfl) ?_
          refine bw_get (ci := 6) (v := .int (gI (sA s_57 17 (gI (sI (sA st 16 (gI st 15) 1) 12 ((gI (sA st 16 (gI st 15) 1) 12) + 1)) 15) v_57) 15)) (C := RX7) (T := TX7) (N := 28) hx hb hts i_X7 hown hK hP 0 rfl rfl 15 (by decide) f_107 rfl dX7_readBell_110 ?_
          obtain ⟨h_59, hR⟩ := ck_some hR
          refine bw_ald (v := gA (sA s_57 17 (gI (sI (sA st 16 (gI st 15) 1) 12 ((gI (sA st 16 (gI st 15) 1) 12) + 1)) 15) v_57) 17 (gI (sA s_57 17 (gI (sI (sA st 16 (gI st 15) 1) 12 ((gI (sA st 16 (gI st 15) 1) 12) + 1)) 15) v_57) 15)) hx hb hK hP 9 rfl h_59 rfl dX7_readBell_113 ?_
          refine lv_bipush (v := (-9)) hx hb dX7_readBell_114 (by decide) ?_
          refine lv_icmp_ne (tgt := 121) hx hb dX7_readBell_116 (by decide) (fun c_60 => ?_) (fun c_60 => ?_)
          · have hR := (if_neg c_60).symm.trans hR
            refine lv_aload_n hx hb dX7_readBell_121 rfl (lv_at hl 1 rfl) ?_
            refine bw_get (ci := 6) (v := .ref (ad 10)) (C := RX7) (T := TX7) (N := 28) hx hb hts i_X7 hown hK hP 0 rfl rfl 18 (by decide) f_37 rfl dX7_readBell_122 ?_
            refine lv_aload_n hx hb dX7_readBell_125 rfl (lv_at hl 1 rfl) ?_
            refine bw_get (ci := 6) (v := .int (gI (sA s_57 17 (gI (sI (sA st 16 (gI st 15) 1) 12 ((gI (sA st 16 (gI st 15) 1) 12) + 1)) 15) v_57) 15)) (C := RX7) (T := TX7) (N := 28) hx hb hts i_X7 hown hK hP 0 rfl rfl 15 (by decide) f_107 rfl dX7_readBell_126 ?_
            refine lv_aload_n hx hb dX7_readBell_129 rfl (lv_at hl 1 rfl) ?_
            refine lv_iload_n hx hb dX7_readBell_130 rfl (lv_at hl 2 rfl) ?_
            refine lv_bipush (v := 9) hx hb dX7_readBell_131 (by decide) ?_
            obtain ⟨v_61, s_61, e_61, hR⟩ := b2_some hR
            refine bc_i (va_runV (As := [.int x1, .int 9]) (rest := [.int (gI (sA s_57 17 (gI (sI (sA st 16 (gI st 15) 1) 12 ((gI (sA st 16 (gI st 15) 1) 12) + 1)) 15) v_57) 15), .ref (ad 10)]) ⟨hx, hb, hml, hown, hts⟩ (c_X7_digit l D cI cO ad _ e_61) (cwV 2 hts gX7_readBell_X7_digit rfl rfl rfl (by decide +kernel) ⟨Nat.le_of_ble_eq_true rfl, Nat.le_of_ble_eq_true rfl⟩) (preV hK hN hP hD (va_recv hK hP (ci := 6) (q0 := 0) rfl rfl)) rfl rfl hl.1 rfl (lv_room (Nat.le_of_ble_eq_true rfl)) dX7_readBell_133 ⟨Nat.zero_le _, Nat.zero_le _⟩) hS hD hA (fun H locs hP hD hS => ?_)
            obtain ⟨h_62, hR⟩ := ck_some hR
            refine bw_ast (w' := (MW cI ad (sA s_61 18 (gI (sA s_57 17 (gI (sI (sA st 16 (gI st 15) 1) 12 ((gI (sA st 16 (gI st 15) 1) 12) + 1)) 15) v_57) 15) v_61))) hx hb hK hP hD hS 10 rfl h_62 (MW_a18 cI ad _ _) dX7_readBell_136 (fun H locs hP hD hS => ?_)
            refine lv_aload_n hx hb dX7_readBell_137 rfl (lv_at hl 1 rfl) ?_
            refine bw_get (ci := 6) (v := .ref (ad 10)) (C := RX7) (T := TX7) (N := 28) hx hb hts i_X7 hown hK hP 0 rfl rfl 18 (by decide) f_37 rfl dX7_readBell_138 ?_
            refine lv_aload_n hx hb dX7_readBell_141 rfl (lv_at hl 1 rfl) ?_
            refine bw_get (ci := 6) (v := .int (gI (sA s_61 18 (gI (sA s_57 17 (gI (sI (sA st 16 (gI st 15) 1) 12 ((gI (sA st 16 (gI st 15) 1) 12) + 1)) 15) v_57) 15) v_61) 15)) (C := RX7) (T := TX7) (N := 28) hx hb hts i_X7 hown hK hP 0 rfl rfl 15 (by decide) f_107 rfl dX7_readBell_142 ?_
            obtain ⟨h_63, hR⟩ := ck_some hR
            refine bw_ald (v := gA (sA s_61 18 (gI (sA s_57 17 (gI (sI (sA st 16 (gI st 15) 1) 12 ((gI (sA st 16 (gI st 15) 1) 12) + 1)) 15) v_57) 15) v_61) 18 (gI (sA s_61 18 (gI (sA s_57 17 (gI (sI (sA st 16 (gI st 15) 1) 12 ((gI (sA st 16 (gI st 15) 1) 12) + 1)) 15) v_57) 15) v_61) 15)) hx hb hK hP 10 rfl h_63 rfl dX7_readBell_145 ?_
            refine lv_bipush (v := (-9)) hx hb dX7_readBell_146 (by decide) ?_
            refine lv_icmp_ne (tgt := 153) hx hb dX7_readBell_148 (by decide) (fun c_64 => ?_) (fun c_64 => ?_)
            · have hR := (if_neg c_64).symm.trans hR
              refine lv_aload_n hx hb dX7_readBell_153 rfl (lv_at hl 1 rfl) ?_
              refine bw_get (ci := 6) (v := .ref (ad 11)) (C := RX7) (T := TX7) (N := 28) hx hb hts i_X7 hown hK hP 0 rfl rfl 19 (by decide) f_40 rfl dX7_readBell_154 ?_
              refine lv_aload_n hx hb dX7_readBell_157 rfl (lv_at hl 1 rfl) ?_
              refine bw_get (ci := 6) (v := .int (gI (sA s_61 18 (gI (sA s_57 17 (gI (sI (sA st 16 (gI st 15) 1) 12 ((gI (sA st 16 (gI st 15) 1) 12) + 1)) 15) v_57) 15) v_61) 15)) (C := RX7) (T := TX7) (N := 28) hx hb hts i_X7 hown hK hP 0 rfl rfl 15 (by decide) f_107 rfl dX7_readBell_158 ?_
              refine lv_aload_n hx hb dX7_readBell_161 rfl (lv_at hl 1 rfl) ?_
              refine lv_iload_n hx hb dX7_readBell_162 rfl (lv_at hl 2 rfl) ?_
              refine lv_iconst (v := 3) hx hb dX7_readBell_163 (by decide) ?_
              obtain ⟨v_65, s_65, e_65, hR⟩ := b2_some hR
              refine bc_i (va_runV (As := [.int x1, .int 3]) (rest := [.int (gI (sA s_61 18 (gI (sA s_57 17 (gI (sI (sA st 16 (gI st 15) 1) 12 ((gI (sA st 16 (gI st 15) 1) 12) + 1)) 15) v_57) 15) v_61) 15), .ref (ad 11)]) ⟨hx, hb, hml, hown, hts⟩ (c_X7_digit l D cI cO ad _ e_65) (cwV 2 hts gX7_readBell_X7_digit rfl rfl rfl (by decide +kernel) ⟨Nat.le_of_ble_eq_true rfl, Nat.le_of_ble_eq_true rfl⟩) (preV hK hN hP hD (va_recv hK hP (ci := 6) (q0 := 0) rfl rfl)) rfl rfl hl.1 rfl (lv_room (Nat.le_of_ble_eq_true rfl)) dX7_readBell_164 ⟨Nat.zero_le _, Nat.zero_le _⟩) hS hD hA (fun H locs hP hD hS => ?_)
              obtain ⟨h_66, hR⟩ := ck_some hR
              refine bw_ast (w' := (MW cI ad (sA s_65 19 (gI (sA s_61 18 (gI (sA s_57 17 (gI (sI (sA st 16 (gI st 15) 1) 12 ((gI (sA st 16 (gI st 15) 1) 12) + 1)) 15) v_57) 15) v_61) 15) v_65))) hx hb hK hP hD hS 11 rfl h_66 (MW_a19 cI ad _ _) dX7_readBell_167 (fun H locs hP hD hS => ?_)
              refine lv_aload_n hx hb dX7_readBell_168 rfl (lv_at hl 1 rfl) ?_
              refine lv_dup hx hb dX7_readBell_169 rfl ?_
              refine bw_get (ci := 6) (v := .int (gI (sA s_65 19 (gI (sA s_61 18 (gI (sA s_57 17 (gI (sI (sA st 16 (gI st 15) 1) 12 ((gI (sA st 16 (gI st 15) 1) 12) + 1)) 15) v_57) 15) v_61) 15) v_65) 15)) (C := RX7) (T := TX7) (N := 28) hx hb hts i_X7 hown hK hP 0 rfl rfl 15 (by decide) f_107 rfl dX7_readBell_170 ?_
              refine lv_iconst (v := 1) hx hb dX7_readBell_173 (by decide) ?_
              refine lv_iadd hx hb dX7_readBell_174 ?_
              refine bw_put (w' := (MW cI ad (sI (sA s_65 19 (gI (sA s_61 18 (gI (sA s_57 17 (gI (sI (sA st 16 (gI st 15) 1) 12 ((gI (sA st 16 (gI st 15) 1) 12) + 1)) 15) v_57) 15) v_61) 15) v_65) 15 ((gI (sA s_65 19 (gI (sA s_61 18 (gI (sA s_57 17 (gI (sI (sA st 16 (gI st 15) 1) 12 ((gI (sA st 16 (gI st 15) 1) 12) + 1)) 15) v_57) 15) v_61) 15) v_65) 15) + 1)))) (ci := 6) (C := RX7) (T := TX7) (N := 28) hx hb hts i_X7 tyX7 tyX7_ok nmX7 hown hK hP hD hS 0 rfl rfl 15 (by decide) f_107 rfl rfl (Nat.le_of_ble_eq_true rfl) (MW_i15 cI ad _ _) dX7_readBell_175 (fun H locs hP hD hS => ?_)
              refine lv_aload_n hx hb dX7_readBell_178 rfl (lv_at hl 1 rfl) ?_
              refine bw_get (ci := 6) (v := .ref (ad 11)) (C := RX7) (T := TX7) (N := 28) hx hb hts i_X7 hown hK hP 0 rfl rfl 19 (by decide) f_40 rfl dX7_readBell_179 ?_
              refine lv_aload_n hx hb dX7_readBell_182 rfl (lv_at hl 1 rfl) ?_
              refine bw_get (ci := 6) (v := .int (gI (sI (sA s_65 19 (gI (sA s_61 18 (gI (sA s_57 17 (gI (sI (sA st 16 (gI st 15) 1) 12 ((gI (sA st 16 (gI st 15) 1) 12) + 1)) 15) v_57) 15) v_61) 15) v_65) 15 ((gI (sA s_65 19 (gI (sA s_61 18 (gI (sA s_57 17 (gI (sI (sA st 16 (gI st 15) 1) 12 ((gI (sA st 16 (gI st 15) 1) 12) + 1)) 15) v_57) 15) v_61) 15) v_65) 15) + 1)) 15)) (C := RX7) (T := TX7) (N := 28) hx hb hts i_X7 hown hK hP 0 rfl rfl 15 (by decide) f_107 rfl dX7_readBell_183 ?_
              refine lv_iconst (v := 1) hx hb dX7_readBell_186 (by decide) ?_
              refine lv_isub hx hb dX7_readBell_187 ?_
              obtain ⟨h_67, hR⟩ := ck_some hR
              refine bw_ald (v := gA (sI (sA s_65 19 (gI (sA s_61 18 (gI (sA s_57 17 (gI (sI (sA st 16 (gI st 15) 1) 12 ((gI (sA st 16 (gI st 15) 1) 12) + 1)) 15) v_57) 15) v_61) 15) v_65) 15 ((gI (sA s_65 19 (gI (sA s_61 18 (gI (sA s_57 17 (gI (sI (sA st 16 (gI st 15) 1) 12 ((gI (sA st 16 (gI st 15) 1) 12) + 1)) 15) v_57) 15) v_61) 15) v_65) 15) + 1)) 19 ((gI (sI (sA s_65 19 (gI (sA s_61 18 (gI (sA s_57 17 (gI (sI (sA st 16 (gI st 15) 1) 12 ((gI (sA st 16 (gI st 15) 1) 12) + 1)) 15) v_57) 15) v_61) 15) v_65) 15 ((gI (sA s_65 19 (gI (sA s_61 18 (gI (sA s_57 17 (gI (sI (sA st 16 (gI st 15) 1) 12 ((gI (sA st 16 (gI st 15) 1) 12) + 1)) 15) v_57) 15) v_61) 15) v_65) 15) + 1)) 15) - 1)) hx hb hK hP 11 rfl h_67 rfl dX7_readBell_188 ?_
              refine lv_bipush (v := (-9)) hx hb dX7_readBell_189 (by decide) ?_
              refine lv_icmp_eq (tgt := 198) hx hb dX7_readBell_191 (by decide) (fun c_68 => ?_) (fun c_68 => ?_)
              · have hR := (if_pos c_68).symm.trans hR
                refine lv_iconst (v := 0) hx hb dX7_readBell_198 (by decide) ?_
                exact ret_ _ _ _ _ _ _ dX7_readBell_199 (by decide) (sp1 hR) (congrArg (fun z => (MW cI ad z)) (sp2 hR)) hP hD hS
              · have hR := (if_neg c_68).symm.trans hR
                refine lv_iconst (v := 1) hx hb dX7_readBell_194 (by decide) ?_
                refine lv_goto (tgt := 199) hx hb dX7_readBell_195 (by decide) ?_
                exact ret_ _ _ _ _ _ _ dX7_readBell_199 (by decide) (sp1 hR) (congrArg (fun z => (MW cI ad z)) (sp2 hR)) hP hD hS
            · have hR := (if_pos c_64).symm.trans hR
              refine lv_iconst (v := 0) hx hb dX7_readBell_151 (by decide) ?_
              exact ret_ _ _ _ _ _ _ dX7_readBell_152 (by decide) (sp1 hR) (congrArg (fun z => (MW cI ad z)) (sp2 hR)) hP hD hS
          · have hR := (if_pos c_60).symm.trans hR
            refine lv_iconst (v := 0) hx hb dX7_readBell_119 (by decide) ?_
            exact ret_ _ _ _ _ _ _ dX7_readBell_120 (by decide) (sp1 hR) (congrArg (fun z => (MW cI ad z)) (sp2 hR)) hP hD hS
        · have hR := (if_pos c_56).symm.trans hR
          refine lv_iconst (v := 0) hx hb dX7_readBell_77 (by decide) ?_
          exact ret_ _ _ _ _ _ _ dX7_readBell_78 (by decide) (sp1 hR) (congrArg (fun z => (MW cI ad z)) (sp2 hR)) hP hD hS
    · have hR := (if_pos c_21).symm.trans hR
      refine lv_iconst (v := 0) hx hb dX7_readBell_36 (by decide) ?_
      refine lv_goto (tgt := 62) hx hb dX7_readBell_37 (by decide) ?_
      obtain ⟨h_69, hR⟩ := ck_some hR
      refine bw_ast (w' := (MW cI ad (sA st 16 (gI st 15) 0))) hx hb hK hP hD hS 8 rfl h_69 (MW_a16 cI ad _ _) dX7_readBell_62 (fun H locs hP hD hS => ?_)
      refine lv_aload_n hx hb dX7_readBell_63 rfl (lv_at hl 1 rfl) ?_
      refine bw_get (ci := 6) (v := .ref (ad 8)) (C := RX7) (T := TX7) (N := 28) hx hb hts i_X7 hown hK hP 0 rfl rfl 16 (by decide) f_31 rfl dX7_readBell_64 ?_
      refine lv_aload_n hx hb dX7_readBell_67 rfl (lv_at hl 1 rfl) ?_
      refine bw_get (ci := 6) (v := .int (gI (sA st 16 (gI st 15) 0) 15)) (C := RX7) (T := TX7) (N := 28) hx hb hts i_X7 hown hK hP 0 rfl rfl 15 (by decide) f_107 rfl dX7_readBell_68 ?_
      obtain ⟨h_70, hR⟩ := ck_some hR
      refine bw_ald (v := gA (sA st 16 (gI st 15) 0) 16 (gI (sA st 16 (gI st 15) 0) 15)) hx hb hK hP 8 rfl h_70 rfl dX7_readBell_71 ?_
      refine lv_bipush (v := (-9)) hx hb dX7_readBell_72 (by decide) ?_
      refine lv_icmp_ne (tgt := 79) hx hb dX7_readBell_74 (by decide) (fun c_71 => ?_) (fun c_71 => ?_)
      · have hR := (if_neg c_71).symm.trans hR
        refine lv_aload_n hx hb dX7_readBell_79 rfl (lv_at hl 1 rfl) ?_
        refine lv_dup hx hb dX7_readBell_80 rfl ?_
        refine bw_get (ci := 6) (v := .int (gI (sA st 16 (gI st 15) 0) 12)) (C := RX7) (T := TX7) (N := 28) hx hb hts i_X7 hown hK hP 0 rfl rfl 12 (by decide) f_74 rfl dX7_readBell_81 ?_
        refine lv_iconst (v := 1) hx hb dX7_readBell_84 (by decide) ?_
        refine lv_iadd hx hb dX7_readBell_85 ?_
        refine bw_put (w' := (MW cI ad (sI (sA st 16 (gI st 15) 0) 12 ((gI (sA st 16 (gI st 15) 0) 12) + 1)))) (ci := 6) (C := RX7) (T := TX7) (N := 28) hx hb hts i_X7 tyX7 tyX7_ok nmX7 hown hK hP hD hS 0 rfl rfl 12 (by decide) f_74 rfl rfl (Nat.le_of_ble_eq_true rfl) (MW_i12 cI ad _ _) dX7_readBell_86 (fun H locs hP hD hS => ?_)
        refine lv_aload_n hx hb dX7_readBell_89 rfl (lv_at hl 1 rfl) ?_
        refine bw_get (ci := 6) (v := .ref (ad 9)) (C := RX7) (T := TX7) (N := 28) hx hb hts i_X7 hown hK hP 0 rfl rfl 17 (by decide) f_34 rfl dX7_readBell_90 ?_
        refine lv_aload_n hx hb dX7_readBell_93 rfl (lv_at hl 1 rfl) ?_
        refine bw_get (ci := 6) (v := .int (gI (sI (sA st 16 (gI st 15) 0) 12 ((gI (sA st 16 (gI st 15) 0) 12) + 1)) 15)) (C := RX7) (T := TX7) (N := 28) hx hb hts i_X7 hown hK hP 0 rfl rfl 15 (by decide) f_107 rfl dX7_readBell_94 ?_
        refine lv_aload_n hx hb dX7_readBell_97 rfl (lv_at hl 1 rfl) ?_
        refine lv_iload_n hx hb dX7_readBell_98 rfl (lv_at hl 2 rfl) ?_
        refine lv_bipush (v := 9) hx hb dX7_readBell_99 (by decide) ?_
        obtain ⟨v_72, s_72, e_72, hR⟩ := b2_some hR
        refine bc_i (va_runV (As := [.int x1, .int 9]) (rest := [.int (gI (sI (sA st 16 (gI st 15) 0) 12 ((gI (sA st 16 (gI st 15) 0) 12) + 1)) 15), .ref (ad 9)]) ⟨hx, hb, hml, hown, hts⟩ (c_X7_digit l D cI cO ad _ e_72) (cwV 2 hts gX7_readBell_X7_digit rfl rfl rfl (by decide +kernel) ⟨Nat.le_of_ble_eq_true rfl, Nat.le_of_ble_eq_true rfl⟩) (preV hK hN hP hD (va_recv hK hP (ci := 6) (q0 := 0) rfl rfl)) rfl rfl hl.1 rfl (lv_room (Nat.le_of_ble_eq_true rfl)) dX7_readBell_101 ⟨Nat.zero_le _, Nat.zero_le _⟩) hS hD hA (fun H locs hP hD hS => ?_)
        obtain ⟨h_73, hR⟩ := ck_some hR
        refine bw_ast (w' := (MW cI ad (sA s_72 17 (gI (sI (sA st 16 (gI st 15) 0) 12 ((gI (sA st 16 (gI st 15) 0) 12) + 1)) 15) v_72))) hx hb hK hP hD hS 9 rfl h_73 (MW_a17 cI ad _ _) dX7_readBell_104 (fun H locs hP hD hS => ?_)
        refine lv_aload_n hx hb dX7_readBell_105 rfl (lv_at hl 1 rfl) ?_
        refine bw_get (ci := 6) (v := .ref (ad 9)) (C := RX7) (T := TX7) (N := 28) hx hb hts i_X7 hown hK hP 0 rfl rfl 17 (by decide) f_34 rfl dX7_readBell_106 ?_
        refine lv_aload_n hx hb dX7_readBell_109 rfl (lv_at hl 1 rfl) ?_
        refine bw_get (ci := 6) (v := .int (gI (sA s_72 17 (gI (sI (sA st 16 (gI st 15) 0) 12 ((gI (sA st 16 (gI st 15) 0) 12) + 1)) 15) v_72) 15)) (C := RX7) (T := TX7) (N := 28) hx hb hts i_X7 hown hK hP 0 rfl rfl 15 (by decide) f_107 rfl dX7_readBell_110 ?_
        obtain ⟨h_74, hR⟩ := ck_some hR
        refine bw_ald (v := gA (sA s_72 17 (gI (sI (sA st 16 (gI st 15) 0) 12 ((gI (sA st 16 (gI st 15) 0) 12) + 1)) 15) v_72) 17 (gI (sA s_72 17 (gI (sI (sA st 16 (gI st 15) 0) 12 ((gI (sA st 16 (gI st 15) 0) 12) + 1)) 15) v_72) 15)) hx hb hK hP 9 rfl h_74 rfl dX7_readBell_113 ?_
        refine lv_bipush (v := (-9)) hx hb dX7_readBell_114 (by decide) ?_
        refine lv_icmp_ne (tgt := 121) hx hb dX7_readBell_116 (by decide) (fun c_75 => ?_) (fun c_75 => ?_)
        · have hR := (if_neg c_75).symm.trans hR
          refine lv_aload_n hx hb dX7_readBell_121 rfl (lv_at hl 1 rfl) ?_
          refine bw_get (ci := 6) (v := .ref (ad 10)) (C := RX7) (T := TX7) (N := 28) hx hb hts i_X7 hown hK hP 0 rfl rfl 18 (by decide) f_37 rfl dX7_readBell_122 ?_
          refine lv_aload_n hx hb dX7_readBell_125 rfl (lv_at hl 1 rfl) ?_
          refine bw_get (ci := 6) (v := .int (gI (sA s_72 17 (gI (sI (sA st 16 (gI st 15) 0) 12 ((gI (sA st 16 (gI st 15) 0) 12) + 1)) 15) v_72) 15)) (C := RX7) (T := TX7) (N := 28) hx hb hts i_X7 hown hK hP 0 rfl rfl 15 (by decide) f_107 rfl dX7_readBell_126 ?_
          refine lv_aload_n hx hb dX7_readBell_129 rfl (lv_at hl 1 rfl) ?_
          refine lv_iload_n hx hb dX7_readBell_130 rfl (lv_at hl 2 rfl) ?_
          refine lv_bipush (v := 9) hx hb dX7_readBell_131 (by decide) ?_
          obtain ⟨v_76, s_76, e_76, hR⟩ := b2_some hR
          refine bc_i (va_runV (As := [.int x1, .int 9]) (rest := [.int (gI (sA s_72 17 (gI (sI (sA st 16 (gI st 15) 0) 12 ((gI (sA st 16 (gI st 15) 0) 12) + 1)) 15) v_72) 15), .ref (ad 10)]) ⟨hx, hb, hml, hown, hts⟩ (c_X7_digit l D cI cO ad _ e_76) (cwV 2 hts gX7_readBell_X7_digit rfl rfl rfl (by decide +kernel) ⟨Nat.le_of_ble_eq_true rfl, Nat.le_of_ble_eq_true rfl⟩) (preV hK hN hP hD (va_recv hK hP (ci := 6) (q0 := 0) rfl rfl)) rfl rfl hl.1 rfl (lv_room (Nat.le_of_ble_eq_true rfl)) dX7_readBell_133 ⟨Nat.zero_le _, Nat.zero_le _⟩) hS hD hA (fun H locs hP hD hS => ?_)
          obtain ⟨h_77, hR⟩ := ck_some hR
          refine bw_ast (w' := (MW cI ad (sA s_76 18 (gI (sA s_72 17 (gI (sI (sA st 16 (gI st 15) 0) 12 ((gI (sA st 16 (gI st 15) 0) 12) + 1)) 15) v_72) 15) v_76))) hx hb hK hP hD hS 10 rfl h_77 (MW_a18 cI ad _ _) dX7_readBell_136 (fun H locs hP hD hS => ?_)
          refine lv_aload_n hx hb dX7_readBell_137 rfl (lv_at hl 1 rfl) ?_
          refine bw_get (ci := 6) (v := .ref (ad 10)) (C := RX7) (T := TX7) (N := 28) hx hb hts i_X7 hown hK hP 0 rfl rfl 18 (by decide) f_37 rfl dX7_readBell_138 ?_
          refine lv_aload_n hx hb dX7_readBell_141 rfl (lv_at hl 1 rfl) ?_
          refine bw_get (ci := 6) (v := .int (gI (sA s_76 18 (gI (sA s_72 17 (gI (sI (sA st 16 (gI st 15) 0) 12 ((gI (sA st 16 (gI st 15) 0) 12) + 1)) 15) v_72) 15) v_76) 15)) (C := RX7) (T := TX7) (N := 28) hx hb hts i_X7 hown hK hP 0 rfl rfl 15 (by decide) f_107 rfl dX7_readBell_142 ?_
          obtain ⟨h_78, hR⟩ := ck_some hR
          refine bw_ald (v := gA (sA s_76 18 (gI (sA s_72 17 (gI (sI (sA st 16 (gI st 15) 0) 12 ((gI (sA st 16 (gI st 15) 0) 12) + 1)) 15) v_72) 15) v_76) 18 (gI (sA s_76 18 (gI (sA s_72 17 (gI (sI (sA st 16 (gI st 15) 0) 12 ((gI (sA st 16 (gI st 15) 0) 12) + 1)) 15) v_72) 15) v_76) 15)) hx hb hK hP 10 rfl h_78 rfl dX7_readBell_145 ?_
          refine lv_bipush (v := (-9)) hx hb dX7_readBell_146 (by decide) ?_
          refine lv_icmp_ne (tgt := 153) hx hb dX7_readBell_148 (by decide) (fun c_79 => ?_) (fun c_79 => ?_)
          · have hR := (if_neg c_79).symm.trans hR
            refine lv_aload_n hx hb dX7_readBell_153 rfl (lv_at hl 1 rfl) ?_
            refine bw_get (ci := 6) (v := .ref (ad 11)) (C := RX7) (T := TX7) (N := 28) hx hb hts i_X7 hown hK hP 0 rfl rfl 19 (by decide) f_40 rfl dX7_readBell_154 ?_
            refine lv_aload_n hx hb dX7_readBell_157 rfl (lv_at hl 1 rfl) ?_
            refine bw_get (ci := 6) (v := .int (gI (sA s_76 18 (gI (sA s_72 17 (gI (sI (sA st 16 (gI st 15) 0) 12 ((gI (sA st 16 (gI st 15) 0) 12) + 1)) 15) v_72) 15) v_76) 15)) (C := RX7) (T := TX7) (N := 28) hx hb hts i_X7 hown hK hP 0 rfl rfl 15 (by decide) f_107 rfl dX7_readBell_158 ?_
            refine lv_aload_n hx hb dX7_readBell_161 rfl (lv_at hl 1 rfl) ?_
            refine lv_iload_n hx hb dX7_readBell_162 rfl (lv_at hl 2 rfl) ?_
            refine lv_iconst (v := 3) hx hb dX7_readBell_163 (by decide) ?_
            obtain ⟨v_80, s_80, e_80, hR⟩ := b2_some hR
            refine bc_i (va_runV (As := [.int x1, .int 3]) (rest := [.int (gI (sA s_76 18 (gI (sA s_72 17 (gI (sI (sA st 16 (gI st 15) 0) 12 ((gI (sA st 16 (gI st 15) 0) 12) + 1)) 15) v_72) 15) v_76) 15), .ref (ad 11)]) ⟨hx, hb, hml, hown, hts⟩ (c_X7_digit l D cI cO ad _ e_80) (cwV 2 hts gX7_readBell_X7_digit rfl rfl rfl (by decide +kernel) ⟨Nat.le_of_ble_eq_true rfl, Nat.le_of_ble_eq_true rfl⟩) (preV hK hN hP hD (va_recv hK hP (ci := 6) (q0 := 0) rfl rfl)) rfl rfl hl.1 rfl (lv_room (Nat.le_of_ble_eq_true rfl)) dX7_readBell_164 ⟨Nat.zero_le _, Nat.zero_le _⟩) hS hD hA (fun H locs hP hD hS => ?_)
            obtain ⟨h_81, hR⟩ := ck_some hR
            refine bw_ast (w' := (MW cI ad (sA s_80 19 (gI (sA s_76 18 (gI (sA s_72 17 (gI (sI (sA st 16 (gI st 15) 0) 12 ((gI (sA st 16 (gI st 15) 0) 12) + 1)) 15) v_72) 15) v_76) 15) v_80))) hx hb hK hP hD hS 11 rfl h_81 (MW_a19 cI ad _ _) dX7_readBell_167 (fun H locs hP hD hS => ?_)
            refine lv_aload_n hx hb dX7_readBell_168 rfl (lv_at hl 1 rfl) ?_
            refine lv_dup hx hb dX7_readBell_169 rfl ?_
            refine bw_get (ci := 6) (v := .int (gI (sA s_80 19 (gI (sA s_76 18 (gI (sA s_72 17 (gI (sI (sA st 16 (gI st 15) 0) 12 ((gI (sA st 16 (gI st 15) 0) 12) + 1)) 15) v_72) 15) v_76) 15) v_80) 15)) (C := RX7) (T := TX7) (N := 28) hx hb hts i_X7 hown hK hP 0 rfl rfl 15 (by decide) f_107 rfl dX7_readBell_170 ?_
            refine lv_iconst (v := 1) hx hb dX7_readBell_173 (by decide) ?_
            refine lv_iadd hx hb dX7_readBell_174 ?_
            refine bw_put (w' := (MW cI ad (sI (sA s_80 19 (gI (sA s_76 18 (gI (sA s_72 17 (gI (sI (sA st 16 (gI st 15) 0) 12 ((gI (sA st 16 (gI st 15) 0) 12) + 1)) 15) v_72) 15) v_76) 15) v_80) 15 ((gI (sA s_80 19 (gI (sA s_76 18 (gI (sA s_72 17 (gI (sI (sA st 16 (gI st 15) 0) 12 ((gI (sA st 16 (gI st 15) 0) 12) + 1)) 15) v_72) 15) v_76) 15) v_80) 15) + 1)))) (ci := 6) (C := RX7) (T := TX7) (N := 28) hx hb hts i_X7 tyX7 tyX7_ok nmX7 hown hK hP hD hS 0 rfl rfl 15 (by decide) f_107 rfl rfl (Nat.le_of_ble_eq_true rfl) (MW_i15 cI ad _ _) dX7_readBell_175 (fun H locs hP hD hS => ?_)
            refine lv_aload_n hx hb dX7_readBell_178 rfl (lv_at hl 1 rfl) ?_
            refine bw_get (ci := 6) (v := .ref (ad 11)) (C := RX7) (T := TX7) (N := 28) hx hb hts i_X7 hown hK hP 0 rfl rfl 19 (by decide) f_40 rfl dX7_readBell_179 ?_
            refine lv_aload_n hx hb dX7_readBell_182 rfl (lv_at hl 1 rfl) ?_
            refine bw_get (ci := 6) (v := .int (gI (sI (sA s_80 19 (gI (sA s_76 18 (gI (sA s_72 17 (gI (sI (sA st 16 (gI st 15) 0) 12 ((gI (sA st 16 (gI st 15) 0) 12) + 1)) 15) v_72) 15) v_76) 15) v_80) 15 ((gI (sA s_80 19 (gI (sA s_76 18 (gI (sA s_72 17 (gI (sI (sA st 16 (gI st 15) 0) 12 ((gI (sA st 16 (gI st 15) 0) 12) + 1)) 15) v_72) 15) v_76) 15) v_80) 15) + 1)) 15)) (C := RX7) (T := TX7) (N := 28) hx hb hts i_X7 hown hK hP 0 rfl rfl 15 (by decide) f_107 rfl dX7_readBell_183 ?_
            refine lv_iconst (v := 1) hx hb dX7_readBell_186 (by decide) ?_
            refine lv_isub hx hb dX7_readBell_187 ?_
            obtain ⟨h_82, hR⟩ := ck_some hR
            refine bw_ald (v := gA (sI (sA s_80 19 (gI (sA s_76 18 (gI (sA s_72 17 (gI (sI (sA st 16 (gI st 15) 0) 12 ((gI (sA st 16 (gI st 15) 0) 12) + 1)) 15) v_72) 15) v_76) 15) v_80) 15 ((gI (sA s_80 19 (gI (sA s_76 18 (gI (sA s_72 17 (gI (sI (sA st 16 (gI st 15) 0) 12 ((gI (sA st 16 (gI st 15) 0) 12) + 1)) 15) v_72) 15) v_76) 15) v_80) 15) + 1)) 19 ((gI (sI (sA s_80 19 (gI (sA s_76 18 (gI (sA s_72 17 (gI (sI (sA st 16 (gI st 15) 0) 12 ((gI (sA st 16 (gI st 15) 0) 12) + 1)) 15) v_72) 15) v_76) 15) v_80) 15 ((gI (sA s_80 19 (gI (sA s_76 18 (gI (sA s_72 17 (gI (sI (sA st 16 (gI st 15) 0) 12 ((gI (sA st 16 (gI st 15) 0) 12) + 1)) 15) v_72) 15) v_76) 15) v_80) 15) + 1)) 15) - 1)) hx hb hK hP 11 rfl h_82 rfl dX7_readBell_188 ?_
            refine lv_bipush (v := (-9)) hx hb dX7_readBell_189 (by decide) ?_
            refine lv_icmp_eq (tgt := 198) hx hb dX7_readBell_191 (by decide) (fun c_83 => ?_) (fun c_83 => ?_)
            · have hR := (if_pos c_83).symm.trans hR
              refine lv_iconst (v := 0) hx hb dX7_readBell_198 (by decide) ?_
              exact ret_ _ _ _ _ _ _ dX7_readBell_199 (by decide) (sp1 hR) (congrArg (fun z => (MW cI ad z)) (sp2 hR)) hP hD hS
            · have hR := (if_neg c_83).symm.trans hR
              refine lv_iconst (v := 1) hx hb dX7_readBell_194 (by decide) ?_
              refine lv_goto (tgt := 199) hx hb dX7_readBell_195 (by decide) ?_
              exact ret_ _ _ _ _ _ _ dX7_readBell_199 (by decide) (sp1 hR) (congrArg (fun z => (MW cI ad z)) (sp2 hR)) hP hD hS
          · have hR := (if_pos c_79).symm.trans hR
            refine lv_iconst (v := 0) hx hb dX7_readBell_151 (by decide) ?_
            exact ret_ _ _ _ _ _ _ dX7_readBell_152 (by decide) (sp1 hR) (congrArg (fun z => (MW cI ad z)) (sp2 hR)) hP hD hS
        · have hR := (if_pos c_75).symm.trans hR
          refine lv_iconst (v := 0) hx hb dX7_readBell_119 (by decide) ?_
          exact ret_ _ _ _ _ _ _ dX7_readBell_120 (by decide) (sp1 hR) (congrArg (fun z => (MW cI ad z)) (sp2 hR)) hP hD hS
      · have hR := (if_pos c_71).symm.trans hR
        refine lv_iconst (v := 0) hx hb dX7_readBell_77 (by decide) ?_
        exact ret_ _ _ _ _ _ _ dX7_readBell_78 (by decide) (sp1 hR) (congrArg (fun z => (MW cI ad z)) (sp2 hR)) hP hD hS
