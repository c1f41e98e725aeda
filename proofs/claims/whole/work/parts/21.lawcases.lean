set_option maxHeartbeats 4000000 in
set_option maxRecDepth 100000 in
theorem lc_0 {p : Program} {l : Launch} {e : Env} {s : State} {m : MethodId} {below : List Frame} {meth : Method} {c : Code} {b L : Nat} {xs : Nat → Int32} {D : va_G} {cI cO : ClassId} {adB adM : Nat → Nat} (X0 : LX p s m c b L xs D cI cO) {i : Nat} (hL : L ≤ 384) (hi : i + 6 ≤ L) {st mt : St} (hrel : Rel st mt) {Q : State → Prop} {H : Heap} {locs : List Loc} {ls : Array Slot} (hP : va_P D vwCl (BW cI cO adB st ++ MW cI adM mt) H) (hD : va_D (fun q : Nat => s.heap.size ≤ q) (BW cI cO adB st ++ MW cI adM mt)) (hS : va_S (fun q : Nat => s.heap.size ≤ q) s.heap H locs) (hl : lv_has ls 4 [(3, .int (nI i)), (2, .ref (adM 0)), (1, .ref (adB 0)), (0, .ref b)])
    (kk : ∀ (st2 mt2 : St) (H : Heap) (locs : List Loc), Rel st2 mt2 → va_P D vwCl (BW cI cO adB st2 ++ MW cI adM mt2) H → va_D (fun q : Nat => s.heap.size ≤ q) (BW cI cO adB st2 ++ MW cI adM mt2) → va_S (fun q : Nat => s.heap.size ≤ q) s.heap H locs → W p l e room_1 s m #[Value.ref b] below meth c H locs 42 694 Q (F0 m 1211 ls [])) : W p l e room_1 s m #[Value.ref b] below meth c H locs 42 694 Q (F0 m 180 ls []) := by
  obtain ⟨hx, hb, hml, hown, hts, hX, hbl, hK, hN⟩ := X0
  have hbA : ¬ (fun q : Nat => s.heap.size ≤ q) b := Nat.not_le.mpr hbl
  have hA : ∀ q : Nat, s.heap.size ≤ q → (fun q : Nat => s.heap.size ≤ q) q := fun _ h => h
  have hj_1 : vp_in (nI i + 1) L := sc_in 1 hi (by decide) hL
  obtain ⟨x1, ex1⟩ : ∃ z : Int32, z = xs (nI i + 1).toNatClampNeg := ⟨_, rfl⟩
  have hj_2 : vp_in (nI i + 2) L := sc_in 2 hi (by decide) hL
  obtain ⟨x2, ex2⟩ : ∃ z : Int32, z = xs (nI i + 2).toNatClampNeg := ⟨_, rfl⟩
  have hj_3 : vp_in (nI i + 3) L := sc_in 3 hi (by decide) hL
  obtain ⟨x3, ex3⟩ : ∃ z : Int32, z = xs (nI i + 3).toNatClampNeg := ⟨_, rfl⟩
  have hj_4 : vp_in (nI i + 4) L := sc_in 4 hi (by decide) hL
  obtain ⟨x4, ex4⟩ : ∃ z : Int32, z = xs (nI i + 4).toNatClampNeg := ⟨_, rfl⟩
  obtain ⟨r, s2, m2, hF, hG, hr2⟩ := ok_alp hrel x1 x2 x3 x4
  refine lv_aload_n hx hb dL_law_180 rfl (lv_at hl 2 rfl) ?_
  refine lv_aload_n hx hb dL_law_181 rfl (lv_at hl 3 rfl) ?_
  refine lv_iload_n hx hb dL_law_182 rfl (lv_at hl 0 rfl) ?_
  refine lv_iconst (v := 1) hx hb dL_law_183 (by decide) ?_
  refine lv_iadd hx hb dL_law_184 ?_
  refine va_sld hx hb hX hbl hbA hS hj_1 dL_law_185 ?_
  rw [← ex1]
  refine lv_aload_n hx hb dL_law_186 rfl (lv_at hl 3 rfl) ?_
  refine lv_iload_n hx hb dL_law_187 rfl (lv_at hl 0 rfl) ?_
  refine lv_iconst (v := 2) hx hb dL_law_188 (by decide) ?_
  refine lv_iadd hx hb dL_law_189 ?_
  refine va_sld hx hb hX hbl hbA hS hj_2 dL_law_190 ?_
  rw [← ex2]
  refine lv_aload_n hx hb dL_law_191 rfl (lv_at hl 3 rfl) ?_
  refine lv_iload_n hx hb dL_law_192 rfl (lv_at hl 0 rfl) ?_
  refine lv_iconst (v := 3) hx hb dL_law_193 (by decide) ?_
  refine lv_iadd hx hb dL_law_194 ?_
  refine va_sld hx hb hX hbl hbA hS hj_3 dL_law_195 ?_
  rw [← ex3]
  refine lv_aload_n hx hb dL_law_196 rfl (lv_at hl 3 rfl) ?_
  refine lv_iload_n hx hb dL_law_197 rfl (lv_at hl 0 rfl) ?_
  refine lv_iconst (v := 4) hx hb dL_law_198 (by decide) ?_
  refine lv_iadd hx hb dL_law_199 ?_
  refine va_sld hx hb hX hbl hbA hS hj_4 dL_law_200 ?_
  rw [← ex4]
  refine bl_i (va_runV (As := [.int x1, .int x2, .int x3, .int x4]) (rest := []) ⟨hx, hb, hml, hown, hts⟩ (c_X6_alp l D cI cO adB H.size hF) (cwV 4 hts gL_law_X6_alp rfl rfl rfl (by decide +kernel) ⟨Nat.le_of_ble_eq_true rfl, Nat.le_of_ble_eq_true rfl⟩) (preV hK hN (P_left hP) (D_left hD) (va_recv hK (P_left hP) (ci := 5) (q0 := 0) rfl rfl)) rfl rfl hl.1 rfl (lv_room (Nat.le_of_ble_eq_true rfl)) dL_law_201 ⟨Nat.le_of_ble_eq_true rfl, Nat.le_of_ble_eq_true rfl⟩) hS hP hD hA (fun H locs hP hD hS => ?_)
  refine lv_aload_n hx hb dL_law_204 rfl (lv_at hl 1 rfl) ?_
  refine lv_aload_n hx hb dL_law_205 rfl (lv_at hl 3 rfl) ?_
  refine lv_iload_n hx hb dL_law_206 rfl (lv_at hl 0 rfl) ?_
  refine lv_iconst (v := 1) hx hb dL_law_207 (by decide) ?_
  refine lv_iadd hx hb dL_law_208 ?_
  refine va_sld hx hb hX hbl hbA hS hj_1 dL_law_209 ?_
  rw [← ex1]
  refine lv_aload_n hx hb dL_law_210 rfl (lv_at hl 3 rfl) ?_
  refine lv_iload_n hx hb dL_law_211 rfl (lv_at hl 0 rfl) ?_
  refine lv_iconst (v := 2) hx hb dL_law_212 (by decide) ?_
  refine lv_iadd hx hb dL_law_213 ?_
  refine va_sld hx hb hX hbl hbA hS hj_2 dL_law_214 ?_
  rw [← ex2]
  refine lv_aload_n hx hb dL_law_215 rfl (lv_at hl 3 rfl) ?_
  refine lv_iload_n hx hb dL_law_216 rfl (lv_at hl 0 rfl) ?_
  refine lv_iconst (v := 3) hx hb dL_law_217 (by decide) ?_
  refine lv_iadd hx hb dL_law_218 ?_
  refine va_sld hx hb hX hbl hbA hS hj_3 dL_law_219 ?_
  rw [← ex3]
  refine lv_aload_n hx hb dL_law_220 rfl (lv_at hl 3 rfl) ?_
  refine lv_iload_n hx hb dL_law_221 rfl (lv_at hl 0 rfl) ?_
  refine lv_iconst (v := 4) hx hb dL_law_222 (by decide) ?_
  refine lv_iadd hx hb dL_law_223 ?_
  refine va_sld hx hb hX hbl hbA hS hj_4 dL_law_224 ?_
  rw [← ex4]
  refine br_i (va_runV (As := [.int x1, .int x2, .int x3, .int x4]) (rest := [.int r]) ⟨hx, hb, hml, hown, hts⟩ (c_X7_alp l D cI cO adM H.size hG) (cwV 4 hts gL_law_X7_alp rfl rfl rfl (by decide +kernel) ⟨Nat.le_of_ble_eq_true rfl, Nat.le_of_ble_eq_true rfl⟩) (preV hK hN (P_right hP) (D_right hD) (va_recv hK (P_right hP) (ci := 6) (q0 := 0) rfl rfl)) rfl rfl hl.1 rfl (lv_room (Nat.le_of_ble_eq_true rfl)) dL_law_225 ⟨Nat.le_of_ble_eq_true rfl, Nat.le_of_ble_eq_true rfl⟩) hS hP hD hA (fun H locs hP hD hS => ?_)
  refine lv_icmp_eq (tgt := 1211) hx hb dL_law_228 (by decide) (fun _ => kk _ _ H locs hr2 hP hD hS) (fun hne => absurd rfl hne)
set_option maxHeartbeats 4000000 in
set_option maxRecDepth 100000 in
theorem lc_1 {p : Program} {l : Launch} {e : Env} {s : State} {m : MethodId} {below : List Frame} {meth : Method} {c : Code} {b L : Nat} {xs : Nat → Int32} {D : va_G} {cI cO : ClassId} {adB adM : Nat → Nat} (X0 : LX p s m c b L xs D cI cO) {i : Nat} (hL : L ≤ 384) (hi : i + 6 ≤ L) {st mt : St} (hrel : Rel st mt) {Q : State → Prop} {H : Heap} {locs : List Loc} {ls : Array Slot} (hP : va_P D vwCl (BW cI cO adB st ++ MW cI adM mt) H) (hD : va_D (fun q : Nat => s.heap.size ≤ q) (BW cI cO adB st ++ MW cI adM mt)) (hS : va_S (fun q : Nat => s.heap.size ≤ q) s.heap H locs) (hl : lv_has ls 4 [(3, .int (nI i)), (2, .ref (adM 0)), (1, .ref (adB 0)), (0, .ref b)])
    (kk : ∀ (st2 mt2 : St) (H : Heap) (locs : List Loc), Rel st2 mt2 → va_P D vwCl (BW cI cO adB st2 ++ MW cI adM mt2) H → va_D (fun q : Nat => s.heap.size ≤ q) (BW cI cO adB st2 ++ MW cI adM mt2) → va_S (fun q : Nat => s.heap.size ≤ q) s.heap H locs → W p l e room_1 s m #[Value.ref b] below meth c H locs 42 694 Q (F0 m 1211 ls [])) : W p l e room_1 s m #[Value.ref b] below meth c H locs 42 694 Q (F0 m 233 ls []) := by
  obtain ⟨hx, hb, hml, hown, hts, hX, hbl, hK, hN⟩ := X0
  have hbA : ¬ (fun q : Nat => s.heap.size ≤ q) b := Nat.not_le.mpr hbl
  have hA : ∀ q : Nat, s.heap.size ≤ q → (fun q : Nat => s.heap.size ≤ q) q := fun _ h => h
  have hj_1 : vp_in (nI i + 1) L := sc_in 1 hi (by decide) hL
  obtain ⟨x1, ex1⟩ : ∃ z : Int32, z = xs (nI i + 1).toNatClampNeg := ⟨_, rfl⟩
  have hj_2 : vp_in (nI i + 2) L := sc_in 2 hi (by decide) hL
  obtain ⟨x2, ex2⟩ : ∃ z : Int32, z = xs (nI i + 2).toNatClampNeg := ⟨_, rfl⟩
  obtain ⟨r, hF, hG, hr2⟩ := ok_ofBell hrel x1 x2
  refine lv_aload_n hx hb dL_law_233 rfl (lv_at hl 2 rfl) ?_
  refine lv_aload_n hx hb dL_law_234 rfl (lv_at hl 3 rfl) ?_
  refine lv_iload_n hx hb dL_law_235 rfl (lv_at hl 0 rfl) ?_
  refine lv_iconst (v := 1) hx hb dL_law_236 (by decide) ?_
  refine lv_iadd hx hb dL_law_237 ?_
  refine va_sld hx hb hX hbl hbA hS hj_1 dL_law_238 ?_
  rw [← ex1]
  refine lv_aload_n hx hb dL_law_239 rfl (lv_at hl 3 rfl) ?_
  refine lv_iload_n hx hb dL_law_240 rfl (lv_at hl 0 rfl) ?_
  refine lv_iconst (v := 2) hx hb dL_law_241 (by decide) ?_
  refine lv_iadd hx hb dL_law_242 ?_
  refine va_sld hx hb hX hbl hbA hS hj_2 dL_law_243 ?_
  rw [← ex2]
  refine bl_i (va_runV (As := [.int x1, .int x2]) (rest := []) ⟨hx, hb, hml, hown, hts⟩ (c_X6_ofBell l D cI cO adB H.size hF) (cwV 2 hts gL_law_X6_ofBell rfl rfl rfl (by decide +kernel) ⟨Nat.le_of_ble_eq_true rfl, Nat.le_of_ble_eq_true rfl⟩) (preV hK hN (P_left hP) (D_left hD) (va_recv hK (P_left hP) (ci := 5) (q0 := 0) rfl rfl)) rfl rfl hl.1 rfl (lv_room (Nat.le_of_ble_eq_true rfl)) dL_law_244 ⟨Nat.le_of_ble_eq_true rfl, Nat.le_of_ble_eq_true rfl⟩) hS hP hD hA (fun H locs hP hD hS => ?_)
  refine lv_aload_n hx hb dL_law_247 rfl (lv_at hl 1 rfl) ?_
  refine lv_aload_n hx hb dL_law_248 rfl (lv_at hl 3 rfl) ?_
  refine lv_iload_n hx hb dL_law_249 rfl (lv_at hl 0 rfl) ?_
  refine lv_iconst (v := 1) hx hb dL_law_250 (by decide) ?_
  refine lv_iadd hx hb dL_law_251 ?_
  refine va_sld hx hb hX hbl hbA hS hj_1 dL_law_252 ?_
  rw [← ex1]
  refine lv_aload_n hx hb dL_law_253 rfl (lv_at hl 3 rfl) ?_
  refine lv_iload_n hx hb dL_law_254 rfl (lv_at hl 0 rfl) ?_
  refine lv_iconst (v := 2) hx hb dL_law_255 (by decide) ?_
  refine lv_iadd hx hb dL_law_256 ?_
  refine va_sld hx hb hX hbl hbA hS hj_2 dL_law_257 ?_
  rw [← ex2]
  refine br_i (va_runV (As := [.int x1, .int x2]) (rest := [.int r]) ⟨hx, hb, hml, hown, hts⟩ (c_X7_ofBell l D cI cO adM H.size hG) (cwV 2 hts gL_law_X7_ofBell rfl rfl rfl (by decide +kernel) ⟨Nat.le_of_ble_eq_true rfl, Nat.le_of_ble_eq_true rfl⟩) (preV hK hN (P_right hP) (D_right hD) (va_recv hK (P_right hP) (ci := 6) (q0 := 0) rfl rfl)) rfl rfl hl.1 rfl (lv_room (Nat.le_of_ble_eq_true rfl)) dL_law_258 ⟨Nat.le_of_ble_eq_true rfl, Nat.le_of_ble_eq_true rfl⟩) hS hP hD hA (fun H locs hP hD hS => ?_)
  refine lv_icmp_eq (tgt := 1211) hx hb dL_law_261 (by decide) (fun _ => kk _ _ H locs hr2 hP hD hS) (fun hne => absurd rfl hne)
set_option maxHeartbeats 4000000 in
set_option maxRecDepth 100000 in
theorem lc_2 {p : Program} {l : Launch} {e : Env} {s : State} {m : MethodId} {below : List Frame} {meth : Method} {c : Code} {b L : Nat} {xs : Nat → Int32} {D : va_G} {cI cO : ClassId} {adB adM : Nat → Nat} (X0 : LX p s m c b L xs D cI cO) {i : Nat} (hL : L ≤ 384) (hi : i + 6 ≤ L) {st mt : St} (hrel : Rel st mt) {Q : State → Prop} {H : Heap} {locs : List Loc} {ls : Array Slot} (hP : va_P D vwCl (BW cI cO adB st ++ MW cI adM mt) H) (hD : va_D (fun q : Nat => s.heap.size ≤ q) (BW cI cO adB st ++ MW cI adM mt)) (hS : va_S (fun q : Nat => s.heap.size ≤ q) s.heap H locs) (hl : lv_has ls 4 [(3, .int (nI i)), (2, .ref (adM 0)), (1, .ref (adB 0)), (0, .ref b)])
    (kk : ∀ (st2 mt2 : St) (H : Heap) (locs : List Loc), Rel st2 mt2 → va_P D vwCl (BW cI cO adB st2 ++ MW cI adM mt2) H → va_D (fun q : Nat => s.heap.size ≤ q) (BW cI cO adB st2 ++ MW cI adM mt2) → va_S (fun q : Nat => s.heap.size ≤ q) s.heap H locs → W p l e room_1 s m #[Value.ref b] below meth c H locs 42 694 Q (F0 m 1211 ls [])) : W p l e room_1 s m #[Value.ref b] below meth c H locs 42 694 Q (F0 m 266 ls []) := by
  obtain ⟨hx, hb, hml, hown, hts, hX, hbl, hK, hN⟩ := X0
  have hbA : ¬ (fun q : Nat => s.heap.size ≤ q) b := Nat.not_le.mpr hbl
  have hA : ∀ q : Nat, s.heap.size ≤ q → (fun q : Nat => s.heap.size ≤ q) q := fun _ h => h
  have hj_1 : vp_in (nI i + 1) L := sc_in 1 hi (by decide) hL
  obtain ⟨x1, ex1⟩ : ∃ z : Int32, z = xs (nI i + 1).toNatClampNeg := ⟨_, rfl⟩
  have hj_2 : vp_in (nI i + 2) L := sc_in 2 hi (by decide) hL
  obtain ⟨x2, ex2⟩ : ∃ z : Int32, z = xs (nI i + 2).toNatClampNeg := ⟨_, rfl⟩
  obtain ⟨r, s2, m2, hF, hG, hr2⟩ := ok_cheer hrel x1 x2
  refine lv_aload_n hx hb dL_law_266 rfl (lv_at hl 2 rfl) ?_
  refine lv_aload_n hx hb dL_law_267 rfl (lv_at hl 3 rfl) ?_
  refine lv_iload_n hx hb dL_law_268 rfl (lv_at hl 0 rfl) ?_
  refine lv_iconst (v := 1) hx hb dL_law_269 (by decide) ?_
  refine lv_iadd hx hb dL_law_270 ?_
  refine va_sld hx hb hX hbl hbA hS hj_1 dL_law_271 ?_
  rw [← ex1]
  refine lv_aload_n hx hb dL_law_272 rfl (lv_at hl 3 rfl) ?_
  refine lv_iload_n hx hb dL_law_273 rfl (lv_at hl 0 rfl) ?_
  refine lv_iconst (v := 2) hx hb dL_law_274 (by decide) ?_
  refine lv_iadd hx hb dL_law_275 ?_
  refine va_sld hx hb hX hbl hbA hS hj_2 dL_law_276 ?_
  rw [← ex2]
  refine bl_i (va_runV (As := [.int x1, .int x2]) (rest := []) ⟨hx, hb, hml, hown, hts⟩ (c_X6_cheer l D cI cO adB H.size hF) (cwV 2 hts gL_law_X6_cheer rfl rfl rfl (by decide +kernel) ⟨Nat.le_of_ble_eq_true rfl, Nat.le_of_ble_eq_true rfl⟩) (preV hK hN (P_left hP) (D_left hD) (va_recv hK (P_left hP) (ci := 5) (q0 := 0) rfl rfl)) rfl rfl hl.1 rfl (lv_room (Nat.le_of_ble_eq_true rfl)) dL_law_277 ⟨Nat.le_of_ble_eq_true rfl, Nat.le_of_ble_eq_true rfl⟩) hS hP hD hA (fun H locs hP hD hS => ?_)
  refine lv_aload_n hx hb dL_law_280 rfl (lv_at hl 1 rfl) ?_
  refine lv_aload_n hx hb dL_law_281 rfl (lv_at hl 3 rfl) ?_
  refine lv_iload_n hx hb dL_law_282 rfl (lv_at hl 0 rfl) ?_
  refine lv_iconst (v := 1) hx hb dL_law_283 (by decide) ?_
  refine lv_iadd hx hb dL_law_284 ?_
  refine va_sld hx hb hX hbl hbA hS hj_1 dL_law_285 ?_
  rw [← ex1]
  refine lv_aload_n hx hb dL_law_286 rfl (lv_at hl 3 rfl) ?_
  refine lv_iload_n hx hb dL_law_287 rfl (lv_at hl 0 rfl) ?_
  refine lv_iconst (v := 2) hx hb dL_law_288 (by decide) ?_
  refine lv_iadd hx hb dL_law_289 ?_
  refine va_sld hx hb hX hbl hbA hS hj_2 dL_law_290 ?_
  rw [← ex2]
  refine br_i (va_runV (As := [.int x1, .int x2]) (rest := [.int r]) ⟨hx, hb, hml, hown, hts⟩ (c_X7_cheer l D cI cO adM H.size hG) (cwV 2 hts gL_law_X7_cheer rfl rfl rfl (by decide +kernel) ⟨Nat.le_of_ble_eq_true rfl, Nat.le_of_ble_eq_true rfl⟩) (preV hK hN (P_right hP) (D_right hD) (va_recv hK (P_right hP) (ci := 6) (q0 := 0) rfl rfl)) rfl rfl hl.1 rfl (lv_room (Nat.le_of_ble_eq_true rfl)) dL_law_291 ⟨Nat.le_of_ble_eq_true rfl, Nat.le_of_ble_eq_true rfl⟩) hS hP hD hA (fun H locs hP hD hS => ?_)
  refine lv_icmp_eq (tgt := 1211) hx hb dL_law_294 (by decide) (fun _ => kk _ _ H locs hr2 hP hD hS) (fun hne => absurd rfl hne)
set_option maxHeartbeats 4000000 in
set_option maxRecDepth 100000 in
theorem lc_3 {p : Program} {l : Launch} {e : Env} {s : State} {m : MethodId} {below : List Frame} {meth : Method} {c : Code} {b L : Nat} {xs : Nat → Int32} {D : va_G} {cI cO : ClassId} {adB adM : Nat → Nat} (X0 : LX p s m c b L xs D cI cO) {i : Nat} (hL : L ≤ 384) (hi : i + 6 ≤ L) {st mt : St} (hrel : Rel st mt) {Q : State → Prop} {H : Heap} {locs : List Loc} {ls : Array Slot} (hP : va_P D vwCl (BW cI cO adB st ++ MW cI adM mt) H) (hD : va_D (fun q : Nat => s.heap.size ≤ q) (BW cI cO adB st ++ MW cI adM mt)) (hS : va_S (fun q : Nat => s.heap.size ≤ q) s.heap H locs) (hl : lv_has ls 4 [(3, .int (nI i)), (2, .ref (adM 0)), (1, .ref (adB 0)), (0, .ref b)])
    (kk : ∀ (st2 mt2 : St) (H : Heap) (locs : List Loc), Rel st2 mt2 → va_P D vwCl (BW cI cO adB st2 ++ MW cI adM mt2) H → va_D (fun q : Nat => s.heap.size ≤ q) (BW cI cO adB st2 ++ MW cI adM mt2) → va_S (fun q : Nat => s.heap.size ≤ q) s.heap H locs → W p l e room_1 s m #[Value.ref b] below meth c H locs 42 694 Q (F0 m 1211 ls [])) : W p l e room_1 s m #[Value.ref b] below meth c H locs 42 694 Q (F0 m 299 ls []) := by
  obtain ⟨hx, hb, hml, hown, hts, hX, hbl, hK, hN⟩ := X0
  have hbA : ¬ (fun q : Nat => s.heap.size ≤ q) b := Nat.not_le.mpr hbl
  have hA : ∀ q : Nat, s.heap.size ≤ q → (fun q : Nat => s.heap.size ≤ q) q := fun _ h => h
  have hj_1 : vp_in (nI i + 1) L := sc_in 1 hi (by decide) hL
  obtain ⟨x1, ex1⟩ : ∃ z : Int32, z = xs (nI i + 1).toNatClampNeg := ⟨_, rfl⟩
  have hj_2 : vp_in (nI i + 2) L := sc_in 2 hi (by decide) hL
  obtain ⟨x2, ex2⟩ : ∃ z : Int32, z = xs (nI i + 2).toNatClampNeg := ⟨_, rfl⟩
  obtain ⟨r, s2, m2, hF, hG, hr2⟩ := ok_recast hrel x1 x2
  refine lv_aload_n hx hb dL_law_299 rfl (lv_at hl 2 rfl) ?_
  refine lv_aload_n hx hb dL_law_300 rfl (lv_at hl 3 rfl) ?_
  refine lv_iload_n hx hb dL_law_301 rfl (lv_at hl 0 rfl) ?_
  refine lv_iconst (v := 1) hx hb dL_law_302 (by decide) ?_
  refine lv_iadd hx hb dL_law_303 ?_
  refine va_sld hx hb hX hbl hbA hS hj_1 dL_law_304 ?_
  rw [← ex1]
  refine lv_aload_n hx hb dL_law_305 rfl (lv_at hl 3 rfl) ?_
  refine lv_iload_n hx hb dL_law_306 rfl (lv_at hl 0 rfl) ?_
  refine lv_iconst (v := 2) hx hb dL_law_307 (by decide) ?_
  refine lv_iadd hx hb dL_law_308 ?_
  refine va_sld hx hb hX hbl hbA hS hj_2 dL_law_309 ?_
  rw [← ex2]
  refine bl_i (va_runV (As := [.int x1, .int x2]) (rest := []) ⟨hx, hb, hml, hown, hts⟩ (c_X6_recast l D cI cO adB H.size hF) (cwV 2 hts gL_law_X6_recast rfl rfl rfl (by decide +kernel) ⟨Nat.le_of_ble_eq_true rfl, Nat.le_of_ble_eq_true rfl⟩) (preV hK hN (P_left hP) (D_left hD) (va_recv hK (P_left hP) (ci := 5) (q0 := 0) rfl rfl)) rfl rfl hl.1 rfl (lv_room (Nat.le_of_ble_eq_true rfl)) dL_law_310 ⟨Nat.le_of_ble_eq_true rfl, Nat.le_of_ble_eq_true rfl⟩) hS hP hD hA (fun H locs hP hD hS => ?_)
  refine lv_aload_n hx hb dL_law_313 rfl (lv_at hl 1 rfl) ?_
  refine lv_aload_n hx hb dL_law_314 rfl (lv_at hl 3 rfl) ?_
  refine lv_iload_n hx hb dL_law_315 rfl (lv_at hl 0 rfl) ?_
  refine lv_iconst (v := 1) hx hb dL_law_316 (by decide) ?_
  refine lv_iadd hx hb dL_law_317 ?_
  refine va_sld hx hb hX hbl hbA hS hj_1 dL_law_318 ?_
  rw [← ex1]
  refine lv_aload_n hx hb dL_law_319 rfl (lv_at hl 3 rfl) ?_
  refine lv_iload_n hx hb dL_law_320 rfl (lv_at hl 0 rfl) ?_
  refine lv_iconst (v := 2) hx hb dL_law_321 (by decide) ?_
  refine lv_iadd hx hb dL_law_322 ?_
  refine va_sld hx hb hX hbl hbA hS hj_2 dL_law_323 ?_
  rw [← ex2]
  refine br_i (va_runV (As := [.int x1, .int x2]) (rest := [.int r]) ⟨hx, hb, hml, hown, hts⟩ (c_X7_recast l D cI cO adM H.size hG) (cwV 2 hts gL_law_X7_recast rfl rfl rfl (by decide +kernel) ⟨Nat.le_of_ble_eq_true rfl, Nat.le_of_ble_eq_true rfl⟩) (preV hK hN (P_right hP) (D_right hD) (va_recv hK (P_right hP) (ci := 6) (q0 := 0) rfl rfl)) rfl rfl hl.1 rfl (lv_room (Nat.le_of_ble_eq_true rfl)) dL_law_324 ⟨Nat.le_of_ble_eq_true rfl, Nat.le_of_ble_eq_true rfl⟩) hS hP hD hA (fun H locs hP hD hS => ?_)
  refine lv_icmp_eq (tgt := 1211) hx hb dL_law_327 (by decide) (fun _ => kk _ _ H locs hr2 hP hD hS) (fun hne => absurd rfl hne)
set_option maxHeartbeats 4000000 in
set_option maxRecDepth 100000 in
theorem lc_4 {p : Program} {l : Launch} {e : Env} {s : State} {m : MethodId} {below : List Frame} {meth : Method} {c : Code} {b L : Nat} {xs : Nat → Int32} {D : va_G} {cI cO : ClassId} {adB adM : Nat → Nat} (X0 : LX p s m c b L xs D cI cO) {i : Nat} (hL : L ≤ 384) (hi : i + 6 ≤ L) {st mt : St} (hrel : Rel st mt) {Q : State → Prop} {H : Heap} {locs : List Loc} {ls : Array Slot} (hP : va_P D vwCl (BW cI cO adB st ++ MW cI adM mt) H) (hD : va_D (fun q : Nat => s.heap.size ≤ q) (BW cI cO adB st ++ MW cI adM mt)) (hS : va_S (fun q : Nat => s.heap.size ≤ q) s.heap H locs) (hl : lv_has ls 4 [(3, .int (nI i)), (2, .ref (adM 0)), (1, .ref (adB 0)), (0, .ref b)])
    (kk : ∀ (st2 mt2 : St) (H : Heap) (locs : List Loc), Rel st2 mt2 → va_P D vwCl (BW cI cO adB st2 ++ MW cI adM mt2) H → va_D (fun q : Nat => s.heap.size ≤ q) (BW cI cO adB st2 ++ MW cI adM mt2) → va_S (fun q : Nat => s.heap.size ≤ q) s.heap H locs → W p l e room_1 s m #[Value.ref b] below meth c H locs 42 694 Q (F0 m 1211 ls [])) : W p l e room_1 s m #[Value.ref b] below meth c H locs 42 694 Q (F0 m 332 ls []) := by
  obtain ⟨hx, hb, hml, hown, hts, hX, hbl, hK, hN⟩ := X0
  have hbA : ¬ (fun q : Nat => s.heap.size ≤ q) b := Nat.not_le.mpr hbl
  have hA : ∀ q : Nat, s.heap.size ≤ q → (fun q : Nat => s.heap.size ≤ q) q := fun _ h => h
  have hj_1 : vp_in (nI i + 1) L := sc_in 1 hi (by decide) hL
  obtain ⟨x1, ex1⟩ : ∃ z : Int32, z = xs (nI i + 1).toNatClampNeg := ⟨_, rfl⟩
  have hj_2 : vp_in (nI i + 2) L := sc_in 2 hi (by decide) hL
  obtain ⟨x2, ex2⟩ : ∃ z : Int32, z = xs (nI i + 2).toNatClampNeg := ⟨_, rfl⟩
  obtain ⟨r, s2, m2, hF, hG, hr2⟩ := ok_go hrel x1 x2
  refine lv_aload_n hx hb dL_law_332 rfl (lv_at hl 2 rfl) ?_
  refine lv_aload_n hx hb dL_law_333 rfl (lv_at hl 3 rfl) ?_
  refine lv_iload_n hx hb dL_law_334 rfl (lv_at hl 0 rfl) ?_
  refine lv_iconst (v := 1) hx hb dL_law_335 (by decide) ?_
  refine lv_iadd hx hb dL_law_336 ?_
  refine va_sld hx hb hX hbl hbA hS hj_1 dL_law_337 ?_
  rw [← ex1]
  refine lv_aload_n hx hb dL_law_338 rfl (lv_at hl 3 rfl) ?_
  refine lv_iload_n hx hb dL_law_339 rfl (lv_at hl 0 rfl) ?_
  refine lv_iconst (v := 2) hx hb dL_law_340 (by decide) ?_
  refine lv_iadd hx hb dL_law_341 ?_
  refine va_sld hx hb hX hbl hbA hS hj_2 dL_law_342 ?_
  rw [← ex2]
  refine bl_i (va_runV (As := [.int x1, .int x2]) (rest := []) ⟨hx, hb, hml, hown, hts⟩ (c_X6_go l D cI cO adB H.size hF) (cwV 2 hts gL_law_X6_go rfl rfl rfl (by decide +kernel) ⟨Nat.le_of_ble_eq_true rfl, Nat.le_of_ble_eq_true rfl⟩) (preV hK hN (P_left hP) (D_left hD) (va_recv hK (P_left hP) (ci := 5) (q0 := 0) rfl rfl)) rfl rfl hl.1 rfl (lv_room (Nat.le_of_ble_eq_true rfl)) dL_law_343 ⟨Nat.le_of_ble_eq_true rfl, Nat.le_of_ble_eq_true rfl⟩) hS hP hD hA (fun H locs hP hD hS => ?_)
  refine lv_aload_n hx hb dL_law_346 rfl (lv_at hl 1 rfl) ?_
  refine lv_aload_n hx hb dL_law_347 rfl (lv_at hl 3 rfl) ?_
  refine lv_iload_n hx hb dL_law_348 rfl (lv_at hl 0 rfl) ?_
  refine lv_iconst (v := 1) hx hb dL_law_349 (by decide) ?_
  refine lv_iadd hx hb dL_law_350 ?_
  refine va_sld hx hb hX hbl hbA hS hj_1 dL_law_351 ?_
  rw [← ex1]
  refine lv_aload_n hx hb dL_law_352 rfl (lv_at hl 3 rfl) ?_
  refine lv_iload_n hx hb dL_law_353 rfl (lv_at hl 0 rfl) ?_
  refine lv_iconst (v := 2) hx hb dL_law_354 (by decide) ?_
  refine lv_iadd hx hb dL_law_355 ?_
  refine va_sld hx hb hX hbl hbA hS hj_2 dL_law_356 ?_
  rw [← ex2]
  refine br_i (va_runV (As := [.int x1, .int x2]) (rest := [.int r]) ⟨hx, hb, hml, hown, hts⟩ (c_X7_go l D cI cO adM H.size hG) (cwV 2 hts gL_law_X7_go rfl rfl rfl (by decide +kernel) ⟨Nat.le_of_ble_eq_true rfl, Nat.le_of_ble_eq_true rfl⟩) (preV hK hN (P_right hP) (D_right hD) (va_recv hK (P_right hP) (ci := 6) (q0 := 0) rfl rfl)) rfl rfl hl.1 rfl (lv_room (Nat.le_of_ble_eq_true rfl)) dL_law_357 ⟨Nat.le_of_ble_eq_true rfl, Nat.le_of_ble_eq_true rfl⟩) hS hP hD hA (fun H locs hP hD hS => ?_)
  refine lv_icmp_eq (tgt := 1211) hx hb dL_law_360 (by decide) (fun _ => kk _ _ H locs hr2 hP hD hS) (fun hne => absurd rfl hne)
set_option maxHeartbeats 4000000 in
set_option maxRecDepth 100000 in
theorem lc_5 {p : Program} {l : Launch} {e : Env} {s : State} {m : MethodId} {below : List Frame} {meth : Method} {c : Code} {b L : Nat} {xs : Nat → Int32} {D : va_G} {cI cO : ClassId} {adB adM : Nat → Nat} (X0 : LX p s m c b L xs D cI cO) {i : Nat} (hL : L ≤ 384) (hi : i + 6 ≤ L) {st mt : St} (hrel : Rel st mt) {Q : State → Prop} {H : Heap} {locs : List Loc} {ls : Array Slot} (hP : va_P D vwCl (BW cI cO adB st ++ MW cI adM mt) H) (hD : va_D (fun q : Nat => s.heap.size ≤ q) (BW cI cO adB st ++ MW cI adM mt)) (hS : va_S (fun q : Nat => s.heap.size ≤ q) s.heap H locs) (hl : lv_has ls 4 [(3, .int (nI i)), (2, .ref (adM 0)), (1, .ref (adB 0)), (0, .ref b)])
    (kk : ∀ (st2 mt2 : St) (H : Heap) (locs : List Loc), Rel st2 mt2 → va_P D vwCl (BW cI cO adB st2 ++ MW cI adM mt2) H → va_D (fun q : Nat => s.heap.size ≤ q) (BW cI cO adB st2 ++ MW cI adM mt2) → va_S (fun q : Nat => s.heap.size ≤ q) s.heap H locs → W p l e room_1 s m #[Value.ref b] below meth c H locs 42 694 Q (F0 m 1211 ls [])) : W p l e room_1 s m #[Value.ref b] below meth c H locs 42 694 Q (F0 m 365 ls []) := by
  obtain ⟨hx, hb, hml, hown, hts, hX, hbl, hK, hN⟩ := X0
  have hbA : ¬ (fun q : Nat => s.heap.size ≤ q) b := Nat.not_le.mpr hbl
  have hA : ∀ q : Nat, s.heap.size ≤ q → (fun q : Nat => s.heap.size ≤ q) q := fun _ h => h
  have hj_1 : vp_in (nI i + 1) L := sc_in 1 hi (by decide) hL
  obtain ⟨x1, ex1⟩ : ∃ z : Int32, z = xs (nI i + 1).toNatClampNeg := ⟨_, rfl⟩
  obtain ⟨r, s2, m2, hF, hG, hr2⟩ := ok_blow hrel x1
  refine lv_aload_n hx hb dL_law_365 rfl (lv_at hl 2 rfl) ?_
  refine lv_aload_n hx hb dL_law_366 rfl (lv_at hl 3 rfl) ?_
  refine lv_iload_n hx hb dL_law_367 rfl (lv_at hl 0 rfl) ?_
  refine lv_iconst (v := 1) hx hb dL_law_368 (by decide) ?_
  refine lv_iadd hx hb dL_law_369 ?_
  refine va_sld hx hb hX hbl hbA hS hj_1 dL_law_370 ?_
  rw [← ex1]
  refine bl_i (va_runV (As := [.int x1]) (rest := []) ⟨hx, hb, hml, hown, hts⟩ (c_X6_blow l D cI cO adB H.size hF) (cwV 1 hts gL_law_X6_blow rfl rfl rfl (by decide +kernel) ⟨Nat.le_of_ble_eq_true rfl, Nat.le_of_ble_eq_true rfl⟩) (preV hK hN (P_left hP) (D_left hD) (va_recv hK (P_left hP) (ci := 5) (q0 := 0) rfl rfl)) rfl rfl hl.1 rfl (lv_room (Nat.le_of_ble_eq_true rfl)) dL_law_371 ⟨Nat.le_of_ble_eq_true rfl, Nat.le_of_ble_eq_true rfl⟩) hS hP hD hA (fun H locs hP hD hS => ?_)
  refine lv_aload_n hx hb dL_law_374 rfl (lv_at hl 1 rfl) ?_
  refine lv_aload_n hx hb dL_law_375 rfl (lv_at hl 3 rfl) ?_
  refine lv_iload_n hx hb dL_law_376 rfl (lv_at hl 0 rfl) ?_
  refine lv_iconst (v := 1) hx hb dL_law_377 (by decide) ?_
  refine lv_iadd hx hb dL_law_378 ?_
  refine va_sld hx hb hX hbl hbA hS hj_1 dL_law_379 ?_
  rw [← ex1]
  refine br_i (va_runV (As := [.int x1]) (rest := [.int r]) ⟨hx, hb, hml, hown, hts⟩ (c_X7_blow l D cI cO adM H.size hG) (cwV 1 hts gL_law_X7_blow rfl rfl rfl (by decide +kernel) ⟨Nat.le_of_ble_eq_true rfl, Nat.le_of_ble_eq_true rfl⟩) (preV hK hN (P_right hP) (D_right hD) (va_recv hK (P_right hP) (ci := 6) (q0 := 0) rfl rfl)) rfl rfl hl.1 rfl (lv_room (Nat.le_of_ble_eq_true rfl)) dL_law_380 ⟨Nat.le_of_ble_eq_true rfl, Nat.le_of_ble_eq_true rfl⟩) hS hP hD hA (fun H locs hP hD hS => ?_)
  refine lv_icmp_eq (tgt := 1211) hx hb dL_law_383 (by decide) (fun _ => kk _ _ H locs hr2 hP hD hS) (fun hne => absurd rfl hne)
set_option maxHeartbeats 4000000 in
set_option maxRecDepth 100000 in
theorem lc_6 {p : Program} {l : Launch} {e : Env} {s : State} {m : MethodId} {below : List Frame} {meth : Method} {c : Code} {b L : Nat} {xs : Nat → Int32} {D : va_G} {cI cO : ClassId} {adB adM : Nat → Nat} (X0 : LX p s m c b L xs D cI cO) {i : Nat} (hL : L ≤ 384) (hi : i + 6 ≤ L) {st mt : St} (hrel : Rel st mt) {Q : State → Prop} {H : Heap} {locs : List Loc} {ls : Array Slot} (hP : va_P D vwCl (BW cI cO adB st ++ MW cI adM mt) H) (hD : va_D (fun q : Nat => s.heap.size ≤ q) (BW cI cO adB st ++ MW cI adM mt)) (hS : va_S (fun q : Nat => s.heap.size ≤ q) s.heap H locs) (hl : lv_has ls 4 [(3, .int (nI i)), (2, .ref (adM 0)), (1, .ref (adB 0)), (0, .ref b)])
    (kk : ∀ (st2 mt2 : St) (H : Heap) (locs : List Loc), Rel st2 mt2 → va_P D vwCl (BW cI cO adB st2 ++ MW cI adM mt2) H → va_D (fun q : Nat => s.heap.size ≤ q) (BW cI cO adB st2 ++ MW cI adM mt2) → va_S (fun q : Nat => s.heap.size ≤ q) s.heap H locs → W p l e room_1 s m #[Value.ref b] below meth c H locs 42 694 Q (F0 m 1211 ls [])) : W p l e room_1 s m #[Value.ref b] below meth c H locs 42 694 Q (F0 m 388 ls []) := by
  obtain ⟨hx, hb, hml, hown, hts, hX, hbl, hK, hN⟩ := X0
  have hbA : ¬ (fun q : Nat => s.heap.size ≤ q) b := Nat.not_le.mpr hbl
  have hA : ∀ q : Nat, s.heap.size ≤ q → (fun q : Nat => s.heap.size ≤ q) q := fun _ h => h
  have hj_1 : vp_in (nI i + 1) L := sc_in 1 hi (by decide) hL
  obtain ⟨x1, ex1⟩ : ∃ z : Int32, z = xs (nI i + 1).toNatClampNeg := ⟨_, rfl⟩
  have hj_2 : vp_in (nI i + 2) L := sc_in 2 hi (by decide) hL
  obtain ⟨x2, ex2⟩ : ∃ z : Int32, z = xs (nI i + 2).toNatClampNeg := ⟨_, rfl⟩
  obtain ⟨r, hF, hG, hr2⟩ := ok_sound hrel x1 x2
  refine lv_aload_n hx hb dL_law_388 rfl (lv_at hl 2 rfl) ?_
  refine lv_aload_n hx hb dL_law_389 rfl (lv_at hl 3 rfl) ?_
  refine lv_iload_n hx hb dL_law_390 rfl (lv_at hl 0 rfl) ?_
  refine lv_iconst (v := 1) hx hb dL_law_391 (by decide) ?_
  refine lv_iadd hx hb dL_law_392 ?_
  refine va_sld hx hb hX hbl hbA hS hj_1 dL_law_393 ?_
  rw [← ex1]
  refine lv_aload_n hx hb dL_law_394 rfl (lv_at hl 3 rfl) ?_
  refine lv_iload_n hx hb dL_law_395 rfl (lv_at hl 0 rfl) ?_
  refine lv_iconst (v := 2) hx hb dL_law_396 (by decide) ?_
  refine lv_iadd hx hb dL_law_397 ?_
  refine va_sld hx hb hX hbl hbA hS hj_2 dL_law_398 ?_
  rw [← ex2]
  refine bl_i (va_runV (As := [.int x1, .int x2]) (rest := []) ⟨hx, hb, hml, hown, hts⟩ (c_X6_sound l D cI cO adB H.size hF) (cwV 2 hts gL_law_X6_sound rfl rfl rfl (by decide +kernel) ⟨Nat.le_of_ble_eq_true rfl, Nat.le_of_ble_eq_true rfl⟩) (preV hK hN (P_left hP) (D_left hD) (va_recv hK (P_left hP) (ci := 5) (q0 := 0) rfl rfl)) rfl rfl hl.1 rfl (lv_room (Nat.le_of_ble_eq_true rfl)) dL_law_399 ⟨Nat.le_of_ble_eq_true rfl, Nat.le_of_ble_eq_true rfl⟩) hS hP hD hA (fun H locs hP hD hS => ?_)
  refine lv_aload_n hx hb dL_law_402 rfl (lv_at hl 1 rfl) ?_
  refine lv_aload_n hx hb dL_law_403 rfl (lv_at hl 3 rfl) ?_
  refine lv_iload_n hx hb dL_law_404 rfl (lv_at hl 0 rfl) ?_
  refine lv_iconst (v := 1) hx hb dL_law_405 (by decide) ?_
  refine lv_iadd hx hb dL_law_406 ?_
  refine va_sld hx hb hX hbl hbA hS hj_1 dL_law_407 ?_
  rw [← ex1]
  refine lv_aload_n hx hb dL_law_408 rfl (lv_at hl 3 rfl) ?_
  refine lv_iload_n hx hb dL_law_409 rfl (lv_at hl 0 rfl) ?_
  refine lv_iconst (v := 2) hx hb dL_law_410 (by decide) ?_
  refine lv_iadd hx hb dL_law_411 ?_
  refine va_sld hx hb hX hbl hbA hS hj_2 dL_law_412 ?_
  rw [← ex2]
  refine br_i (va_runV (As := [.int x1, .int x2]) (rest := [.int r]) ⟨hx, hb, hml, hown, hts⟩ (c_X7_sound l D cI cO adM H.size hG) (cwV 2 hts gL_law_X7_sound rfl rfl rfl (by decide +kernel) ⟨Nat.le_of_ble_eq_true rfl, Nat.le_of_ble_eq_true rfl⟩) (preV hK hN (P_right hP) (D_right hD) (va_recv hK (P_right hP) (ci := 6) (q0 := 0) rfl rfl)) rfl rfl hl.1 rfl (lv_room (Nat.le_of_ble_eq_true rfl)) dL_law_413 ⟨Nat.le_of_ble_eq_true rfl, Nat.le_of_ble_eq_true rfl⟩) hS hP hD hA (fun H locs hP hD hS => ?_)
  refine lv_icmp_eq (tgt := 1211) hx hb dL_law_416 (by decide) (fun _ => kk _ _ H locs hr2 hP hD hS) (fun hne => absurd rfl hne)
set_option maxHeartbeats 4000000 in
set_option maxRecDepth 100000 in
theorem lc_7 {p : Program} {l : Launch} {e : Env} {s : State} {m : MethodId} {below : List Frame} {meth : Method} {c : Code} {b L : Nat} {xs : Nat → Int32} {D : va_G} {cI cO : ClassId} {adB adM : Nat → Nat} (X0 : LX p s m c b L xs D cI cO) {i : Nat} (hL : L ≤ 384) (hi : i + 6 ≤ L) {st mt : St} (hrel : Rel st mt) {Q : State → Prop} {H : Heap} {locs : List Loc} {ls : Array Slot} (hP : va_P D vwCl (BW cI cO adB st ++ MW cI adM mt) H) (hD : va_D (fun q : Nat => s.heap.size ≤ q) (BW cI cO adB st ++ MW cI adM mt)) (hS : va_S (fun q : Nat => s.heap.size ≤ q) s.heap H locs) (hl : lv_has ls 4 [(3, .int (nI i)), (2, .ref (adM 0)), (1, .ref (adB 0)), (0, .ref b)])
    (kk : ∀ (st2 mt2 : St) (H : Heap) (locs : List Loc), Rel st2 mt2 → va_P D vwCl (BW cI cO adB st2 ++ MW cI adM mt2) H → va_D (fun q : Nat => s.heap.size ≤ q) (BW cI cO adB st2 ++ MW cI adM mt2) → va_S (fun q : Nat => s.heap.size ≤ q) s.heap H locs → W p l e room_1 s m #[Value.ref b] below meth c H locs 42 694 Q (F0 m 1211 ls [])) : W p l e room_1 s m #[Value.ref b] below meth c H locs 42 694 Q (F0 m 421 ls []) := by
  obtain ⟨hx, hb, hml, hown, hts, hX, hbl, hK, hN⟩ := X0
  have hbA : ¬ (fun q : Nat => s.heap.size ≤ q) b := Nat.not_le.mpr hbl
  have hA : ∀ q : Nat, s.heap.size ≤ q → (fun q : Nat => s.heap.size ≤ q) q := fun _ h => h
  have hj_1 : vp_in (nI i + 1) L := sc_in 1 hi (by decide) hL
  obtain ⟨x1, ex1⟩ : ∃ z : Int32, z = xs (nI i + 1).toNatClampNeg := ⟨_, rfl⟩
  obtain ⟨r, hF, hG, hr2⟩ := ok_heard hrel x1
  refine lv_aload_n hx hb dL_law_421 rfl (lv_at hl 2 rfl) ?_
  refine lv_aload_n hx hb dL_law_422 rfl (lv_at hl 3 rfl) ?_
  refine lv_iload_n hx hb dL_law_423 rfl (lv_at hl 0 rfl) ?_
  refine lv_iconst (v := 1) hx hb dL_law_424 (by decide) ?_
  refine lv_iadd hx hb dL_law_425 ?_
  refine va_sld hx hb hX hbl hbA hS hj_1 dL_law_426 ?_
  rw [← ex1]
  refine bl_i (va_runV (As := [.int x1]) (rest := []) ⟨hx, hb, hml, hown, hts⟩ (c_X6_heard l D cI cO adB H.size hF) (cwV 1 hts gL_law_X6_heard rfl rfl rfl (by decide +kernel) ⟨Nat.le_of_ble_eq_true rfl, Nat.le_of_ble_eq_true rfl⟩) (preV hK hN (P_left hP) (D_left hD) (va_recv hK (P_left hP) (ci := 5) (q0 := 0) rfl rfl)) rfl rfl hl.1 rfl (lv_room (Nat.le_of_ble_eq_true rfl)) dL_law_427 ⟨Nat.le_of_ble_eq_true rfl, Nat.le_of_ble_eq_true rfl⟩) hS hP hD hA (fun H locs hP hD hS => ?_)
  refine lv_aload_n hx hb dL_law_430 rfl (lv_at hl 1 rfl) ?_
  refine lv_aload_n hx hb dL_law_431 rfl (lv_at hl 3 rfl) ?_
  refine lv_iload_n hx hb dL_law_432 rfl (lv_at hl 0 rfl) ?_
  refine lv_iconst (v := 1) hx hb dL_law_433 (by decide) ?_
  refine lv_iadd hx hb dL_law_434 ?_
  refine va_sld hx hb hX hbl hbA hS hj_1 dL_law_435 ?_
  rw [← ex1]
  refine br_i (va_runV (As := [.int x1]) (rest := [.int r]) ⟨hx, hb, hml, hown, hts⟩ (c_X7_heard l D cI cO adM H.size hG) (cwV 1 hts gL_law_X7_heard rfl rfl rfl (by decide +kernel) ⟨Nat.le_of_ble_eq_true rfl, Nat.le_of_ble_eq_true rfl⟩) (preV hK hN (P_right hP) (D_right hD) (va_recv hK (P_right hP) (ci := 6) (q0 := 0) rfl rfl)) rfl rfl hl.1 rfl (lv_room (Nat.le_of_ble_eq_true rfl)) dL_law_436 ⟨Nat.le_of_ble_eq_true rfl, Nat.le_of_ble_eq_true rfl⟩) hS hP hD hA (fun H locs hP hD hS => ?_)
  refine lv_icmp_eq (tgt := 1211) hx hb dL_law_439 (by decide) (fun _ => kk _ _ H locs hr2 hP hD hS) (fun hne => absurd rfl hne)
set_option maxHeartbeats 4000000 in
set_option maxRecDepth 100000 in
theorem lc_8 {p : Program} {l : Launch} {e : Env} {s : State} {m : MethodId} {below : List Frame} {meth : Method} {c : Code} {b L : Nat} {xs : Nat → Int32} {D : va_G} {cI cO : ClassId} {adB adM : Nat → Nat} (X0 : LX p s m c b L xs D cI cO) {i : Nat} (hL : L ≤ 384) (hi : i + 6 ≤ L) {st mt : St} (hrel : Rel st mt) {Q : State → Prop} {H : Heap} {locs : List Loc} {ls : Array Slot} (hP : va_P D vwCl (BW cI cO adB st ++ MW cI adM mt) H) (hD : va_D (fun q : Nat => s.heap.size ≤ q) (BW cI cO adB st ++ MW cI adM mt)) (hS : va_S (fun q : Nat => s.heap.size ≤ q) s.heap H locs) (hl : lv_has ls 4 [(3, .int (nI i)), (2, .ref (adM 0)), (1, .ref (adB 0)), (0, .ref b)])
    (kk : ∀ (st2 mt2 : St) (H : Heap) (locs : List Loc), Rel st2 mt2 → va_P D vwCl (BW cI cO adB st2 ++ MW cI adM mt2) H → va_D (fun q : Nat => s.heap.size ≤ q) (BW cI cO adB st2 ++ MW cI adM mt2) → va_S (fun q : Nat => s.heap.size ≤ q) s.heap H locs → W p l e room_1 s m #[Value.ref b] below meth c H locs 42 694 Q (F0 m 1211 ls [])) : W p l e room_1 s m #[Value.ref b] below meth c H locs 42 694 Q (F0 m 444 ls []) := by
  obtain ⟨hx, hb, hml, hown, hts, hX, hbl, hK, hN⟩ := X0
  have hbA : ¬ (fun q : Nat => s.heap.size ≤ q) b := Nat.not_le.mpr hbl
  have hA : ∀ q : Nat, s.heap.size ≤ q → (fun q : Nat => s.heap.size ≤ q) q := fun _ h => h
  have hj_1 : vp_in (nI i + 1) L := sc_in 1 hi (by decide) hL
  obtain ⟨x1, ex1⟩ : ∃ z : Int32, z = xs (nI i + 1).toNatClampNeg := ⟨_, rfl⟩
  have hj_2 : vp_in (nI i + 2) L := sc_in 2 hi (by decide) hL
  obtain ⟨x2, ex2⟩ : ∃ z : Int32, z = xs (nI i + 2).toNatClampNeg := ⟨_, rfl⟩
  obtain ⟨r, hF, hG, hr2⟩ := ok_taken hrel x1 x2
  refine lv_aload_n hx hb dL_law_444 rfl (lv_at hl 2 rfl) ?_
  refine lv_aload_n hx hb dL_law_445 rfl (lv_at hl 3 rfl) ?_
  refine lv_iload_n hx hb dL_law_446 rfl (lv_at hl 0 rfl) ?_
  refine lv_iconst (v := 1) hx hb dL_law_447 (by decide) ?_
  refine lv_iadd hx hb dL_law_448 ?_
  refine va_sld hx hb hX hbl hbA hS hj_1 dL_law_449 ?_
  rw [← ex1]
  refine lv_aload_n hx hb dL_law_450 rfl (lv_at hl 3 rfl) ?_
  refine lv_iload_n hx hb dL_law_451 rfl (lv_at hl 0 rfl) ?_
  refine lv_iconst (v := 2) hx hb dL_law_452 (by decide) ?_
  refine lv_iadd hx hb dL_law_453 ?_
  refine va_sld hx hb hX hbl hbA hS hj_2 dL_law_454 ?_
  rw [← ex2]
  refine bl_i (va_runV (As := [.int x1, .int x2]) (rest := []) ⟨hx, hb, hml, hown, hts⟩ (c_X6_taken l D cI cO adB H.size hF) (cwV 2 hts gL_law_X6_taken rfl rfl rfl (by decide +kernel) ⟨Nat.le_of_ble_eq_true rfl, Nat.le_of_ble_eq_true rfl⟩) (preV hK hN (P_left hP) (D_left hD) (va_recv hK (P_left hP) (ci := 5) (q0 := 0) rfl rfl)) rfl rfl hl.1 rfl (lv_room (Nat.le_of_ble_eq_true rfl)) dL_law_455 ⟨Nat.le_of_ble_eq_true rfl, Nat.le_of_ble_eq_true rfl⟩) hS hP hD hA (fun H locs hP hD hS => ?_)
  refine lv_aload_n hx hb dL_law_458 rfl (lv_at hl 1 rfl) ?_
  refine lv_aload_n hx hb dL_law_459 rfl (lv_at hl 3 rfl) ?_
  refine lv_iload_n hx hb dL_law_460 rfl (lv_at hl 0 rfl) ?_
  refine lv_iconst (v := 1) hx hb dL_law_461 (by decide) ?_
  refine lv_iadd hx hb dL_law_462 ?_
  refine va_sld hx hb hX hbl hbA hS hj_1 dL_law_463 ?_
  rw [← ex1]
  refine lv_aload_n hx hb dL_law_464 rfl (lv_at hl 3 rfl) ?_
  refine lv_iload_n hx hb dL_law_465 rfl (lv_at hl 0 rfl) ?_
  refine lv_iconst (v := 2) hx hb dL_law_466 (by decide) ?_
  refine lv_iadd hx hb dL_law_467 ?_
  refine va_sld hx hb hX hbl hbA hS hj_2 dL_law_468 ?_
  rw [← ex2]
  refine br_i (va_runV (As := [.int x1, .int x2]) (rest := [.int r]) ⟨hx, hb, hml, hown, hts⟩ (c_X7_taken l D cI cO adM H.size hG) (cwV 2 hts gL_law_X7_taken rfl rfl rfl (by decide +kernel) ⟨Nat.le_of_ble_eq_true rfl, Nat.le_of_ble_eq_true rfl⟩) (preV hK hN (P_right hP) (D_right hD) (va_recv hK (P_right hP) (ci := 6) (q0 := 0) rfl rfl)) rfl rfl hl.1 rfl (lv_room (Nat.le_of_ble_eq_true rfl)) dL_law_469 ⟨Nat.le_of_ble_eq_true rfl, Nat.le_of_ble_eq_true rfl⟩) hS hP hD hA (fun H locs hP hD hS => ?_)
  refine lv_icmp_eq (tgt := 1211) hx hb dL_law_472 (by decide) (fun _ => kk _ _ H locs hr2 hP hD hS) (fun hne => absurd rfl hne)
set_option maxHeartbeats 4000000 in
set_option maxRecDepth 100000 in
theorem lc_9 {p : Program} {l : Launch} {e : Env} {s : State} {m : MethodId} {below : List Frame} {meth : Method} {c : Code} {b L : Nat} {xs : Nat → Int32} {D : va_G} {cI cO : ClassId} {adB adM : Nat → Nat} (X0 : LX p s m c b L xs D cI cO) {i : Nat} (hL : L ≤ 384) (hi : i + 6 ≤ L) {st mt : St} (hrel : Rel st mt) {Q : State → Prop} {H : Heap} {locs : List Loc} {ls : Array Slot} (hP : va_P D vwCl (BW cI cO adB st ++ MW cI adM mt) H) (hD : va_D (fun q : Nat => s.heap.size ≤ q) (BW cI cO adB st ++ MW cI adM mt)) (hS : va_S (fun q : Nat => s.heap.size ≤ q) s.heap H locs) (hl : lv_has ls 4 [(3, .int (nI i)), (2, .ref (adM 0)), (1, .ref (adB 0)), (0, .ref b)])
    (kk : ∀ (st2 mt2 : St) (H : Heap) (locs : List Loc), Rel st2 mt2 → va_P D vwCl (BW cI cO adB st2 ++ MW cI adM mt2) H → va_D (fun q : Nat => s.heap.size ≤ q) (BW cI cO adB st2 ++ MW cI adM mt2) → va_S (fun q : Nat => s.heap.size ≤ q) s.heap H locs → W p l e room_1 s m #[Value.ref b] below meth c H locs 42 694 Q (F0 m 1211 ls [])) : W p l e room_1 s m #[Value.ref b] below meth c H locs 42 694 Q (F0 m 477 ls []) := by
  obtain ⟨hx, hb, hml, hown, hts, hX, hbl, hK, hN⟩ := X0
  have hbA : ¬ (fun q : Nat => s.heap.size ≤ q) b := Nat.not_le.mpr hbl
  have hA : ∀ q : Nat, s.heap.size ≤ q → (fun q : Nat => s.heap.size ≤ q) q := fun _ h => h
  have hj_1 : vp_in (nI i + 1) L := sc_in 1 hi (by decide) hL
  obtain ⟨x1, ex1⟩ : ∃ z : Int32, z = xs (nI i + 1).toNatClampNeg := ⟨_, rfl⟩
  have hj_2 : vp_in (nI i + 2) L := sc_in 2 hi (by decide) hL
  obtain ⟨x2, ex2⟩ : ∃ z : Int32, z = xs (nI i + 2).toNatClampNeg := ⟨_, rfl⟩
  obtain ⟨r, hF, hG, hr2⟩ := ok_meant hrel x1 x2
  refine lv_aload_n hx hb dL_law_477 rfl (lv_at hl 2 rfl) ?_
  refine lv_aload_n hx hb dL_law_478 rfl (lv_at hl 3 rfl) ?_
  refine lv_iload_n hx hb dL_law_479 rfl (lv_at hl 0 rfl) ?_
  refine lv_iconst (v := 1) hx hb dL_law_480 (by decide) ?_
  refine lv_iadd hx hb dL_law_481 ?_
  refine va_sld hx hb hX hbl hbA hS hj_1 dL_law_482 ?_
  rw [← ex1]
  refine lv_aload_n hx hb dL_law_483 rfl (lv_at hl 3 rfl) ?_
  refine lv_iload_n hx hb dL_law_484 rfl (lv_at hl 0 rfl) ?_
  refine lv_iconst (v := 2) hx hb dL_law_485 (by decide) ?_
  refine lv_iadd hx hb dL_law_486 ?_
  refine va_sld hx hb hX hbl hbA hS hj_2 dL_law_487 ?_
  rw [← ex2]
  refine bl_i (va_runV (As := [.int x1, .int x2]) (rest := []) ⟨hx, hb, hml, hown, hts⟩ (c_X6_meant l D cI cO adB H.size hF) (cwV 2 hts gL_law_X6_meant rfl rfl rfl (by decide +kernel) ⟨Nat.le_of_ble_eq_true rfl, Nat.le_of_ble_eq_true rfl⟩) (preV hK hN (P_left hP) (D_left hD) (va_recv hK (P_left hP) (ci := 5) (q0 := 0) rfl rfl)) rfl rfl hl.1 rfl (lv_room (Nat.le_of_ble_eq_true rfl)) dL_law_488 ⟨Nat.le_of_ble_eq_true rfl, Nat.le_of_ble_eq_true rfl⟩) hS hP hD hA (fun H locs hP hD hS => ?_)
  refine lv_aload_n hx hb dL_law_491 rfl (lv_at hl 1 rfl) ?_
  refine lv_aload_n hx hb dL_law_492 rfl (lv_at hl 3 rfl) ?_
  refine lv_iload_n hx hb dL_law_493 rfl (lv_at hl 0 rfl) ?_
  refine lv_iconst (v := 1) hx hb dL_law_494 (by decide) ?_
  refine lv_iadd hx hb dL_law_495 ?_
  refine va_sld hx hb hX hbl hbA hS hj_1 dL_law_496 ?_
  rw [← ex1]
  refine lv_aload_n hx hb dL_law_497 rfl (lv_at hl 3 rfl) ?_
  refine lv_iload_n hx hb dL_law_498 rfl (lv_at hl 0 rfl) ?_
  refine lv_iconst (v := 2) hx hb dL_law_499 (by decide) ?_
  refine lv_iadd hx hb dL_law_500 ?_
  refine va_sld hx hb hX hbl hbA hS hj_2 dL_law_501 ?_
  rw [← ex2]
  refine br_i (va_runV (As := [.int x1, .int x2]) (rest := [.int r]) ⟨hx, hb, hml, hown, hts⟩ (c_X7_meant l D cI cO adM H.size hG) (cwV 2 hts gL_law_X7_meant rfl rfl rfl (by decide +kernel) ⟨Nat.le_of_ble_eq_true rfl, Nat.le_of_ble_eq_true rfl⟩) (preV hK hN (P_right hP) (D_right hD) (va_recv hK (P_right hP) (ci := 6) (q0 := 0) rfl rfl)) rfl rfl hl.1 rfl (lv_room (Nat.le_of_ble_eq_true rfl)) dL_law_502 ⟨Nat.le_of_ble_eq_true rfl, Nat.le_of_ble_eq_true rfl⟩) hS hP hD hA (fun H locs hP hD hS => ?_)
  refine lv_icmp_eq (tgt := 1211) hx hb dL_law_505 (by decide) (fun _ => kk _ _ H locs hr2 hP hD hS) (fun hne => absurd rfl hne)
set_option maxHeartbeats 4000000 in
set_option maxRecDepth 100000 in
theorem lc_10 {p : Program} {l : Launch} {e : Env} {s : State} {m : MethodId} {below : List Frame} {meth : Method} {c : Code} {b L : Nat} {xs : Nat → Int32} {D : va_G} {cI cO : ClassId} {adB adM : Nat → Nat} (X0 : LX p s m c b L xs D cI cO) {i : Nat} (hL : L ≤ 384) (hi : i + 6 ≤ L) {st mt : St} (hrel : Rel st mt) {Q : State → Prop} {H : Heap} {locs : List Loc} {ls : Array Slot} (hP : va_P D vwCl (BW cI cO adB st ++ MW cI adM mt) H) (hD : va_D (fun q : Nat => s.heap.size ≤ q) (BW cI cO adB st ++ MW cI adM mt)) (hS : va_S (fun q : Nat => s.heap.size ≤ q) s.heap H locs) (hl : lv_has ls 4 [(3, .int (nI i)), (2, .ref (adM 0)), (1, .ref (adB 0)), (0, .ref b)])
    (kk : ∀ (st2 mt2 : St) (H : Heap) (locs : List Loc), Rel st2 mt2 → va_P D vwCl (BW cI cO adB st2 ++ MW cI adM mt2) H → va_D (fun q : Nat => s.heap.size ≤ q) (BW cI cO adB st2 ++ MW cI adM mt2) → va_S (fun q : Nat => s.heap.size ≤ q) s.heap H locs → W p l e room_1 s m #[Value.ref b] below meth c H locs 42 694 Q (F0 m 1211 ls [])) : W p l e room_1 s m #[Value.ref b] below meth c H locs 42 694 Q (F0 m 510 ls []) := by
  obtain ⟨hx, hb, hml, hown, hts, hX, hbl, hK, hN⟩ := X0
  have hbA : ¬ (fun q : Nat => s.heap.size ≤ q) b := Nat.not_le.mpr hbl
  have hA : ∀ q : Nat, s.heap.size ≤ q → (fun q : Nat => s.heap.size ≤ q) q := fun _ h => h
  have hj_1 : vp_in (nI i + 1) L := sc_in 1 hi (by decide) hL
  obtain ⟨x1, ex1⟩ : ∃ z : Int32, z = xs (nI i + 1).toNatClampNeg := ⟨_, rfl⟩
  obtain ⟨r, s2, hF, hG, hr2⟩ := ok_family hrel x1
  refine lv_aload_n hx hb dL_law_510 rfl (lv_at hl 2 rfl) ?_
  refine lv_aload_n hx hb dL_law_511 rfl (lv_at hl 3 rfl) ?_
  refine lv_iload_n hx hb dL_law_512 rfl (lv_at hl 0 rfl) ?_
  refine lv_iconst (v := 1) hx hb dL_law_513 (by decide) ?_
  refine lv_iadd hx hb dL_law_514 ?_
  refine va_sld hx hb hX hbl hbA hS hj_1 dL_law_515 ?_
  rw [← ex1]
  refine bl_i (va_runV (As := [.int x1]) (rest := []) ⟨hx, hb, hml, hown, hts⟩ (c_X6_family l D cI cO adB H.size hF) (cwV 1 hts gL_law_X6_family rfl rfl rfl (by decide +kernel) ⟨Nat.le_of_ble_eq_true rfl, Nat.le_of_ble_eq_true rfl⟩) (preV hK hN (P_left hP) (D_left hD) (va_recv hK (P_left hP) (ci := 5) (q0 := 0) rfl rfl)) rfl rfl hl.1 rfl (lv_room (Nat.le_of_ble_eq_true rfl)) dL_law_516 ⟨Nat.le_of_ble_eq_true rfl, Nat.le_of_ble_eq_true rfl⟩) hS hP hD hA (fun H locs hP hD hS => ?_)
  refine lv_aload_n hx hb dL_law_519 rfl (lv_at hl 1 rfl) ?_
  refine lv_aload_n hx hb dL_law_520 rfl (lv_at hl 3 rfl) ?_
  refine lv_iload_n hx hb dL_law_521 rfl (lv_at hl 0 rfl) ?_
  refine lv_iconst (v := 1) hx hb dL_law_522 (by decide) ?_
  refine lv_iadd hx hb dL_law_523 ?_
  refine va_sld hx hb hX hbl hbA hS hj_1 dL_law_524 ?_
  rw [← ex1]
  refine br_i (va_runV (As := [.int x1]) (rest := [.int r]) ⟨hx, hb, hml, hown, hts⟩ (c_X7_family l D cI cO adM H.size hG) (cwV 1 hts gL_law_X7_family rfl rfl rfl (by decide +kernel) ⟨Nat.le_of_ble_eq_true rfl, Nat.le_of_ble_eq_true rfl⟩) (preV hK hN (P_right hP) (D_right hD) (va_recv hK (P_right hP) (ci := 6) (q0 := 0) rfl rfl)) rfl rfl hl.1 rfl (lv_room (Nat.le_of_ble_eq_true rfl)) dL_law_525 ⟨Nat.le_of_ble_eq_true rfl, Nat.le_of_ble_eq_true rfl⟩) hS hP hD hA (fun H locs hP hD hS => ?_)
  refine lv_icmp_eq (tgt := 1211) hx hb dL_law_528 (by decide) (fun _ => kk _ _ H locs hr2 hP hD hS) (fun hne => absurd rfl hne)
set_option maxHeartbeats 4000000 in
set_option maxRecDepth 100000 in
theorem lc_11 {p : Program} {l : Launch} {e : Env} {s : State} {m : MethodId} {below : List Frame} {meth : Method} {c : Code} {b L : Nat} {xs : Nat → Int32} {D : va_G} {cI cO : ClassId} {adB adM : Nat → Nat} (X0 : LX p s m c b L xs D cI cO) {i : Nat} (hL : L ≤ 384) (hi : i + 6 ≤ L) {st mt : St} (hrel : Rel st mt) {Q : State → Prop} {H : Heap} {locs : List Loc} {ls : Array Slot} (hP : va_P D vwCl (BW cI cO adB st ++ MW cI adM mt) H) (hD : va_D (fun q : Nat => s.heap.size ≤ q) (BW cI cO adB st ++ MW cI adM mt)) (hS : va_S (fun q : Nat => s.heap.size ≤ q) s.heap H locs) (hl : lv_has ls 4 [(3, .int (nI i)), (2, .ref (adM 0)), (1, .ref (adB 0)), (0, .ref b)])
    (kk : ∀ (st2 mt2 : St) (H : Heap) (locs : List Loc), Rel st2 mt2 → va_P D vwCl (BW cI cO adB st2 ++ MW cI adM mt2) H → va_D (fun q : Nat => s.heap.size ≤ q) (BW cI cO adB st2 ++ MW cI adM mt2) → va_S (fun q : Nat => s.heap.size ≤ q) s.heap H locs → W p l e room_1 s m #[Value.ref b] below meth c H locs 42 694 Q (F0 m 1211 ls [])) : W p l e room_1 s m #[Value.ref b] below meth c H locs 42 694 Q (F0 m 533 ls []) := by
  obtain ⟨hx, hb, hml, hown, hts, hX, hbl, hK, hN⟩ := X0
  have hbA : ¬ (fun q : Nat => s.heap.size ≤ q) b := Nat.not_le.mpr hbl
  have hA : ∀ q : Nat, s.heap.size ≤ q → (fun q : Nat => s.heap.size ≤ q) q := fun _ h => h
  have hj_1 : vp_in (nI i + 1) L := sc_in 1 hi (by decide) hL
  obtain ⟨x1, ex1⟩ : ∃ z : Int32, z = xs (nI i + 1).toNatClampNeg := ⟨_, rfl⟩
  have hj_2 : vp_in (nI i + 2) L := sc_in 2 hi (by decide) hL
  obtain ⟨x2, ex2⟩ : ∃ z : Int32, z = xs (nI i + 2).toNatClampNeg := ⟨_, rfl⟩
  have hj_3 : vp_in (nI i + 3) L := sc_in 3 hi (by decide) hL
  obtain ⟨x3, ex3⟩ : ∃ z : Int32, z = xs (nI i + 3).toNatClampNeg := ⟨_, rfl⟩
  have hj_4 : vp_in (nI i + 4) L := sc_in 4 hi (by decide) hL
  obtain ⟨x4, ex4⟩ : ∃ z : Int32, z = xs (nI i + 4).toNatClampNeg := ⟨_, rfl⟩
  have hj_5 : vp_in (nI i + 5) L := sc_in 5 hi (by decide) hL
  obtain ⟨x5, ex5⟩ : ∃ z : Int32, z = xs (nI i + 5).toNatClampNeg := ⟨_, rfl⟩
  obtain ⟨r, s2, m2, hF, hG, hr2⟩ := ok_goings hrel x1 x2 x3 x4 x5
  refine lv_aload_n hx hb dL_law_533 rfl (lv_at hl 2 rfl) ?_
  refine lv_aload_n hx hb dL_law_534 rfl (lv_at hl 3 rfl) ?_
  refine lv_iload_n hx hb dL_law_535 rfl (lv_at hl 0 rfl) ?_
  refine lv_iconst (v := 1) hx hb dL_law_536 (by decide) ?_
  refine lv_iadd hx hb dL_law_537 ?_
  refine va_sld hx hb hX hbl hbA hS hj_1 dL_law_538 ?_
  rw [← ex1]
  refine lv_aload_n hx hb dL_law_539 rfl (lv_at hl 3 rfl) ?_
  refine lv_iload_n hx hb dL_law_540 rfl (lv_at hl 0 rfl) ?_
  refine lv_iconst (v := 2) hx hb dL_law_541 (by decide) ?_
  refine lv_iadd hx hb dL_law_542 ?_
  refine va_sld hx hb hX hbl hbA hS hj_2 dL_law_543 ?_
  rw [← ex2]
  refine lv_aload_n hx hb dL_law_544 rfl (lv_at hl 3 rfl) ?_
  refine lv_iload_n hx hb dL_law_545 rfl (lv_at hl 0 rfl) ?_
  refine lv_iconst (v := 3) hx hb dL_law_546 (by decide) ?_
  refine lv_iadd hx hb dL_law_547 ?_
  refine va_sld hx hb hX hbl hbA hS hj_3 dL_law_548 ?_
  rw [← ex3]
  refine lv_aload_n hx hb dL_law_549 rfl (lv_at hl 3 rfl) ?_
  refine lv_iload_n hx hb dL_law_550 rfl (lv_at hl 0 rfl) ?_
  refine lv_iconst (v := 4) hx hb dL_law_551 (by decide) ?_
  refine lv_iadd hx hb dL_law_552 ?_
  refine va_sld hx hb hX hbl hbA hS hj_4 dL_law_553 ?_
  rw [← ex4]
  refine lv_aload_n hx hb dL_law_554 rfl (lv_at hl 3 rfl) ?_
  refine lv_iload_n hx hb dL_law_555 rfl (lv_at hl 0 rfl) ?_
  refine lv_iconst (v := 5) hx hb dL_law_556 (by decide) ?_
  refine lv_iadd hx hb dL_law_557 ?_
  refine va_sld hx hb hX hbl hbA hS hj_5 dL_law_558 ?_
  rw [← ex5]
  refine bl_i (va_runV (As := [.int x1, .int x2, .int x3, .int x4, .int x5]) (rest := []) ⟨hx, hb, hml, hown, hts⟩ (c_X6_goings l D cI cO adB H.size hF) (cwV 5 hts gL_law_X6_goings rfl rfl rfl (by decide +kernel) ⟨Nat.le_of_ble_eq_true rfl, Nat.le_of_ble_eq_true rfl⟩) (preV hK hN (P_left hP) (D_left hD) (va_recv hK (P_left hP) (ci := 5) (q0 := 0) rfl rfl)) rfl rfl hl.1 rfl (lv_room (Nat.le_of_ble_eq_true rfl)) dL_law_559 ⟨Nat.le_of_ble_eq_true rfl, Nat.le_of_ble_eq_true rfl⟩) hS hP hD hA (fun H locs hP hD hS => ?_)
  refine lv_aload_n hx hb dL_law_562 rfl (lv_at hl 1 rfl) ?_
  refine lv_aload_n hx hb dL_law_563 rfl (lv_at hl 3 rfl) ?_
  refine lv_iload_n hx hb dL_law_564 rfl (lv_at hl 0 rfl) ?_
  refine lv_iconst (v := 1) hx hb dL_law_565 (by decide) ?_
  refine lv_iadd hx hb dL_law_566 ?_
  refine va_sld hx hb hX hbl hbA hS hj_1 dL_law_567 ?_
  rw [← ex1]
  refine lv_aload_n hx hb dL_law_568 rfl (lv_at hl 3 rfl) ?_
  refine lv_iload_n hx hb dL_law_569 rfl (lv_at hl 0 rfl) ?_
  refine lv_iconst (v := 2) hx hb dL_law_570 (by decide) ?_
  refine lv_iadd hx hb dL_law_571 ?_
  refine va_sld hx hb hX hbl hbA hS hj_2 dL_law_572 ?_
  rw [← ex2]
  refine lv_aload_n hx hb dL_law_573 rfl (lv_at hl 3 rfl) ?_
  refine lv_iload_n hx hb dL_law_574 rfl (lv_at hl 0 rfl) ?_
  refine lv_iconst (v := 3) hx hb dL_law_575 (by decide) ?_
  refine lv_iadd hx hb dL_law_576 ?_
  refine va_sld hx hb hX hbl hbA hS hj_3 dL_law_577 ?_
  rw [← ex3]
  refine lv_aload_n hx hb dL_law_578 rfl (lv_at hl 3 rfl) ?_
  refine lv_iload_n hx hb dL_law_579 rfl (lv_at hl 0 rfl) ?_
  refine lv_iconst (v := 4) hx hb dL_law_580 (by decide) ?_
  refine lv_iadd hx hb dL_law_581 ?_
  refine va_sld hx hb hX hbl hbA hS hj_4 dL_law_582 ?_
  rw [← ex4]
  refine lv_aload_n hx hb dL_law_583 rfl (lv_at hl 3 rfl) ?_
  refine lv_iload_n hx hb dL_law_584 rfl (lv_at hl 0 rfl) ?_
  refine lv_iconst (v := 5) hx hb dL_law_585 (by decide) ?_
  refine lv_iadd hx hb dL_law_586 ?_
  refine va_sld hx hb hX hbl hbA hS hj_5 dL_law_587 ?_
  rw [← ex5]
  refine br_i (va_runV (As := [.int x1, .int x2, .int x3, .int x4, .int x5]) (rest := [.int r]) ⟨hx, hb, hml, hown, hts⟩ (c_X7_goings l D cI cO adM H.size hG) (cwV 5 hts gL_law_X7_goings rfl rfl rfl (by decide +kernel) ⟨Nat.le_of_ble_eq_true rfl, Nat.le_of_ble_eq_true rfl⟩) (preV hK hN (P_right hP) (D_right hD) (va_recv hK (P_right hP) (ci := 6) (q0 := 0) rfl rfl)) rfl rfl hl.1 rfl (lv_room (Nat.le_of_ble_eq_true rfl)) dL_law_588 ⟨Nat.le_of_ble_eq_true rfl, Nat.le_of_ble_eq_true rfl⟩) hS hP hD hA (fun H locs hP hD hS => ?_)
  refine lv_icmp_eq (tgt := 1211) hx hb dL_law_591 (by decide) (fun _ => kk _ _ H locs hr2 hP hD hS) (fun hne => absurd rfl hne)
set_option maxHeartbeats 4000000 in
set_option maxRecDepth 100000 in
theorem lc_12 {p : Program} {l : Launch} {e : Env} {s : State} {m : MethodId} {below : List Frame} {meth : Method} {c : Code} {b L : Nat} {xs : Nat → Int32} {D : va_G} {cI cO : ClassId} {adB adM : Nat → Nat} (X0 : LX p s m c b L xs D cI cO) {i : Nat} (hL : L ≤ 384) (hi : i + 6 ≤ L) {st mt : St} (hrel : Rel st mt) {Q : State → Prop} {H : Heap} {locs : List Loc} {ls : Array Slot} (hP : va_P D vwCl (BW cI cO adB st ++ MW cI adM mt) H) (hD : va_D (fun q : Nat => s.heap.size ≤ q) (BW cI cO adB st ++ MW cI adM mt)) (hS : va_S (fun q : Nat => s.heap.size ≤ q) s.heap H locs) (hl : lv_has ls 4 [(3, .int (nI i)), (2, .ref (adM 0)), (1, .ref (adB 0)), (0, .ref b)])
    (kk : ∀ (st2 mt2 : St) (H : Heap) (locs : List Loc), Rel st2 mt2 → va_P D vwCl (BW cI cO adB st2 ++ MW cI adM mt2) H → va_D (fun q : Nat => s.heap.size ≤ q) (BW cI cO adB st2 ++ MW cI adM mt2) → va_S (fun q : Nat => s.heap.size ≤ q) s.heap H locs → W p l e room_1 s m #[Value.ref b] below meth c H locs 42 694 Q (F0 m 1211 ls [])) : W p l e room_1 s m #[Value.ref b] below meth c H locs 42 694 Q (F0 m 596 ls []) := by
  obtain ⟨hx, hb, hml, hown, hts, hX, hbl, hK, hN⟩ := X0
  have hbA : ¬ (fun q : Nat => s.heap.size ≤ q) b := Nat.not_le.mpr hbl
  have hA : ∀ q : Nat, s.heap.size ≤ q → (fun q : Nat => s.heap.size ≤ q) q := fun _ h => h
  have hj_1 : vp_in (nI i + 1) L := sc_in 1 hi (by decide) hL
  obtain ⟨x1, ex1⟩ : ∃ z : Int32, z = xs (nI i + 1).toNatClampNeg := ⟨_, rfl⟩
  obtain ⟨r, hF, hG, hr2⟩ := ok_post hrel x1
  refine lv_aload_n hx hb dL_law_596 rfl (lv_at hl 2 rfl) ?_
  refine lv_aload_n hx hb dL_law_597 rfl (lv_at hl 3 rfl) ?_
  refine lv_iload_n hx hb dL_law_598 rfl (lv_at hl 0 rfl) ?_
  refine lv_iconst (v := 1) hx hb dL_law_599 (by decide) ?_
  refine lv_iadd hx hb dL_law_600 ?_
  refine va_sld hx hb hX hbl hbA hS hj_1 dL_law_601 ?_
  rw [← ex1]
  refine bl_i (va_runV (As := [.int x1]) (rest := []) ⟨hx, hb, hml, hown, hts⟩ (c_X6_post l D cI cO adB H.size hF) (cwV 1 hts gL_law_X6_post rfl rfl rfl (by decide +kernel) ⟨Nat.le_of_ble_eq_true rfl, Nat.le_of_ble_eq_true rfl⟩) (preV hK hN (P_left hP) (D_left hD) (va_recv hK (P_left hP) (ci := 5) (q0 := 0) rfl rfl)) rfl rfl hl.1 rfl (lv_room (Nat.le_of_ble_eq_true rfl)) dL_law_602 ⟨Nat.le_of_ble_eq_true rfl, Nat.le_of_ble_eq_true rfl⟩) hS hP hD hA (fun H locs hP hD hS => ?_)
  refine lv_aload_n hx hb dL_law_605 rfl (lv_at hl 1 rfl) ?_
  refine lv_aload_n hx hb dL_law_606 rfl (lv_at hl 3 rfl) ?_
  refine lv_iload_n hx hb dL_law_607 rfl (lv_at hl 0 rfl) ?_
  refine lv_iconst (v := 1) hx hb dL_law_608 (by decide) ?_
  refine lv_iadd hx hb dL_law_609 ?_
  refine va_sld hx hb hX hbl hbA hS hj_1 dL_law_610 ?_
  rw [← ex1]
  refine br_i (va_runV (As := [.int x1]) (rest := [.int r]) ⟨hx, hb, hml, hown, hts⟩ (c_X7_post l D cI cO adM H.size hG) (cwV 1 hts gL_law_X7_post rfl rfl rfl (by decide +kernel) ⟨Nat.le_of_ble_eq_true rfl, Nat.le_of_ble_eq_true rfl⟩) (preV hK hN (P_right hP) (D_right hD) (va_recv hK (P_right hP) (ci := 6) (q0 := 0) rfl rfl)) rfl rfl hl.1 rfl (lv_room (Nat.le_of_ble_eq_true rfl)) dL_law_611 ⟨Nat.le_of_ble_eq_true rfl, Nat.le_of_ble_eq_true rfl⟩) hS hP hD hA (fun H locs hP hD hS => ?_)
  refine lv_icmp_eq (tgt := 1211) hx hb dL_law_614 (by decide) (fun _ => kk _ _ H locs hr2 hP hD hS) (fun hne => absurd rfl hne)
set_option maxHeartbeats 4000000 in
set_option maxRecDepth 100000 in
theorem lc_13 {p : Program} {l : Launch} {e : Env} {s : State} {m : MethodId} {below : List Frame} {meth : Method} {c : Code} {b L : Nat} {xs : Nat → Int32} {D : va_G} {cI cO : ClassId} {adB adM : Nat → Nat} (X0 : LX p s m c b L xs D cI cO) {i : Nat} (hL : L ≤ 384) (hi : i + 6 ≤ L) {st mt : St} (hrel : Rel st mt) {Q : State → Prop} {H : Heap} {locs : List Loc} {ls : Array Slot} (hP : va_P D vwCl (BW cI cO adB st ++ MW cI adM mt) H) (hD : va_D (fun q : Nat => s.heap.size ≤ q) (BW cI cO adB st ++ MW cI adM mt)) (hS : va_S (fun q : Nat => s.heap.size ≤ q) s.heap H locs) (hl : lv_has ls 4 [(3, .int (nI i)), (2, .ref (adM 0)), (1, .ref (adB 0)), (0, .ref b)])
    (kk : ∀ (st2 mt2 : St) (H : Heap) (locs : List Loc), Rel st2 mt2 → va_P D vwCl (BW cI cO adB st2 ++ MW cI adM mt2) H → va_D (fun q : Nat => s.heap.size ≤ q) (BW cI cO adB st2 ++ MW cI adM mt2) → va_S (fun q : Nat => s.heap.size ≤ q) s.heap H locs → W p l e room_1 s m #[Value.ref b] below meth c H locs 42 694 Q (F0 m 1211 ls [])) : W p l e room_1 s m #[Value.ref b] below meth c H locs 42 694 Q (F0 m 619 ls []) := by
  obtain ⟨hx, hb, hml, hown, hts, hX, hbl, hK, hN⟩ := X0
  have hbA : ¬ (fun q : Nat => s.heap.size ≤ q) b := Nat.not_le.mpr hbl
  have hA : ∀ q : Nat, s.heap.size ≤ q → (fun q : Nat => s.heap.size ≤ q) q := fun _ h => h
  have hj_1 : vp_in (nI i + 1) L := sc_in 1 hi (by decide) hL
  obtain ⟨x1, ex1⟩ : ∃ z : Int32, z = xs (nI i + 1).toNatClampNeg := ⟨_, rfl⟩
  have hj_2 : vp_in (nI i + 2) L := sc_in 2 hi (by decide) hL
  obtain ⟨x2, ex2⟩ : ∃ z : Int32, z = xs (nI i + 2).toNatClampNeg := ⟨_, rfl⟩
  obtain ⟨r, hF, hG, hr2⟩ := ok_call hrel x1 x2
  refine lv_aload_n hx hb dL_law_619 rfl (lv_at hl 2 rfl) ?_
  refine lv_aload_n hx hb dL_law_620 rfl (lv_at hl 3 rfl) ?_
  refine lv_iload_n hx hb dL_law_621 rfl (lv_at hl 0 rfl) ?_
  refine lv_iconst (v := 1) hx hb dL_law_622 (by decide) ?_
  refine lv_iadd hx hb dL_law_623 ?_
  refine va_sld hx hb hX hbl hbA hS hj_1 dL_law_624 ?_
  rw [← ex1]
  refine lv_aload_n hx hb dL_law_625 rfl (lv_at hl 3 rfl) ?_
  refine lv_iload_n hx hb dL_law_626 rfl (lv_at hl 0 rfl) ?_
  refine lv_iconst (v := 2) hx hb dL_law_627 (by decide) ?_
  refine lv_iadd hx hb dL_law_628 ?_
  refine va_sld hx hb hX hbl hbA hS hj_2 dL_law_629 ?_
  rw [← ex2]
  refine bl_i (va_runV (As := [.int x1, .int x2]) (rest := []) ⟨hx, hb, hml, hown, hts⟩ (c_X6_call l D cI cO adB H.size hF) (cwV 2 hts gL_law_X6_call rfl rfl rfl (by decide +kernel) ⟨Nat.le_of_ble_eq_true rfl, Nat.le_of_ble_eq_true rfl⟩) (preV hK hN (P_left hP) (D_left hD) (va_recv hK (P_left hP) (ci := 5) (q0 := 0) rfl rfl)) rfl rfl hl.1 rfl (lv_room (Nat.le_of_ble_eq_true rfl)) dL_law_630 ⟨Nat.le_of_ble_eq_true rfl, Nat.le_of_ble_eq_true rfl⟩) hS hP hD hA (fun H locs hP hD hS => ?_)
  refine lv_aload_n hx hb dL_law_633 rfl (lv_at hl 1 rfl) ?_
  refine lv_aload_n hx hb dL_law_634 rfl (lv_at hl 3 rfl) ?_
  refine lv_iload_n hx hb dL_law_635 rfl (lv_at hl 0 rfl) ?_
  refine lv_iconst (v := 1) hx hb dL_law_636 (by decide) ?_
  refine lv_iadd hx hb dL_law_637 ?_
  refine va_sld hx hb hX hbl hbA hS hj_1 dL_law_638 ?_
  rw [← ex1]
  refine lv_aload_n hx hb dL_law_639 rfl (lv_at hl 3 rfl) ?_
  refine lv_iload_n hx hb dL_law_640 rfl (lv_at hl 0 rfl) ?_
  refine lv_iconst (v := 2) hx hb dL_law_641 (by decide) ?_
  refine lv_iadd hx hb dL_law_642 ?_
  refine va_sld hx hb hX hbl hbA hS hj_2 dL_law_643 ?_
  rw [← ex2]
  refine br_i (va_runV (As := [.int x1, .int x2]) (rest := [.int r]) ⟨hx, hb, hml, hown, hts⟩ (c_X7_call l D cI cO adM H.size hG) (cwV 2 hts gL_law_X7_call rfl rfl rfl (by decide +kernel) ⟨Nat.le_of_ble_eq_true rfl, Nat.le_of_ble_eq_true rfl⟩) (preV hK hN (P_right hP) (D_right hD) (va_recv hK (P_right hP) (ci := 6) (q0 := 0) rfl rfl)) rfl rfl hl.1 rfl (lv_room (Nat.le_of_ble_eq_true rfl)) dL_law_644 ⟨Nat.le_of_ble_eq_true rfl, Nat.le_of_ble_eq_true rfl⟩) hS hP hD hA (fun H locs hP hD hS => ?_)
  refine lv_icmp_eq (tgt := 1211) hx hb dL_law_647 (by decide) (fun _ => kk _ _ H locs hr2 hP hD hS) (fun hne => absurd rfl hne)
set_option maxHeartbeats 4000000 in
set_option maxRecDepth 100000 in
theorem lc_14 {p : Program} {l : Launch} {e : Env} {s : State} {m : MethodId} {below : List Frame} {meth : Method} {c : Code} {b L : Nat} {xs : Nat → Int32} {D : va_G} {cI cO : ClassId} {adB adM : Nat → Nat} (X0 : LX p s m c b L xs D cI cO) {i : Nat} (hL : L ≤ 384) (hi : i + 6 ≤ L) {st mt : St} (hrel : Rel st mt) {Q : State → Prop} {H : Heap} {locs : List Loc} {ls : Array Slot} (hP : va_P D vwCl (BW cI cO adB st ++ MW cI adM mt) H) (hD : va_D (fun q : Nat => s.heap.size ≤ q) (BW cI cO adB st ++ MW cI adM mt)) (hS : va_S (fun q : Nat => s.heap.size ≤ q) s.heap H locs) (hl : lv_has ls 4 [(3, .int (nI i)), (2, .ref (adM 0)), (1, .ref (adB 0)), (0, .ref b)])
    (kk : ∀ (st2 mt2 : St) (H : Heap) (locs : List Loc), Rel st2 mt2 → va_P D vwCl (BW cI cO adB st2 ++ MW cI adM mt2) H → va_D (fun q : Nat => s.heap.size ≤ q) (BW cI cO adB st2 ++ MW cI adM mt2) → va_S (fun q : Nat => s.heap.size ≤ q) s.heap H locs → W p l e room_1 s m #[Value.ref b] below meth c H locs 42 694 Q (F0 m 1211 ls [])) : W p l e room_1 s m #[Value.ref b] below meth c H locs 42 694 Q (F0 m 652 ls []) := by
  obtain ⟨hx, hb, hml, hown, hts, hX, hbl, hK, hN⟩ := X0
  have hbA : ¬ (fun q : Nat => s.heap.size ≤ q) b := Nat.not_le.mpr hbl
  have hA : ∀ q : Nat, s.heap.size ≤ q → (fun q : Nat => s.heap.size ≤ q) q := fun _ h => h
  have hj_1 : vp_in (nI i + 1) L := sc_in 1 hi (by decide) hL
  obtain ⟨x1, ex1⟩ : ∃ z : Int32, z = xs (nI i + 1).toNatClampNeg := ⟨_, rfl⟩
  obtain ⟨r, m2, hF, hG, hr2⟩ := ok_cast hrel x1
  refine lv_aload_n hx hb dL_law_652 rfl (lv_at hl 2 rfl) ?_
  refine lv_aload_n hx hb dL_law_653 rfl (lv_at hl 3 rfl) ?_
  refine lv_iload_n hx hb dL_law_654 rfl (lv_at hl 0 rfl) ?_
  refine lv_iconst (v := 1) hx hb dL_law_655 (by decide) ?_
  refine lv_iadd hx hb dL_law_656 ?_
  refine va_sld hx hb hX hbl hbA hS hj_1 dL_law_657 ?_
  rw [← ex1]
  refine bl_i (va_runV (As := [.int x1]) (rest := []) ⟨hx, hb, hml, hown, hts⟩ (c_X6_cast l D cI cO adB H.size hF) (cwV 1 hts gL_law_X6_cast rfl rfl rfl (by decide +kernel) ⟨Nat.le_of_ble_eq_true rfl, Nat.le_of_ble_eq_true rfl⟩) (preV hK hN (P_left hP) (D_left hD) (va_recv hK (P_left hP) (ci := 5) (q0 := 0) rfl rfl)) rfl rfl hl.1 rfl (lv_room (Nat.le_of_ble_eq_true rfl)) dL_law_658 ⟨Nat.le_of_ble_eq_true rfl, Nat.le_of_ble_eq_true rfl⟩) hS hP hD hA (fun H locs hP hD hS => ?_)
  refine lv_aload_n hx hb dL_law_661 rfl (lv_at hl 1 rfl) ?_
  refine lv_aload_n hx hb dL_law_662 rfl (lv_at hl 3 rfl) ?_
  refine lv_iload_n hx hb dL_law_663 rfl (lv_at hl 0 rfl) ?_
  refine lv_iconst (v := 1) hx hb dL_law_664 (by decide) ?_
  refine lv_iadd hx hb dL_law_665 ?_
  refine va_sld hx hb hX hbl hbA hS hj_1 dL_law_666 ?_
  rw [← ex1]
  refine br_i (va_runV (As := [.int x1]) (rest := [.int r]) ⟨hx, hb, hml, hown, hts⟩ (c_X7_cast l D cI cO adM H.size hG) (cwV 1 hts gL_law_X7_cast rfl rfl rfl (by decide +kernel) ⟨Nat.le_of_ble_eq_true rfl, Nat.le_of_ble_eq_true rfl⟩) (preV hK hN (P_right hP) (D_right hD) (va_recv hK (P_right hP) (ci := 6) (q0 := 0) rfl rfl)) rfl rfl hl.1 rfl (lv_room (Nat.le_of_ble_eq_true rfl)) dL_law_667 ⟨Nat.le_of_ble_eq_true rfl, Nat.le_of_ble_eq_true rfl⟩) hS hP hD hA (fun H locs hP hD hS => ?_)
  refine lv_icmp_eq (tgt := 1211) hx hb dL_law_670 (by decide) (fun _ => kk _ _ H locs hr2 hP hD hS) (fun hne => absurd rfl hne)
set_option maxHeartbeats 4000000 in
set_option maxRecDepth 100000 in
theorem lc_15 {p : Program} {l : Launch} {e : Env} {s : State} {m : MethodId} {below : List Frame} {meth : Method} {c : Code} {b L : Nat} {xs : Nat → Int32} {D : va_G} {cI cO : ClassId} {adB adM : Nat → Nat} (X0 : LX p s m c b L xs D cI cO) {i : Nat} (hL : L ≤ 384) (hi : i + 6 ≤ L) {st mt : St} (hrel : Rel st mt) {Q : State → Prop} {H : Heap} {locs : List Loc} {ls : Array Slot} (hP : va_P D vwCl (BW cI cO adB st ++ MW cI adM mt) H) (hD : va_D (fun q : Nat => s.heap.size ≤ q) (BW cI cO adB st ++ MW cI adM mt)) (hS : va_S (fun q : Nat => s.heap.size ≤ q) s.heap H locs) (hl : lv_has ls 4 [(3, .int (nI i)), (2, .ref (adM 0)), (1, .ref (adB 0)), (0, .ref b)])
    (kk : ∀ (st2 mt2 : St) (H : Heap) (locs : List Loc), Rel st2 mt2 → va_P D vwCl (BW cI cO adB st2 ++ MW cI adM mt2) H → va_D (fun q : Nat => s.heap.size ≤ q) (BW cI cO adB st2 ++ MW cI adM mt2) → va_S (fun q : Nat => s.heap.size ≤ q) s.heap H locs → W p l e room_1 s m #[Value.ref b] below meth c H locs 42 694 Q (F0 m 1211 ls [])) : W p l e room_1 s m #[Value.ref b] below meth c H locs 42 694 Q (F0 m 675 ls []) := by
  obtain ⟨hx, hb, hml, hown, hts, hX, hbl, hK, hN⟩ := X0
  have hbA : ¬ (fun q : Nat => s.heap.size ≤ q) b := Nat.not_le.mpr hbl
  have hA : ∀ q : Nat, s.heap.size ≤ q → (fun q : Nat => s.heap.size ≤ q) q := fun _ h => h
  have hj_1 : vp_in (nI i + 1) L := sc_in 1 hi (by decide) hL
  obtain ⟨x1, ex1⟩ : ∃ z : Int32, z = xs (nI i + 1).toNatClampNeg := ⟨_, rfl⟩
  obtain ⟨r, s2, m2, hF, hG, hr2⟩ := ok_choir hrel x1
  refine lv_aload_n hx hb dL_law_675 rfl (lv_at hl 2 rfl) ?_
  refine lv_aload_n hx hb dL_law_676 rfl (lv_at hl 3 rfl) ?_
  refine lv_iload_n hx hb dL_law_677 rfl (lv_at hl 0 rfl) ?_
  refine lv_iconst (v := 1) hx hb dL_law_678 (by decide) ?_
  refine lv_iadd hx hb dL_law_679 ?_
  refine va_sld hx hb hX hbl hbA hS hj_1 dL_law_680 ?_
  rw [← ex1]
  refine bl_i (va_runV (As := [.int x1]) (rest := []) ⟨hx, hb, hml, hown, hts⟩ (c_X6_choir l D cI cO adB H.size hF) (cwV 1 hts gL_law_X6_choir rfl rfl rfl (by decide +kernel) ⟨Nat.le_of_ble_eq_true rfl, Nat.le_of_ble_eq_true rfl⟩) (preV hK hN (P_left hP) (D_left hD) (va_recv hK (P_left hP) (ci := 5) (q0 := 0) rfl rfl)) rfl rfl hl.1 rfl (lv_room (Nat.le_of_ble_eq_true rfl)) dL_law_681 ⟨Nat.le_of_ble_eq_true rfl, Nat.le_of_ble_eq_true rfl⟩) hS hP hD hA (fun H locs hP hD hS => ?_)
  refine lv_aload_n hx hb dL_law_684 rfl (lv_at hl 1 rfl) ?_
  refine lv_aload_n hx hb dL_law_685 rfl (lv_at hl 3 rfl) ?_
  refine lv_iload_n hx hb dL_law_686 rfl (lv_at hl 0 rfl) ?_
  refine lv_iconst (v := 1) hx hb dL_law_687 (by decide) ?_
  refine lv_iadd hx hb dL_law_688 ?_
  refine va_sld hx hb hX hbl hbA hS hj_1 dL_law_689 ?_
  rw [← ex1]
  refine br_i (va_runV (As := [.int x1]) (rest := [.int r]) ⟨hx, hb, hml, hown, hts⟩ (c_X7_choir l D cI cO adM H.size hG) (cwV 1 hts gL_law_X7_choir rfl rfl rfl (by decide +kernel) ⟨Nat.le_of_ble_eq_true rfl, Nat.le_of_ble_eq_true rfl⟩) (preV hK hN (P_right hP) (D_right hD) (va_recv hK (P_right hP) (ci := 6) (q0 := 0) rfl rfl)) rfl rfl hl.1 rfl (lv_room (Nat.le_of_ble_eq_true rfl)) dL_law_690 ⟨Nat.le_of_ble_eq_true rfl, Nat.le_of_ble_eq_true rfl⟩) hS hP hD hA (fun H locs hP hD hS => ?_)
  refine lv_icmp_eq (tgt := 1211) hx hb dL_law_693 (by decide) (fun _ => kk _ _ H locs hr2 hP hD hS) (fun hne => absurd rfl hne)
set_option maxHeartbeats 4000000 in
set_option maxRecDepth 100000 in
theorem lc_16 {p : Program} {l : Launch} {e : Env} {s : State} {m : MethodId} {below : List Frame} {meth : Method} {c : Code} {b L : Nat} {xs : Nat → Int32} {D : va_G} {cI cO : ClassId} {adB adM : Nat → Nat} (X0 : LX p s m c b L xs D cI cO) {i : Nat} (hL : L ≤ 384) (hi : i + 6 ≤ L) {st mt : St} (hrel : Rel st mt) {Q : State → Prop} {H : Heap} {locs : List Loc} {ls : Array Slot} (hP : va_P D vwCl (BW cI cO adB st ++ MW cI adM mt) H) (hD : va_D (fun q : Nat => s.heap.size ≤ q) (BW cI cO adB st ++ MW cI adM mt)) (hS : va_S (fun q : Nat => s.heap.size ≤ q) s.heap H locs) (hl : lv_has ls 4 [(3, .int (nI i)), (2, .ref (adM 0)), (1, .ref (adB 0)), (0, .ref b)])
    (kk : ∀ (st2 mt2 : St) (H : Heap) (locs : List Loc), Rel st2 mt2 → va_P D vwCl (BW cI cO adB st2 ++ MW cI adM mt2) H → va_D (fun q : Nat => s.heap.size ≤ q) (BW cI cO adB st2 ++ MW cI adM mt2) → va_S (fun q : Nat => s.heap.size ≤ q) s.heap H locs → W p l e room_1 s m #[Value.ref b] below meth c H locs 42 694 Q (F0 m 1211 ls [])) : W p l e room_1 s m #[Value.ref b] below meth c H locs 42 694 Q (F0 m 698 ls []) := by
  obtain ⟨hx, hb, hml, hown, hts, hX, hbl, hK, hN⟩ := X0
  have hbA : ¬ (fun q : Nat => s.heap.size ≤ q) b := Nat.not_le.mpr hbl
  have hA : ∀ q : Nat, s.heap.size ≤ q → (fun q : Nat => s.heap.size ≤ q) q := fun _ h => h
  have hj_1 : vp_in (nI i + 1) L := sc_in 1 hi (by decide) hL
  obtain ⟨x1, ex1⟩ : ∃ z : Int32, z = xs (nI i + 1).toNatClampNeg := ⟨_, rfl⟩
  have hj_2 : vp_in (nI i + 2) L := sc_in 2 hi (by decide) hL
  obtain ⟨x2, ex2⟩ : ∃ z : Int32, z = xs (nI i + 2).toNatClampNeg := ⟨_, rfl⟩
  have hj_3 : vp_in (nI i + 3) L := sc_in 3 hi (by decide) hL
  obtain ⟨x3, ex3⟩ : ∃ z : Int32, z = xs (nI i + 3).toNatClampNeg := ⟨_, rfl⟩
  obtain ⟨r, s2, m2, hF, hG, hr2⟩ := ok_reading hrel x1 x2 x3
  refine lv_aload_n hx hb dL_law_698 rfl (lv_at hl 2 rfl) ?_
  refine lv_aload_n hx hb dL_law_699 rfl (lv_at hl 3 rfl) ?_
  refine lv_iload_n hx hb dL_law_700 rfl (lv_at hl 0 rfl) ?_
  refine lv_iconst (v := 1) hx hb dL_law_701 (by decide) ?_
  refine lv_iadd hx hb dL_law_702 ?_
  refine va_sld hx hb hX hbl hbA hS hj_1 dL_law_703 ?_
  rw [← ex1]
  refine lv_aload_n hx hb dL_law_704 rfl (lv_at hl 3 rfl) ?_
  refine lv_iload_n hx hb dL_law_705 rfl (lv_at hl 0 rfl) ?_
  refine lv_iconst (v := 2) hx hb dL_law_706 (by decide) ?_
  refine lv_iadd hx hb dL_law_707 ?_
  refine va_sld hx hb hX hbl hbA hS hj_2 dL_law_708 ?_
  rw [← ex2]
  refine lv_aload_n hx hb dL_law_709 rfl (lv_at hl 3 rfl) ?_
  refine lv_iload_n hx hb dL_law_710 rfl (lv_at hl 0 rfl) ?_
  refine lv_iconst (v := 3) hx hb dL_law_711 (by decide) ?_
  refine lv_iadd hx hb dL_law_712 ?_
  refine va_sld hx hb hX hbl hbA hS hj_3 dL_law_713 ?_
  rw [← ex3]
  refine bl_i (va_runV (As := [.int x1, .int x2, .int x3]) (rest := []) ⟨hx, hb, hml, hown, hts⟩ (c_X6_reading l D cI cO adB H.size hF) (cwV 3 hts gL_law_X6_reading rfl rfl rfl (by decide +kernel) ⟨Nat.le_of_ble_eq_true rfl, Nat.le_of_ble_eq_true rfl⟩) (preV hK hN (P_left hP) (D_left hD) (va_recv hK (P_left hP) (ci := 5) (q0 := 0) rfl rfl)) rfl rfl hl.1 rfl (lv_room (Nat.le_of_ble_eq_true rfl)) dL_law_714 ⟨Nat.le_of_ble_eq_true rfl, Nat.le_of_ble_eq_true rfl⟩) hS hP hD hA (fun H locs hP hD hS => ?_)
  refine lv_aload_n hx hb dL_law_717 rfl (lv_at hl 1 rfl) ?_
  refine lv_aload_n hx hb dL_law_718 rfl (lv_at hl 3 rfl) ?_
  refine lv_iload_n hx hb dL_law_719 rfl (lv_at hl 0 rfl) ?_
  refine lv_iconst (v := 1) hx hb dL_law_720 (by decide) ?_
  refine lv_iadd hx hb dL_law_721 ?_
  refine va_sld hx hb hX hbl hbA hS hj_1 dL_law_722 ?_
  rw [← ex1]
  refine lv_aload_n hx hb dL_law_723 rfl (lv_at hl 3 rfl) ?_
  refine lv_iload_n hx hb dL_law_724 rfl (lv_at hl 0 rfl) ?_
  refine lv_iconst (v := 2) hx hb dL_law_725 (by decide) ?_
  refine lv_iadd hx hb dL_law_726 ?_
  refine va_sld hx hb hX hbl hbA hS hj_2 dL_law_727 ?_
  rw [← ex2]
  refine lv_aload_n hx hb dL_law_728 rfl (lv_at hl 3 rfl) ?_
  refine lv_iload_n hx hb dL_law_729 rfl (lv_at hl 0 rfl) ?_
  refine lv_iconst (v := 3) hx hb dL_law_730 (by decide) ?_
  refine lv_iadd hx hb dL_law_731 ?_
  refine va_sld hx hb hX hbl hbA hS hj_3 dL_law_732 ?_
  rw [← ex3]
  refine br_i (va_runV (As := [.int x1, .int x2, .int x3]) (rest := [.int r]) ⟨hx, hb, hml, hown, hts⟩ (c_X7_reading l D cI cO adM H.size hG) (cwV 3 hts gL_law_X7_reading rfl rfl rfl (by decide +kernel) ⟨Nat.le_of_ble_eq_true rfl, Nat.le_of_ble_eq_true rfl⟩) (preV hK hN (P_right hP) (D_right hD) (va_recv hK (P_right hP) (ci := 6) (q0 := 0) rfl rfl)) rfl rfl hl.1 rfl (lv_room (Nat.le_of_ble_eq_true rfl)) dL_law_733 ⟨Nat.le_of_ble_eq_true rfl, Nat.le_of_ble_eq_true rfl⟩) hS hP hD hA (fun H locs hP hD hS => ?_)
  refine lv_icmp_eq (tgt := 1211) hx hb dL_law_736 (by decide) (fun _ => kk _ _ H locs hr2 hP hD hS) (fun hne => absurd rfl hne)
set_option maxHeartbeats 4000000 in
set_option maxRecDepth 100000 in
theorem lc_17 {p : Program} {l : Launch} {e : Env} {s : State} {m : MethodId} {below : List Frame} {meth : Method} {c : Code} {b L : Nat} {xs : Nat → Int32} {D : va_G} {cI cO : ClassId} {adB adM : Nat → Nat} (X0 : LX p s m c b L xs D cI cO) {i : Nat} (hL : L ≤ 384) (hi : i + 6 ≤ L) {st mt : St} (hrel : Rel st mt) {Q : State → Prop} {H : Heap} {locs : List Loc} {ls : Array Slot} (hP : va_P D vwCl (BW cI cO adB st ++ MW cI adM mt) H) (hD : va_D (fun q : Nat => s.heap.size ≤ q) (BW cI cO adB st ++ MW cI adM mt)) (hS : va_S (fun q : Nat => s.heap.size ≤ q) s.heap H locs) (hl : lv_has ls 4 [(3, .int (nI i)), (2, .ref (adM 0)), (1, .ref (adB 0)), (0, .ref b)])
    (kk : ∀ (st2 mt2 : St) (H : Heap) (locs : List Loc), Rel st2 mt2 → va_P D vwCl (BW cI cO adB st2 ++ MW cI adM mt2) H → va_D (fun q : Nat => s.heap.size ≤ q) (BW cI cO adB st2 ++ MW cI adM mt2) → va_S (fun q : Nat => s.heap.size ≤ q) s.heap H locs → W p l e room_1 s m #[Value.ref b] below meth c H locs 42 694 Q (F0 m 1211 ls [])) : W p l e room_1 s m #[Value.ref b] below meth c H locs 42 694 Q (F0 m 741 ls []) := by
  obtain ⟨hx, hb, hml, hown, hts, hX, hbl, hK, hN⟩ := X0
  have hbA : ¬ (fun q : Nat => s.heap.size ≤ q) b := Nat.not_le.mpr hbl
  have hA : ∀ q : Nat, s.heap.size ≤ q → (fun q : Nat => s.heap.size ≤ q) q := fun _ h => h
  have hj_1 : vp_in (nI i + 1) L := sc_in 1 hi (by decide) hL
  obtain ⟨x1, ex1⟩ : ∃ z : Int32, z = xs (nI i + 1).toNatClampNeg := ⟨_, rfl⟩
  obtain ⟨r, s2, m2, hF, hG, hr2⟩ := ok_back hrel x1
  refine lv_aload_n hx hb dL_law_741 rfl (lv_at hl 2 rfl) ?_
  refine lv_aload_n hx hb dL_law_742 rfl (lv_at hl 3 rfl) ?_
  refine lv_iload_n hx hb dL_law_743 rfl (lv_at hl 0 rfl) ?_
  refine lv_iconst (v := 1) hx hb dL_law_744 (by decide) ?_
  refine lv_iadd hx hb dL_law_745 ?_
  refine va_sld hx hb hX hbl hbA hS hj_1 dL_law_746 ?_
  rw [← ex1]
  refine bl_i (va_runV (As := [.int x1]) (rest := []) ⟨hx, hb, hml, hown, hts⟩ (c_X6_back l D cI cO adB H.size hF) (cwV 1 hts gL_law_X6_back rfl rfl rfl (by decide +kernel) ⟨Nat.le_of_ble_eq_true rfl, Nat.le_of_ble_eq_true rfl⟩) (preV hK hN (P_left hP) (D_left hD) (va_recv hK (P_left hP) (ci := 5) (q0 := 0) rfl rfl)) rfl rfl hl.1 rfl (lv_room (Nat.le_of_ble_eq_true rfl)) dL_law_747 ⟨Nat.le_of_ble_eq_true rfl, Nat.le_of_ble_eq_true rfl⟩) hS hP hD hA (fun H locs hP hD hS => ?_)
  refine lv_aload_n hx hb dL_law_750 rfl (lv_at hl 1 rfl) ?_
  refine lv_aload_n hx hb dL_law_751 rfl (lv_at hl 3 rfl) ?_
  refine lv_iload_n hx hb dL_law_752 rfl (lv_at hl 0 rfl) ?_
  refine lv_iconst (v := 1) hx hb dL_law_753 (by decide) ?_
  refine lv_iadd hx hb dL_law_754 ?_
  refine va_sld hx hb hX hbl hbA hS hj_1 dL_law_755 ?_
  rw [← ex1]
  refine br_i (va_runV (As := [.int x1]) (rest := [.int r]) ⟨hx, hb, hml, hown, hts⟩ (c_X7_back l D cI cO adM H.size hG) (cwV 1 hts gL_law_X7_back rfl rfl rfl (by decide +kernel) ⟨Nat.le_of_ble_eq_true rfl, Nat.le_of_ble_eq_true rfl⟩) (preV hK hN (P_right hP) (D_right hD) (va_recv hK (P_right hP) (ci := 6) (q0 := 0) rfl rfl)) rfl rfl hl.1 rfl (lv_room (Nat.le_of_ble_eq_true rfl)) dL_law_756 ⟨Nat.le_of_ble_eq_true rfl, Nat.le_of_ble_eq_true rfl⟩) hS hP hD hA (fun H locs hP hD hS => ?_)
  refine lv_icmp_eq (tgt := 1211) hx hb dL_law_759 (by decide) (fun _ => kk _ _ H locs hr2 hP hD hS) (fun hne => absurd rfl hne)
set_option maxHeartbeats 4000000 in
set_option maxRecDepth 100000 in
theorem lc_18 {p : Program} {l : Launch} {e : Env} {s : State} {m : MethodId} {below : List Frame} {meth : Method} {c : Code} {b L : Nat} {xs : Nat → Int32} {D : va_G} {cI cO : ClassId} {adB adM : Nat → Nat} (X0 : LX p s m c b L xs D cI cO) {i : Nat} (hL : L ≤ 384) (hi : i + 6 ≤ L) {st mt : St} (hrel : Rel st mt) {Q : State → Prop} {H : Heap} {locs : List Loc} {ls : Array Slot} (hP : va_P D vwCl (BW cI cO adB st ++ MW cI adM mt) H) (hD : va_D (fun q : Nat => s.heap.size ≤ q) (BW cI cO adB st ++ MW cI adM mt)) (hS : va_S (fun q : Nat => s.heap.size ≤ q) s.heap H locs) (hl : lv_has ls 4 [(3, .int (nI i)), (2, .ref (adM 0)), (1, .ref (adB 0)), (0, .ref b)])
    (kk : ∀ (st2 mt2 : St) (H : Heap) (locs : List Loc), Rel st2 mt2 → va_P D vwCl (BW cI cO adB st2 ++ MW cI adM mt2) H → va_D (fun q : Nat => s.heap.size ≤ q) (BW cI cO adB st2 ++ MW cI adM mt2) → va_S (fun q : Nat => s.heap.size ≤ q) s.heap H locs → W p l e room_1 s m #[Value.ref b] below meth c H locs 42 694 Q (F0 m 1211 ls [])) : W p l e room_1 s m #[Value.ref b] below meth c H locs 42 694 Q (F0 m 764 ls []) := by
  obtain ⟨hx, hb, hml, hown, hts, hX, hbl, hK, hN⟩ := X0
  have hbA : ¬ (fun q : Nat => s.heap.size ≤ q) b := Nat.not_le.mpr hbl
  have hA : ∀ q : Nat, s.heap.size ≤ q → (fun q : Nat => s.heap.size ≤ q) q := fun _ h => h
  have hj_1 : vp_in (nI i + 1) L := sc_in 1 hi (by decide) hL
  obtain ⟨x1, ex1⟩ : ∃ z : Int32, z = xs (nI i + 1).toNatClampNeg := ⟨_, rfl⟩
  obtain ⟨r, m2, hF, hG, hr2⟩ := ok_notes hrel x1
  refine lv_aload_n hx hb dL_law_764 rfl (lv_at hl 2 rfl) ?_
  refine lv_aload_n hx hb dL_law_765 rfl (lv_at hl 3 rfl) ?_
  refine lv_iload_n hx hb dL_law_766 rfl (lv_at hl 0 rfl) ?_
  refine lv_iconst (v := 1) hx hb dL_law_767 (by decide) ?_
  refine lv_iadd hx hb dL_law_768 ?_
  refine va_sld hx hb hX hbl hbA hS hj_1 dL_law_769 ?_
  rw [← ex1]
  refine bl_i (va_runV (As := [.int x1]) (rest := []) ⟨hx, hb, hml, hown, hts⟩ (c_X6_notes l D cI cO adB H.size hF) (cwV 1 hts gL_law_X6_notes rfl rfl rfl (by decide +kernel) ⟨Nat.le_of_ble_eq_true rfl, Nat.le_of_ble_eq_true rfl⟩) (preV hK hN (P_left hP) (D_left hD) (va_recv hK (P_left hP) (ci := 5) (q0 := 0) rfl rfl)) rfl rfl hl.1 rfl (lv_room (Nat.le_of_ble_eq_true rfl)) dL_law_770 ⟨Nat.le_of_ble_eq_true rfl, Nat.le_of_ble_eq_true rfl⟩) hS hP hD hA (fun H locs hP hD hS => ?_)
  refine lv_aload_n hx hb dL_law_773 rfl (lv_at hl 1 rfl) ?_
  refine lv_aload_n hx hb dL_law_774 rfl (lv_at hl 3 rfl) ?_
  refine lv_iload_n hx hb dL_law_775 rfl (lv_at hl 0 rfl) ?_
  refine lv_iconst (v := 1) hx hb dL_law_776 (by decide) ?_
  refine lv_iadd hx hb dL_law_777 ?_
  refine va_sld hx hb hX hbl hbA hS hj_1 dL_law_778 ?_
  rw [← ex1]
  refine br_i (va_runV (As := [.int x1]) (rest := [.int r]) ⟨hx, hb, hml, hown, hts⟩ (c_X7_notes l D cI cO adM H.size hG) (cwV 1 hts gL_law_X7_notes rfl rfl rfl (by decide +kernel) ⟨Nat.le_of_ble_eq_true rfl, Nat.le_of_ble_eq_true rfl⟩) (preV hK hN (P_right hP) (D_right hD) (va_recv hK (P_right hP) (ci := 6) (q0 := 0) rfl rfl)) rfl rfl hl.1 rfl (lv_room (Nat.le_of_ble_eq_true rfl)) dL_law_779 ⟨Nat.le_of_ble_eq_true rfl, Nat.le_of_ble_eq_true rfl⟩) hS hP hD hA (fun H locs hP hD hS => ?_)
  refine lv_icmp_eq (tgt := 1211) hx hb dL_law_782 (by decide) (fun _ => kk _ _ H locs hr2 hP hD hS) (fun hne => absurd rfl hne)
set_option maxHeartbeats 4000000 in
set_option maxRecDepth 100000 in
theorem lc_19 {p : Program} {l : Launch} {e : Env} {s : State} {m : MethodId} {below : List Frame} {meth : Method} {c : Code} {b L : Nat} {xs : Nat → Int32} {D : va_G} {cI cO : ClassId} {adB adM : Nat → Nat} (X0 : LX p s m c b L xs D cI cO) {i : Nat} (hL : L ≤ 384) (hi : i + 6 ≤ L) {st mt : St} (hrel : Rel st mt) {Q : State → Prop} {H : Heap} {locs : List Loc} {ls : Array Slot} (hP : va_P D vwCl (BW cI cO adB st ++ MW cI adM mt) H) (hD : va_D (fun q : Nat => s.heap.size ≤ q) (BW cI cO adB st ++ MW cI adM mt)) (hS : va_S (fun q : Nat => s.heap.size ≤ q) s.heap H locs) (hl : lv_has ls 4 [(3, .int (nI i)), (2, .ref (adM 0)), (1, .ref (adB 0)), (0, .ref b)])
    (kk : ∀ (st2 mt2 : St) (H : Heap) (locs : List Loc), Rel st2 mt2 → va_P D vwCl (BW cI cO adB st2 ++ MW cI adM mt2) H → va_D (fun q : Nat => s.heap.size ≤ q) (BW cI cO adB st2 ++ MW cI adM mt2) → va_S (fun q : Nat => s.heap.size ≤ q) s.heap H locs → W p l e room_1 s m #[Value.ref b] below meth c H locs 42 694 Q (F0 m 1211 ls [])) : W p l e room_1 s m #[Value.ref b] below meth c H locs 42 694 Q (F0 m 787 ls []) := by
  obtain ⟨hx, hb, hml, hown, hts, hX, hbl, hK, hN⟩ := X0
  have hbA : ¬ (fun q : Nat => s.heap.size ≤ q) b := Nat.not_le.mpr hbl
  have hA : ∀ q : Nat, s.heap.size ≤ q → (fun q : Nat => s.heap.size ≤ q) q := fun _ h => h
  have hj_1 : vp_in (nI i + 1) L := sc_in 1 hi (by decide) hL
  obtain ⟨x1, ex1⟩ : ∃ z : Int32, z = xs (nI i + 1).toNatClampNeg := ⟨_, rfl⟩
  obtain ⟨r, m2, hF, hG, hr2⟩ := ok_kinds hrel x1
  refine lv_aload_n hx hb dL_law_787 rfl (lv_at hl 2 rfl) ?_
  refine lv_aload_n hx hb dL_law_788 rfl (lv_at hl 3 rfl) ?_
  refine lv_iload_n hx hb dL_law_789 rfl (lv_at hl 0 rfl) ?_
  refine lv_iconst (v := 1) hx hb dL_law_790 (by decide) ?_
  refine lv_iadd hx hb dL_law_791 ?_
  refine va_sld hx hb hX hbl hbA hS hj_1 dL_law_792 ?_
  rw [← ex1]
  refine bl_i (va_runV (As := [.int x1]) (rest := []) ⟨hx, hb, hml, hown, hts⟩ (c_X6_kinds l D cI cO adB H.size hF) (cwV 1 hts gL_law_X6_kinds rfl rfl rfl (by decide +kernel) ⟨Nat.le_of_ble_eq_true rfl, Nat.le_of_ble_eq_true rfl⟩) (preV hK hN (P_left hP) (D_left hD) (va_recv hK (P_left hP) (ci := 5) (q0 := 0) rfl rfl)) rfl rfl hl.1 rfl (lv_room (Nat.le_of_ble_eq_true rfl)) dL_law_793 ⟨Nat.le_of_ble_eq_true rfl, Nat.le_of_ble_eq_true rfl⟩) hS hP hD hA (fun H locs hP hD hS => ?_)
  refine lv_aload_n hx hb dL_law_796 rfl (lv_at hl 1 rfl) ?_
  refine lv_aload_n hx hb dL_law_797 rfl (lv_at hl 3 rfl) ?_
  refine lv_iload_n hx hb dL_law_798 rfl (lv_at hl 0 rfl) ?_
  refine lv_iconst (v := 1) hx hb dL_law_799 (by decide) ?_
  refine lv_iadd hx hb dL_law_800 ?_
  refine va_sld hx hb hX hbl hbA hS hj_1 dL_law_801 ?_
  rw [← ex1]
  refine br_i (va_runV (As := [.int x1]) (rest := [.int r]) ⟨hx, hb, hml, hown, hts⟩ (c_X7_kinds l D cI cO adM H.size hG) (cwV 1 hts gL_law_X7_kinds rfl rfl rfl (by decide +kernel) ⟨Nat.le_of_ble_eq_true rfl, Nat.le_of_ble_eq_true rfl⟩) (preV hK hN (P_right hP) (D_right hD) (va_recv hK (P_right hP) (ci := 6) (q0 := 0) rfl rfl)) rfl rfl hl.1 rfl (lv_room (Nat.le_of_ble_eq_true rfl)) dL_law_802 ⟨Nat.le_of_ble_eq_true rfl, Nat.le_of_ble_eq_true rfl⟩) hS hP hD hA (fun H locs hP hD hS => ?_)
  refine lv_icmp_eq (tgt := 1211) hx hb dL_law_805 (by decide) (fun _ => kk _ _ H locs hr2 hP hD hS) (fun hne => absurd rfl hne)
set_option maxHeartbeats 4000000 in
set_option maxRecDepth 100000 in
theorem lc_20 {p : Program} {l : Launch} {e : Env} {s : State} {m : MethodId} {below : List Frame} {meth : Method} {c : Code} {b L : Nat} {xs : Nat → Int32} {D : va_G} {cI cO : ClassId} {adB adM : Nat → Nat} (X0 : LX p s m c b L xs D cI cO) {i : Nat} (hL : L ≤ 384) (hi : i + 6 ≤ L) {st mt : St} (hrel : Rel st mt) {Q : State → Prop} {H : Heap} {locs : List Loc} {ls : Array Slot} (hP : va_P D vwCl (BW cI cO adB st ++ MW cI adM mt) H) (hD : va_D (fun q : Nat => s.heap.size ≤ q) (BW cI cO adB st ++ MW cI adM mt)) (hS : va_S (fun q : Nat => s.heap.size ≤ q) s.heap H locs) (hl : lv_has ls 4 [(3, .int (nI i)), (2, .ref (adM 0)), (1, .ref (adB 0)), (0, .ref b)])
    (kk : ∀ (st2 mt2 : St) (H : Heap) (locs : List Loc), Rel st2 mt2 → va_P D vwCl (BW cI cO adB st2 ++ MW cI adM mt2) H → va_D (fun q : Nat => s.heap.size ≤ q) (BW cI cO adB st2 ++ MW cI adM mt2) → va_S (fun q : Nat => s.heap.size ≤ q) s.heap H locs → W p l e room_1 s m #[Value.ref b] below meth c H locs 42 694 Q (F0 m 1211 ls [])) : W p l e room_1 s m #[Value.ref b] below meth c H locs 42 694 Q (F0 m 810 ls []) := by
  obtain ⟨hx, hb, hml, hown, hts, hX, hbl, hK, hN⟩ := X0
  have hbA : ¬ (fun q : Nat => s.heap.size ≤ q) b := Nat.not_le.mpr hbl
  have hA : ∀ q : Nat, s.heap.size ≤ q → (fun q : Nat => s.heap.size ≤ q) q := fun _ h => h
  obtain ⟨r, m2, hF, hG, hr2⟩ := ok_winds hrel
  refine lv_aload_n hx hb dL_law_810 rfl (lv_at hl 2 rfl) ?_
  refine bl_i (va_runV (As := []) (rest := []) ⟨hx, hb, hml, hown, hts⟩ (c_X6_winds l D cI cO adB H.size hF) (cwV 0 hts gL_law_X6_winds rfl rfl rfl (by decide +kernel) ⟨Nat.le_of_ble_eq_true rfl, Nat.le_of_ble_eq_true rfl⟩) (preV hK hN (P_left hP) (D_left hD) (va_recv hK (P_left hP) (ci := 5) (q0 := 0) rfl rfl)) rfl rfl hl.1 rfl (lv_room (Nat.le_of_ble_eq_true rfl)) dL_law_811 ⟨Nat.le_of_ble_eq_true rfl, Nat.le_of_ble_eq_true rfl⟩) hS hP hD hA (fun H locs hP hD hS => ?_)
  refine lv_aload_n hx hb dL_law_814 rfl (lv_at hl 1 rfl) ?_
  refine br_i (va_runV (As := []) (rest := [.int r]) ⟨hx, hb, hml, hown, hts⟩ (c_X7_winds l D cI cO adM H.size hG) (cwV 0 hts gL_law_X7_winds rfl rfl rfl (by decide +kernel) ⟨Nat.le_of_ble_eq_true rfl, Nat.le_of_ble_eq_true rfl⟩) (preV hK hN (P_right hP) (D_right hD) (va_recv hK (P_right hP) (ci := 6) (q0 := 0) rfl rfl)) rfl rfl hl.1 rfl (lv_room (Nat.le_of_ble_eq_true rfl)) dL_law_815 ⟨Nat.le_of_ble_eq_true rfl, Nat.le_of_ble_eq_true rfl⟩) hS hP hD hA (fun H locs hP hD hS => ?_)
  refine lv_icmp_eq (tgt := 1211) hx hb dL_law_818 (by decide) (fun _ => kk _ _ H locs hr2 hP hD hS) (fun hne => absurd rfl hne)
set_option maxHeartbeats 4000000 in
set_option maxRecDepth 100000 in
theorem lc_21 {p : Program} {l : Launch} {e : Env} {s : State} {m : MethodId} {below : List Frame} {meth : Method} {c : Code} {b L : Nat} {xs : Nat → Int32} {D : va_G} {cI cO : ClassId} {adB adM : Nat → Nat} (X0 : LX p s m c b L xs D cI cO) {i : Nat} (hL : L ≤ 384) (hi : i + 6 ≤ L) {st mt : St} (hrel : Rel st mt) {Q : State → Prop} {H : Heap} {locs : List Loc} {ls : Array Slot} (hP : va_P D vwCl (BW cI cO adB st ++ MW cI adM mt) H) (hD : va_D (fun q : Nat => s.heap.size ≤ q) (BW cI cO adB st ++ MW cI adM mt)) (hS : va_S (fun q : Nat => s.heap.size ≤ q) s.heap H locs) (hl : lv_has ls 4 [(3, .int (nI i)), (2, .ref (adM 0)), (1, .ref (adB 0)), (0, .ref b)])
    (kk : ∀ (st2 mt2 : St) (H : Heap) (locs : List Loc), Rel st2 mt2 → va_P D vwCl (BW cI cO adB st2 ++ MW cI adM mt2) H → va_D (fun q : Nat => s.heap.size ≤ q) (BW cI cO adB st2 ++ MW cI adM mt2) → va_S (fun q : Nat => s.heap.size ≤ q) s.heap H locs → W p l e room_1 s m #[Value.ref b] below meth c H locs 42 694 Q (F0 m 1211 ls [])) : W p l e room_1 s m #[Value.ref b] below meth c H locs 42 694 Q (F0 m 823 ls []) := by
  obtain ⟨hx, hb, hml, hown, hts, hX, hbl, hK, hN⟩ := X0
  have hbA : ¬ (fun q : Nat => s.heap.size ≤ q) b := Nat.not_le.mpr hbl
  have hA : ∀ q : Nat, s.heap.size ≤ q → (fun q : Nat => s.heap.size ≤ q) q := fun _ h => h
  have hj_1 : vp_in (nI i + 1) L := sc_in 1 hi (by decide) hL
  obtain ⟨x1, ex1⟩ : ∃ z : Int32, z = xs (nI i + 1).toNatClampNeg := ⟨_, rfl⟩
  have hj_2 : vp_in (nI i + 2) L := sc_in 2 hi (by decide) hL
  obtain ⟨x2, ex2⟩ : ∃ z : Int32, z = xs (nI i + 2).toNatClampNeg := ⟨_, rfl⟩
  have hj_3 : vp_in (nI i + 3) L := sc_in 3 hi (by decide) hL
  obtain ⟨x3, ex3⟩ : ∃ z : Int32, z = xs (nI i + 3).toNatClampNeg := ⟨_, rfl⟩
  obtain ⟨r, hF, hG, hr2⟩ := ok_odds hrel x1 x2 x3
  refine lv_aload_n hx hb dL_law_823 rfl (lv_at hl 2 rfl) ?_
  refine lv_aload_n hx hb dL_law_824 rfl (lv_at hl 3 rfl) ?_
  refine lv_iload_n hx hb dL_law_825 rfl (lv_at hl 0 rfl) ?_
  refine lv_iconst (v := 1) hx hb dL_law_826 (by decide) ?_
  refine lv_iadd hx hb dL_law_827 ?_
  refine va_sld hx hb hX hbl hbA hS hj_1 dL_law_828 ?_
  rw [← ex1]
  refine lv_aload_n hx hb dL_law_829 rfl (lv_at hl 3 rfl) ?_
  refine lv_iload_n hx hb dL_law_830 rfl (lv_at hl 0 rfl) ?_
  refine lv_iconst (v := 2) hx hb dL_law_831 (by decide) ?_
  refine lv_iadd hx hb dL_law_832 ?_
  refine va_sld hx hb hX hbl hbA hS hj_2 dL_law_833 ?_
  rw [← ex2]
  refine lv_aload_n hx hb dL_law_834 rfl (lv_at hl 3 rfl) ?_
  refine lv_iload_n hx hb dL_law_835 rfl (lv_at hl 0 rfl) ?_
  refine lv_iconst (v := 3) hx hb dL_law_836 (by decide) ?_
  refine lv_iadd hx hb dL_law_837 ?_
  refine va_sld hx hb hX hbl hbA hS hj_3 dL_law_838 ?_
  rw [← ex3]
  refine bl_l (va_runV (As := [.int x1, .int x2, .int x3]) (rest := []) ⟨hx, hb, hml, hown, hts⟩ (c_X6_odds l D cI cO adB H.size hF) (cwV 3 hts gL_law_X6_odds rfl rfl rfl (by decide +kernel) ⟨Nat.le_of_ble_eq_true rfl, Nat.le_of_ble_eq_true rfl⟩) (preV hK hN (P_left hP) (D_left hD) (va_recv hK (P_left hP) (ci := 5) (q0 := 0) rfl rfl)) rfl rfl hl.1 rfl (lv_room (Nat.le_of_ble_eq_true rfl)) dL_law_839 ⟨Nat.le_of_ble_eq_true rfl, Nat.le_of_ble_eq_true rfl⟩) hS hP hD hA (fun H locs hP hD hS => ?_)
  refine lv_aload_n hx hb dL_law_842 rfl (lv_at hl 1 rfl) ?_
  refine lv_aload_n hx hb dL_law_843 rfl (lv_at hl 3 rfl) ?_
  refine lv_iload_n hx hb dL_law_844 rfl (lv_at hl 0 rfl) ?_
  refine lv_iconst (v := 1) hx hb dL_law_845 (by decide) ?_
  refine lv_iadd hx hb dL_law_846 ?_
  refine va_sld hx hb hX hbl hbA hS hj_1 dL_law_847 ?_
  rw [← ex1]
  refine lv_aload_n hx hb dL_law_848 rfl (lv_at hl 3 rfl) ?_
  refine lv_iload_n hx hb dL_law_849 rfl (lv_at hl 0 rfl) ?_
  refine lv_iconst (v := 2) hx hb dL_law_850 (by decide) ?_
  refine lv_iadd hx hb dL_law_851 ?_
  refine va_sld hx hb hX hbl hbA hS hj_2 dL_law_852 ?_
  rw [← ex2]
  refine lv_aload_n hx hb dL_law_853 rfl (lv_at hl 3 rfl) ?_
  refine lv_iload_n hx hb dL_law_854 rfl (lv_at hl 0 rfl) ?_
  refine lv_iconst (v := 3) hx hb dL_law_855 (by decide) ?_
  refine lv_iadd hx hb dL_law_856 ?_
  refine va_sld hx hb hX hbl hbA hS hj_3 dL_law_857 ?_
  rw [← ex3]
  refine br_l (va_runV (As := [.int x1, .int x2, .int x3]) (rest := [.long r]) ⟨hx, hb, hml, hown, hts⟩ (c_X7_odds l D cI cO adM H.size hG) (cwV 3 hts gL_law_X7_odds rfl rfl rfl (by decide +kernel) ⟨Nat.le_of_ble_eq_true rfl, Nat.le_of_ble_eq_true rfl⟩) (preV hK hN (P_right hP) (D_right hD) (va_recv hK (P_right hP) (ci := 6) (q0 := 0) rfl rfl)) rfl rfl hl.1 rfl (lv_room (Nat.le_of_ble_eq_true rfl)) dL_law_858 ⟨Nat.le_of_ble_eq_true rfl, Nat.le_of_ble_eq_true rfl⟩) hS hP hD hA (fun H locs hP hD hS => ?_)
  refine W.lcmp hx hb dL_law_861 ?_
  refine lv_if_eq (tgt := 1211) hx hb dL_law_862 (by decide) (fun _ => kk _ _ H locs hr2 hP hD hS) (fun hne => absurd (lg_cmp_self r) hne)
set_option maxHeartbeats 4000000 in
set_option maxRecDepth 100000 in
theorem lc_22 {p : Program} {l : Launch} {e : Env} {s : State} {m : MethodId} {below : List Frame} {meth : Method} {c : Code} {b L : Nat} {xs : Nat → Int32} {D : va_G} {cI cO : ClassId} {adB adM : Nat → Nat} (X0 : LX p s m c b L xs D cI cO) {i : Nat} (hL : L ≤ 384) (hi : i + 6 ≤ L) {st mt : St} (hrel : Rel st mt) {Q : State → Prop} {H : Heap} {locs : List Loc} {ls : Array Slot} (hP : va_P D vwCl (BW cI cO adB st ++ MW cI adM mt) H) (hD : va_D (fun q : Nat => s.heap.size ≤ q) (BW cI cO adB st ++ MW cI adM mt)) (hS : va_S (fun q : Nat => s.heap.size ≤ q) s.heap H locs) (hl : lv_has ls 4 [(3, .int (nI i)), (2, .ref (adM 0)), (1, .ref (adB 0)), (0, .ref b)])
    (kk : ∀ (st2 mt2 : St) (H : Heap) (locs : List Loc), Rel st2 mt2 → va_P D vwCl (BW cI cO adB st2 ++ MW cI adM mt2) H → va_D (fun q : Nat => s.heap.size ≤ q) (BW cI cO adB st2 ++ MW cI adM mt2) → va_S (fun q : Nat => s.heap.size ≤ q) s.heap H locs → W p l e room_1 s m #[Value.ref b] below meth c H locs 42 694 Q (F0 m 1211 ls [])) : W p l e room_1 s m #[Value.ref b] below meth c H locs 42 694 Q (F0 m 867 ls []) := by
  obtain ⟨hx, hb, hml, hown, hts, hX, hbl, hK, hN⟩ := X0
  have hbA : ¬ (fun q : Nat => s.heap.size ≤ q) b := Nat.not_le.mpr hbl
  have hA : ∀ q : Nat, s.heap.size ≤ q → (fun q : Nat => s.heap.size ≤ q) q := fun _ h => h
  have hj_1 : vp_in (nI i + 1) L := sc_in 1 hi (by decide) hL
  obtain ⟨x1, ex1⟩ : ∃ z : Int32, z = xs (nI i + 1).toNatClampNeg := ⟨_, rfl⟩
  have hj_2 : vp_in (nI i + 2) L := sc_in 2 hi (by decide) hL
  obtain ⟨x2, ex2⟩ : ∃ z : Int32, z = xs (nI i + 2).toNatClampNeg := ⟨_, rfl⟩
  have hj_3 : vp_in (nI i + 3) L := sc_in 3 hi (by decide) hL
  obtain ⟨x3, ex3⟩ : ∃ z : Int32, z = xs (nI i + 3).toNatClampNeg := ⟨_, rfl⟩
  obtain ⟨r, s2, m2, hF, hG, hr2⟩ := ok_sheet hrel x1 x2 x3
  refine lv_aload_n hx hb dL_law_867 rfl (lv_at hl 2 rfl) ?_
  refine lv_aload_n hx hb dL_law_868 rfl (lv_at hl 3 rfl) ?_
  refine lv_iload_n hx hb dL_law_869 rfl (lv_at hl 0 rfl) ?_
  refine lv_iconst (v := 1) hx hb dL_law_870 (by decide) ?_
  refine lv_iadd hx hb dL_law_871 ?_
  refine va_sld hx hb hX hbl hbA hS hj_1 dL_law_872 ?_
  rw [← ex1]
  refine lv_aload_n hx hb dL_law_873 rfl (lv_at hl 3 rfl) ?_
  refine lv_iload_n hx hb dL_law_874 rfl (lv_at hl 0 rfl) ?_
  refine lv_iconst (v := 2) hx hb dL_law_875 (by decide) ?_
  refine lv_iadd hx hb dL_law_876 ?_
  refine va_sld hx hb hX hbl hbA hS hj_2 dL_law_877 ?_
  rw [← ex2]
  refine lv_aload_n hx hb dL_law_878 rfl (lv_at hl 3 rfl) ?_
  refine lv_iload_n hx hb dL_law_879 rfl (lv_at hl 0 rfl) ?_
  refine lv_iconst (v := 3) hx hb dL_law_880 (by decide) ?_
  refine lv_iadd hx hb dL_law_881 ?_
  refine va_sld hx hb hX hbl hbA hS hj_3 dL_law_882 ?_
  rw [← ex3]
  refine bl_i (va_runV (As := [.int x1, .int x2, .int x3]) (rest := []) ⟨hx, hb, hml, hown, hts⟩ (c_X6_sheet l D cI cO adB H.size hF) (cwV 3 hts gL_law_X6_sheet rfl rfl rfl (by decide +kernel) ⟨Nat.le_of_ble_eq_true rfl, Nat.le_of_ble_eq_true rfl⟩) (preV hK hN (P_left hP) (D_left hD) (va_recv hK (P_left hP) (ci := 5) (q0 := 0) rfl rfl)) rfl rfl hl.1 rfl (lv_room (Nat.le_of_ble_eq_true rfl)) dL_law_883 ⟨Nat.le_of_ble_eq_true rfl, Nat.le_of_ble_eq_true rfl⟩) hS hP hD hA (fun H locs hP hD hS => ?_)
  refine lv_aload_n hx hb dL_law_886 rfl (lv_at hl 1 rfl) ?_
  refine lv_aload_n hx hb dL_law_887 rfl (lv_at hl 3 rfl) ?_
  refine lv_iload_n hx hb dL_law_888 rfl (lv_at hl 0 rfl) ?_
  refine lv_iconst (v := 1) hx hb dL_law_889 (by decide) ?_
  refine lv_iadd hx hb dL_law_890 ?_
  refine va_sld hx hb hX hbl hbA hS hj_1 dL_law_891 ?_
  rw [← ex1]
  refine lv_aload_n hx hb dL_law_892 rfl (lv_at hl 3 rfl) ?_
  refine lv_iload_n hx hb dL_law_893 rfl (lv_at hl 0 rfl) ?_
  refine lv_iconst (v := 2) hx hb dL_law_894 (by decide) ?_
  refine lv_iadd hx hb dL_law_895 ?_
  refine va_sld hx hb hX hbl hbA hS hj_2 dL_law_896 ?_
  rw [← ex2]
  refine lv_aload_n hx hb dL_law_897 rfl (lv_at hl 3 rfl) ?_
  refine lv_iload_n hx hb dL_law_898 rfl (lv_at hl 0 rfl) ?_
  refine lv_iconst (v := 3) hx hb dL_law_899 (by decide) ?_
  refine lv_iadd hx hb dL_law_900 ?_
  refine va_sld hx hb hX hbl hbA hS hj_3 dL_law_901 ?_
  rw [← ex3]
  refine br_i (va_runV (As := [.int x1, .int x2, .int x3]) (rest := [.int r]) ⟨hx, hb, hml, hown, hts⟩ (c_X7_sheet l D cI cO adM H.size hG) (cwV 3 hts gL_law_X7_sheet rfl rfl rfl (by decide +kernel) ⟨Nat.le_of_ble_eq_true rfl, Nat.le_of_ble_eq_true rfl⟩) (preV hK hN (P_right hP) (D_right hD) (va_recv hK (P_right hP) (ci := 6) (q0 := 0) rfl rfl)) rfl rfl hl.1 rfl (lv_room (Nat.le_of_ble_eq_true rfl)) dL_law_902 ⟨Nat.le_of_ble_eq_true rfl, Nat.le_of_ble_eq_true rfl⟩) hS hP hD hA (fun H locs hP hD hS => ?_)
  refine lv_icmp_eq (tgt := 1211) hx hb dL_law_905 (by decide) (fun _ => kk _ _ H locs hr2 hP hD hS) (fun hne => absurd rfl hne)
set_option maxHeartbeats 4000000 in
set_option maxRecDepth 100000 in
theorem lc_23 {p : Program} {l : Launch} {e : Env} {s : State} {m : MethodId} {below : List Frame} {meth : Method} {c : Code} {b L : Nat} {xs : Nat → Int32} {D : va_G} {cI cO : ClassId} {adB adM : Nat → Nat} (X0 : LX p s m c b L xs D cI cO) {i : Nat} (hL : L ≤ 384) (hi : i + 6 ≤ L) {st mt : St} (hrel : Rel st mt) {Q : State → Prop} {H : Heap} {locs : List Loc} {ls : Array Slot} (hP : va_P D vwCl (BW cI cO adB st ++ MW cI adM mt) H) (hD : va_D (fun q : Nat => s.heap.size ≤ q) (BW cI cO adB st ++ MW cI adM mt)) (hS : va_S (fun q : Nat => s.heap.size ≤ q) s.heap H locs) (hl : lv_has ls 4 [(3, .int (nI i)), (2, .ref (adM 0)), (1, .ref (adB 0)), (0, .ref b)])
    (kk : ∀ (st2 mt2 : St) (H : Heap) (locs : List Loc), Rel st2 mt2 → va_P D vwCl (BW cI cO adB st2 ++ MW cI adM mt2) H → va_D (fun q : Nat => s.heap.size ≤ q) (BW cI cO adB st2 ++ MW cI adM mt2) → va_S (fun q : Nat => s.heap.size ≤ q) s.heap H locs → W p l e room_1 s m #[Value.ref b] below meth c H locs 42 694 Q (F0 m 1211 ls [])) : W p l e room_1 s m #[Value.ref b] below meth c H locs 42 694 Q (F0 m 910 ls []) := by
  obtain ⟨hx, hb, hml, hown, hts, hX, hbl, hK, hN⟩ := X0
  have hbA : ¬ (fun q : Nat => s.heap.size ≤ q) b := Nat.not_le.mpr hbl
  have hA : ∀ q : Nat, s.heap.size ≤ q → (fun q : Nat => s.heap.size ≤ q) q := fun _ h => h
  have hj_1 : vp_in (nI i + 1) L := sc_in 1 hi (by decide) hL
  obtain ⟨x1, ex1⟩ : ∃ z : Int32, z = xs (nI i + 1).toNatClampNeg := ⟨_, rfl⟩
  obtain ⟨r, s2, m2, hF, hG, hr2⟩ := ok_lose hrel x1
  refine lv_aload_n hx hb dL_law_910 rfl (lv_at hl 2 rfl) ?_
  refine lv_aload_n hx hb dL_law_911 rfl (lv_at hl 3 rfl) ?_
  refine lv_iload_n hx hb dL_law_912 rfl (lv_at hl 0 rfl) ?_
  refine lv_iconst (v := 1) hx hb dL_law_913 (by decide) ?_
  refine lv_iadd hx hb dL_law_914 ?_
  refine va_sld hx hb hX hbl hbA hS hj_1 dL_law_915 ?_
  rw [← ex1]
  refine bl_i (va_runV (As := [.int x1]) (rest := []) ⟨hx, hb, hml, hown, hts⟩ (c_X6_lose l D cI cO adB H.size hF) (cwV 1 hts gL_law_X6_lose rfl rfl rfl (by decide +kernel) ⟨Nat.le_of_ble_eq_true rfl, Nat.le_of_ble_eq_true rfl⟩) (preV hK hN (P_left hP) (D_left hD) (va_recv hK (P_left hP) (ci := 5) (q0 := 0) rfl rfl)) rfl rfl hl.1 rfl (lv_room (Nat.le_of_ble_eq_true rfl)) dL_law_916 ⟨Nat.le_of_ble_eq_true rfl, Nat.le_of_ble_eq_true rfl⟩) hS hP hD hA (fun H locs hP hD hS => ?_)
  refine lv_aload_n hx hb dL_law_919 rfl (lv_at hl 1 rfl) ?_
  refine lv_aload_n hx hb dL_law_920 rfl (lv_at hl 3 rfl) ?_
  refine lv_iload_n hx hb dL_law_921 rfl (lv_at hl 0 rfl) ?_
  refine lv_iconst (v := 1) hx hb dL_law_922 (by decide) ?_
  refine lv_iadd hx hb dL_law_923 ?_
  refine va_sld hx hb hX hbl hbA hS hj_1 dL_law_924 ?_
  rw [← ex1]
  refine br_i (va_runV (As := [.int x1]) (rest := [.int r]) ⟨hx, hb, hml, hown, hts⟩ (c_X7_lose l D cI cO adM H.size hG) (cwV 1 hts gL_law_X7_lose rfl rfl rfl (by decide +kernel) ⟨Nat.le_of_ble_eq_true rfl, Nat.le_of_ble_eq_true rfl⟩) (preV hK hN (P_right hP) (D_right hD) (va_recv hK (P_right hP) (ci := 6) (q0 := 0) rfl rfl)) rfl rfl hl.1 rfl (lv_room (Nat.le_of_ble_eq_true rfl)) dL_law_925 ⟨Nat.le_of_ble_eq_true rfl, Nat.le_of_ble_eq_true rfl⟩) hS hP hD hA (fun H locs hP hD hS => ?_)
  refine lv_icmp_eq (tgt := 1211) hx hb dL_law_928 (by decide) (fun _ => kk _ _ H locs hr2 hP hD hS) (fun hne => absurd rfl hne)
set_option maxHeartbeats 4000000 in
set_option maxRecDepth 100000 in
theorem lc_24 {p : Program} {l : Launch} {e : Env} {s : State} {m : MethodId} {below : List Frame} {meth : Method} {c : Code} {b L : Nat} {xs : Nat → Int32} {D : va_G} {cI cO : ClassId} {adB adM : Nat → Nat} (X0 : LX p s m c b L xs D cI cO) {i : Nat} (hL : L ≤ 384) (hi : i + 6 ≤ L) {st mt : St} (hrel : Rel st mt) {Q : State → Prop} {H : Heap} {locs : List Loc} {ls : Array Slot} (hP : va_P D vwCl (BW cI cO adB st ++ MW cI adM mt) H) (hD : va_D (fun q : Nat => s.heap.size ≤ q) (BW cI cO adB st ++ MW cI adM mt)) (hS : va_S (fun q : Nat => s.heap.size ≤ q) s.heap H locs) (hl : lv_has ls 4 [(3, .int (nI i)), (2, .ref (adM 0)), (1, .ref (adB 0)), (0, .ref b)])
    (kk : ∀ (st2 mt2 : St) (H : Heap) (locs : List Loc), Rel st2 mt2 → va_P D vwCl (BW cI cO adB st2 ++ MW cI adM mt2) H → va_D (fun q : Nat => s.heap.size ≤ q) (BW cI cO adB st2 ++ MW cI adM mt2) → va_S (fun q : Nat => s.heap.size ≤ q) s.heap H locs → W p l e room_1 s m #[Value.ref b] below meth c H locs 42 694 Q (F0 m 1211 ls [])) : W p l e room_1 s m #[Value.ref b] below meth c H locs 42 694 Q (F0 m 933 ls []) := by
  obtain ⟨hx, hb, hml, hown, hts, hX, hbl, hK, hN⟩ := X0
  have hbA : ¬ (fun q : Nat => s.heap.size ≤ q) b := Nat.not_le.mpr hbl
  have hA : ∀ q : Nat, s.heap.size ≤ q → (fun q : Nat => s.heap.size ≤ q) q := fun _ h => h
  have hj_1 : vp_in (nI i + 1) L := sc_in 1 hi (by decide) hL
  obtain ⟨x1, ex1⟩ : ∃ z : Int32, z = xs (nI i + 1).toNatClampNeg := ⟨_, rfl⟩
  have hj_2 : vp_in (nI i + 2) L := sc_in 2 hi (by decide) hL
  obtain ⟨x2, ex2⟩ : ∃ z : Int32, z = xs (nI i + 2).toNatClampNeg := ⟨_, rfl⟩
  have hj_3 : vp_in (nI i + 3) L := sc_in 3 hi (by decide) hL
  obtain ⟨x3, ex3⟩ : ∃ z : Int32, z = xs (nI i + 3).toNatClampNeg := ⟨_, rfl⟩
  obtain ⟨r, s2, m2, hF, hG, hr2⟩ := ok_put hrel x1 x2 x3
  refine lv_aload_n hx hb dL_law_933 rfl (lv_at hl 2 rfl) ?_
  refine lv_aload_n hx hb dL_law_934 rfl (lv_at hl 3 rfl) ?_
  refine lv_iload_n hx hb dL_law_935 rfl (lv_at hl 0 rfl) ?_
  refine lv_iconst (v := 1) hx hb dL_law_936 (by decide) ?_
  refine lv_iadd hx hb dL_law_937 ?_
  refine va_sld hx hb hX hbl hbA hS hj_1 dL_law_938 ?_
  rw [← ex1]
  refine lv_aload_n hx hb dL_law_939 rfl (lv_at hl 3 rfl) ?_
  refine lv_iload_n hx hb dL_law_940 rfl (lv_at hl 0 rfl) ?_
  refine lv_iconst (v := 2) hx hb dL_law_941 (by decide) ?_
  refine lv_iadd hx hb dL_law_942 ?_
  refine va_sld hx hb hX hbl hbA hS hj_2 dL_law_943 ?_
  rw [← ex2]
  refine lv_aload_n hx hb dL_law_944 rfl (lv_at hl 3 rfl) ?_
  refine lv_iload_n hx hb dL_law_945 rfl (lv_at hl 0 rfl) ?_
  refine lv_iconst (v := 3) hx hb dL_law_946 (by decide) ?_
  refine lv_iadd hx hb dL_law_947 ?_
  refine va_sld hx hb hX hbl hbA hS hj_3 dL_law_948 ?_
  rw [← ex3]
  refine bl_i (va_runV (As := [.int x1, .int x2, .int x3]) (rest := []) ⟨hx, hb, hml, hown, hts⟩ (c_X6_put l D cI cO adB H.size hF) (cwV 3 hts gL_law_X6_put rfl rfl rfl (by decide +kernel) ⟨Nat.le_of_ble_eq_true rfl, Nat.le_of_ble_eq_true rfl⟩) (preV hK hN (P_left hP) (D_left hD) (va_recv hK (P_left hP) (ci := 5) (q0 := 0) rfl rfl)) rfl rfl hl.1 rfl (lv_room (Nat.le_of_ble_eq_true rfl)) dL_law_949 ⟨Nat.le_of_ble_eq_true rfl, Nat.le_of_ble_eq_true rfl⟩) hS hP hD hA (fun H locs hP hD hS => ?_)
  refine lv_aload_n hx hb dL_law_952 rfl (lv_at hl 1 rfl) ?_
  refine lv_aload_n hx hb dL_law_953 rfl (lv_at hl 3 rfl) ?_
  refine lv_iload_n hx hb dL_law_954 rfl (lv_at hl 0 rfl) ?_
  refine lv_iconst (v := 1) hx hb dL_law_955 (by decide) ?_
  refine lv_iadd hx hb dL_law_956 ?_
  refine va_sld hx hb hX hbl hbA hS hj_1 dL_law_957 ?_
  rw [← ex1]
  refine lv_aload_n hx hb dL_law_958 rfl (lv_at hl 3 rfl) ?_
  refine lv_iload_n hx hb dL_law_959 rfl (lv_at hl 0 rfl) ?_
  refine lv_iconst (v := 2) hx hb dL_law_960 (by decide) ?_
  refine lv_iadd hx hb dL_law_961 ?_
  refine va_sld hx hb hX hbl hbA hS hj_2 dL_law_962 ?_
  rw [← ex2]
  refine lv_aload_n hx hb dL_law_963 rfl (lv_at hl 3 rfl) ?_
  refine lv_iload_n hx hb dL_law_964 rfl (lv_at hl 0 rfl) ?_
  refine lv_iconst (v := 3) hx hb dL_law_965 (by decide) ?_
  refine lv_iadd hx hb dL_law_966 ?_
  refine va_sld hx hb hX hbl hbA hS hj_3 dL_law_967 ?_
  rw [← ex3]
  refine br_i (va_runV (As := [.int x1, .int x2, .int x3]) (rest := [.int r]) ⟨hx, hb, hml, hown, hts⟩ (c_X7_put l D cI cO adM H.size hG) (cwV 3 hts gL_law_X7_put rfl rfl rfl (by decide +kernel) ⟨Nat.le_of_ble_eq_true rfl, Nat.le_of_ble_eq_true rfl⟩) (preV hK hN (P_right hP) (D_right hD) (va_recv hK (P_right hP) (ci := 6) (q0 := 0) rfl rfl)) rfl rfl hl.1 rfl (lv_room (Nat.le_of_ble_eq_true rfl)) dL_law_968 ⟨Nat.le_of_ble_eq_true rfl, Nat.le_of_ble_eq_true rfl⟩) hS hP hD hA (fun H locs hP hD hS => ?_)
  refine lv_icmp_eq (tgt := 1211) hx hb dL_law_971 (by decide) (fun _ => kk _ _ H locs hr2 hP hD hS) (fun hne => absurd rfl hne)
set_option maxHeartbeats 4000000 in
set_option maxRecDepth 100000 in
theorem lc_25 {p : Program} {l : Launch} {e : Env} {s : State} {m : MethodId} {below : List Frame} {meth : Method} {c : Code} {b L : Nat} {xs : Nat → Int32} {D : va_G} {cI cO : ClassId} {adB adM : Nat → Nat} (X0 : LX p s m c b L xs D cI cO) {i : Nat} (hL : L ≤ 384) (hi : i + 6 ≤ L) {st mt : St} (hrel : Rel st mt) {Q : State → Prop} {H : Heap} {locs : List Loc} {ls : Array Slot} (hP : va_P D vwCl (BW cI cO adB st ++ MW cI adM mt) H) (hD : va_D (fun q : Nat => s.heap.size ≤ q) (BW cI cO adB st ++ MW cI adM mt)) (hS : va_S (fun q : Nat => s.heap.size ≤ q) s.heap H locs) (hl : lv_has ls 4 [(3, .int (nI i)), (2, .ref (adM 0)), (1, .ref (adB 0)), (0, .ref b)])
    (kk : ∀ (st2 mt2 : St) (H : Heap) (locs : List Loc), Rel st2 mt2 → va_P D vwCl (BW cI cO adB st2 ++ MW cI adM mt2) H → va_D (fun q : Nat => s.heap.size ≤ q) (BW cI cO adB st2 ++ MW cI adM mt2) → va_S (fun q : Nat => s.heap.size ≤ q) s.heap H locs → W p l e room_1 s m #[Value.ref b] below meth c H locs 42 694 Q (F0 m 1211 ls [])) : W p l e room_1 s m #[Value.ref b] below meth c H locs 42 694 Q (F0 m 976 ls []) := by
  obtain ⟨hx, hb, hml, hown, hts, hX, hbl, hK, hN⟩ := X0
  have hbA : ¬ (fun q : Nat => s.heap.size ≤ q) b := Nat.not_le.mpr hbl
  have hA : ∀ q : Nat, s.heap.size ≤ q → (fun q : Nat => s.heap.size ≤ q) q := fun _ h => h
  have hj_1 : vp_in (nI i + 1) L := sc_in 1 hi (by decide) hL
  obtain ⟨x1, ex1⟩ : ∃ z : Int32, z = xs (nI i + 1).toNatClampNeg := ⟨_, rfl⟩
  have hj_2 : vp_in (nI i + 2) L := sc_in 2 hi (by decide) hL
  obtain ⟨x2, ex2⟩ : ∃ z : Int32, z = xs (nI i + 2).toNatClampNeg := ⟨_, rfl⟩
  have hj_3 : vp_in (nI i + 3) L := sc_in 3 hi (by decide) hL
  obtain ⟨x3, ex3⟩ : ∃ z : Int32, z = xs (nI i + 3).toNatClampNeg := ⟨_, rfl⟩
  obtain ⟨r, s2, m2, hF, hG, hr2⟩ := ok_cell hrel x1 x2 x3
  refine lv_aload_n hx hb dL_law_976 rfl (lv_at hl 2 rfl) ?_
  refine lv_aload_n hx hb dL_law_977 rfl (lv_at hl 3 rfl) ?_
  refine lv_iload_n hx hb dL_law_978 rfl (lv_at hl 0 rfl) ?_
  refine lv_iconst (v := 1) hx hb dL_law_979 (by decide) ?_
  refine lv_iadd hx hb dL_law_980 ?_
  refine va_sld hx hb hX hbl hbA hS hj_1 dL_law_981 ?_
  rw [← ex1]
  refine lv_aload_n hx hb dL_law_982 rfl (lv_at hl 3 rfl) ?_
  refine lv_iload_n hx hb dL_law_983 rfl (lv_at hl 0 rfl) ?_
  refine lv_iconst (v := 2) hx hb dL_law_984 (by decide) ?_
  refine lv_iadd hx hb dL_law_985 ?_
  refine va_sld hx hb hX hbl hbA hS hj_2 dL_law_986 ?_
  rw [← ex2]
  refine lv_aload_n hx hb dL_law_987 rfl (lv_at hl 3 rfl) ?_
  refine lv_iload_n hx hb dL_law_988 rfl (lv_at hl 0 rfl) ?_
  refine lv_iconst (v := 3) hx hb dL_law_989 (by decide) ?_
  refine lv_iadd hx hb dL_law_990 ?_
  refine va_sld hx hb hX hbl hbA hS hj_3 dL_law_991 ?_
  rw [← ex3]
  refine bl_l (va_runV (As := [.int x1, .int x2, .int x3]) (rest := []) ⟨hx, hb, hml, hown, hts⟩ (c_X6_cell l D cI cO adB H.size hF) (cwV 3 hts gL_law_X6_cell rfl rfl rfl (by decide +kernel) ⟨Nat.le_of_ble_eq_true rfl, Nat.le_of_ble_eq_true rfl⟩) (preV hK hN (P_left hP) (D_left hD) (va_recv hK (P_left hP) (ci := 5) (q0 := 0) rfl rfl)) rfl rfl hl.1 rfl (lv_room (Nat.le_of_ble_eq_true rfl)) dL_law_992 ⟨Nat.le_of_ble_eq_true rfl, Nat.le_of_ble_eq_true rfl⟩) hS hP hD hA (fun H locs hP hD hS => ?_)
  refine lv_aload_n hx hb dL_law_995 rfl (lv_at hl 1 rfl) ?_
  refine lv_aload_n hx hb dL_law_996 rfl (lv_at hl 3 rfl) ?_
  refine lv_iload_n hx hb dL_law_997 rfl (lv_at hl 0 rfl) ?_
  refine lv_iconst (v := 1) hx hb dL_law_998 (by decide) ?_
  refine lv_iadd hx hb dL_law_999 ?_
  refine va_sld hx hb hX hbl hbA hS hj_1 dL_law_1000 ?_
  rw [← ex1]
  refine lv_aload_n hx hb dL_law_1001 rfl (lv_at hl 3 rfl) ?_
  refine lv_iload_n hx hb dL_law_1002 rfl (lv_at hl 0 rfl) ?_
  refine lv_iconst (v := 2) hx hb dL_law_1003 (by decide) ?_
  refine lv_iadd hx hb dL_law_1004 ?_
  refine va_sld hx hb hX hbl hbA hS hj_2 dL_law_1005 ?_
  rw [← ex2]
  refine lv_aload_n hx hb dL_law_1006 rfl (lv_at hl 3 rfl) ?_
  refine lv_iload_n hx hb dL_law_1007 rfl (lv_at hl 0 rfl) ?_
  refine lv_iconst (v := 3) hx hb dL_law_1008 (by decide) ?_
  refine lv_iadd hx hb dL_law_1009 ?_
  refine va_sld hx hb hX hbl hbA hS hj_3 dL_law_1010 ?_
  rw [← ex3]
  refine br_l (va_runV (As := [.int x1, .int x2, .int x3]) (rest := [.long r]) ⟨hx, hb, hml, hown, hts⟩ (c_X7_cell l D cI cO adM H.size hG) (cwV 3 hts gL_law_X7_cell rfl rfl rfl (by decide +kernel) ⟨Nat.le_of_ble_eq_true rfl, Nat.le_of_ble_eq_true rfl⟩) (preV hK hN (P_right hP) (D_right hD) (va_recv hK (P_right hP) (ci := 6) (q0 := 0) rfl rfl)) rfl rfl hl.1 rfl (lv_room (Nat.le_of_ble_eq_true rfl)) dL_law_1011 ⟨Nat.le_of_ble_eq_true rfl, Nat.le_of_ble_eq_true rfl⟩) hS hP hD hA (fun H locs hP hD hS => ?_)
  refine W.lcmp hx hb dL_law_1014 ?_
  refine lv_if_eq (tgt := 1211) hx hb dL_law_1015 (by decide) (fun _ => kk _ _ H locs hr2 hP hD hS) (fun hne => absurd (lg_cmp_self r) hne)
set_option maxHeartbeats 4000000 in
set_option maxRecDepth 100000 in
theorem lc_26 {p : Program} {l : Launch} {e : Env} {s : State} {m : MethodId} {below : List Frame} {meth : Method} {c : Code} {b L : Nat} {xs : Nat → Int32} {D : va_G} {cI cO : ClassId} {adB adM : Nat → Nat} (X0 : LX p s m c b L xs D cI cO) {i : Nat} (hL : L ≤ 384) (hi : i + 6 ≤ L) {st mt : St} (hrel : Rel st mt) {Q : State → Prop} {H : Heap} {locs : List Loc} {ls : Array Slot} (hP : va_P D vwCl (BW cI cO adB st ++ MW cI adM mt) H) (hD : va_D (fun q : Nat => s.heap.size ≤ q) (BW cI cO adB st ++ MW cI adM mt)) (hS : va_S (fun q : Nat => s.heap.size ≤ q) s.heap H locs) (hl : lv_has ls 4 [(3, .int (nI i)), (2, .ref (adM 0)), (1, .ref (adB 0)), (0, .ref b)])
    (kk : ∀ (st2 mt2 : St) (H : Heap) (locs : List Loc), Rel st2 mt2 → va_P D vwCl (BW cI cO adB st2 ++ MW cI adM mt2) H → va_D (fun q : Nat => s.heap.size ≤ q) (BW cI cO adB st2 ++ MW cI adM mt2) → va_S (fun q : Nat => s.heap.size ≤ q) s.heap H locs → W p l e room_1 s m #[Value.ref b] below meth c H locs 42 694 Q (F0 m 1211 ls [])) : W p l e room_1 s m #[Value.ref b] below meth c H locs 42 694 Q (F0 m 1020 ls []) := by
  obtain ⟨hx, hb, hml, hown, hts, hX, hbl, hK, hN⟩ := X0
  have hbA : ¬ (fun q : Nat => s.heap.size ≤ q) b := Nat.not_le.mpr hbl
  have hA : ∀ q : Nat, s.heap.size ≤ q → (fun q : Nat => s.heap.size ≤ q) q := fun _ h => h
  have hj_1 : vp_in (nI i + 1) L := sc_in 1 hi (by decide) hL
  obtain ⟨x1, ex1⟩ : ∃ z : Int32, z = xs (nI i + 1).toNatClampNeg := ⟨_, rfl⟩
  have hj_2 : vp_in (nI i + 2) L := sc_in 2 hi (by decide) hL
  obtain ⟨x2, ex2⟩ : ∃ z : Int32, z = xs (nI i + 2).toNatClampNeg := ⟨_, rfl⟩
  have hj_3 : vp_in (nI i + 3) L := sc_in 3 hi (by decide) hL
  obtain ⟨x3, ex3⟩ : ∃ z : Int32, z = xs (nI i + 3).toNatClampNeg := ⟨_, rfl⟩
  have hj_4 : vp_in (nI i + 4) L := sc_in 4 hi (by decide) hL
  obtain ⟨x4, ex4⟩ : ∃ z : Int32, z = xs (nI i + 4).toNatClampNeg := ⟨_, rfl⟩
  have hj_5 : vp_in (nI i + 5) L := sc_in 5 hi (by decide) hL
  obtain ⟨x5, ex5⟩ : ∃ z : Int32, z = xs (nI i + 5).toNatClampNeg := ⟨_, rfl⟩
  obtain ⟨r, s2, m2, hF, hG, hr2⟩ := ok_copy hrel x1 x2 x3 x4 x5
  refine lv_aload_n hx hb dL_law_1020 rfl (lv_at hl 2 rfl) ?_
  refine lv_aload_n hx hb dL_law_1021 rfl (lv_at hl 3 rfl) ?_
  refine lv_iload_n hx hb dL_law_1022 rfl (lv_at hl 0 rfl) ?_
  refine lv_iconst (v := 1) hx hb dL_law_1023 (by decide) ?_
  refine lv_iadd hx hb dL_law_1024 ?_
  refine va_sld hx hb hX hbl hbA hS hj_1 dL_law_1025 ?_
  rw [← ex1]
  refine lv_aload_n hx hb dL_law_1026 rfl (lv_at hl 3 rfl) ?_
  refine lv_iload_n hx hb dL_law_1027 rfl (lv_at hl 0 rfl) ?_
  refine lv_iconst (v := 2) hx hb dL_law_1028 (by decide) ?_
  refine lv_iadd hx hb dL_law_1029 ?_
  refine va_sld hx hb hX hbl hbA hS hj_2 dL_law_1030 ?_
  rw [← ex2]
  refine lv_aload_n hx hb dL_law_1031 rfl (lv_at hl 3 rfl) ?_
  refine lv_iload_n hx hb dL_law_1032 rfl (lv_at hl 0 rfl) ?_
  refine lv_iconst (v := 3) hx hb dL_law_1033 (by decide) ?_
  refine lv_iadd hx hb dL_law_1034 ?_
  refine va_sld hx hb hX hbl hbA hS hj_3 dL_law_1035 ?_
  rw [← ex3]
  refine lv_aload_n hx hb dL_law_1036 rfl (lv_at hl 3 rfl) ?_
  refine lv_iload_n hx hb dL_law_1037 rfl (lv_at hl 0 rfl) ?_
  refine lv_iconst (v := 4) hx hb dL_law_1038 (by decide) ?_
  refine lv_iadd hx hb dL_law_1039 ?_
  refine va_sld hx hb hX hbl hbA hS hj_4 dL_law_1040 ?_
  rw [← ex4]
  refine lv_aload_n hx hb dL_law_1041 rfl (lv_at hl 3 rfl) ?_
  refine lv_iload_n hx hb dL_law_1042 rfl (lv_at hl 0 rfl) ?_
  refine lv_iconst (v := 5) hx hb dL_law_1043 (by decide) ?_
  refine lv_iadd hx hb dL_law_1044 ?_
  refine va_sld hx hb hX hbl hbA hS hj_5 dL_law_1045 ?_
  rw [← ex5]
  refine bl_i (va_runV (As := [.int x1, .int x2, .int x3, .int x4, .int x5]) (rest := []) ⟨hx, hb, hml, hown, hts⟩ (c_X6_copy l D cI cO adB H.size hF) (cwV 5 hts gL_law_X6_copy rfl rfl rfl (by decide +kernel) ⟨Nat.le_of_ble_eq_true rfl, Nat.le_of_ble_eq_true rfl⟩) (preV hK hN (P_left hP) (D_left hD) (va_recv hK (P_left hP) (ci := 5) (q0 := 0) rfl rfl)) rfl rfl hl.1 rfl (lv_room (Nat.le_of_ble_eq_true rfl)) dL_law_1046 ⟨Nat.le_of_ble_eq_true rfl, Nat.le_of_ble_eq_true rfl⟩) hS hP hD hA (fun H locs hP hD hS => ?_)
  refine lv_aload_n hx hb dL_law_1049 rfl (lv_at hl 1 rfl) ?_
  refine lv_aload_n hx hb dL_law_1050 rfl (lv_at hl 3 rfl) ?_
  refine lv_iload_n hx hb dL_law_1051 rfl (lv_at hl 0 rfl) ?_
  refine lv_iconst (v := 1) hx hb dL_law_1052 (by decide) ?_
  refine lv_iadd hx hb dL_law_1053 ?_
  refine va_sld hx hb hX hbl hbA hS hj_1 dL_law_1054 ?_
  rw [← ex1]
  refine lv_aload_n hx hb dL_law_1055 rfl (lv_at hl 3 rfl) ?_
  refine lv_iload_n hx hb dL_law_1056 rfl (lv_at hl 0 rfl) ?_
  refine lv_iconst (v := 2) hx hb dL_law_1057 (by decide) ?_
  refine lv_iadd hx hb dL_law_1058 ?_
  refine va_sld hx hb hX hbl hbA hS hj_2 dL_law_1059 ?_
  rw [← ex2]
  refine lv_aload_n hx hb dL_law_1060 rfl (lv_at hl 3 rfl) ?_
  refine lv_iload_n hx hb dL_law_1061 rfl (lv_at hl 0 rfl) ?_
  refine lv_iconst (v := 3) hx hb dL_law_1062 (by decide) ?_
  refine lv_iadd hx hb dL_law_1063 ?_
  refine va_sld hx hb hX hbl hbA hS hj_3 dL_law_1064 ?_
  rw [← ex3]
  refine lv_aload_n hx hb dL_law_1065 rfl (lv_at hl 3 rfl) ?_
  refine lv_iload_n hx hb dL_law_1066 rfl (lv_at hl 0 rfl) ?_
  refine lv_iconst (v := 4) hx hb dL_law_1067 (by decide) ?_
  refine lv_iadd hx hb dL_law_1068 ?_
  refine va_sld hx hb hX hbl hbA hS hj_4 dL_law_1069 ?_
  rw [← ex4]
  refine lv_aload_n hx hb dL_law_1070 rfl (lv_at hl 3 rfl) ?_
  refine lv_iload_n hx hb dL_law_1071 rfl (lv_at hl 0 rfl) ?_
  refine lv_iconst (v := 5) hx hb dL_law_1072 (by decide) ?_
  refine lv_iadd hx hb dL_law_1073 ?_
  refine va_sld hx hb hX hbl hbA hS hj_5 dL_law_1074 ?_
  rw [← ex5]
  refine br_i (va_runV (As := [.int x1, .int x2, .int x3, .int x4, .int x5]) (rest := [.int r]) ⟨hx, hb, hml, hown, hts⟩ (c_X7_copy l D cI cO adM H.size hG) (cwV 5 hts gL_law_X7_copy rfl rfl rfl (by decide +kernel) ⟨Nat.le_of_ble_eq_true rfl, Nat.le_of_ble_eq_true rfl⟩) (preV hK hN (P_right hP) (D_right hD) (va_recv hK (P_right hP) (ci := 6) (q0 := 0) rfl rfl)) rfl rfl hl.1 rfl (lv_room (Nat.le_of_ble_eq_true rfl)) dL_law_1075 ⟨Nat.le_of_ble_eq_true rfl, Nat.le_of_ble_eq_true rfl⟩) hS hP hD hA (fun H locs hP hD hS => ?_)
  refine lv_icmp_eq (tgt := 1211) hx hb dL_law_1078 (by decide) (fun _ => kk _ _ H locs hr2 hP hD hS) (fun hne => absurd rfl hne)
set_option maxHeartbeats 4000000 in
set_option maxRecDepth 100000 in
theorem lc_27 {p : Program} {l : Launch} {e : Env} {s : State} {m : MethodId} {below : List Frame} {meth : Method} {c : Code} {b L : Nat} {xs : Nat → Int32} {D : va_G} {cI cO : ClassId} {adB adM : Nat → Nat} (X0 : LX p s m c b L xs D cI cO) {i : Nat} (hL : L ≤ 384) (hi : i + 6 ≤ L) {st mt : St} (hrel : Rel st mt) {Q : State → Prop} {H : Heap} {locs : List Loc} {ls : Array Slot} (hP : va_P D vwCl (BW cI cO adB st ++ MW cI adM mt) H) (hD : va_D (fun q : Nat => s.heap.size ≤ q) (BW cI cO adB st ++ MW cI adM mt)) (hS : va_S (fun q : Nat => s.heap.size ≤ q) s.heap H locs) (hl : lv_has ls 4 [(3, .int (nI i)), (2, .ref (adM 0)), (1, .ref (adB 0)), (0, .ref b)])
    (kk : ∀ (st2 mt2 : St) (H : Heap) (locs : List Loc), Rel st2 mt2 → va_P D vwCl (BW cI cO adB st2 ++ MW cI adM mt2) H → va_D (fun q : Nat => s.heap.size ≤ q) (BW cI cO adB st2 ++ MW cI adM mt2) → va_S (fun q : Nat => s.heap.size ≤ q) s.heap H locs → W p l e room_1 s m #[Value.ref b] below meth c H locs 42 694 Q (F0 m 1211 ls [])) : W p l e room_1 s m #[Value.ref b] below meth c H locs 42 694 Q (F0 m 1083 ls []) := by
  obtain ⟨hx, hb, hml, hown, hts, hX, hbl, hK, hN⟩ := X0
  have hbA : ¬ (fun q : Nat => s.heap.size ≤ q) b := Nat.not_le.mpr hbl
  have hA : ∀ q : Nat, s.heap.size ≤ q → (fun q : Nat => s.heap.size ≤ q) q := fun _ h => h
  have hj_1 : vp_in (nI i + 1) L := sc_in 1 hi (by decide) hL
  obtain ⟨x1, ex1⟩ : ∃ z : Int32, z = xs (nI i + 1).toNatClampNeg := ⟨_, rfl⟩
  obtain ⟨r, s2, m2, hF, hG, hr2⟩ := ok_tell hrel x1
  refine lv_aload_n hx hb dL_law_1083 rfl (lv_at hl 2 rfl) ?_
  refine lv_aload_n hx hb dL_law_1084 rfl (lv_at hl 3 rfl) ?_
  refine lv_iload_n hx hb dL_law_1085 rfl (lv_at hl 0 rfl) ?_
  refine lv_iconst (v := 1) hx hb dL_law_1086 (by decide) ?_
  refine lv_iadd hx hb dL_law_1087 ?_
  refine va_sld hx hb hX hbl hbA hS hj_1 dL_law_1088 ?_
  rw [← ex1]
  refine bl_i (va_runV (As := [.int x1]) (rest := []) ⟨hx, hb, hml, hown, hts⟩ (c_X6_tell l D cI cO adB H.size hF) (cwV 1 hts gL_law_X6_tell rfl rfl rfl (by decide +kernel) ⟨Nat.le_of_ble_eq_true rfl, Nat.le_of_ble_eq_true rfl⟩) (preV hK hN (P_left hP) (D_left hD) (va_recv hK (P_left hP) (ci := 5) (q0 := 0) rfl rfl)) rfl rfl hl.1 rfl (lv_room (Nat.le_of_ble_eq_true rfl)) dL_law_1089 ⟨Nat.le_of_ble_eq_true rfl, Nat.le_of_ble_eq_true rfl⟩) hS hP hD hA (fun H locs hP hD hS => ?_)
  refine lv_aload_n hx hb dL_law_1092 rfl (lv_at hl 1 rfl) ?_
  refine lv_aload_n hx hb dL_law_1093 rfl (lv_at hl 3 rfl) ?_
  refine lv_iload_n hx hb dL_law_1094 rfl (lv_at hl 0 rfl) ?_
  refine lv_iconst (v := 1) hx hb dL_law_1095 (by decide) ?_
  refine lv_iadd hx hb dL_law_1096 ?_
  refine va_sld hx hb hX hbl hbA hS hj_1 dL_law_1097 ?_
  rw [← ex1]
  refine br_i (va_runV (As := [.int x1]) (rest := [.int r]) ⟨hx, hb, hml, hown, hts⟩ (c_X7_tell l D cI cO adM H.size hG) (cwV 1 hts gL_law_X7_tell rfl rfl rfl (by decide +kernel) ⟨Nat.le_of_ble_eq_true rfl, Nat.le_of_ble_eq_true rfl⟩) (preV hK hN (P_right hP) (D_right hD) (va_recv hK (P_right hP) (ci := 6) (q0 := 0) rfl rfl)) rfl rfl hl.1 rfl (lv_room (Nat.le_of_ble_eq_true rfl)) dL_law_1098 ⟨Nat.le_of_ble_eq_true rfl, Nat.le_of_ble_eq_true rfl⟩) hS hP hD hA (fun H locs hP hD hS => ?_)
  refine lv_icmp_eq (tgt := 1211) hx hb dL_law_1101 (by decide) (fun _ => kk _ _ H locs hr2 hP hD hS) (fun hne => absurd rfl hne)
set_option maxHeartbeats 4000000 in
set_option maxRecDepth 100000 in
theorem lc_28 {p : Program} {l : Launch} {e : Env} {s : State} {m : MethodId} {below : List Frame} {meth : Method} {c : Code} {b L : Nat} {xs : Nat → Int32} {D : va_G} {cI cO : ClassId} {adB adM : Nat → Nat} (X0 : LX p s m c b L xs D cI cO) {i : Nat} (hL : L ≤ 384) (hi : i + 6 ≤ L) {st mt : St} (hrel : Rel st mt) {Q : State → Prop} {H : Heap} {locs : List Loc} {ls : Array Slot} (hP : va_P D vwCl (BW cI cO adB st ++ MW cI adM mt) H) (hD : va_D (fun q : Nat => s.heap.size ≤ q) (BW cI cO adB st ++ MW cI adM mt)) (hS : va_S (fun q : Nat => s.heap.size ≤ q) s.heap H locs) (hl : lv_has ls 4 [(3, .int (nI i)), (2, .ref (adM 0)), (1, .ref (adB 0)), (0, .ref b)])
    (kk : ∀ (st2 mt2 : St) (H : Heap) (locs : List Loc), Rel st2 mt2 → va_P D vwCl (BW cI cO adB st2 ++ MW cI adM mt2) H → va_D (fun q : Nat => s.heap.size ≤ q) (BW cI cO adB st2 ++ MW cI adM mt2) → va_S (fun q : Nat => s.heap.size ≤ q) s.heap H locs → W p l e room_1 s m #[Value.ref b] below meth c H locs 42 694 Q (F0 m 1211 ls [])) : W p l e room_1 s m #[Value.ref b] below meth c H locs 42 694 Q (F0 m 1106 ls []) := by
  obtain ⟨hx, hb, hml, hown, hts, hX, hbl, hK, hN⟩ := X0
  have hbA : ¬ (fun q : Nat => s.heap.size ≤ q) b := Nat.not_le.mpr hbl
  have hA : ∀ q : Nat, s.heap.size ≤ q → (fun q : Nat => s.heap.size ≤ q) q := fun _ h => h
  have hj_1 : vp_in (nI i + 1) L := sc_in 1 hi (by decide) hL
  obtain ⟨x1, ex1⟩ : ∃ z : Int32, z = xs (nI i + 1).toNatClampNeg := ⟨_, rfl⟩
  obtain ⟨r, s2, m2, hF, hG, hr2⟩ := ok_echo hrel x1
  refine lv_aload_n hx hb dL_law_1106 rfl (lv_at hl 2 rfl) ?_
  refine lv_aload_n hx hb dL_law_1107 rfl (lv_at hl 3 rfl) ?_
  refine lv_iload_n hx hb dL_law_1108 rfl (lv_at hl 0 rfl) ?_
  refine lv_iconst (v := 1) hx hb dL_law_1109 (by decide) ?_
  refine lv_iadd hx hb dL_law_1110 ?_
  refine va_sld hx hb hX hbl hbA hS hj_1 dL_law_1111 ?_
  rw [← ex1]
  refine bl_i (va_runV (As := [.int x1]) (rest := []) ⟨hx, hb, hml, hown, hts⟩ (c_X6_echo l D cI cO adB H.size hF) (cwV 1 hts gL_law_X6_echo rfl rfl rfl (by decide +kernel) ⟨Nat.le_of_ble_eq_true rfl, Nat.le_of_ble_eq_true rfl⟩) (preV hK hN (P_left hP) (D_left hD) (va_recv hK (P_left hP) (ci := 5) (q0 := 0) rfl rfl)) rfl rfl hl.1 rfl (lv_room (Nat.le_of_ble_eq_true rfl)) dL_law_1112 ⟨Nat.le_of_ble_eq_true rfl, Nat.le_of_ble_eq_true rfl⟩) hS hP hD hA (fun H locs hP hD hS => ?_)
  refine lv_aload_n hx hb dL_law_1115 rfl (lv_at hl 1 rfl) ?_
  refine lv_aload_n hx hb dL_law_1116 rfl (lv_at hl 3 rfl) ?_
  refine lv_iload_n hx hb dL_law_1117 rfl (lv_at hl 0 rfl) ?_
  refine lv_iconst (v := 1) hx hb dL_law_1118 (by decide) ?_
  refine lv_iadd hx hb dL_law_1119 ?_
  refine va_sld hx hb hX hbl hbA hS hj_1 dL_law_1120 ?_
  rw [← ex1]
  refine br_i (va_runV (As := [.int x1]) (rest := [.int r]) ⟨hx, hb, hml, hown, hts⟩ (c_X7_echo l D cI cO adM H.size hG) (cwV 1 hts gL_law_X7_echo rfl rfl rfl (by decide +kernel) ⟨Nat.le_of_ble_eq_true rfl, Nat.le_of_ble_eq_true rfl⟩) (preV hK hN (P_right hP) (D_right hD) (va_recv hK (P_right hP) (ci := 6) (q0 := 0) rfl rfl)) rfl rfl hl.1 rfl (lv_room (Nat.le_of_ble_eq_true rfl)) dL_law_1121 ⟨Nat.le_of_ble_eq_true rfl, Nat.le_of_ble_eq_true rfl⟩) hS hP hD hA (fun H locs hP hD hS => ?_)
  refine lv_icmp_eq (tgt := 1211) hx hb dL_law_1124 (by decide) (fun _ => kk _ _ H locs hr2 hP hD hS) (fun hne => absurd rfl hne)
set_option maxHeartbeats 4000000 in
set_option maxRecDepth 100000 in
theorem lc_29 {p : Program} {l : Launch} {e : Env} {s : State} {m : MethodId} {below : List Frame} {meth : Method} {c : Code} {b L : Nat} {xs : Nat → Int32} {D : va_G} {cI cO : ClassId} {adB adM : Nat → Nat} (X0 : LX p s m c b L xs D cI cO) {i : Nat} (hL : L ≤ 384) (hi : i + 6 ≤ L) {st mt : St} (hrel : Rel st mt) {Q : State → Prop} {H : Heap} {locs : List Loc} {ls : Array Slot} (hP : va_P D vwCl (BW cI cO adB st ++ MW cI adM mt) H) (hD : va_D (fun q : Nat => s.heap.size ≤ q) (BW cI cO adB st ++ MW cI adM mt)) (hS : va_S (fun q : Nat => s.heap.size ≤ q) s.heap H locs) (hl : lv_has ls 4 [(3, .int (nI i)), (2, .ref (adM 0)), (1, .ref (adB 0)), (0, .ref b)])
    (kk : ∀ (st2 mt2 : St) (H : Heap) (locs : List Loc), Rel st2 mt2 → va_P D vwCl (BW cI cO adB st2 ++ MW cI adM mt2) H → va_D (fun q : Nat => s.heap.size ≤ q) (BW cI cO adB st2 ++ MW cI adM mt2) → va_S (fun q : Nat => s.heap.size ≤ q) s.heap H locs → W p l e room_1 s m #[Value.ref b] below meth c H locs 42 694 Q (F0 m 1211 ls [])) : W p l e room_1 s m #[Value.ref b] below meth c H locs 42 694 Q (F0 m 1129 ls []) := by
  obtain ⟨hx, hb, hml, hown, hts, hX, hbl, hK, hN⟩ := X0
  have hbA : ¬ (fun q : Nat => s.heap.size ≤ q) b := Nat.not_le.mpr hbl
  have hA : ∀ q : Nat, s.heap.size ≤ q → (fun q : Nat => s.heap.size ≤ q) q := fun _ h => h
  have hj_1 : vp_in (nI i + 1) L := sc_in 1 hi (by decide) hL
  obtain ⟨x1, ex1⟩ : ∃ z : Int32, z = xs (nI i + 1).toNatClampNeg := ⟨_, rfl⟩
  have hj_2 : vp_in (nI i + 2) L := sc_in 2 hi (by decide) hL
  obtain ⟨x2, ex2⟩ : ∃ z : Int32, z = xs (nI i + 2).toNatClampNeg := ⟨_, rfl⟩
  obtain ⟨r, s2, m2, hF, hG, hr2⟩ := ok_as hrel x1 x2
  refine lv_aload_n hx hb dL_law_1129 rfl (lv_at hl 2 rfl) ?_
  refine lv_aload_n hx hb dL_law_1130 rfl (lv_at hl 3 rfl) ?_
  refine lv_iload_n hx hb dL_law_1131 rfl (lv_at hl 0 rfl) ?_
  refine lv_iconst (v := 1) hx hb dL_law_1132 (by decide) ?_
  refine lv_iadd hx hb dL_law_1133 ?_
  refine va_sld hx hb hX hbl hbA hS hj_1 dL_law_1134 ?_
  rw [← ex1]
  refine lv_aload_n hx hb dL_law_1135 rfl (lv_at hl 3 rfl) ?_
  refine lv_iload_n hx hb dL_law_1136 rfl (lv_at hl 0 rfl) ?_
  refine lv_iconst (v := 2) hx hb dL_law_1137 (by decide) ?_
  refine lv_iadd hx hb dL_law_1138 ?_
  refine va_sld hx hb hX hbl hbA hS hj_2 dL_law_1139 ?_
  rw [← ex2]
  refine bl_i (va_runV (As := [.int x1, .int x2]) (rest := []) ⟨hx, hb, hml, hown, hts⟩ (c_X6_as l D cI cO adB H.size hF) (cwV 2 hts gL_law_X6_as rfl rfl rfl (by decide +kernel) ⟨Nat.le_of_ble_eq_true rfl, Nat.le_of_ble_eq_true rfl⟩) (preV hK hN (P_left hP) (D_left hD) (va_recv hK (P_left hP) (ci := 5) (q0 := 0) rfl rfl)) rfl rfl hl.1 rfl (lv_room (Nat.le_of_ble_eq_true rfl)) dL_law_1140 ⟨Nat.le_of_ble_eq_true rfl, Nat.le_of_ble_eq_true rfl⟩) hS hP hD hA (fun H locs hP hD hS => ?_)
  refine lv_aload_n hx hb dL_law_1143 rfl (lv_at hl 1 rfl) ?_
  refine lv_aload_n hx hb dL_law_1144 rfl (lv_at hl 3 rfl) ?_
  refine lv_iload_n hx hb dL_law_1145 rfl (lv_at hl 0 rfl) ?_
  refine lv_iconst (v := 1) hx hb dL_law_1146 (by decide) ?_
  refine lv_iadd hx hb dL_law_1147 ?_
  refine va_sld hx hb hX hbl hbA hS hj_1 dL_law_1148 ?_
  rw [← ex1]
  refine lv_aload_n hx hb dL_law_1149 rfl (lv_at hl 3 rfl) ?_
  refine lv_iload_n hx hb dL_law_1150 rfl (lv_at hl 0 rfl) ?_
  refine lv_iconst (v := 2) hx hb dL_law_1151 (by decide) ?_
  refine lv_iadd hx hb dL_law_1152 ?_
  refine va_sld hx hb hX hbl hbA hS hj_2 dL_law_1153 ?_
  rw [← ex2]
  refine br_i (va_runV (As := [.int x1, .int x2]) (rest := [.int r]) ⟨hx, hb, hml, hown, hts⟩ (c_X7_as l D cI cO adM H.size hG) (cwV 2 hts gL_law_X7_as rfl rfl rfl (by decide +kernel) ⟨Nat.le_of_ble_eq_true rfl, Nat.le_of_ble_eq_true rfl⟩) (preV hK hN (P_right hP) (D_right hD) (va_recv hK (P_right hP) (ci := 6) (q0 := 0) rfl rfl)) rfl rfl hl.1 rfl (lv_room (Nat.le_of_ble_eq_true rfl)) dL_law_1154 ⟨Nat.le_of_ble_eq_true rfl, Nat.le_of_ble_eq_true rfl⟩) hS hP hD hA (fun H locs hP hD hS => ?_)
  refine lv_icmp_eq (tgt := 1211) hx hb dL_law_1157 (by decide) (fun _ => kk _ _ H locs hr2 hP hD hS) (fun hne => absurd rfl hne)
set_option maxHeartbeats 4000000 in
set_option maxRecDepth 100000 in
theorem lc_30 {p : Program} {l : Launch} {e : Env} {s : State} {m : MethodId} {below : List Frame} {meth : Method} {c : Code} {b L : Nat} {xs : Nat → Int32} {D : va_G} {cI cO : ClassId} {adB adM : Nat → Nat} (X0 : LX p s m c b L xs D cI cO) {i : Nat} (hL : L ≤ 384) (hi : i + 6 ≤ L) {st mt : St} (hrel : Rel st mt) {Q : State → Prop} {H : Heap} {locs : List Loc} {ls : Array Slot} (hP : va_P D vwCl (BW cI cO adB st ++ MW cI adM mt) H) (hD : va_D (fun q : Nat => s.heap.size ≤ q) (BW cI cO adB st ++ MW cI adM mt)) (hS : va_S (fun q : Nat => s.heap.size ≤ q) s.heap H locs) (hl : lv_has ls 4 [(3, .int (nI i)), (2, .ref (adM 0)), (1, .ref (adB 0)), (0, .ref b)])
    (kk : ∀ (st2 mt2 : St) (H : Heap) (locs : List Loc), Rel st2 mt2 → va_P D vwCl (BW cI cO adB st2 ++ MW cI adM mt2) H → va_D (fun q : Nat => s.heap.size ≤ q) (BW cI cO adB st2 ++ MW cI adM mt2) → va_S (fun q : Nat => s.heap.size ≤ q) s.heap H locs → W p l e room_1 s m #[Value.ref b] below meth c H locs 42 694 Q (F0 m 1211 ls [])) : W p l e room_1 s m #[Value.ref b] below meth c H locs 42 694 Q (F0 m 1162 ls []) := by
  obtain ⟨hx, hb, hml, hown, hts, hX, hbl, hK, hN⟩ := X0
  have hbA : ¬ (fun q : Nat => s.heap.size ≤ q) b := Nat.not_le.mpr hbl
  have hA : ∀ q : Nat, s.heap.size ≤ q → (fun q : Nat => s.heap.size ≤ q) q := fun _ h => h
  obtain ⟨r, hF, hG, hr2⟩ := ok_trace hrel
  refine lv_aload_n hx hb dL_law_1162 rfl (lv_at hl 2 rfl) ?_
  refine bl_i (va_runV (As := []) (rest := []) ⟨hx, hb, hml, hown, hts⟩ (c_X6_trace l D cI cO adB H.size hF) (cwV 0 hts gL_law_X6_trace rfl rfl rfl (by decide +kernel) ⟨Nat.le_of_ble_eq_true rfl, Nat.le_of_ble_eq_true rfl⟩) (preV hK hN (P_left hP) (D_left hD) (va_recv hK (P_left hP) (ci := 5) (q0 := 0) rfl rfl)) rfl rfl hl.1 rfl (lv_room (Nat.le_of_ble_eq_true rfl)) dL_law_1163 ⟨Nat.le_of_ble_eq_true rfl, Nat.le_of_ble_eq_true rfl⟩) hS hP hD hA (fun H locs hP hD hS => ?_)
  refine lv_aload_n hx hb dL_law_1166 rfl (lv_at hl 1 rfl) ?_
  refine br_i (va_runV (As := []) (rest := [.int r]) ⟨hx, hb, hml, hown, hts⟩ (c_X7_trace l D cI cO adM H.size hG) (cwV 0 hts gL_law_X7_trace rfl rfl rfl (by decide +kernel) ⟨Nat.le_of_ble_eq_true rfl, Nat.le_of_ble_eq_true rfl⟩) (preV hK hN (P_right hP) (D_right hD) (va_recv hK (P_right hP) (ci := 6) (q0 := 0) rfl rfl)) rfl rfl hl.1 rfl (lv_room (Nat.le_of_ble_eq_true rfl)) dL_law_1167 ⟨Nat.le_of_ble_eq_true rfl, Nat.le_of_ble_eq_true rfl⟩) hS hP hD hA (fun H locs hP hD hS => ?_)
  refine lv_icmp_eq (tgt := 1211) hx hb dL_law_1170 (by decide) (fun _ => kk _ _ H locs hr2 hP hD hS) (fun hne => absurd rfl hne)
set_option maxHeartbeats 4000000 in
set_option maxRecDepth 100000 in
theorem lc_31 {p : Program} {l : Launch} {e : Env} {s : State} {m : MethodId} {below : List Frame} {meth : Method} {c : Code} {b L : Nat} {xs : Nat → Int32} {D : va_G} {cI cO : ClassId} {adB adM : Nat → Nat} (X0 : LX p s m c b L xs D cI cO) {i : Nat} (hL : L ≤ 384) (hi : i + 6 ≤ L) {st mt : St} (hrel : Rel st mt) {Q : State → Prop} {H : Heap} {locs : List Loc} {ls : Array Slot} (hP : va_P D vwCl (BW cI cO adB st ++ MW cI adM mt) H) (hD : va_D (fun q : Nat => s.heap.size ≤ q) (BW cI cO adB st ++ MW cI adM mt)) (hS : va_S (fun q : Nat => s.heap.size ≤ q) s.heap H locs) (hl : lv_has ls 4 [(3, .int (nI i)), (2, .ref (adM 0)), (1, .ref (adB 0)), (0, .ref b)])
    (kk : ∀ (st2 mt2 : St) (H : Heap) (locs : List Loc), Rel st2 mt2 → va_P D vwCl (BW cI cO adB st2 ++ MW cI adM mt2) H → va_D (fun q : Nat => s.heap.size ≤ q) (BW cI cO adB st2 ++ MW cI adM mt2) → va_S (fun q : Nat => s.heap.size ≤ q) s.heap H locs → W p l e room_1 s m #[Value.ref b] below meth c H locs 42 694 Q (F0 m 1211 ls [])) : W p l e room_1 s m #[Value.ref b] below meth c H locs 42 694 Q (F0 m 1175 ls []) := by
  obtain ⟨hx, hb, hml, hown, hts, hX, hbl, hK, hN⟩ := X0
  have hbA : ¬ (fun q : Nat => s.heap.size ≤ q) b := Nat.not_le.mpr hbl
  have hA : ∀ q : Nat, s.heap.size ≤ q → (fun q : Nat => s.heap.size ≤ q) q := fun _ h => h
  obtain ⟨r, hF, hG, hr2⟩ := ok_fault hrel
  refine lv_aload_n hx hb dL_law_1175 rfl (lv_at hl 2 rfl) ?_
  refine bl_i (va_runV (As := []) (rest := []) ⟨hx, hb, hml, hown, hts⟩ (c_X6_fault l D cI cO adB H.size hF) (cwV 0 hts gL_law_X6_fault rfl rfl rfl (by decide +kernel) ⟨Nat.le_of_ble_eq_true rfl, Nat.le_of_ble_eq_true rfl⟩) (preV hK hN (P_left hP) (D_left hD) (va_recv hK (P_left hP) (ci := 5) (q0 := 0) rfl rfl)) rfl rfl hl.1 rfl (lv_room (Nat.le_of_ble_eq_true rfl)) dL_law_1176 ⟨Nat.le_of_ble_eq_true rfl, Nat.le_of_ble_eq_true rfl⟩) hS hP hD hA (fun H locs hP hD hS => ?_)
  refine lv_aload_n hx hb dL_law_1179 rfl (lv_at hl 1 rfl) ?_
  refine br_i (va_runV (As := []) (rest := [.int r]) ⟨hx, hb, hml, hown, hts⟩ (c_X7_fault l D cI cO adM H.size hG) (cwV 0 hts gL_law_X7_fault rfl rfl rfl (by decide +kernel) ⟨Nat.le_of_ble_eq_true rfl, Nat.le_of_ble_eq_true rfl⟩) (preV hK hN (P_right hP) (D_right hD) (va_recv hK (P_right hP) (ci := 6) (q0 := 0) rfl rfl)) rfl rfl hl.1 rfl (lv_room (Nat.le_of_ble_eq_true rfl)) dL_law_1180 ⟨Nat.le_of_ble_eq_true rfl, Nat.le_of_ble_eq_true rfl⟩) hS hP hD hA (fun H locs hP hD hS => ?_)
  refine lv_icmp_eq (tgt := 1211) hx hb dL_law_1183 (by decide) (fun _ => kk _ _ H locs hr2 hP hD hS) (fun hne => absurd rfl hne)
set_option maxHeartbeats 4000000 in
set_option maxRecDepth 100000 in
theorem lc_32 {p : Program} {l : Launch} {e : Env} {s : State} {m : MethodId} {below : List Frame} {meth : Method} {c : Code} {b L : Nat} {xs : Nat → Int32} {D : va_G} {cI cO : ClassId} {adB adM : Nat → Nat} (X0 : LX p s m c b L xs D cI cO) {i : Nat} (hL : L ≤ 384) (hi : i + 6 ≤ L) {st mt : St} (hrel : Rel st mt) {Q : State → Prop} {H : Heap} {locs : List Loc} {ls : Array Slot} (hP : va_P D vwCl (BW cI cO adB st ++ MW cI adM mt) H) (hD : va_D (fun q : Nat => s.heap.size ≤ q) (BW cI cO adB st ++ MW cI adM mt)) (hS : va_S (fun q : Nat => s.heap.size ≤ q) s.heap H locs) (hl : lv_has ls 4 [(3, .int (nI i)), (2, .ref (adM 0)), (1, .ref (adB 0)), (0, .ref b)])
    (kk : ∀ (st2 mt2 : St) (H : Heap) (locs : List Loc), Rel st2 mt2 → va_P D vwCl (BW cI cO adB st2 ++ MW cI adM mt2) H → va_D (fun q : Nat => s.heap.size ≤ q) (BW cI cO adB st2 ++ MW cI adM mt2) → va_S (fun q : Nat => s.heap.size ≤ q) s.heap H locs → W p l e room_1 s m #[Value.ref b] below meth c H locs 42 694 Q (F0 m 1211 ls [])) : W p l e room_1 s m #[Value.ref b] below meth c H locs 42 694 Q (F0 m 1188 ls []) := by
  obtain ⟨hx, hb, hml, hown, hts, hX, hbl, hK, hN⟩ := X0
  have hbA : ¬ (fun q : Nat => s.heap.size ≤ q) b := Nat.not_le.mpr hbl
  have hA : ∀ q : Nat, s.heap.size ≤ q → (fun q : Nat => s.heap.size ≤ q) q := fun _ h => h
  have hj_1 : vp_in (nI i + 1) L := sc_in 1 hi (by decide) hL
  obtain ⟨x1, ex1⟩ : ∃ z : Int32, z = xs (nI i + 1).toNatClampNeg := ⟨_, rfl⟩
  obtain ⟨r, hF, hG, hr2⟩ := ok_many hrel x1
  refine lv_aload_n hx hb dL_law_1188 rfl (lv_at hl 2 rfl) ?_
  refine lv_aload_n hx hb dL_law_1189 rfl (lv_at hl 3 rfl) ?_
  refine lv_iload_n hx hb dL_law_1190 rfl (lv_at hl 0 rfl) ?_
  refine lv_iconst (v := 1) hx hb dL_law_1191 (by decide) ?_
  refine lv_iadd hx hb dL_law_1192 ?_
  refine va_sld hx hb hX hbl hbA hS hj_1 dL_law_1193 ?_
  rw [← ex1]
  refine bl_i (va_runV (As := [.int x1]) (rest := []) ⟨hx, hb, hml, hown, hts⟩ (c_X6_many l D cI cO adB H.size hF) (cwV 1 hts gL_law_X6_many rfl rfl rfl (by decide +kernel) ⟨Nat.le_of_ble_eq_true rfl, Nat.le_of_ble_eq_true rfl⟩) (preV hK hN (P_left hP) (D_left hD) (va_recv hK (P_left hP) (ci := 5) (q0 := 0) rfl rfl)) rfl rfl hl.1 rfl (lv_room (Nat.le_of_ble_eq_true rfl)) dL_law_1194 ⟨Nat.le_of_ble_eq_true rfl, Nat.le_of_ble_eq_true rfl⟩) hS hP hD hA (fun H locs hP hD hS => ?_)
  refine lv_aload_n hx hb dL_law_1197 rfl (lv_at hl 1 rfl) ?_
  refine lv_aload_n hx hb dL_law_1198 rfl (lv_at hl 3 rfl) ?_
  refine lv_iload_n hx hb dL_law_1199 rfl (lv_at hl 0 rfl) ?_
  refine lv_iconst (v := 1) hx hb dL_law_1200 (by decide) ?_
  refine lv_iadd hx hb dL_law_1201 ?_
  refine va_sld hx hb hX hbl hbA hS hj_1 dL_law_1202 ?_
  rw [← ex1]
  refine br_i (va_runV (As := [.int x1]) (rest := [.int r]) ⟨hx, hb, hml, hown, hts⟩ (c_X7_many l D cI cO adM H.size hG) (cwV 1 hts gL_law_X7_many rfl rfl rfl (by decide +kernel) ⟨Nat.le_of_ble_eq_true rfl, Nat.le_of_ble_eq_true rfl⟩) (preV hK hN (P_right hP) (D_right hD) (va_recv hK (P_right hP) (ci := 6) (q0 := 0) rfl rfl)) rfl rfl hl.1 rfl (lv_room (Nat.le_of_ble_eq_true rfl)) dL_law_1203 ⟨Nat.le_of_ble_eq_true rfl, Nat.le_of_ble_eq_true rfl⟩) hS hP hD hA (fun H locs hP hD hS => ?_)
  refine lv_icmp_eq (tgt := 1211) hx hb dL_law_1206 (by decide) (fun _ => kk _ _ H locs hr2 hP hD hS) (fun hne => absurd rfl hne)
