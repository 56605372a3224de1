theorem hd_X9_forced : yX9_forced.cls = RX9 ∧ yX9_forced.cls ≠ "java/lang/invoke/MethodHandle" ∧ yX9_forced.cls ≠ "java/lang/invoke/VarHandle" ∧ (parseMethodDescriptor yX9_forced.desc).map (fun d => d.parameters.length) = some 1 := by decide +kernel
set_option maxHeartbeats 4000000 in
set_option maxRecDepth 100000 in
theorem c_X9_forced (l : Launch) (D : va_G) (cI cJ cB : ClassId) (tU tM tS : Nat) (q_p0 q_p0_led q_p0_were q_p0_paths q_p0_more q_p0_patterns q_p0_loop q_p0_ranks q_p0_counts q_p0_then q_p0_table q_p0_product q_p0_turned q_p0_tape q_p0_reasons q_p0_imageLed : Nat) (sz : Nat) (x1 : Int32) (v_p0_way : Int32) (v_p0_n : Int32) (f_p0_more : (Nat → Int64)) (f_p0_paths : (Nat → Int64)) (f_p0_led : (Nat → Int32)) (v_p0_deeds : Int32) (v_p0_patternMany : Int32) (v_p0_taped : Int32) (v_p0_hasWhy : Int32) (v_p0_hasImage : Int32) (v_p0_imageN : Int32) (v_p0_imageWay : Int32) (P : Int32 → (Nat → Int64) → (Nat → Int64) → Prop) (h : M_X9_forced x1 v_p0_way v_p0_n f_p0_more f_p0_paths f_p0_led P) : Met l yX9_forced wsX9_forced ({ frames := 38, cells := 0, slots := 0, locals := 913 }) (va_Pc [.ref q_p0, .int x1] (zPre D cI cJ cB tU tM tS [(q_p0, .inr (7, [.int v_p0_n, .int v_p0_way, .ref q_p0_led, .int v_p0_deeds, .ref q_p0_were, .ref q_p0_paths, .ref q_p0_more, .ref q_p0_patterns, .int v_p0_patternMany, .ref q_p0_loop, .ref q_p0_ranks, .ref q_p0_counts, .ref q_p0_then, .ref q_p0_table, .ref q_p0_product, .ref q_p0_turned, .ref q_p0_tape, .int v_p0_taped, .int v_p0_hasWhy, .ref q_p0_reasons, .int v_p0_hasImage, .int v_p0_imageN, .int v_p0_imageWay, .ref q_p0_imageLed])), (q_p0_more, .inl (cJ, 64, .inr (.inl f_p0_more))), (q_p0_paths, .inl (cJ, 64, .inr (.inl f_p0_paths))), (q_p0_led, .inl (cI, 8, .inl f_p0_led))] sz)) (va_Qi (fun (r : Int32) (u : (Nat → Int64) × (Nat → Int64)) => P r u.1 u.2) (fun u t => zPost D cI cJ cB (va_A [(q_p0, .inr (7, [.int v_p0_n, .int v_p0_way, .ref q_p0_led, .int v_p0_deeds, .ref q_p0_were, .ref q_p0_paths, .ref q_p0_more, .ref q_p0_patterns, .int v_p0_patternMany, .ref q_p0_loop, .ref q_p0_ranks, .ref q_p0_counts, .ref q_p0_then, .ref q_p0_table, .ref q_p0_product, .ref q_p0_turned, .ref q_p0_tape, .int v_p0_taped, .int v_p0_hasWhy, .ref q_p0_reasons, .int v_p0_hasImage, .int v_p0_imageN, .int v_p0_imageWay, .ref q_p0_imageLed])), (q_p0_more, .inl (cJ, 64, .inr (.inl f_p0_more))), (q_p0_paths, .inl (cJ, 64, .inr (.inl f_p0_paths))), (q_p0_led, .inl (cI, 8, .inl f_p0_led))] sz) [(q_p0, .inr (7, [.int v_p0_n, .int v_p0_way, .ref q_p0_led, .int v_p0_deeds, .ref q_p0_were, .ref q_p0_paths, .ref q_p0_more, .ref q_p0_patterns, .int v_p0_patternMany, .ref q_p0_loop, .ref q_p0_ranks, .ref q_p0_counts, .ref q_p0_then, .ref q_p0_table, .ref q_p0_product, .ref q_p0_turned, .ref q_p0_tape, .int v_p0_taped, .int v_p0_hasWhy, .ref q_p0_reasons, .int v_p0_hasImage, .int v_p0_imageN, .int v_p0_imageWay, .ref q_p0_imageLed])), (q_p0_more, .inl (cJ, 64, .inr (.inl u.2))), (q_p0_paths, .inl (cJ, 64, .inr (.inl u.1))), (q_p0_led, .inl (cI, 8, .inl f_p0_led))] t) (va_A [(q_p0, .inr (7, [.int v_p0_n, .int v_p0_way, .ref q_p0_led, .int v_p0_deeds, .ref q_p0_were, .ref q_p0_paths, .ref q_p0_more, .ref q_p0_patterns, .int v_p0_patternMany, .ref q_p0_loop, .ref q_p0_ranks, .ref q_p0_counts, .ref q_p0_then, .ref q_p0_table, .ref q_p0_product, .ref q_p0_turned, .ref q_p0_tape, .int v_p0_taped, .int v_p0_hasWhy, .ref q_p0_reasons, .int v_p0_hasImage, .int v_p0_imageN, .int v_p0_imageWay, .ref q_p0_imageLed])), (q_p0_more, .inl (cJ, 64, .inr (.inl f_p0_more))), (q_p0_paths, .inl (cJ, 64, .inr (.inl f_p0_paths))), (q_p0_led, .inl (cI, 8, .inl f_p0_led))] sz)) 0 0 (va_A [(q_p0, .inr (7, [.int v_p0_n, .int v_p0_way, .ref q_p0_led, .int v_p0_deeds, .ref q_p0_were, .ref q_p0_paths, .ref q_p0_more, .ref q_p0_patterns, .int v_p0_patternMany, .ref q_p0_loop, .ref q_p0_ranks, .ref q_p0_counts, .ref q_p0_then, .ref q_p0_table, .ref q_p0_product, .ref q_p0_turned, .ref q_p0_tape, .int v_p0_taped, .int v_p0_hasWhy, .ref q_p0_reasons, .int v_p0_hasImage, .int v_p0_imageN, .int v_p0_imageWay, .ref q_p0_imageLed])), (q_p0_more, .inl (cJ, 64, .inr (.inl f_p0_more))), (q_p0_paths, .inl (cJ, 64, .inr (.inl f_p0_paths))), (q_p0_led, .inl (cI, 8, .inl f_p0_led))] sz) := by
  refine z_met (cc := cX9_forced) (maxL := 2) (ret := (some .int)) (Qc := fun A => va_Qi (fun (r : Int32) (u : (Nat → Int64) × (Nat → Int64)) => P r u.1 u.2) (fun u t => zPost D cI cJ cB A [(q_p0, .inr (7, [.int v_p0_n, .int v_p0_way, .ref q_p0_led, .int v_p0_deeds, .ref q_p0_were, .ref q_p0_paths, .ref q_p0_more, .ref q_p0_patterns, .int v_p0_patternMany, .ref q_p0_loop, .ref q_p0_ranks, .ref q_p0_counts, .ref q_p0_then, .ref q_p0_table, .ref q_p0_product, .ref q_p0_turned, .ref q_p0_tape, .int v_p0_taped, .int v_p0_hasWhy, .ref q_p0_reasons, .int v_p0_hasImage, .int v_p0_imageN, .int v_p0_imageWay, .ref q_p0_imageLed])), (q_p0_more, .inl (cJ, 64, .inr (.inl u.2))), (q_p0_paths, .inl (cJ, 64, .inr (.inl u.1))), (q_p0_led, .inl (cI, 8, .inl f_p0_led))] t) A) (by decide) rfl [.ref q_p0, .int x1] (Nat.le_of_ble_eq_true rfl) ?_
  intro p e s m args below meth c A hx hb hr hts hown hml hlocks hA hX hK H locs hP hD hS ls hl Q hQ
  have hown : s.vm.findClass RX9 = some m.cls := hown
  have hl : lv_has ls 2 [(0, .ref q_p0), (1, .int x1)] := hl
  have hw0 : (Cond.constantLong RX9 154 (12)).before args s = true := hts _ (List.mem_of_getElem? (i := 1) rfl)
  refine lv_iload_n hx hb dX9_forced_0 rfl (lv_at hl 1 rfl) ?_
  refine lv_i2l (v := x1.toInt64) hx hb dX9_forced_1 rfl ?_
  refine lv_lconst (v := (1 : Int64)) hx hb dX9_forced_2 (by decide) ?_
  refine lv_ldc2 (v := (12 : Int64)) hx hb hown hw0 dX9_forced_3 ?_
  refine z_cSi (As := [.long x1.toInt64, .long (1 : Int64), .long (12 : Int64)]) (rest := []) (wr := [(q_p0, .inr (7, [.int v_p0_n, .int v_p0_way, .ref q_p0_led, .int v_p0_deeds, .ref q_p0_were, .ref q_p0_paths, .ref q_p0_more, .ref q_p0_patterns, .int v_p0_patternMany, .ref q_p0_loop, .ref q_p0_ranks, .ref q_p0_counts, .ref q_p0_then, .ref q_p0_table, .ref q_p0_product, .ref q_p0_turned, .ref q_p0_tape, .int v_p0_taped, .int v_p0_hasWhy, .ref q_p0_reasons, .int v_p0_hasImage, .int v_p0_imageN, .int v_p0_imageWay, .ref q_p0_imageLed])), (q_p0_more, .inl (cJ, 64, .inr (.inl f_p0_more))), (q_p0_paths, .inl (cJ, 64, .inr (.inl f_p0_paths))), (q_p0_led, .inl (cI, 8, .inl f_p0_led))]) (wn := fun u => [(q_p0, .inr (7, [.int v_p0_n, .int v_p0_way, .ref q_p0_led, .int v_p0_deeds, .ref q_p0_were, .ref q_p0_paths, .ref q_p0_more, .ref q_p0_patterns, .int v_p0_patternMany, .ref q_p0_loop, .ref q_p0_ranks, .ref q_p0_counts, .ref q_p0_then, .ref q_p0_table, .ref q_p0_product, .ref q_p0_turned, .ref q_p0_tape, .int v_p0_taped, .int v_p0_hasWhy, .ref q_p0_reasons, .int v_p0_hasImage, .int v_p0_imageN, .int v_p0_imageWay, .ref q_p0_imageLed])), (q_p0_more, .inl (cJ, 64, .inr (.inl f_p0_more))), (q_p0_paths, .inl (cJ, 64, .inr (.inl f_p0_paths))), (q_p0_led, .inl (cI, 8, .inl f_p0_led))]) (c_X9_in l D cI cJ cB tU tM tS  H.size x1.toInt64 (1 : Int64) (12 : Int64) _ h) ⟨hx, hb, hml, hown, hts⟩ (va_cwS 3 hts gX9_forced_X9_in rfl rfl rfl hd_X9_in.2 ⟨Nat.le_of_ble_eq_true rfl, Nat.le_of_ble_eq_true rfl⟩) hX hK hP hD hS hA [] [0, 1, 2, 3] [0, 1, 2, 3] rfl rfl rfl (by decide) (fun _ => rfl) rfl hl.1 rfl (Nat.le_of_ble_eq_true rfl) ⟨Nat.le_refl _, Nat.le_refl _⟩ dX9_forced_6 (fun r1 u1 H locs h hP hD hS => ?_)
  refine lv_if_ne (tgt := 15) hx hb dX9_forced_9 (by decide) (fun c2 => ?_) (fun c2 => ?_)
  · have h := And.right h c2
    refine lv_aload_n hx hb dX9_forced_15 rfl (lv_at hl 0 rfl) ?_
    refine lv_iload_n hx hb dX9_forced_16 rfl (lv_at hl 1 rfl) ?_
    refine z_cVi (As := [.int x1]) (rest := []) (wr := []) (wn := fun u => [(q_p0, .inr (7, [.int v_p0_n, .int v_p0_way, .ref q_p0_led, .int v_p0_deeds, .ref q_p0_were, .ref q_p0_paths, .ref q_p0_more, .ref q_p0_patterns, .int v_p0_patternMany, .ref q_p0_loop, .ref q_p0_ranks, .ref q_p0_counts, .ref q_p0_then, .ref q_p0_table, .ref q_p0_product, .ref q_p0_turned, .ref q_p0_tape, .int v_p0_taped, .int v_p0_hasWhy, .ref q_p0_reasons, .int v_p0_hasImage, .int v_p0_imageN, .int v_p0_imageWay, .ref q_p0_imageLed])), (q_p0_more, .inl (cJ, 64, .inr (.inl u.2))), (q_p0_paths, .inl (cJ, 64, .inr (.inl u.1))), (q_p0_led, .inl (cI, 8, .inl f_p0_led))]) (c_X9_isForced l D cI cJ cB tU tM tS q_p0 q_p0_led q_p0_were q_p0_paths q_p0_more q_p0_patterns q_p0_loop q_p0_ranks q_p0_counts q_p0_then q_p0_table q_p0_product q_p0_turned q_p0_tape q_p0_reasons q_p0_imageLed H.size x1 v_p0_way v_p0_n f_p0_more f_p0_paths f_p0_led v_p0_deeds v_p0_patternMany v_p0_taped v_p0_hasWhy v_p0_hasImage v_p0_imageN v_p0_imageWay _ h) ⟨hx, hb, hml, hown, hts⟩ (cwV 1 hts gX9_forced_X9_isForced rfl rfl rfl hd_X9_isForced ⟨Nat.le_of_ble_eq_true rfl, Nat.le_of_ble_eq_true rfl⟩) hX hK hP hD hS hA [0, 1, 2, 3] [] [0, 1, 2, 3] rfl rfl rfl (by decide) (fun _ => rfl) (q0 := 0) (ci := 7) rfl rfl rfl hl.1 rfl (Nat.le_of_ble_eq_true rfl) ⟨Nat.le_refl _, Nat.le_refl _⟩ dX9_forced_17 (fun r3 u3 H locs h hP hD hS => ?_)
    obtain ⟨m3_0, m3_1⟩ := u3
    refine lv_if_eq (tgt := 27) hx hb dX9_forced_20 (by decide) (fun c4 => ?_) (fun c4 => ?_)
    · have h := And.left h c4
      refine lv_iconst (v := (0 : Int32)) hx hb dX9_forced_27 (by decide) ?_
      exact z_iret hQ hx hb hr rfl hlocks hK (m3_0, m3_1) h hP hD hS dX9_forced_28
    · have h := And.right h c4
      refine lv_iconst (v := (1 : Int32)) hx hb dX9_forced_23 (by decide) ?_
      refine lv_goto (tgt := 28) hx hb dX9_forced_24 (by decide) ?_
      exact z_iret hQ hx hb hr rfl hlocks hK (m3_0, m3_1) h hP hD hS dX9_forced_28
  · have h := And.left h c2
    refine lv_bipush (v := (-2 : Int32)) hx hb dX9_forced_12 (by decide) ?_
    exact z_iret hQ hx hb hr rfl hlocks hK (f_p0_paths, f_p0_more) h hP hD hS dX9_forced_14
theorem hd_X9_allForced : yX9_allForced.cls = RX9 ∧ yX9_allForced.cls ≠ "java/lang/invoke/MethodHandle" ∧ yX9_allForced.cls ≠ "java/lang/invoke/VarHandle" ∧ (parseMethodDescriptor yX9_allForced.desc).map (fun d => d.parameters.length) = some 0 := by decide +kernel
set_option maxHeartbeats 4000000 in
set_option maxRecDepth 100000 in
theorem c_X9_allForced (l : Launch) (D : va_G) (cI cJ cB : ClassId) (tU tM tS : Nat) (q_p0 q_p0_led q_p0_were q_p0_paths q_p0_more q_p0_patterns q_p0_loop q_p0_ranks q_p0_counts q_p0_then q_p0_table q_p0_product q_p0_turned q_p0_tape q_p0_reasons q_p0_imageLed : Nat) (sz : Nat) (v_p0_way : Int32) (v_p0_n : Int32) (f_p0_more : (Nat → Int64)) (f_p0_paths : (Nat → Int64)) (f_p0_led : (Nat → Int32)) (v_p0_deeds : Int32) (v_p0_patternMany : Int32) (v_p0_taped : Int32) (v_p0_hasWhy : Int32) (v_p0_hasImage : Int32) (v_p0_imageN : Int32) (v_p0_imageWay : Int32) (P : Int32 → (Nat → Int64) → (Nat → Int64) → Prop) (h : M_X9_allForced v_p0_way v_p0_n f_p0_more f_p0_paths f_p0_led P) : Met l yX9_allForced wsX9_allForced ({ frames := 38, cells := 0, slots := 0, locals := 913 }) (va_Pc [.ref q_p0] (zPre D cI cJ cB tU tM tS [(q_p0, .inr (7, [.int v_p0_n, .int v_p0_way, .ref q_p0_led, .int v_p0_deeds, .ref q_p0_were, .ref q_p0_paths, .ref q_p0_more, .ref q_p0_patterns, .int v_p0_patternMany, .ref q_p0_loop, .ref q_p0_ranks, .ref q_p0_counts, .ref q_p0_then, .ref q_p0_table, .ref q_p0_product, .ref q_p0_turned, .ref q_p0_tape, .int v_p0_taped, .int v_p0_hasWhy, .ref q_p0_reasons, .int v_p0_hasImage, .int v_p0_imageN, .int v_p0_imageWay, .ref q_p0_imageLed])), (q_p0_more, .inl (cJ, 64, .inr (.inl f_p0_more))), (q_p0_paths, .inl (cJ, 64, .inr (.inl f_p0_paths))), (q_p0_led, .inl (cI, 8, .inl f_p0_led))] sz)) (va_Qi (fun (r : Int32) (u : (Nat → Int64) × (Nat → Int64)) => P r u.1 u.2) (fun u t => zPost D cI cJ cB (va_A [(q_p0, .inr (7, [.int v_p0_n, .int v_p0_way, .ref q_p0_led, .int v_p0_deeds, .ref q_p0_were, .ref q_p0_paths, .ref q_p0_more, .ref q_p0_patterns, .int v_p0_patternMany, .ref q_p0_loop, .ref q_p0_ranks, .ref q_p0_counts, .ref q_p0_then, .ref q_p0_table, .ref q_p0_product, .ref q_p0_turned, .ref q_p0_tape, .int v_p0_taped, .int v_p0_hasWhy, .ref q_p0_reasons, .int v_p0_hasImage, .int v_p0_imageN, .int v_p0_imageWay, .ref q_p0_imageLed])), (q_p0_more, .inl (cJ, 64, .inr (.inl f_p0_more))), (q_p0_paths, .inl (cJ, 64, .inr (.inl f_p0_paths))), (q_p0_led, .inl (cI, 8, .inl f_p0_led))] sz) [(q_p0, .inr (7, [.int v_p0_n, .int v_p0_way, .ref q_p0_led, .int v_p0_deeds, .ref q_p0_were, .ref q_p0_paths, .ref q_p0_more, .ref q_p0_patterns, .int v_p0_patternMany, .ref q_p0_loop, .ref q_p0_ranks, .ref q_p0_counts, .ref q_p0_then, .ref q_p0_table, .ref q_p0_product, .ref q_p0_turned, .ref q_p0_tape, .int v_p0_taped, .int v_p0_hasWhy, .ref q_p0_reasons, .int v_p0_hasImage, .int v_p0_imageN, .int v_p0_imageWay, .ref q_p0_imageLed])), (q_p0_more, .inl (cJ, 64, .inr (.inl u.2))), (q_p0_paths, .inl (cJ, 64, .inr (.inl u.1))), (q_p0_led, .inl (cI, 8, .inl f_p0_led))] t) (va_A [(q_p0, .inr (7, [.int v_p0_n, .int v_p0_way, .ref q_p0_led, .int v_p0_deeds, .ref q_p0_were, .ref q_p0_paths, .ref q_p0_more, .ref q_p0_patterns, .int v_p0_patternMany, .ref q_p0_loop, .ref q_p0_ranks, .ref q_p0_counts, .ref q_p0_then, .ref q_p0_table, .ref q_p0_product, .ref q_p0_turned, .ref q_p0_tape, .int v_p0_taped, .int v_p0_hasWhy, .ref q_p0_reasons, .int v_p0_hasImage, .int v_p0_imageN, .int v_p0_imageWay, .ref q_p0_imageLed])), (q_p0_more, .inl (cJ, 64, .inr (.inl f_p0_more))), (q_p0_paths, .inl (cJ, 64, .inr (.inl f_p0_paths))), (q_p0_led, .inl (cI, 8, .inl f_p0_led))] sz)) 0 0 (va_A [(q_p0, .inr (7, [.int v_p0_n, .int v_p0_way, .ref q_p0_led, .int v_p0_deeds, .ref q_p0_were, .ref q_p0_paths, .ref q_p0_more, .ref q_p0_patterns, .int v_p0_patternMany, .ref q_p0_loop, .ref q_p0_ranks, .ref q_p0_counts, .ref q_p0_then, .ref q_p0_table, .ref q_p0_product, .ref q_p0_turned, .ref q_p0_tape, .int v_p0_taped, .int v_p0_hasWhy, .ref q_p0_reasons, .int v_p0_hasImage, .int v_p0_imageN, .int v_p0_imageWay, .ref q_p0_imageLed])), (q_p0_more, .inl (cJ, 64, .inr (.inl f_p0_more))), (q_p0_paths, .inl (cJ, 64, .inr (.inl f_p0_paths))), (q_p0_led, .inl (cI, 8, .inl f_p0_led))] sz) := by
  refine z_met (cc := cX9_allForced) (maxL := 3) (ret := (some .int)) (Qc := fun A => va_Qi (fun (r : Int32) (u : (Nat → Int64) × (Nat → Int64)) => P r u.1 u.2) (fun u t => zPost D cI cJ cB A [(q_p0, .inr (7, [.int v_p0_n, .int v_p0_way, .ref q_p0_led, .int v_p0_deeds, .ref q_p0_were, .ref q_p0_paths, .ref q_p0_more, .ref q_p0_patterns, .int v_p0_patternMany, .ref q_p0_loop, .ref q_p0_ranks, .ref q_p0_counts, .ref q_p0_then, .ref q_p0_table, .ref q_p0_product, .ref q_p0_turned, .ref q_p0_tape, .int v_p0_taped, .int v_p0_hasWhy, .ref q_p0_reasons, .int v_p0_hasImage, .int v_p0_imageN, .int v_p0_imageWay, .ref q_p0_imageLed])), (q_p0_more, .inl (cJ, 64, .inr (.inl u.2))), (q_p0_paths, .inl (cJ, 64, .inr (.inl u.1))), (q_p0_led, .inl (cI, 8, .inl f_p0_led))] t) A) (by decide) rfl [.ref q_p0] (Nat.le_of_ble_eq_true rfl) ?_
  intro p e s m args below meth c A hx hb hr hts hown hml hlocks hA hX hK H locs hP hD hS ls hl Q hQ
  have hown : s.vm.findClass RX9 = some m.cls := hown
  have hl : lv_has ls 3 [(0, .ref q_p0)] := hl
  refine lv_iconst (v := (0 : Int32)) hx hb dX9_allForced_0 (by decide) ?_
  refine lv_istore_n (lv' := [(1, .int (0 : Int32)), (0, .ref q_p0)]) hx hb dX9_allForced_1 rfl hl (by decide) rfl (fun ls hl => ?_)
  refine lv_iconst (v := (1 : Int32)) hx hb dX9_allForced_2 (by decide) ?_
  refine lv_istore_n (lv' := [(2, .int (1 : Int32)), (1, .int (0 : Int32)), (0, .ref q_p0)]) hx hb dX9_allForced_3 rfl hl (by decide) rfl (fun ls hl => ?_)
  have k4 : ∀  (n4 : Nat) (l1 : Int32) (l2 : Int32) (f_p0_paths : (Nat → Int64)) (f_p0_more : (Nat → Int64)) (H : Heap) (locs : List Loc) (ls : Array Slot), LP4 (M_X9_allForced_l4 v_p0_way v_p0_n f_p0_led P ) n4 l1 l2 f_p0_paths f_p0_more → va_P D vwCl [(q_p0, .inr (7, [.int v_p0_n, .int v_p0_way, .ref q_p0_led, .int v_p0_deeds, .ref q_p0_were, .ref q_p0_paths, .ref q_p0_more, .ref q_p0_patterns, .int v_p0_patternMany, .ref q_p0_loop, .ref q_p0_ranks, .ref q_p0_counts, .ref q_p0_then, .ref q_p0_table, .ref q_p0_product, .ref q_p0_turned, .ref q_p0_tape, .int v_p0_taped, .int v_p0_hasWhy, .ref q_p0_reasons, .int v_p0_hasImage, .int v_p0_imageN, .int v_p0_imageWay, .ref q_p0_imageLed])), (q_p0_more, .inl (cJ, 64, .inr (.inl f_p0_more))), (q_p0_paths, .inl (cJ, 64, .inr (.inl f_p0_paths))), (q_p0_led, .inl (cI, 8, .inl f_p0_led))] H → va_D A [(q_p0, .inr (7, [.int v_p0_n, .int v_p0_way, .ref q_p0_led, .int v_p0_deeds, .ref q_p0_were, .ref q_p0_paths, .ref q_p0_more, .ref q_p0_patterns, .int v_p0_patternMany, .ref q_p0_loop, .ref q_p0_ranks, .ref q_p0_counts, .ref q_p0_then, .ref q_p0_table, .ref q_p0_product, .ref q_p0_turned, .ref q_p0_tape, .int v_p0_taped, .int v_p0_hasWhy, .ref q_p0_reasons, .int v_p0_hasImage, .int v_p0_imageN, .int v_p0_imageWay, .ref q_p0_imageLed])), (q_p0_more, .inl (cJ, 64, .inr (.inl f_p0_more))), (q_p0_paths, .inl (cJ, 64, .inr (.inl f_p0_paths))), (q_p0_led, .inl (cI, 8, .inl f_p0_led))] → va_S A s.heap H locs → lv_has ls 3 [(0, .ref q_p0), (1, .int l1), (2, .int l2)] → W p l e { frames := 38, cells := 0, slots := 0, locals := 913 } s m args below meth c H locs 0 0 Q (F0 m 4 ls []) := by
    intro  n4
    induction n4 with
    | zero =>
      intro l1 l2 f_p0_paths f_p0_more H locs ls h
      exact False.elim h
    | succ n4 ih4 =>
      intro l1 l2 f_p0_paths f_p0_more H locs ls h hP hD hS hl
      have h : M_X9_allForced_l4 v_p0_way v_p0_n f_p0_led P  (LP4 (M_X9_allForced_l4 v_p0_way v_p0_n f_p0_led P ) n4) l1 l2 f_p0_paths f_p0_more := h
      refine lv_iload_n hx hb dX9_allForced_4 rfl (lv_at hl 2 rfl) ?_
      refine lv_bipush (v := (12 : Int32)) hx hb dX9_allForced_5 (by decide) ?_
      refine lv_icmp_gt (tgt := 34) hx hb dX9_allForced_7 (by decide) (fun c1 => ?_) (fun c1 => ?_)
      · have h := And.left h c1
        refine lv_iload_n hx hb dX9_allForced_34 rfl (lv_at hl 1 rfl) ?_
        exact z_iret hQ hx hb hr rfl hlocks hK (f_p0_paths, f_p0_more) h hP hD hS dX9_allForced_35
      · have h := And.right h c1
        refine lv_iload_n hx hb dX9_allForced_10 rfl (lv_at hl 1 rfl) ?_
        refine lv_aload_n hx hb dX9_allForced_11 rfl (lv_at hl 0 rfl) ?_
        refine lv_iload_n hx hb dX9_allForced_12 rfl (lv_at hl 2 rfl) ?_
        refine z_cVi (As := [.int l2]) (rest := [.int l1]) (wr := []) (wn := fun u => [(q_p0, .inr (7, [.int v_p0_n, .int v_p0_way, .ref q_p0_led, .int v_p0_deeds, .ref q_p0_were, .ref q_p0_paths, .ref q_p0_more, .ref q_p0_patterns, .int v_p0_patternMany, .ref q_p0_loop, .ref q_p0_ranks, .ref q_p0_counts, .ref q_p0_then, .ref q_p0_table, .ref q_p0_product, .ref q_p0_turned, .ref q_p0_tape, .int v_p0_taped, .int v_p0_hasWhy, .ref q_p0_reasons, .int v_p0_hasImage, .int v_p0_imageN, .int v_p0_imageWay, .ref q_p0_imageLed])), (q_p0_more, .inl (cJ, 64, .inr (.inl u.2))), (q_p0_paths, .inl (cJ, 64, .inr (.inl u.1))), (q_p0_led, .inl (cI, 8, .inl f_p0_led))]) (c_X9_isForced l D cI cJ cB tU tM tS q_p0 q_p0_led q_p0_were q_p0_paths q_p0_more q_p0_patterns q_p0_loop q_p0_ranks q_p0_counts q_p0_then q_p0_table q_p0_product q_p0_turned q_p0_tape q_p0_reasons q_p0_imageLed H.size l2 v_p0_way v_p0_n f_p0_more f_p0_paths f_p0_led v_p0_deeds v_p0_patternMany v_p0_taped v_p0_hasWhy v_p0_hasImage v_p0_imageN v_p0_imageWay _ h) ⟨hx, hb, hml, hown, hts⟩ (cwV 1 hts gX9_allForced_X9_isForced rfl rfl rfl hd_X9_isForced ⟨Nat.le_of_ble_eq_true rfl, Nat.le_of_ble_eq_true rfl⟩) hX hK hP hD hS hA [0, 1, 2, 3] [] [0, 1, 2, 3] rfl rfl rfl (by decide) (fun _ => rfl) (q0 := 0) (ci := 7) rfl rfl rfl hl.1 rfl (Nat.le_of_ble_eq_true rfl) ⟨Nat.le_refl _, Nat.le_refl _⟩ dX9_allForced_13 (fun r2 u2 H locs h hP hD hS => ?_)
        obtain ⟨m2_0, m2_1⟩ := u2
        refine lv_if_eq (tgt := 25) hx hb dX9_allForced_16 (by decide) (fun c3 => ?_) (fun c3 => ?_)
        · have h := And.left h c3
          refine lv_iconst (v := (0 : Int32)) hx hb dX9_allForced_25 (by decide) ?_
          refine lv_ior hx hb dX9_allForced_26 ?_
          refine lv_istore_n (lv' := [(1, .int (l1 ||| (0 : Int32))), (0, .ref q_p0), (2, .int l2)]) hx hb dX9_allForced_27 rfl hl (by decide) rfl (fun ls hl => ?_)
          refine lv_iinc (v := (l2 + 1)) (lv' := [(2, .int (l2 + 1)), (1, .int (l1 ||| (0 : Int32))), (0, .ref q_p0)]) hx hb dX9_allForced_28 hl (k := 2) rfl rfl (by decide) rfl (fun ls hl => ?_)
          refine lv_goto (tgt := 4) hx hb dX9_allForced_31 (by decide) ?_
          exact ih4 (l1 ||| (0 : Int32)) (l2 + 1) m2_0 m2_1 _ _ _ h hP hD hS (lv_sub hl [2, 1, 0] rfl)
        · have h := And.right h c3
          refine lv_iconst (v := (1 : Int32)) hx hb dX9_allForced_19 (by decide) ?_
          refine lv_iload_n hx hb dX9_allForced_20 rfl (lv_at hl 2 rfl) ?_
          refine lv_ishl hx hb dX9_allForced_21 ?_
          refine lv_goto (tgt := 26) hx hb dX9_allForced_22 (by decide) ?_
          refine lv_ior hx hb dX9_allForced_26 ?_
          refine lv_istore_n (lv' := [(1, .int (l1 ||| ((1 : Int32) <<< (l2 &&& 31)))), (0, .ref q_p0), (2, .int l2)]) hx hb dX9_allForced_27 rfl hl (by decide) rfl (fun ls hl => ?_)
          refine lv_iinc (v := (l2 + 1)) (lv' := [(2, .int (l2 + 1)), (1, .int (l1 ||| ((1 : Int32) <<< (l2 &&& 31)))), (0, .ref q_p0)]) hx hb dX9_allForced_28 hl (k := 2) rfl rfl (by decide) rfl (fun ls hl => ?_)
          refine lv_goto (tgt := 4) hx hb dX9_allForced_31 (by decide) ?_
          exact ih4 (l1 ||| ((1 : Int32) <<< (l2 &&& 31))) (l2 + 1) m2_0 m2_1 _ _ _ h hP hD hS (lv_sub hl [2, 1, 0] rfl)
  obtain ⟨n4, h⟩ := h
  exact k4  n4 (0 : Int32) (1 : Int32) f_p0_paths f_p0_more _ _ _ h hP hD hS (lv_sub hl [2, 1, 0] rfl)
theorem hd_X9_isAhead : yX9_isAhead.cls = RX9 ∧ yX9_isAhead.cls ≠ "java/lang/invoke/MethodHandle" ∧ yX9_isAhead.cls ≠ "java/lang/invoke/VarHandle" ∧ (parseMethodDescriptor yX9_isAhead.desc).map (fun d => d.parameters.length) = some 2 := by decide +kernel
set_option maxHeartbeats 4000000 in
set_option maxRecDepth 100000 in
theorem c_X9_isAhead (l : Launch) (D : va_G) (cI cJ cB : ClassId) (tU tM tS : Nat) (sz : Nat) (x0 : Int32) (x1 : Int32)  (P : Int32 → Prop) (h : M_X9_isAhead x0 x1 P) : Met l yX9_isAhead wsX9_isAhead ({ frames := 1, cells := 0, slots := 0, locals := 21 }) (va_Pc [.int x0, .int x1] (zPre D cI cJ cB tU tM tS [] sz)) (va_Qi (fun (r : Int32) (u : Unit) => P r ) (fun u t => zPost D cI cJ cB (va_A [] sz) [] t) (va_A [] sz)) 0 0 (va_A [] sz) := by
  refine z_met (cc := cX9_isAhead) (maxL := 6) (ret := (some .boolean)) (Qc := fun A => va_Qi (fun (r : Int32) (u : Unit) => P r ) (fun u t => zPost D cI cJ cB A [] t) A) (by decide) rfl [.int x0, .int x1] (Nat.le_of_ble_eq_true rfl) ?_
  intro p e s m args below meth c A hx hb hr hts hown hml hlocks hA hX hK H locs hP hD hS ls hl Q hQ
  have hown : s.vm.findClass RX9 = some m.cls := hown
  have hl : lv_has ls 6 [(0, .int x0), (1, .int x1)] := hl
  refine lv_iload_n hx hb dX9_isAhead_0 rfl (lv_at hl 0 rfl) ?_
  refine z_cSi (As := [.int x0]) (rest := []) (wr := []) (wn := fun u => []) (c_J6_numberOfTrailingZeros_0f7a4 l D cI cJ cB tU tM tS  H.size x0 _ h) ⟨hx, hb, hml, hown, hts⟩ (va_cwS 1 hts gX9_isAhead_J6_numberOfTrailingZeros_0f7a4 rfl rfl rfl hd_J6_numberOfTrailingZeros_0f7a4.2 ⟨Nat.le_of_ble_eq_true rfl, Nat.le_of_ble_eq_true rfl⟩) hX hK hP hD hS hA [] [] [] rfl rfl rfl (by decide) (fun _ => rfl) rfl hl.1 rfl (Nat.le_of_ble_eq_true rfl) ⟨Nat.le_refl _, Nat.le_refl _⟩ dX9_isAhead_1 (fun r1 u1 H locs h hP hD hS => ?_)
  refine lv_istore_n (lv' := [(2, .int r1), (0, .int x0), (1, .int x1)]) hx hb dX9_isAhead_4 rfl hl (by decide) rfl (fun ls hl => ?_)
  refine lv_iload_n hx hb dX9_isAhead_5 rfl (lv_at hl 2 rfl) ?_
  refine z_cSi (As := [.int x1]) (rest := []) (wr := []) (wn := fun u => []) (c_J6_numberOfTrailingZeros_0f7a4 l D cI cJ cB tU tM tS  H.size x1 _ h) ⟨hx, hb, hml, hown, hts⟩ (va_cwS 1 hts gX9_isAhead_J6_numberOfTrailingZeros_0f7a4 rfl rfl rfl hd_J6_numberOfTrailingZeros_0f7a4.2 ⟨Nat.le_of_ble_eq_true rfl, Nat.le_of_ble_eq_true rfl⟩) hX hK hP hD hS hA [] [] [] rfl rfl rfl (by decide) (fun _ => rfl) rfl hl.1 rfl (Nat.le_of_ble_eq_true rfl) ⟨Nat.le_refl _, Nat.le_refl _⟩ dX9_isAhead_6 (fun r2 u2 H locs h hP hD hS => ?_)
  refine lv_istore_n (lv' := [(3, .int r2), (2, .int r1), (0, .int x0), (1, .int x1)]) hx hb dX9_isAhead_9 rfl hl (by decide) rfl (fun ls hl => ?_)
  refine lv_iload_n hx hb dX9_isAhead_10 rfl (lv_at hl 2 rfl) ?_
  refine lv_iload_n hx hb dX9_isAhead_11 rfl (lv_at hl 1 rfl) ?_
  refine lv_ishr hx hb dX9_isAhead_12 ?_
  refine lv_istore (lv' := [(4, .int (x0 >>> (r1 &&& 31))), (3, .int r2), (2, .int r1), (0, .int x0), (1, .int x1)]) hx hb dX9_isAhead_13 hl (by decide) rfl (fun ls hl => ?_)
  refine lv_iload_n hx hb dX9_isAhead_15 rfl (lv_at hl 4 rfl) ?_
  refine lv_iload_n hx hb dX9_isAhead_16 rfl (lv_at hl 1 rfl) ?_
  refine lv_ishr hx hb dX9_isAhead_17 ?_
  refine lv_istore (lv' := [(5, .int (x1 >>> (r2 &&& 31))), (4, .int (x0 >>> (r1 &&& 31))), (3, .int r2), (2, .int r1), (0, .int x0), (1, .int x1)]) hx hb dX9_isAhead_18 hl (by decide) rfl (fun ls hl => ?_)
  refine lv_iload hx hb dX9_isAhead_20 (lv_at hl 1 rfl) ?_
  refine lv_iconst (v := (1 : Int32)) hx hb dX9_isAhead_22 (by decide) ?_
  have k32 : ∀ (l2 : Int32) (l3 : Int32) (l4 : Int32) (l5 : Int32) (H : Heap) (locs : List Loc) (ls : Array Slot), M_X9_isAhead_b32 x0 x1 P l2 l3 l4 l5 → va_P D vwCl [] H → va_D A [] → va_S A s.heap H locs → lv_has ls 6 [(2, .int l2), (3, .int l3), (4, .int l4), (5, .int l5)] → W p l e { frames := 1, cells := 0, slots := 0, locals := 21 } s m args below meth c H locs 0 0 Q (F0 m 32 ls []) := by
    intro l2 l3 l4 l5 H locs ls h hP hD hS hl
    refine lv_iload hx hb dX9_isAhead_32 (lv_at hl 2 rfl) ?_
    refine lv_iconst (v := (1 : Int32)) hx hb dX9_isAhead_34 (by decide) ?_
    refine lv_icmp_ne (tgt := 49) hx hb dX9_isAhead_35 (by decide) (fun c3 => ?_) (fun c3 => ?_)
    · have h := And.right h c3
      refine lv_iconst (v := (1 : Int32)) hx hb dX9_isAhead_49 (by decide) ?_
      refine lv_goto (tgt := 54) hx hb dX9_isAhead_50 (by decide) ?_
      exact z_iret hQ hx hb hr rfl hlocks hK () h hP hD hS dX9_isAhead_54
    · have h := And.left h c3
      refine lv_iload hx hb dX9_isAhead_38 (lv_at hl 3 rfl) ?_
      refine lv_iconst (v := (1 : Int32)) hx hb dX9_isAhead_40 (by decide) ?_
      refine lv_icmp_ne (tgt := 53) hx hb dX9_isAhead_41 (by decide) (fun c4 => ?_) (fun c4 => ?_)
      · have h := And.right h c4
        refine lv_iconst (v := (0 : Int32)) hx hb dX9_isAhead_53 (by decide) ?_
        exact z_iret hQ hx hb hr rfl hlocks hK () h hP hD hS dX9_isAhead_54
      · have h := And.left h c4
        refine lv_iload_n hx hb dX9_isAhead_44 rfl (lv_at hl 0 rfl) ?_
        refine lv_iload_n hx hb dX9_isAhead_45 rfl (lv_at hl 1 rfl) ?_
        refine lv_icmp_le (tgt := 53) hx hb dX9_isAhead_46 (by decide) (fun c5 => ?_) (fun c5 => ?_)
        · have h := And.left h c5
          refine lv_iconst (v := (0 : Int32)) hx hb dX9_isAhead_53 (by decide) ?_
          exact z_iret hQ hx hb hr rfl hlocks hK () h hP hD hS dX9_isAhead_54
        · have h := And.right h c5
          refine lv_iconst (v := (1 : Int32)) hx hb dX9_isAhead_49 (by decide) ?_
          refine lv_goto (tgt := 54) hx hb dX9_isAhead_50 (by decide) ?_
          exact z_iret hQ hx hb hr rfl hlocks hK () h hP hD hS dX9_isAhead_54
  refine lv_icmp_eq (tgt := 32) hx hb dX9_isAhead_23 (by decide) (fun c6 => ?_) (fun c6 => ?_)
  · have h := And.left h c6
    exact k32 r1 r2 (x0 >>> (r1 &&& 31)) (x1 >>> (r2 &&& 31)) _ _ _ h hP hD hS (lv_sub hl [3, 2, 1, 0] rfl)
  · have h := And.right h c6
    refine lv_iload hx hb dX9_isAhead_26 (lv_at hl 0 rfl) ?_
    refine lv_iconst (v := (1 : Int32)) hx hb dX9_isAhead_28 (by decide) ?_
    refine lv_icmp_ne (tgt := 55) hx hb dX9_isAhead_29 (by decide) (fun c7 => ?_) (fun c7 => ?_)
    · have h := And.right h c7
      refine lv_iload_n hx hb dX9_isAhead_55 rfl (lv_at hl 3 rfl) ?_
      refine lv_iload_n hx hb dX9_isAhead_56 rfl (lv_at hl 2 rfl) ?_
      refine lv_icmp_eq (tgt := 73) hx hb dX9_isAhead_57 (by decide) (fun c8 => ?_) (fun c8 => ?_)
      · have h := And.left h c8
        refine lv_iload hx hb dX9_isAhead_73 (lv_at hl 1 rfl) ?_
        refine lv_iload hx hb dX9_isAhead_75 (lv_at hl 0 rfl) ?_
        refine lv_icmp_ge (tgt := 84) hx hb dX9_isAhead_77 (by decide) (fun c9 => ?_) (fun c9 => ?_)
        · have h := And.left h c9
          refine lv_iconst (v := (0 : Int32)) hx hb dX9_isAhead_84 (by decide) ?_
          exact z_iret hQ hx hb hr rfl hlocks hK () h hP hD hS dX9_isAhead_85
        · have h := And.right h c9
          refine lv_iconst (v := (1 : Int32)) hx hb dX9_isAhead_80 (by decide) ?_
          refine lv_goto (tgt := 85) hx hb dX9_isAhead_81 (by decide) ?_
          exact z_iret hQ hx hb hr rfl hlocks hK () h hP hD hS dX9_isAhead_85
      · have h := And.right h c8
        refine lv_iload_n hx hb dX9_isAhead_60 rfl (lv_at hl 3 rfl) ?_
        refine lv_iload_n hx hb dX9_isAhead_61 rfl (lv_at hl 2 rfl) ?_
        refine lv_icmp_ge (tgt := 69) hx hb dX9_isAhead_62 (by decide) (fun c10 => ?_) (fun c10 => ?_)
        · have h := And.left h c10
          refine lv_iconst (v := (0 : Int32)) hx hb dX9_isAhead_69 (by decide) ?_
          refine lv_goto (tgt := 85) hx hb dX9_isAhead_70 (by decide) ?_
          exact z_iret hQ hx hb hr rfl hlocks hK () h hP hD hS dX9_isAhead_85
        · have h := And.right h c10
          refine lv_iconst (v := (1 : Int32)) hx hb dX9_isAhead_65 (by decide) ?_
          refine lv_goto (tgt := 85) hx hb dX9_isAhead_66 (by decide) ?_
          exact z_iret hQ hx hb hr rfl hlocks hK () h hP hD hS dX9_isAhead_85
    · have h := And.left h c7
      exact k32 r1 r2 (x0 >>> (r1 &&& 31)) (x1 >>> (r2 &&& 31)) _ _ _ h hP hD hS (lv_sub hl [3, 2, 1, 0] rfl)
theorem hd_X9_ahead : yX9_ahead.cls = RX9 ∧ yX9_ahead.cls ≠ "java/lang/invoke/MethodHandle" ∧ yX9_ahead.cls ≠ "java/lang/invoke/VarHandle" ∧ (parseMethodDescriptor yX9_ahead.desc).map (fun d => d.parameters.length) = some 2 := by decide +kernel
set_option maxHeartbeats 4000000 in
set_option maxRecDepth 100000 in
theorem c_X9_ahead (l : Launch) (D : va_G) (cI cJ cB : ClassId) (tU tM tS : Nat) (q_p0 : Nat) (sz : Nat) (x1 : Int32) (x2 : Int32)  (P : Int32 → Prop) (h : M_X9_ahead x1 x2 P) : Met l yX9_ahead wsX9_ahead ({ frames := 2, cells := 0, slots := 0, locals := 46 }) (va_Pc [.ref q_p0, .int x1, .int x2] (zPre D cI cJ cB tU tM tS [] sz)) (va_Qi (fun (r : Int32) (u : Unit) => P r ) (fun u t => zPost D cI cJ cB (va_A [] sz) [] t) (va_A [] sz)) 0 0 (va_A [] sz) := by
  refine z_met (cc := cX9_ahead) (maxL := 3) (ret := (some .int)) (Qc := fun A => va_Qi (fun (r : Int32) (u : Unit) => P r ) (fun u t => zPost D cI cJ cB A [] t) A) (by decide) rfl [.ref q_p0, .int x1, .int x2] (Nat.le_of_ble_eq_true rfl) ?_
  intro p e s m args below meth c A hx hb hr hts hown hml hlocks hA hX hK H locs hP hD hS ls hl Q hQ
  have hown : s.vm.findClass RX9 = some m.cls := hown
  have hl : lv_has ls 3 [(0, .ref q_p0), (1, .int x1), (2, .int x2)] := hl
  have hw0 : (Cond.constantLong RX9 159 (99)).before args s = true := hts _ (List.mem_of_getElem? (i := 1) rfl)
  refine lv_iload_n hx hb dX9_ahead_0 rfl (lv_at hl 1 rfl) ?_
  refine lv_i2l (v := x1.toInt64) hx hb dX9_ahead_1 rfl ?_
  refine lv_lconst (v := (1 : Int64)) hx hb dX9_ahead_2 (by decide) ?_
  refine lv_ldc2 (v := (99 : Int64)) hx hb hown hw0 dX9_ahead_3 ?_
  refine z_cSi (As := [.long x1.toInt64, .long (1 : Int64), .long (99 : Int64)]) (rest := []) (wr := []) (wn := fun u => []) (c_X9_in l D cI cJ cB tU tM tS  H.size x1.toInt64 (1 : Int64) (99 : Int64) _ h) ⟨hx, hb, hml, hown, hts⟩ (va_cwS 3 hts gX9_ahead_X9_in rfl rfl rfl hd_X9_in.2 ⟨Nat.le_of_ble_eq_true rfl, Nat.le_of_ble_eq_true rfl⟩) hX hK hP hD hS hA [] [] [] rfl rfl rfl (by decide) (fun _ => rfl) rfl hl.1 rfl (Nat.le_of_ble_eq_true rfl) ⟨Nat.le_refl _, Nat.le_refl _⟩ dX9_ahead_6 (fun r1 u1 H locs h hP hD hS => ?_)
  refine lv_if_eq (tgt := 24) hx hb dX9_ahead_9 (by decide) (fun c2 => ?_) (fun c2 => ?_)
  · have h := And.left h c2
    refine lv_bipush (v := (-2 : Int32)) hx hb dX9_ahead_24 (by decide) ?_
    exact z_iret hQ hx hb hr rfl hlocks hK () h hP hD hS dX9_ahead_26
  · have h := And.right h c2
    refine lv_iload_n hx hb dX9_ahead_12 rfl (lv_at hl 2 rfl) ?_
    refine lv_i2l (v := x2.toInt64) hx hb dX9_ahead_13 rfl ?_
    refine lv_lconst (v := (1 : Int64)) hx hb dX9_ahead_14 (by decide) ?_
    refine lv_ldc2 (v := (99 : Int64)) hx hb hown hw0 dX9_ahead_15 ?_
    refine z_cSi (As := [.long x2.toInt64, .long (1 : Int64), .long (99 : Int64)]) (rest := []) (wr := []) (wn := fun u => []) (c_X9_in l D cI cJ cB tU tM tS  H.size x2.toInt64 (1 : Int64) (99 : Int64) _ h) ⟨hx, hb, hml, hown, hts⟩ (va_cwS 3 hts gX9_ahead_X9_in rfl rfl rfl hd_X9_in.2 ⟨Nat.le_of_ble_eq_true rfl, Nat.le_of_ble_eq_true rfl⟩) hX hK hP hD hS hA [] [] [] rfl rfl rfl (by decide) (fun _ => rfl) rfl hl.1 rfl (Nat.le_of_ble_eq_true rfl) ⟨Nat.le_refl _, Nat.le_refl _⟩ dX9_ahead_18 (fun r3 u3 H locs h hP hD hS => ?_)
    refine lv_if_ne (tgt := 27) hx hb dX9_ahead_21 (by decide) (fun c4 => ?_) (fun c4 => ?_)
    · have h := And.right h c4
      refine lv_iload_n hx hb dX9_ahead_27 rfl (lv_at hl 1 rfl) ?_
      refine lv_iload_n hx hb dX9_ahead_28 rfl (lv_at hl 2 rfl) ?_
      refine lv_icmp_eq (tgt := 44) hx hb dX9_ahead_29 (by decide) (fun c5 => ?_) (fun c5 => ?_)
      · have h := And.left h c5
        refine lv_iconst (v := (0 : Int32)) hx hb dX9_ahead_44 (by decide) ?_
        exact z_iret hQ hx hb hr rfl hlocks hK () h hP hD hS dX9_ahead_45
      · have h := And.right h c5
        refine lv_iload_n hx hb dX9_ahead_32 rfl (lv_at hl 1 rfl) ?_
        refine lv_iload_n hx hb dX9_ahead_33 rfl (lv_at hl 2 rfl) ?_
        refine z_cSi (As := [.int x1, .int x2]) (rest := []) (wr := []) (wn := fun u => []) (c_X9_isAhead l D cI cJ cB tU tM tS  H.size x1 x2 _ h) ⟨hx, hb, hml, hown, hts⟩ (va_cwS 2 hts gX9_ahead_X9_isAhead rfl rfl rfl hd_X9_isAhead.2 ⟨Nat.le_of_ble_eq_true rfl, Nat.le_of_ble_eq_true rfl⟩) hX hK hP hD hS hA [] [] [] rfl rfl rfl (by decide) (fun _ => rfl) rfl hl.1 rfl (Nat.le_of_ble_eq_true rfl) ⟨Nat.le_refl _, Nat.le_refl _⟩ dX9_ahead_34 (fun r6 u6 H locs h hP hD hS => ?_)
        refine lv_if_eq (tgt := 44) hx hb dX9_ahead_37 (by decide) (fun c7 => ?_) (fun c7 => ?_)
        · have h := And.left h c7
          refine lv_iconst (v := (0 : Int32)) hx hb dX9_ahead_44 (by decide) ?_
          exact z_iret hQ hx hb hr rfl hlocks hK () h hP hD hS dX9_ahead_45
        · have h := And.right h c7
          refine lv_iconst (v := (1 : Int32)) hx hb dX9_ahead_40 (by decide) ?_
          refine lv_goto (tgt := 45) hx hb dX9_ahead_41 (by decide) ?_
          exact z_iret hQ hx hb hr rfl hlocks hK () h hP hD hS dX9_ahead_45
    · have h := And.left h c4
      refine lv_bipush (v := (-2 : Int32)) hx hb dX9_ahead_24 (by decide) ?_
      exact z_iret hQ hx hb hr rfl hlocks hK () h hP hD hS dX9_ahead_26
theorem hd_X9_placeOf : yX9_placeOf.cls = RX9 ∧ yX9_placeOf.cls ≠ "java/lang/invoke/MethodHandle" ∧ yX9_placeOf.cls ≠ "java/lang/invoke/VarHandle" ∧ (parseMethodDescriptor yX9_placeOf.desc).map (fun d => d.parameters.length) = some 1 := by decide +kernel
set_option maxHeartbeats 4000000 in
set_option maxRecDepth 100000 in
theorem c_X9_placeOf (l : Launch) (D : va_G) (cI cJ cB : ClassId) (tU tM tS : Nat) (sz : Nat) (x0 : Int32)  (P : Int32 → Prop) (h : M_X9_placeOf x0 P) : Met l yX9_placeOf wsX9_placeOf ({ frames := 2, cells := 0, slots := 0, locals := 46 }) (va_Pc [.int x0] (zPre D cI cJ cB tU tM tS [] sz)) (va_Qi (fun (r : Int32) (u : Unit) => P r ) (fun u t => zPost D cI cJ cB (va_A [] sz) [] t) (va_A [] sz)) 0 0 (va_A [] sz) := by
  refine z_met (cc := cX9_placeOf) (maxL := 3) (ret := (some .int)) (Qc := fun A => va_Qi (fun (r : Int32) (u : Unit) => P r ) (fun u t => zPost D cI cJ cB A [] t) A) (by decide) rfl [.int x0] (Nat.le_of_ble_eq_true rfl) ?_
  intro p e s m args below meth c A hx hb hr hts hown hml hlocks hA hX hK H locs hP hD hS ls hl Q hQ
  have hown : s.vm.findClass RX9 = some m.cls := hown
  have hl : lv_has ls 3 [(0, .int x0)] := hl
  refine lv_iconst (v := (0 : Int32)) hx hb dX9_placeOf_0 (by decide) ?_
  refine lv_istore_n (lv' := [(1, .int (0 : Int32)), (0, .int x0)]) hx hb dX9_placeOf_1 rfl hl (by decide) rfl (fun ls hl => ?_)
  refine lv_iconst (v := (1 : Int32)) hx hb dX9_placeOf_2 (by decide) ?_
  refine lv_istore_n (lv' := [(2, .int (1 : Int32)), (1, .int (0 : Int32)), (0, .int x0)]) hx hb dX9_placeOf_3 rfl hl (by decide) rfl (fun ls hl => ?_)
  have k4 : ∀  (n4 : Nat) (l1 : Int32) (l2 : Int32) (H : Heap) (locs : List Loc) (ls : Array Slot), LP2 (M_X9_placeOf_l4 x0 P ) n4 l1 l2 → va_P D vwCl [] H → va_D A [] → va_S A s.heap H locs → lv_has ls 3 [(0, .int x0), (1, .int l1), (2, .int l2)] → W p l e { frames := 2, cells := 0, slots := 0, locals := 46 } s m args below meth c H locs 0 0 Q (F0 m 4 ls []) := by
    intro  n4
    induction n4 with
    | zero =>
      intro l1 l2 H locs ls h
      exact False.elim h
    | succ n4 ih4 =>
      intro l1 l2 H locs ls h hP hD hS hl
      have h : M_X9_placeOf_l4 x0 P  (LP2 (M_X9_placeOf_l4 x0 P ) n4) l1 l2 := h
      refine lv_iload_n hx hb dX9_placeOf_4 rfl (lv_at hl 2 rfl) ?_
      refine lv_bipush (v := (12 : Int32)) hx hb dX9_placeOf_5 (by decide) ?_
      refine lv_icmp_gt (tgt := 37) hx hb dX9_placeOf_7 (by decide) (fun c1 => ?_) (fun c1 => ?_)
      · have h := And.left h c1
        refine lv_iload_n hx hb dX9_placeOf_37 rfl (lv_at hl 1 rfl) ?_
        exact z_iret hQ hx hb hr rfl hlocks hK () h hP hD hS dX9_placeOf_38
      · have h := And.right h c1
        refine lv_iload_n hx hb dX9_placeOf_10 rfl (lv_at hl 1 rfl) ?_
        refine lv_iload_n hx hb dX9_placeOf_11 rfl (lv_at hl 2 rfl) ?_
        refine lv_iload_n hx hb dX9_placeOf_12 rfl (lv_at hl 0 rfl) ?_
        refine lv_icmp_eq (tgt := 28) hx hb dX9_placeOf_13 (by decide) (fun c2 => ?_) (fun c2 => ?_)
        · have h := And.left h c2
          refine lv_iconst (v := (0 : Int32)) hx hb dX9_placeOf_28 (by decide) ?_
          refine lv_iadd hx hb dX9_placeOf_29 ?_
          refine lv_istore_n (lv' := [(1, .int (l1 + (0 : Int32))), (0, .int x0), (2, .int l2)]) hx hb dX9_placeOf_30 rfl hl (by decide) rfl (fun ls hl => ?_)
          refine lv_iinc (v := (l2 + 1)) (lv' := [(2, .int (l2 + 1)), (1, .int (l1 + (0 : Int32))), (0, .int x0)]) hx hb dX9_placeOf_31 hl (k := 2) rfl rfl (by decide) rfl (fun ls hl => ?_)
          refine lv_goto (tgt := 4) hx hb dX9_placeOf_34 (by decide) ?_
          exact ih4 (l1 + (0 : Int32)) (l2 + 1) _ _ _ h hP hD hS (lv_sub hl [2, 1, 0] rfl)
        · have h := And.right h c2
          refine lv_iload_n hx hb dX9_placeOf_16 rfl (lv_at hl 2 rfl) ?_
          refine lv_iload_n hx hb dX9_placeOf_17 rfl (lv_at hl 0 rfl) ?_
          refine z_cSi (As := [.int l2, .int x0]) (rest := [.int l1]) (wr := []) (wn := fun u => []) (c_X9_isAhead l D cI cJ cB tU tM tS  H.size l2 x0 _ h) ⟨hx, hb, hml, hown, hts⟩ (va_cwS 2 hts gX9_placeOf_X9_isAhead rfl rfl rfl hd_X9_isAhead.2 ⟨Nat.le_of_ble_eq_true rfl, Nat.le_of_ble_eq_true rfl⟩) hX hK hP hD hS hA [] [] [] rfl rfl rfl (by decide) (fun _ => rfl) rfl hl.1 rfl (Nat.le_of_ble_eq_true rfl) ⟨Nat.le_refl _, Nat.le_refl _⟩ dX9_placeOf_18 (fun r3 u3 H locs h hP hD hS => ?_)
          refine lv_if_eq (tgt := 28) hx hb dX9_placeOf_21 (by decide) (fun c4 => ?_) (fun c4 => ?_)
          · have h := And.left h c4
            refine lv_iconst (v := (0 : Int32)) hx hb dX9_placeOf_28 (by decide) ?_
            refine lv_iadd hx hb dX9_placeOf_29 ?_
            refine lv_istore_n (lv' := [(1, .int (l1 + (0 : Int32))), (0, .int x0), (2, .int l2)]) hx hb dX9_placeOf_30 rfl hl (by decide) rfl (fun ls hl => ?_)
            refine lv_iinc (v := (l2 + 1)) (lv' := [(2, .int (l2 + 1)), (1, .int (l1 + (0 : Int32))), (0, .int x0)]) hx hb dX9_placeOf_31 hl (k := 2) rfl rfl (by decide) rfl (fun ls hl => ?_)
            refine lv_goto (tgt := 4) hx hb dX9_placeOf_34 (by decide) ?_
            exact ih4 (l1 + (0 : Int32)) (l2 + 1) _ _ _ h hP hD hS (lv_sub hl [2, 1, 0] rfl)
          · have h := And.right h c4
            refine lv_iconst (v := (1 : Int32)) hx hb dX9_placeOf_24 (by decide) ?_
            refine lv_goto (tgt := 29) hx hb dX9_placeOf_25 (by decide) ?_
            refine lv_iadd hx hb dX9_placeOf_29 ?_
            refine lv_istore_n (lv' := [(1, .int (l1 + (1 : Int32))), (0, .int x0), (2, .int l2)]) hx hb dX9_placeOf_30 rfl hl (by decide) rfl (fun ls hl => ?_)
            refine lv_iinc (v := (l2 + 1)) (lv' := [(2, .int (l2 + 1)), (1, .int (l1 + (1 : Int32))), (0, .int x0)]) hx hb dX9_placeOf_31 hl (k := 2) rfl rfl (by decide) rfl (fun ls hl => ?_)
            refine lv_goto (tgt := 4) hx hb dX9_placeOf_34 (by decide) ?_
            exact ih4 (l1 + (1 : Int32)) (l2 + 1) _ _ _ h hP hD hS (lv_sub hl [2, 1, 0] rfl)
  obtain ⟨n4, h⟩ := h
  exact k4  n4 (0 : Int32) (1 : Int32) _ _ _ h hP hD hS (lv_sub hl [2, 1, 0] rfl)
theorem hd_X9_order : yX9_order.cls = RX9 ∧ yX9_order.cls ≠ "java/lang/invoke/MethodHandle" ∧ yX9_order.cls ≠ "java/lang/invoke/VarHandle" ∧ (parseMethodDescriptor yX9_order.desc).map (fun d => d.parameters.length) = some 2 := by decide +kernel
set_option maxHeartbeats 4000000 in
set_option maxRecDepth 100000 in
theorem c_X9_order (l : Launch) (D : va_G) (cI cJ cB : ClassId) (tU tM tS : Nat) (q_p0 : Nat) (sz : Nat) (x1 : Int32) (x2 : Int32)  (P : Int32 → Prop) (h : M_X9_order x1 x2 P) : Met l yX9_order wsX9_order ({ frames := 3, cells := 0, slots := 0, locals := 68 }) (va_Pc [.ref q_p0, .int x1, .int x2] (zPre D cI cJ cB tU tM tS [] sz)) (va_Qi (fun (r : Int32) (u : Unit) => P r ) (fun u t => zPost D cI cJ cB (va_A [] sz) [] t) (va_A [] sz)) 0 0 (va_A [] sz) := by
  refine z_met (cc := cX9_order) (maxL := 5) (ret := (some .int)) (Qc := fun A => va_Qi (fun (r : Int32) (u : Unit) => P r ) (fun u t => zPost D cI cJ cB A [] t) A) (by decide) rfl [.ref q_p0, .int x1, .int x2] (Nat.le_of_ble_eq_true rfl) ?_
  intro p e s m args below meth c A hx hb hr hts hown hml hlocks hA hX hK H locs hP hD hS ls hl Q hQ
  have hown : s.vm.findClass RX9 = some m.cls := hown
  have hl : lv_has ls 5 [(0, .ref q_p0), (1, .int x1), (2, .int x2)] := hl
  refine lv_iload_n hx hb dX9_order_0 rfl (lv_at hl 2 rfl) ?_
  refine lv_i2l (v := x2.toInt64) hx hb dX9_order_1 rfl ?_
  refine lv_lconst (v := (0 : Int64)) hx hb dX9_order_2 (by decide) ?_
  refine lv_lconst (v := (1 : Int64)) hx hb dX9_order_3 (by decide) ?_
  refine z_cSi (As := [.long x2.toInt64, .long (0 : Int64), .long (1 : Int64)]) (rest := []) (wr := []) (wn := fun u => []) (c_X9_in l D cI cJ cB tU tM tS  H.size x2.toInt64 (0 : Int64) (1 : Int64) _ h) ⟨hx, hb, hml, hown, hts⟩ (va_cwS 3 hts gX9_order_X9_in rfl rfl rfl hd_X9_in.2 ⟨Nat.le_of_ble_eq_true rfl, Nat.le_of_ble_eq_true rfl⟩) hX hK hP hD hS hA [] [] [] rfl rfl rfl (by decide) (fun _ => rfl) rfl hl.1 rfl (Nat.le_of_ble_eq_true rfl) ⟨Nat.le_refl _, Nat.le_refl _⟩ dX9_order_4 (fun r1 u1 H locs h hP hD hS => ?_)
  refine lv_if_eq (tgt := 27) hx hb dX9_order_7 (by decide) (fun c2 => ?_) (fun c2 => ?_)
  · have h := And.left h c2
    refine lv_bipush (v := (-2 : Int32)) hx hb dX9_order_27 (by decide) ?_
    exact z_iret hQ hx hb hr rfl hlocks hK () h hP hD hS dX9_order_29
  · have h := And.right h c2
    refine lv_iload_n hx hb dX9_order_10 rfl (lv_at hl 1 rfl) ?_
    refine lv_i2l (v := x1.toInt64) hx hb dX9_order_11 rfl ?_
    refine lv_iload_n hx hb dX9_order_12 rfl (lv_at hl 2 rfl) ?_
    refine lv_i2l (v := x2.toInt64) hx hb dX9_order_13 rfl ?_
    refine lv_iload_n hx hb dX9_order_14 rfl (lv_at hl 2 rfl) ?_
    refine lv_bipush (v := (12 : Int32)) hx hb dX9_order_15 (by decide) ?_
    refine lv_iadd hx hb dX9_order_17 ?_
    refine lv_iconst (v := (1 : Int32)) hx hb dX9_order_18 (by decide) ?_
    refine lv_isub hx hb dX9_order_19 ?_
    refine lv_i2l (v := ((x2 + (12 : Int32)) - (1 : Int32)).toInt64) hx hb dX9_order_20 rfl ?_
    refine z_cSi (As := [.long x1.toInt64, .long x2.toInt64, .long (((x2 + (12 : Int32)) - (1 : Int32)).toInt64)]) (rest := []) (wr := []) (wn := fun u => []) (c_X9_in l D cI cJ cB tU tM tS  H.size x1.toInt64 x2.toInt64 (((x2 + (12 : Int32)) - (1 : Int32)).toInt64) _ h) ⟨hx, hb, hml, hown, hts⟩ (va_cwS 3 hts gX9_order_X9_in rfl rfl rfl hd_X9_in.2 ⟨Nat.le_of_ble_eq_true rfl, Nat.le_of_ble_eq_true rfl⟩) hX hK hP hD hS hA [] [] [] rfl rfl rfl (by decide) (fun _ => rfl) rfl hl.1 rfl (Nat.le_of_ble_eq_true rfl) ⟨Nat.le_refl _, Nat.le_refl _⟩ dX9_order_21 (fun r3 u3 H locs h hP hD hS => ?_)
    refine lv_if_ne (tgt := 30) hx hb dX9_order_24 (by decide) (fun c4 => ?_) (fun c4 => ?_)
    · have h := And.right h c4
      refine lv_iload_n hx hb dX9_order_30 rfl (lv_at hl 2 rfl) ?_
      refine lv_iconst (v := (1 : Int32)) hx hb dX9_order_31 (by decide) ?_
      refine lv_icmp_ne (tgt := 40) hx hb dX9_order_32 (by decide) (fun c5 => ?_) (fun c5 => ?_)
      · have h := And.right h c5
        refine lv_iconst (v := (0 : Int32)) hx hb dX9_order_40 (by decide) ?_
        refine lv_istore_n (lv' := [(3, .int (0 : Int32)), (0, .ref q_p0), (1, .int x1), (2, .int x2)]) hx hb dX9_order_41 rfl hl (by decide) rfl (fun ls hl => ?_)
        refine lv_iconst (v := (1 : Int32)) hx hb dX9_order_42 (by decide) ?_
        refine lv_istore (lv' := [(4, .int (1 : Int32)), (3, .int (0 : Int32)), (0, .ref q_p0), (1, .int x1), (2, .int x2)]) hx hb dX9_order_43 hl (by decide) rfl (fun ls hl => ?_)
        have k45 : ∀  (n45 : Nat) (l3 : Int32) (l4 : Int32) (H : Heap) (locs : List Loc) (ls : Array Slot), LP2 (M_X9_order_l45 x1 x2 P ) n45 l3 l4 → va_P D vwCl [] H → va_D A [] → va_S A s.heap H locs → lv_has ls 5 [(1, .int x1), (3, .int l3), (4, .int l4)] → W p l e { frames := 3, cells := 0, slots := 0, locals := 68 } s m args below meth c H locs 0 0 Q (F0 m 45 ls []) := by
          intro  n45
          induction n45 with
          | zero =>
            intro l3 l4 H locs ls h
            exact False.elim h
          | succ n45 ih45 =>
            intro l3 l4 H locs ls h hP hD hS hl
            have h : M_X9_order_l45 x1 x2 P  (LP2 (M_X9_order_l45 x1 x2 P ) n45) l3 l4 := h
            refine lv_iload hx hb dX9_order_45 (lv_at hl 2 rfl) ?_
            refine lv_bipush (v := (12 : Int32)) hx hb dX9_order_47 (by decide) ?_
            refine lv_icmp_gt (tgt := 74) hx hb dX9_order_49 (by decide) (fun c6 => ?_) (fun c6 => ?_)
            · have h := And.left h c6
              refine lv_iload_n hx hb dX9_order_74 rfl (lv_at hl 1 rfl) ?_
              exact z_iret hQ hx hb hr rfl hlocks hK () h hP hD hS dX9_order_75
            · have h := And.right h c6
              refine lv_iload hx hb dX9_order_52 (lv_at hl 2 rfl) ?_
              refine z_cSi (As := [.int l4]) (rest := []) (wr := []) (wn := fun u => []) (c_X9_placeOf l D cI cJ cB tU tM tS  H.size l4 _ h) ⟨hx, hb, hml, hown, hts⟩ (va_cwS 1 hts gX9_order_X9_placeOf rfl rfl rfl hd_X9_placeOf.2 ⟨Nat.le_of_ble_eq_true rfl, Nat.le_of_ble_eq_true rfl⟩) hX hK hP hD hS hA [] [] [] rfl rfl rfl (by decide) (fun _ => rfl) rfl hl.1 rfl (Nat.le_of_ble_eq_true rfl) ⟨Nat.le_refl _, Nat.le_refl _⟩ dX9_order_54 (fun r7 u7 H locs h hP hD hS => ?_)
              refine lv_iload_n hx hb dX9_order_57 rfl (lv_at hl 0 rfl) ?_
              refine lv_icmp_ne (tgt := 66) hx hb dX9_order_58 (by decide) (fun c8 => ?_) (fun c8 => ?_)
              · have h := And.right h c8
                refine lv_iload_n hx hb dX9_order_66 rfl (lv_at hl 1 rfl) ?_
                refine lv_istore_n (lv' := [(3, .int l3), (1, .int x1), (4, .int l4)]) hx hb dX9_order_67 rfl hl (by decide) rfl (fun ls hl => ?_)
                refine lv_iinc (v := (l4 + 1)) (lv' := [(4, .int (l4 + 1)), (3, .int l3), (1, .int x1)]) hx hb dX9_order_68 hl (k := 2) rfl rfl (by decide) rfl (fun ls hl => ?_)
                refine lv_goto (tgt := 45) hx hb dX9_order_71 (by decide) ?_
                exact ih45 l3 (l4 + 1) _ _ _ h hP hD hS (lv_sub hl [2, 1, 0] rfl)
              · have h := And.left h c8
                refine lv_iload hx hb dX9_order_61 (lv_at hl 2 rfl) ?_
                refine lv_goto (tgt := 67) hx hb dX9_order_63 (by decide) ?_
                refine lv_istore_n (lv' := [(3, .int l4), (1, .int x1), (4, .int l4)]) hx hb dX9_order_67 rfl hl (by decide) rfl (fun ls hl => ?_)
                refine lv_iinc (v := (l4 + 1)) (lv' := [(4, .int (l4 + 1)), (3, .int l4), (1, .int x1)]) hx hb dX9_order_68 hl (k := 2) rfl rfl (by decide) rfl (fun ls hl => ?_)
                refine lv_goto (tgt := 45) hx hb dX9_order_71 (by decide) ?_
                exact ih45 l4 (l4 + 1) _ _ _ h hP hD hS (lv_sub hl [2, 1, 0] rfl)
        obtain ⟨n45, h⟩ := h
        exact k45  n45 (0 : Int32) (1 : Int32) _ _ _ h hP hD hS (lv_sub hl [3, 1, 0] rfl)
      · have h := And.left h c5
        refine lv_iload_n hx hb dX9_order_35 rfl (lv_at hl 1 rfl) ?_
        refine z_cSi (As := [.int x1]) (rest := []) (wr := []) (wn := fun u => []) (c_X9_placeOf l D cI cJ cB tU tM tS  H.size x1 _ h) ⟨hx, hb, hml, hown, hts⟩ (va_cwS 1 hts gX9_order_X9_placeOf rfl rfl rfl hd_X9_placeOf.2 ⟨Nat.le_of_ble_eq_true rfl, Nat.le_of_ble_eq_true rfl⟩) hX hK hP hD hS hA [] [] [] rfl rfl rfl (by decide) (fun _ => rfl) rfl hl.1 rfl (Nat.le_of_ble_eq_true rfl) ⟨Nat.le_refl _, Nat.le_refl _⟩ dX9_order_36 (fun r9 u9 H locs h hP hD hS => ?_)
        exact z_iret hQ hx hb hr rfl hlocks hK () h hP hD hS dX9_order_39
    · have h := And.left h c4
      refine lv_bipush (v := (-2 : Int32)) hx hb dX9_order_27 (by decide) ?_
      exact z_iret hQ hx hb hr rfl hlocks hK () h hP hD hS dX9_order_29
theorem hd_X9_comes : yX9_comes.cls = RX9 ∧ yX9_comes.cls ≠ "java/lang/invoke/MethodHandle" ∧ yX9_comes.cls ≠ "java/lang/invoke/VarHandle" ∧ (parseMethodDescriptor yX9_comes.desc).map (fun d => d.parameters.length) = some 1 := by decide +kernel
set_option maxHeartbeats 4000000 in
set_option maxRecDepth 100000 in
theorem c_X9_comes (l : Launch) (D : va_G) (cI cJ cB : ClassId) (tU tM tS : Nat) (q_p0 q_p0_led q_p0_were q_p0_paths q_p0_more q_p0_patterns q_p0_loop q_p0_ranks q_p0_counts q_p0_then q_p0_table q_p0_product q_p0_turned q_p0_tape q_p0_reasons q_p0_imageLed : Nat) (sz : Nat) (x1 : Int32) (v_p0_patternMany : Int32) (f_p0_patterns : (Nat → Int32)) (v_p0_n : Int32) (v_p0_way : Int32) (v_p0_deeds : Int32) (v_p0_taped : Int32) (v_p0_hasWhy : Int32) (v_p0_hasImage : Int32) (v_p0_imageN : Int32) (v_p0_imageWay : Int32) (P : (Nat → Int32) → Int32 → Prop) (h : M_X9_comes x1 v_p0_patternMany f_p0_patterns P) : Met l yX9_comes wsX9_comes ({ frames := 0, cells := 0, slots := 0, locals := 0 }) (va_Pc [.ref q_p0, .int x1] (zPre D cI cJ cB tU tM tS [(q_p0, .inr (7, [.int v_p0_n, .int v_p0_way, .ref q_p0_led, .int v_p0_deeds, .ref q_p0_were, .ref q_p0_paths, .ref q_p0_more, .ref q_p0_patterns, .int v_p0_patternMany, .ref q_p0_loop, .ref q_p0_ranks, .ref q_p0_counts, .ref q_p0_then, .ref q_p0_table, .ref q_p0_product, .ref q_p0_turned, .ref q_p0_tape, .int v_p0_taped, .int v_p0_hasWhy, .ref q_p0_reasons, .int v_p0_hasImage, .int v_p0_imageN, .int v_p0_imageWay, .ref q_p0_imageLed])), (q_p0_patterns, .inl (cI, 800, .inl f_p0_patterns))] sz)) (va_Qv (fun u : (Nat → Int32) × Int32 => P u.1 u.2) (fun u t => zPost D cI cJ cB (va_A [(q_p0, .inr (7, [.int v_p0_n, .int v_p0_way, .ref q_p0_led, .int v_p0_deeds, .ref q_p0_were, .ref q_p0_paths, .ref q_p0_more, .ref q_p0_patterns, .int v_p0_patternMany, .ref q_p0_loop, .ref q_p0_ranks, .ref q_p0_counts, .ref q_p0_then, .ref q_p0_table, .ref q_p0_product, .ref q_p0_turned, .ref q_p0_tape, .int v_p0_taped, .int v_p0_hasWhy, .ref q_p0_reasons, .int v_p0_hasImage, .int v_p0_imageN, .int v_p0_imageWay, .ref q_p0_imageLed])), (q_p0_patterns, .inl (cI, 800, .inl f_p0_patterns))] sz) [(q_p0, .inr (7, [.int v_p0_n, .int v_p0_way, .ref q_p0_led, .int v_p0_deeds, .ref q_p0_were, .ref q_p0_paths, .ref q_p0_more, .ref q_p0_patterns, .int u.2, .ref q_p0_loop, .ref q_p0_ranks, .ref q_p0_counts, .ref q_p0_then, .ref q_p0_table, .ref q_p0_product, .ref q_p0_turned, .ref q_p0_tape, .int v_p0_taped, .int v_p0_hasWhy, .ref q_p0_reasons, .int v_p0_hasImage, .int v_p0_imageN, .int v_p0_imageWay, .ref q_p0_imageLed])), (q_p0_patterns, .inl (cI, 800, .inl u.1))] t) (va_A [(q_p0, .inr (7, [.int v_p0_n, .int v_p0_way, .ref q_p0_led, .int v_p0_deeds, .ref q_p0_were, .ref q_p0_paths, .ref q_p0_more, .ref q_p0_patterns, .int v_p0_patternMany, .ref q_p0_loop, .ref q_p0_ranks, .ref q_p0_counts, .ref q_p0_then, .ref q_p0_table, .ref q_p0_product, .ref q_p0_turned, .ref q_p0_tape, .int v_p0_taped, .int v_p0_hasWhy, .ref q_p0_reasons, .int v_p0_hasImage, .int v_p0_imageN, .int v_p0_imageWay, .ref q_p0_imageLed])), (q_p0_patterns, .inl (cI, 800, .inl f_p0_patterns))] sz)) 0 0 (va_A [(q_p0, .inr (7, [.int v_p0_n, .int v_p0_way, .ref q_p0_led, .int v_p0_deeds, .ref q_p0_were, .ref q_p0_paths, .ref q_p0_more, .ref q_p0_patterns, .int v_p0_patternMany, .ref q_p0_loop, .ref q_p0_ranks, .ref q_p0_counts, .ref q_p0_then, .ref q_p0_table, .ref q_p0_product, .ref q_p0_turned, .ref q_p0_tape, .int v_p0_taped, .int v_p0_hasWhy, .ref q_p0_reasons, .int v_p0_hasImage, .int v_p0_imageN, .int v_p0_imageWay, .ref q_p0_imageLed])), (q_p0_patterns, .inl (cI, 800, .inl f_p0_patterns))] sz) := by
  refine z_met (cc := cX9_comes) (maxL := 4) (ret := none) (Qc := fun A => va_Qv (fun u : (Nat → Int32) × Int32 => P u.1 u.2) (fun u t => zPost D cI cJ cB A [(q_p0, .inr (7, [.int v_p0_n, .int v_p0_way, .ref q_p0_led, .int v_p0_deeds, .ref q_p0_were, .ref q_p0_paths, .ref q_p0_more, .ref q_p0_patterns, .int u.2, .ref q_p0_loop, .ref q_p0_ranks, .ref q_p0_counts, .ref q_p0_then, .ref q_p0_table, .ref q_p0_product, .ref q_p0_turned, .ref q_p0_tape, .int v_p0_taped, .int v_p0_hasWhy, .ref q_p0_reasons, .int v_p0_hasImage, .int v_p0_imageN, .int v_p0_imageWay, .ref q_p0_imageLed])), (q_p0_patterns, .inl (cI, 800, .inl u.1))] t) A) (by decide) rfl [.ref q_p0, .int x1] (Nat.le_of_ble_eq_true rfl) ?_
  intro p e s m args below meth c A hx hb hr hts hown hml hlocks hA hX hK H locs hP hD hS ls hl Q hQ
  have hown : s.vm.findClass RX9 = some m.cls := hown
  have hl : lv_has ls 4 [(0, .ref q_p0), (1, .int x1)] := hl
  have hw0 : (Cond.fieldLink RX9 168 "ForcedRingsModel" "patternMany" "I").before args s = true := hts _ (List.mem_of_getElem? (i := 1) rfl)
  have hw1 : (Cond.fieldLink RX9 29 "ForcedRingsModel" "patterns" "[I").before args s = true := hts _ (List.mem_of_getElem? (i := 2) rfl)
  have hinX9 : ∀ w ∈ wsX90, w ∈ wsX9_comes := fun _ h => List.mem_cons_of_mem _ (List.mem_append_right _ h)
  refine lv_iconst (v := (0 : Int32)) hx hb dX9_comes_0 (by decide) ?_
  refine lv_istore_n (lv' := [(2, .int (0 : Int32)), (0, .ref q_p0), (1, .int x1)]) hx hb dX9_comes_1 rfl hl (by decide) rfl (fun ls hl => ?_)
  have k2 : ∀ (f_p0_patterns : (Nat → Int32)) (v_p0_patternMany : Int32) (n2 : Nat) (l2 : Int32) (H : Heap) (locs : List Loc) (ls : Array Slot), LP1 (M_X9_comes_l2 x1 P f_p0_patterns v_p0_patternMany) n2 l2 → va_P D vwCl [(q_p0, .inr (7, [.int v_p0_n, .int v_p0_way, .ref q_p0_led, .int v_p0_deeds, .ref q_p0_were, .ref q_p0_paths, .ref q_p0_more, .ref q_p0_patterns, .int v_p0_patternMany, .ref q_p0_loop, .ref q_p0_ranks, .ref q_p0_counts, .ref q_p0_then, .ref q_p0_table, .ref q_p0_product, .ref q_p0_turned, .ref q_p0_tape, .int v_p0_taped, .int v_p0_hasWhy, .ref q_p0_reasons, .int v_p0_hasImage, .int v_p0_imageN, .int v_p0_imageWay, .ref q_p0_imageLed])), (q_p0_patterns, .inl (cI, 800, .inl f_p0_patterns))] H → va_D A [(q_p0, .inr (7, [.int v_p0_n, .int v_p0_way, .ref q_p0_led, .int v_p0_deeds, .ref q_p0_were, .ref q_p0_paths, .ref q_p0_more, .ref q_p0_patterns, .int v_p0_patternMany, .ref q_p0_loop, .ref q_p0_ranks, .ref q_p0_counts, .ref q_p0_then, .ref q_p0_table, .ref q_p0_product, .ref q_p0_turned, .ref q_p0_tape, .int v_p0_taped, .int v_p0_hasWhy, .ref q_p0_reasons, .int v_p0_hasImage, .int v_p0_imageN, .int v_p0_imageWay, .ref q_p0_imageLed])), (q_p0_patterns, .inl (cI, 800, .inl f_p0_patterns))] → va_S A s.heap H locs → lv_has ls 4 [(0, .ref q_p0), (1, .int x1), (2, .int l2)] → W p l e { frames := 0, cells := 0, slots := 0, locals := 0 } s m args below meth c H locs 0 0 Q (F0 m 2 ls []) := by
    intro f_p0_patterns v_p0_patternMany n2
    induction n2 with
    | zero =>
      intro l2 H locs ls h
      exact False.elim h
    | succ n2 ih2 =>
      intro l2 H locs ls h hP hD hS hl
      have h : M_X9_comes_l2 x1 P f_p0_patterns v_p0_patternMany (LP1 (M_X9_comes_l2 x1 P f_p0_patterns v_p0_patternMany) n2) l2 := h
      refine lv_iload_n hx hb dX9_comes_2 rfl (lv_at hl 2 rfl) ?_
      refine lv_aload_n hx hb dX9_comes_3 rfl (lv_at hl 0 rfl) ?_
      refine va_get (ci := 7) (C := RX9) (T := TX9) (N := 24) (v := .int v_p0_patternMany) hx hb hts hinX9 hown hK hP 0 rfl rfl 8 (by decide) hw0 (fun _ h9 => h9) rfl dX9_comes_4 ?_
      have k26 : ∀ (l2 : Int32) (f_p0_patterns : (Nat → Int32)) (v_p0_patternMany : Int32) (H : Heap) (locs : List Loc) (ls : Array Slot), M_X9_comes_b26 x1 P l2 f_p0_patterns v_p0_patternMany → va_P D vwCl [(q_p0, .inr (7, [.int v_p0_n, .int v_p0_way, .ref q_p0_led, .int v_p0_deeds, .ref q_p0_were, .ref q_p0_paths, .ref q_p0_more, .ref q_p0_patterns, .int v_p0_patternMany, .ref q_p0_loop, .ref q_p0_ranks, .ref q_p0_counts, .ref q_p0_then, .ref q_p0_table, .ref q_p0_product, .ref q_p0_turned, .ref q_p0_tape, .int v_p0_taped, .int v_p0_hasWhy, .ref q_p0_reasons, .int v_p0_hasImage, .int v_p0_imageN, .int v_p0_imageWay, .ref q_p0_imageLed])), (q_p0_patterns, .inl (cI, 800, .inl f_p0_patterns))] H → va_D A [(q_p0, .inr (7, [.int v_p0_n, .int v_p0_way, .ref q_p0_led, .int v_p0_deeds, .ref q_p0_were, .ref q_p0_paths, .ref q_p0_more, .ref q_p0_patterns, .int v_p0_patternMany, .ref q_p0_loop, .ref q_p0_ranks, .ref q_p0_counts, .ref q_p0_then, .ref q_p0_table, .ref q_p0_product, .ref q_p0_turned, .ref q_p0_tape, .int v_p0_taped, .int v_p0_hasWhy, .ref q_p0_reasons, .int v_p0_hasImage, .int v_p0_imageN, .int v_p0_imageWay, .ref q_p0_imageLed])), (q_p0_patterns, .inl (cI, 800, .inl f_p0_patterns))] → va_S A s.heap H locs → lv_has ls 4 [(0, .ref q_p0), (1, .int x1), (2, .int l2)] → W p l e { frames := 0, cells := 0, slots := 0, locals := 0 } s m args below meth c H locs 0 0 Q (F0 m 26 ls []) := by
        intro l2 f_p0_patterns v_p0_patternMany H locs ls h hP hD hS hl
        refine lv_iload_n hx hb dX9_comes_26 rfl (lv_at hl 2 rfl) ?_
        refine lv_aload_n hx hb dX9_comes_27 rfl (lv_at hl 0 rfl) ?_
        refine va_get (ci := 7) (C := RX9) (T := TX9) (N := 24) (v := .int v_p0_patternMany) hx hb hts hinX9 hown hK hP 0 rfl rfl 8 (by decide) hw0 (fun _ h9 => h9) rfl dX9_comes_28 ?_
        have k50 : ∀ (l2 : Int32) (l3 : Int32) (f_p0_patterns : (Nat → Int32)) (v_p0_patternMany : Int32) (H : Heap) (locs : List Loc) (ls : Array Slot), M_X9_comes_b50 x1 P l2 l3 f_p0_patterns v_p0_patternMany → va_P D vwCl [(q_p0, .inr (7, [.int v_p0_n, .int v_p0_way, .ref q_p0_led, .int v_p0_deeds, .ref q_p0_were, .ref q_p0_paths, .ref q_p0_more, .ref q_p0_patterns, .int v_p0_patternMany, .ref q_p0_loop, .ref q_p0_ranks, .ref q_p0_counts, .ref q_p0_then, .ref q_p0_table, .ref q_p0_product, .ref q_p0_turned, .ref q_p0_tape, .int v_p0_taped, .int v_p0_hasWhy, .ref q_p0_reasons, .int v_p0_hasImage, .int v_p0_imageN, .int v_p0_imageWay, .ref q_p0_imageLed])), (q_p0_patterns, .inl (cI, 800, .inl f_p0_patterns))] H → va_D A [(q_p0, .inr (7, [.int v_p0_n, .int v_p0_way, .ref q_p0_led, .int v_p0_deeds, .ref q_p0_were, .ref q_p0_paths, .ref q_p0_more, .ref q_p0_patterns, .int v_p0_patternMany, .ref q_p0_loop, .ref q_p0_ranks, .ref q_p0_counts, .ref q_p0_then, .ref q_p0_table, .ref q_p0_product, .ref q_p0_turned, .ref q_p0_tape, .int v_p0_taped, .int v_p0_hasWhy, .ref q_p0_reasons, .int v_p0_hasImage, .int v_p0_imageN, .int v_p0_imageWay, .ref q_p0_imageLed])), (q_p0_patterns, .inl (cI, 800, .inl f_p0_patterns))] → va_S A s.heap H locs → lv_has ls 4 [(0, .ref q_p0), (1, .int x1), (2, .int l2), (3, .int l3)] → W p l e { frames := 0, cells := 0, slots := 0, locals := 0 } s m args below meth c H locs 0 0 Q (F0 m 50 ls []) := by
          intro l2 l3 f_p0_patterns v_p0_patternMany H locs ls h hP hD hS hl
          have k50 : ∀ (l2 : Int32) (v_p0_patternMany : Int32) (n50 : Nat) (l3 : Int32) (f_p0_patterns : (Nat → Int32)) (H : Heap) (locs : List Loc) (ls : Array Slot), LP2 (M_X9_comes_l50 x1 P l2 v_p0_patternMany) n50 l3 f_p0_patterns → va_P D vwCl [(q_p0, .inr (7, [.int v_p0_n, .int v_p0_way, .ref q_p0_led, .int v_p0_deeds, .ref q_p0_were, .ref q_p0_paths, .ref q_p0_more, .ref q_p0_patterns, .int v_p0_patternMany, .ref q_p0_loop, .ref q_p0_ranks, .ref q_p0_counts, .ref q_p0_then, .ref q_p0_table, .ref q_p0_product, .ref q_p0_turned, .ref q_p0_tape, .int v_p0_taped, .int v_p0_hasWhy, .ref q_p0_reasons, .int v_p0_hasImage, .int v_p0_imageN, .int v_p0_imageWay, .ref q_p0_imageLed])), (q_p0_patterns, .inl (cI, 800, .inl f_p0_patterns))] H → va_D A [(q_p0, .inr (7, [.int v_p0_n, .int v_p0_way, .ref q_p0_led, .int v_p0_deeds, .ref q_p0_were, .ref q_p0_paths, .ref q_p0_more, .ref q_p0_patterns, .int v_p0_patternMany, .ref q_p0_loop, .ref q_p0_ranks, .ref q_p0_counts, .ref q_p0_then, .ref q_p0_table, .ref q_p0_product, .ref q_p0_turned, .ref q_p0_tape, .int v_p0_taped, .int v_p0_hasWhy, .ref q_p0_reasons, .int v_p0_hasImage, .int v_p0_imageN, .int v_p0_imageWay, .ref q_p0_imageLed])), (q_p0_patterns, .inl (cI, 800, .inl f_p0_patterns))] → va_S A s.heap H locs → lv_has ls 4 [(0, .ref q_p0), (1, .int x1), (2, .int l2), (3, .int l3)] → W p l e { frames := 0, cells := 0, slots := 0, locals := 0 } s m args below meth c H locs 0 0 Q (F0 m 50 ls []) := by
            intro l2 v_p0_patternMany n50
            induction n50 with
            | zero =>
              intro l3 f_p0_patterns H locs ls h
              exact False.elim h
            | succ n50 ih50 =>
              intro l3 f_p0_patterns H locs ls h hP hD hS hl
              have h : M_X9_comes_l50 x1 P l2 v_p0_patternMany (LP2 (M_X9_comes_l50 x1 P l2 v_p0_patternMany) n50) l3 f_p0_patterns := h
              refine lv_iload_n hx hb dX9_comes_50 rfl (lv_at hl 3 rfl) ?_
              refine lv_iload_n hx hb dX9_comes_51 rfl (lv_at hl 2 rfl) ?_
              refine lv_icmp_le (tgt := 75) hx hb dX9_comes_52 (by decide) (fun c1 => ?_) (fun c1 => ?_)
              · have h := And.left h c1
                refine lv_aload_n hx hb dX9_comes_75 rfl (lv_at hl 0 rfl) ?_
                refine va_get (ci := 7) (C := RX9) (T := TX9) (N := 24) (v := .ref q_p0_patterns) hx hb hts hinX9 hown hK hP 0 rfl rfl 7 (by decide) hw1 (fun _ h9 => h9) rfl dX9_comes_76 ?_
                refine lv_iload_n hx hb dX9_comes_79 rfl (lv_at hl 2 rfl) ?_
                refine lv_iload_n hx hb dX9_comes_80 rfl (lv_at hl 1 rfl) ?_
                obtain ⟨hi2, h⟩ := h
                refine z_iast (wn := [(q_p0, .inr (7, [.int v_p0_n, .int v_p0_way, .ref q_p0_led, .int v_p0_deeds, .ref q_p0_were, .ref q_p0_paths, .ref q_p0_more, .ref q_p0_patterns, .int v_p0_patternMany, .ref q_p0_loop, .ref q_p0_ranks, .ref q_p0_counts, .ref q_p0_then, .ref q_p0_table, .ref q_p0_product, .ref q_p0_turned, .ref q_p0_tape, .int v_p0_taped, .int v_p0_hasWhy, .ref q_p0_reasons, .int v_p0_hasImage, .int v_p0_imageN, .int v_p0_imageWay, .ref q_p0_imageLed])), (q_p0_patterns, .inl (cI, 800, .inl (upd f_p0_patterns l2.toNatClampNeg x1)))]) hx hb hK hP hD hS 1 rfl hi2 dX9_comes_81 rfl (fun H locs hP hD hS => ?_)
                refine lv_aload_n hx hb dX9_comes_82 rfl (lv_at hl 0 rfl) ?_
                refine lv_dup hx hb dX9_comes_83 rfl ?_
                refine va_get (ci := 7) (C := RX9) (T := TX9) (N := 24) (v := .int v_p0_patternMany) hx hb hts hinX9 hown hK hP 0 rfl rfl 8 (by decide) hw0 (fun _ h9 => h9) rfl dX9_comes_84 ?_
                refine lv_iconst (v := (1 : Int32)) hx hb dX9_comes_87 (by decide) ?_
                refine lv_iadd hx hb dX9_comes_88 ?_
                refine z_put (ci := 7) (C := RX9) (T := TX9) (N := 24) (ty := .int) (wn := [(q_p0, .inr (7, [.int v_p0_n, .int v_p0_way, .ref q_p0_led, .int v_p0_deeds, .ref q_p0_were, .ref q_p0_paths, .ref q_p0_more, .ref q_p0_patterns, .int (v_p0_patternMany + (1 : Int32)), .ref q_p0_loop, .ref q_p0_ranks, .ref q_p0_counts, .ref q_p0_then, .ref q_p0_table, .ref q_p0_product, .ref q_p0_turned, .ref q_p0_tape, .int v_p0_taped, .int v_p0_hasWhy, .ref q_p0_reasons, .int v_p0_hasImage, .int v_p0_imageN, .int v_p0_imageWay, .ref q_p0_imageLed])), (q_p0_patterns, .inl (cI, 800, .inl (upd f_p0_patterns l2.toNatClampNeg x1)))]) hx hb hts hinX9 tyX9 tyX9_ok nmX9 hown hK hP hD hS 0 rfl rfl 8 (by decide) hw0 (fun _ h9 => h9) rfl (by decide +kernel) rfl rfl (Nat.le_of_ble_eq_true rfl) dX9_comes_89 rfl (fun H locs hP hD hS => ?_)
                exact z_vret hQ hx hb hr hlocks hK ((upd f_p0_patterns l2.toNatClampNeg x1), (v_p0_patternMany + (1 : Int32))) h hP hD hS dX9_comes_92
              · have h := And.right h c1
                refine lv_aload_n hx hb dX9_comes_55 rfl (lv_at hl 0 rfl) ?_
                refine va_get (ci := 7) (C := RX9) (T := TX9) (N := 24) (v := .ref q_p0_patterns) hx hb hts hinX9 hown hK hP 0 rfl rfl 7 (by decide) hw1 (fun _ h9 => h9) rfl dX9_comes_56 ?_
                refine lv_iload_n hx hb dX9_comes_59 rfl (lv_at hl 3 rfl) ?_
                refine lv_aload_n hx hb dX9_comes_60 rfl (lv_at hl 0 rfl) ?_
                refine va_get (ci := 7) (C := RX9) (T := TX9) (N := 24) (v := .ref q_p0_patterns) hx hb hts hinX9 hown hK hP 0 rfl rfl 7 (by decide) hw1 (fun _ h9 => h9) rfl dX9_comes_61 ?_
                refine lv_iload_n hx hb dX9_comes_64 rfl (lv_at hl 3 rfl) ?_
                refine lv_iconst (v := (1 : Int32)) hx hb dX9_comes_65 (by decide) ?_
                refine lv_isub hx hb dX9_comes_66 ?_
                obtain ⟨hi3, h⟩ := h
                refine va_iald hx hb hK hP 1 0 rfl rfl hi3 dX9_comes_67 ?_
                obtain ⟨hi4, h⟩ := h
                refine z_iast (wn := [(q_p0, .inr (7, [.int v_p0_n, .int v_p0_way, .ref q_p0_led, .int v_p0_deeds, .ref q_p0_were, .ref q_p0_paths, .ref q_p0_more, .ref q_p0_patterns, .int v_p0_patternMany, .ref q_p0_loop, .ref q_p0_ranks, .ref q_p0_counts, .ref q_p0_then, .ref q_p0_table, .ref q_p0_product, .ref q_p0_turned, .ref q_p0_tape, .int v_p0_taped, .int v_p0_hasWhy, .ref q_p0_reasons, .int v_p0_hasImage, .int v_p0_imageN, .int v_p0_imageWay, .ref q_p0_imageLed])), (q_p0_patterns, .inl (cI, 800, .inl (upd f_p0_patterns l3.toNatClampNeg (f_p0_patterns (l3 - (1 : Int32)).toNatClampNeg))))]) hx hb hK hP hD hS 1 rfl hi4 dX9_comes_68 rfl (fun H locs hP hD hS => ?_)
                refine lv_iinc (v := (l3 + (-1))) (lv' := [(3, .int (l3 + (-1))), (0, .ref q_p0), (1, .int x1), (2, .int l2)]) hx hb dX9_comes_69 hl (k := 3) rfl rfl (by decide) rfl (fun ls hl => ?_)
                refine lv_goto (tgt := 50) hx hb dX9_comes_72 (by decide) ?_
                exact ih50 (l3 + (-1)) (upd f_p0_patterns l3.toNatClampNeg (f_p0_patterns (l3 - (1 : Int32)).toNatClampNeg)) _ _ _ h hP hD hS (lv_sub hl [1, 2, 3, 0] rfl)
          obtain ⟨n50, h⟩ := h
          exact k50 l2 v_p0_patternMany n50 l3 f_p0_patterns _ _ _ h hP hD hS (lv_sub hl [0, 1, 2, 3] rfl)
        refine lv_icmp_ge (tgt := 45) hx hb dX9_comes_31 (by decide) (fun c5 => ?_) (fun c5 => ?_)
        · have h := And.left h c5
          refine lv_aload_n hx hb dX9_comes_45 rfl (lv_at hl 0 rfl) ?_
          refine va_get (ci := 7) (C := RX9) (T := TX9) (N := 24) (v := .int v_p0_patternMany) hx hb hts hinX9 hown hK hP 0 rfl rfl 8 (by decide) hw0 (fun _ h9 => h9) rfl dX9_comes_46 ?_
          refine lv_istore_n (lv' := [(3, .int v_p0_patternMany), (0, .ref q_p0), (1, .int x1), (2, .int l2)]) hx hb dX9_comes_49 rfl hl (by decide) rfl (fun ls hl => ?_)
          exact k50 l2 v_p0_patternMany f_p0_patterns v_p0_patternMany _ _ _ h hP hD hS (lv_sub hl [1, 2, 3, 0] rfl)
        · have h := And.right h c5
          refine lv_aload_n hx hb dX9_comes_34 rfl (lv_at hl 0 rfl) ?_
          refine va_get (ci := 7) (C := RX9) (T := TX9) (N := 24) (v := .ref q_p0_patterns) hx hb hts hinX9 hown hK hP 0 rfl rfl 7 (by decide) hw1 (fun _ h9 => h9) rfl dX9_comes_35 ?_
          refine lv_iload_n hx hb dX9_comes_38 rfl (lv_at hl 2 rfl) ?_
          obtain ⟨hi6, h⟩ := h
          refine va_iald hx hb hK hP 1 0 rfl rfl hi6 dX9_comes_39 ?_
          refine lv_iload_n hx hb dX9_comes_40 rfl (lv_at hl 1 rfl) ?_
          refine lv_icmp_ne (tgt := 45) hx hb dX9_comes_41 (by decide) (fun c7 => ?_) (fun c7 => ?_)
          · have h := And.right h c7
            refine lv_aload_n hx hb dX9_comes_45 rfl (lv_at hl 0 rfl) ?_
            refine va_get (ci := 7) (C := RX9) (T := TX9) (N := 24) (v := .int v_p0_patternMany) hx hb hts hinX9 hown hK hP 0 rfl rfl 8 (by decide) hw0 (fun _ h9 => h9) rfl dX9_comes_46 ?_
            refine lv_istore_n (lv' := [(3, .int v_p0_patternMany), (0, .ref q_p0), (1, .int x1), (2, .int l2)]) hx hb dX9_comes_49 rfl hl (by decide) rfl (fun ls hl => ?_)
            exact k50 l2 v_p0_patternMany f_p0_patterns v_p0_patternMany _ _ _ h hP hD hS (lv_sub hl [1, 2, 3, 0] rfl)
          · have h := And.left h c7
            exact z_vret hQ hx hb hr hlocks hK (f_p0_patterns, v_p0_patternMany) h hP hD hS dX9_comes_44
      refine lv_icmp_ge (tgt := 26) hx hb dX9_comes_7 (by decide) (fun c8 => ?_) (fun c8 => ?_)
      · have h := And.left h c8
        exact k26 l2 f_p0_patterns v_p0_patternMany _ _ _ h hP hD hS (lv_sub hl [0, 1, 2] rfl)
      · have h := And.right h c8
        refine lv_aload_n hx hb dX9_comes_10 rfl (lv_at hl 0 rfl) ?_
        refine va_get (ci := 7) (C := RX9) (T := TX9) (N := 24) (v := .ref q_p0_patterns) hx hb hts hinX9 hown hK hP 0 rfl rfl 7 (by decide) hw1 (fun _ h9 => h9) rfl dX9_comes_11 ?_
        refine lv_iload_n hx hb dX9_comes_14 rfl (lv_at hl 2 rfl) ?_
        obtain ⟨hi9, h⟩ := h
        refine va_iald hx hb hK hP 1 0 rfl rfl hi9 dX9_comes_15 ?_
        refine lv_iload_n hx hb dX9_comes_16 rfl (lv_at hl 1 rfl) ?_
        refine lv_icmp_ge (tgt := 26) hx hb dX9_comes_17 (by decide) (fun c10 => ?_) (fun c10 => ?_)
        · have h := And.left h c10
          exact k26 l2 f_p0_patterns v_p0_patternMany _ _ _ h hP hD hS (lv_sub hl [0, 1, 2] rfl)
        · have h := And.right h c10
          refine lv_iinc (v := (l2 + 1)) (lv' := [(2, .int (l2 + 1)), (0, .ref q_p0), (1, .int x1)]) hx hb dX9_comes_20 hl (k := 2) rfl rfl (by decide) rfl (fun ls hl => ?_)
          refine lv_goto (tgt := 2) hx hb dX9_comes_23 (by decide) ?_
          exact ih2 (l2 + 1) _ _ _ h hP hD hS (lv_sub hl [1, 2, 0] rfl)
  obtain ⟨n2, h⟩ := h
  exact k2 f_p0_patterns v_p0_patternMany n2 (0 : Int32) _ _ _ h hP hD hS (lv_sub hl [1, 2, 0] rfl)
theorem hd_X9_comesBy : yX9_comesBy.cls = RX9 ∧ yX9_comesBy.cls ≠ "java/lang/invoke/MethodHandle" ∧ yX9_comesBy.cls ≠ "java/lang/invoke/VarHandle" ∧ (parseMethodDescriptor yX9_comesBy.desc).map (fun d => d.parameters.length) = some 1 := by decide +kernel
set_option maxHeartbeats 4000000 in
set_option maxRecDepth 100000 in
theorem c_X9_comesBy (l : Launch) (D : va_G) (cI cJ cB : ClassId) (tU tM tS : Nat) (q_p0 q_p0_led q_p0_were q_p0_paths q_p0_more q_p0_patterns q_p0_loop q_p0_ranks q_p0_counts q_p0_then q_p0_table q_p0_product q_p0_turned q_p0_tape q_p0_reasons q_p0_imageLed : Nat) (sz : Nat) (x1 : Int32) (v_p0_patternMany : Int32) (f_p0_patterns : (Nat → Int32)) (f_p0_ranks : (Nat → Int32)) (v_p0_n : Int32) (v_p0_way : Int32) (v_p0_deeds : Int32) (v_p0_taped : Int32) (v_p0_hasWhy : Int32) (v_p0_hasImage : Int32) (v_p0_imageN : Int32) (v_p0_imageWay : Int32) (P : (Nat → Int32) → Int32 → Prop) (h : M_X9_comesBy x1 v_p0_patternMany f_p0_patterns f_p0_ranks P) : Met l yX9_comesBy wsX9_comesBy ({ frames := 1, cells := 0, slots := 0, locals := 23 }) (va_Pc [.ref q_p0, .int x1] (zPre D cI cJ cB tU tM tS [(q_p0, .inr (7, [.int v_p0_n, .int v_p0_way, .ref q_p0_led, .int v_p0_deeds, .ref q_p0_were, .ref q_p0_paths, .ref q_p0_more, .ref q_p0_patterns, .int v_p0_patternMany, .ref q_p0_loop, .ref q_p0_ranks, .ref q_p0_counts, .ref q_p0_then, .ref q_p0_table, .ref q_p0_product, .ref q_p0_turned, .ref q_p0_tape, .int v_p0_taped, .int v_p0_hasWhy, .ref q_p0_reasons, .int v_p0_hasImage, .int v_p0_imageN, .int v_p0_imageWay, .ref q_p0_imageLed])), (q_p0_patterns, .inl (cI, 800, .inl f_p0_patterns)), (q_p0_ranks, .inl (cI, 6, .inl f_p0_ranks))] sz)) (va_Qv (fun u : (Nat → Int32) × Int32 => P u.1 u.2) (fun u t => zPost D cI cJ cB (va_A [(q_p0, .inr (7, [.int v_p0_n, .int v_p0_way, .ref q_p0_led, .int v_p0_deeds, .ref q_p0_were, .ref q_p0_paths, .ref q_p0_more, .ref q_p0_patterns, .int v_p0_patternMany, .ref q_p0_loop, .ref q_p0_ranks, .ref q_p0_counts, .ref q_p0_then, .ref q_p0_table, .ref q_p0_product, .ref q_p0_turned, .ref q_p0_tape, .int v_p0_taped, .int v_p0_hasWhy, .ref q_p0_reasons, .int v_p0_hasImage, .int v_p0_imageN, .int v_p0_imageWay, .ref q_p0_imageLed])), (q_p0_patterns, .inl (cI, 800, .inl f_p0_patterns)), (q_p0_ranks, .inl (cI, 6, .inl f_p0_ranks))] sz) [(q_p0, .inr (7, [.int v_p0_n, .int v_p0_way, .ref q_p0_led, .int v_p0_deeds, .ref q_p0_were, .ref q_p0_paths, .ref q_p0_more, .ref q_p0_patterns, .int u.2, .ref q_p0_loop, .ref q_p0_ranks, .ref q_p0_counts, .ref q_p0_then, .ref q_p0_table, .ref q_p0_product, .ref q_p0_turned, .ref q_p0_tape, .int v_p0_taped, .int v_p0_hasWhy, .ref q_p0_reasons, .int v_p0_hasImage, .int v_p0_imageN, .int v_p0_imageWay, .ref q_p0_imageLed])), (q_p0_patterns, .inl (cI, 800, .inl u.1)), (q_p0_ranks, .inl (cI, 6, .inl f_p0_ranks))] t) (va_A [(q_p0, .inr (7, [.int v_p0_n, .int v_p0_way, .ref q_p0_led, .int v_p0_deeds, .ref q_p0_were, .ref q_p0_paths, .ref q_p0_more, .ref q_p0_patterns, .int v_p0_patternMany, .ref q_p0_loop, .ref q_p0_ranks, .ref q_p0_counts, .ref q_p0_then, .ref q_p0_table, .ref q_p0_product, .ref q_p0_turned, .ref q_p0_tape, .int v_p0_taped, .int v_p0_hasWhy, .ref q_p0_reasons, .int v_p0_hasImage, .int v_p0_imageN, .int v_p0_imageWay, .ref q_p0_imageLed])), (q_p0_patterns, .inl (cI, 800, .inl f_p0_patterns)), (q_p0_ranks, .inl (cI, 6, .inl f_p0_ranks))] sz)) 0 0 (va_A [(q_p0, .inr (7, [.int v_p0_n, .int v_p0_way, .ref q_p0_led, .int v_p0_deeds, .ref q_p0_were, .ref q_p0_paths, .ref q_p0_more, .ref q_p0_patterns, .int v_p0_patternMany, .ref q_p0_loop, .ref q_p0_ranks, .ref q_p0_counts, .ref q_p0_then, .ref q_p0_table, .ref q_p0_product, .ref q_p0_turned, .ref q_p0_tape, .int v_p0_taped, .int v_p0_hasWhy, .ref q_p0_reasons, .int v_p0_hasImage, .int v_p0_imageN, .int v_p0_imageWay, .ref q_p0_imageLed])), (q_p0_patterns, .inl (cI, 800, .inl f_p0_patterns)), (q_p0_ranks, .inl (cI, 6, .inl f_p0_ranks))] sz) := by
  refine z_met (cc := cX9_comesBy) (maxL := 5) (ret := none) (Qc := fun A => va_Qv (fun u : (Nat → Int32) × Int32 => P u.1 u.2) (fun u t => zPost D cI cJ cB A [(q_p0, .inr (7, [.int v_p0_n, .int v_p0_way, .ref q_p0_led, .int v_p0_deeds, .ref q_p0_were, .ref q_p0_paths, .ref q_p0_more, .ref q_p0_patterns, .int u.2, .ref q_p0_loop, .ref q_p0_ranks, .ref q_p0_counts, .ref q_p0_then, .ref q_p0_table, .ref q_p0_product, .ref q_p0_turned, .ref q_p0_tape, .int v_p0_taped, .int v_p0_hasWhy, .ref q_p0_reasons, .int v_p0_hasImage, .int v_p0_imageN, .int v_p0_imageWay, .ref q_p0_imageLed])), (q_p0_patterns, .inl (cI, 800, .inl u.1)), (q_p0_ranks, .inl (cI, 6, .inl f_p0_ranks))] t) A) (by decide) rfl [.ref q_p0, .int x1] (Nat.le_of_ble_eq_true rfl) ?_
  intro p e s m args below meth c A hx hb hr hts hown hml hlocks hA hX hK H locs hP hD hS ls hl Q hQ
  have hown : s.vm.findClass RX9 = some m.cls := hown
  have hl : lv_has ls 5 [(0, .ref q_p0), (1, .int x1)] := hl
  have hw0 : (Cond.fieldLink RX9 35 "ForcedRingsModel" "ranks" "[I").before args s = true := hts _ (List.mem_of_getElem? (i := 1) rfl)
  have hinX9 : ∀ w ∈ wsX90, w ∈ wsX9_comesBy := fun _ h => List.mem_cons_of_mem _ (List.mem_append_right _ h)
  refine lv_iconst (v := (0 : Int32)) hx hb dX9_comesBy_0 (by decide) ?_
  refine lv_istore_n (lv' := [(2, .int (0 : Int32)), (0, .ref q_p0), (1, .int x1)]) hx hb dX9_comesBy_1 rfl hl (by decide) rfl (fun ls hl => ?_)
  refine lv_iconst (v := (0 : Int32)) hx hb dX9_comesBy_2 (by decide) ?_
  refine lv_istore_n (lv' := [(3, .int (0 : Int32)), (2, .int (0 : Int32)), (0, .ref q_p0), (1, .int x1)]) hx hb dX9_comesBy_3 rfl hl (by decide) rfl (fun ls hl => ?_)
  have k4 : ∀ (f_p0_patterns : (Nat → Int32)) (v_p0_patternMany : Int32) (n4 : Nat) (l2 : Int32) (l3 : Int32) (H : Heap) (locs : List Loc) (ls : Array Slot), LP2 (M_X9_comesBy_l4 x1 f_p0_ranks P f_p0_patterns v_p0_patternMany) n4 l2 l3 → va_P D vwCl [(q_p0, .inr (7, [.int v_p0_n, .int v_p0_way, .ref q_p0_led, .int v_p0_deeds, .ref q_p0_were, .ref q_p0_paths, .ref q_p0_more, .ref q_p0_patterns, .int v_p0_patternMany, .ref q_p0_loop, .ref q_p0_ranks, .ref q_p0_counts, .ref q_p0_then, .ref q_p0_table, .ref q_p0_product, .ref q_p0_turned, .ref q_p0_tape, .int v_p0_taped, .int v_p0_hasWhy, .ref q_p0_reasons, .int v_p0_hasImage, .int v_p0_imageN, .int v_p0_imageWay, .ref q_p0_imageLed])), (q_p0_patterns, .inl (cI, 800, .inl f_p0_patterns)), (q_p0_ranks, .inl (cI, 6, .inl f_p0_ranks))] H → va_D A [(q_p0, .inr (7, [.int v_p0_n, .int v_p0_way, .ref q_p0_led, .int v_p0_deeds, .ref q_p0_were, .ref q_p0_paths, .ref q_p0_more, .ref q_p0_patterns, .int v_p0_patternMany, .ref q_p0_loop, .ref q_p0_ranks, .ref q_p0_counts, .ref q_p0_then, .ref q_p0_table, .ref q_p0_product, .ref q_p0_turned, .ref q_p0_tape, .int v_p0_taped, .int v_p0_hasWhy, .ref q_p0_reasons, .int v_p0_hasImage, .int v_p0_imageN, .int v_p0_imageWay, .ref q_p0_imageLed])), (q_p0_patterns, .inl (cI, 800, .inl f_p0_patterns)), (q_p0_ranks, .inl (cI, 6, .inl f_p0_ranks))] → va_S A s.heap H locs → lv_has ls 5 [(0, .ref q_p0), (1, .int x1), (2, .int l2), (3, .int l3)] → W p l e { frames := 1, cells := 0, slots := 0, locals := 23 } s m args below meth c H locs 0 0 Q (F0 m 4 ls []) := by
    intro f_p0_patterns v_p0_patternMany n4
    induction n4 with
    | zero =>
      intro l2 l3 H locs ls h
      exact False.elim h
    | succ n4 ih4 =>
      intro l2 l3 H locs ls h hP hD hS hl
      have h : M_X9_comesBy_l4 x1 f_p0_ranks P f_p0_patterns v_p0_patternMany (LP2 (M_X9_comesBy_l4 x1 f_p0_ranks P f_p0_patterns v_p0_patternMany) n4) l2 l3 := h
      refine lv_iload_n hx hb dX9_comesBy_4 rfl (lv_at hl 3 rfl) ?_
      refine lv_iload_n hx hb dX9_comesBy_5 rfl (lv_at hl 1 rfl) ?_
      refine lv_icmp_ge (tgt := 62) hx hb dX9_comesBy_6 (by decide) (fun c1 => ?_) (fun c1 => ?_)
      · have h := And.left h c1
        refine lv_aload_n hx hb dX9_comesBy_62 rfl (lv_at hl 0 rfl) ?_
        refine lv_iload_n hx hb dX9_comesBy_63 rfl (lv_at hl 2 rfl) ?_
        refine z_cVv (As := [.int l2]) (rest := []) (wr := [(q_p0_ranks, .inl (cI, 6, .inl f_p0_ranks))]) (wn := fun u => [(q_p0, .inr (7, [.int v_p0_n, .int v_p0_way, .ref q_p0_led, .int v_p0_deeds, .ref q_p0_were, .ref q_p0_paths, .ref q_p0_more, .ref q_p0_patterns, .int u.2, .ref q_p0_loop, .ref q_p0_ranks, .ref q_p0_counts, .ref q_p0_then, .ref q_p0_table, .ref q_p0_product, .ref q_p0_turned, .ref q_p0_tape, .int v_p0_taped, .int v_p0_hasWhy, .ref q_p0_reasons, .int v_p0_hasImage, .int v_p0_imageN, .int v_p0_imageWay, .ref q_p0_imageLed])), (q_p0_patterns, .inl (cI, 800, .inl u.1)), (q_p0_ranks, .inl (cI, 6, .inl f_p0_ranks))]) (c_X9_comes l D cI cJ cB tU tM tS q_p0 q_p0_led q_p0_were q_p0_paths q_p0_more q_p0_patterns q_p0_loop q_p0_ranks q_p0_counts q_p0_then q_p0_table q_p0_product q_p0_turned q_p0_tape q_p0_reasons q_p0_imageLed H.size l2 v_p0_patternMany f_p0_patterns v_p0_n v_p0_way v_p0_deeds v_p0_taped v_p0_hasWhy v_p0_hasImage v_p0_imageN v_p0_imageWay _ h) ⟨hx, hb, hml, hown, hts⟩ (cwV 1 hts gX9_comesBy_X9_comes rfl rfl rfl hd_X9_comes ⟨Nat.le_of_ble_eq_true rfl, Nat.le_of_ble_eq_true rfl⟩) hX hK hP hD hS hA [0, 1] [2] [1, 2, 0] rfl rfl rfl (by decide) (fun _ => rfl) (q0 := 0) (ci := 7) rfl rfl rfl hl.1 rfl (Nat.le_of_ble_eq_true rfl) ⟨Nat.le_refl _, Nat.le_refl _⟩ dX9_comesBy_64 (fun u2 H locs h hP hD hS => ?_)
        obtain ⟨m2_0, m2_1⟩ := u2
        exact z_vret hQ hx hb hr hlocks hK (m2_0, m2_1) h hP hD hS dX9_comesBy_67
      · have h := And.right h c1
        refine lv_iconst (v := (0 : Int32)) hx hb dX9_comesBy_9 (by decide) ?_
        refine lv_istore (lv' := [(4, .int (0 : Int32)), (0, .ref q_p0), (1, .int x1), (2, .int l2), (3, .int l3)]) hx hb dX9_comesBy_10 hl (by decide) rfl (fun ls hl => ?_)
        have k12 : ∀ (l3 : Int32) (n12 : Nat) (l2 : Int32) (l4 : Int32) (H : Heap) (locs : List Loc) (ls : Array Slot), LP2 (M_X9_comesBy_l12 x1 f_p0_ranks (LP2 (M_X9_comesBy_l4 x1 f_p0_ranks P f_p0_patterns v_p0_patternMany) n4) P l3 f_p0_patterns v_p0_patternMany) n12 l2 l4 → va_P D vwCl [(q_p0, .inr (7, [.int v_p0_n, .int v_p0_way, .ref q_p0_led, .int v_p0_deeds, .ref q_p0_were, .ref q_p0_paths, .ref q_p0_more, .ref q_p0_patterns, .int v_p0_patternMany, .ref q_p0_loop, .ref q_p0_ranks, .ref q_p0_counts, .ref q_p0_then, .ref q_p0_table, .ref q_p0_product, .ref q_p0_turned, .ref q_p0_tape, .int v_p0_taped, .int v_p0_hasWhy, .ref q_p0_reasons, .int v_p0_hasImage, .int v_p0_imageN, .int v_p0_imageWay, .ref q_p0_imageLed])), (q_p0_patterns, .inl (cI, 800, .inl f_p0_patterns)), (q_p0_ranks, .inl (cI, 6, .inl f_p0_ranks))] H → va_D A [(q_p0, .inr (7, [.int v_p0_n, .int v_p0_way, .ref q_p0_led, .int v_p0_deeds, .ref q_p0_were, .ref q_p0_paths, .ref q_p0_more, .ref q_p0_patterns, .int v_p0_patternMany, .ref q_p0_loop, .ref q_p0_ranks, .ref q_p0_counts, .ref q_p0_then, .ref q_p0_table, .ref q_p0_product, .ref q_p0_turned, .ref q_p0_tape, .int v_p0_taped, .int v_p0_hasWhy, .ref q_p0_reasons, .int v_p0_hasImage, .int v_p0_imageN, .int v_p0_imageWay, .ref q_p0_imageLed])), (q_p0_patterns, .inl (cI, 800, .inl f_p0_patterns)), (q_p0_ranks, .inl (cI, 6, .inl f_p0_ranks))] → va_S A s.heap H locs → lv_has ls 5 [(0, .ref q_p0), (1, .int x1), (2, .int l2), (3, .int l3), (4, .int l4)] → W p l e { frames := 1, cells := 0, slots := 0, locals := 23 } s m args below meth c H locs 0 0 Q (F0 m 12 ls []) := by
          intro l3 n12
          induction n12 with
          | zero =>
            intro l2 l4 H locs ls h
            exact False.elim h
          | succ n12 ih12 =>
            intro l2 l4 H locs ls h hP hD hS hl
            have h : M_X9_comesBy_l12 x1 f_p0_ranks (LP2 (M_X9_comesBy_l4 x1 f_p0_ranks P f_p0_patterns v_p0_patternMany) n4) P l3 f_p0_patterns v_p0_patternMany (LP2 (M_X9_comesBy_l12 x1 f_p0_ranks (LP2 (M_X9_comesBy_l4 x1 f_p0_ranks P f_p0_patterns v_p0_patternMany) n4) P l3 f_p0_patterns v_p0_patternMany) n12) l2 l4 := h
            refine lv_iload hx hb dX9_comesBy_12 (lv_at hl 4 rfl) ?_
            refine lv_iload_n hx hb dX9_comesBy_14 rfl (lv_at hl 1 rfl) ?_
            refine lv_icmp_ge (tgt := 56) hx hb dX9_comesBy_15 (by decide) (fun c3 => ?_) (fun c3 => ?_)
            · have h := And.left h c3
              refine lv_iinc (v := (l3 + 1)) (lv' := [(3, .int (l3 + 1)), (0, .ref q_p0), (1, .int x1), (2, .int l2), (4, .int l4)]) hx hb dX9_comesBy_56 hl (k := 3) rfl rfl (by decide) rfl (fun ls hl => ?_)
              refine lv_goto (tgt := 4) hx hb dX9_comesBy_59 (by decide) ?_
              exact ih4 l2 (l3 + 1) _ _ _ h hP hD hS (lv_sub hl [1, 2, 3, 0] rfl)
            · have h := And.right h c3
              refine lv_aload_n hx hb dX9_comesBy_18 rfl (lv_at hl 0 rfl) ?_
              refine va_get (ci := 7) (C := RX9) (T := TX9) (N := 24) (v := .ref q_p0_ranks) hx hb hts hinX9 hown hK hP 0 rfl rfl 10 (by decide) hw0 (fun _ h9 => h9) rfl dX9_comesBy_19 ?_
              refine lv_iload hx hb dX9_comesBy_22 (lv_at hl 4 rfl) ?_
              obtain ⟨hi4, h⟩ := h
              refine va_iald hx hb hK hP 2 0 rfl rfl hi4 dX9_comesBy_24 ?_
              refine lv_iload_n hx hb dX9_comesBy_25 rfl (lv_at hl 3 rfl) ?_
              refine lv_icmp_ne (tgt := 48) hx hb dX9_comesBy_26 (by decide) (fun c5 => ?_) (fun c5 => ?_)
              · have h := And.right h c5
                refine lv_iload_n hx hb dX9_comesBy_48 rfl (lv_at hl 2 rfl) ?_
                refine lv_istore_n (lv' := [(2, .int l2), (0, .ref q_p0), (1, .int x1), (3, .int l3), (4, .int l4)]) hx hb dX9_comesBy_49 rfl hl (by decide) rfl (fun ls hl => ?_)
                refine lv_iinc (v := (l4 + 1)) (lv' := [(4, .int (l4 + 1)), (2, .int l2), (0, .ref q_p0), (1, .int x1), (3, .int l3)]) hx hb dX9_comesBy_50 hl (k := 4) rfl rfl (by decide) rfl (fun ls hl => ?_)
                refine lv_goto (tgt := 12) hx hb dX9_comesBy_53 (by decide) ?_
                exact ih12 l2 (l4 + 1) _ _ _ h hP hD hS (lv_sub hl [2, 3, 1, 4, 0] rfl)
              · have h := And.left h c5
                refine lv_bipush (v := (10 : Int32)) hx hb dX9_comesBy_29 (by decide) ?_
                refine lv_iload_n hx hb dX9_comesBy_31 rfl (lv_at hl 2 rfl) ?_
                refine lv_imul hx hb dX9_comesBy_32 ?_
                refine lv_aload_n hx hb dX9_comesBy_33 rfl (lv_at hl 0 rfl) ?_
                refine va_get (ci := 7) (C := RX9) (T := TX9) (N := 24) (v := .ref q_p0_ranks) hx hb hts hinX9 hown hK hP 0 rfl rfl 10 (by decide) hw0 (fun _ h9 => h9) rfl dX9_comesBy_34 ?_
                refine lv_iload hx hb dX9_comesBy_37 (lv_at hl 4 rfl) ?_
                refine lv_iconst (v := (1 : Int32)) hx hb dX9_comesBy_39 (by decide) ?_
                refine lv_iadd hx hb dX9_comesBy_40 ?_
                refine lv_iload_n hx hb dX9_comesBy_41 rfl (lv_at hl 1 rfl) ?_
                obtain ⟨hn6, h⟩ := h
                refine lv_irem hx hb dX9_comesBy_42 hn6 ?_
                obtain ⟨hi7, h⟩ := h
                refine va_iald hx hb hK hP 2 0 rfl rfl hi7 dX9_comesBy_43 ?_
                refine lv_iadd hx hb dX9_comesBy_44 ?_
                refine lv_goto (tgt := 49) hx hb dX9_comesBy_45 (by decide) ?_
                refine lv_topi (fun y8 ey8 => ?_)
                have h := h y8 ey8
                refine lv_istore_n (lv' := [(2, .int y8), (0, .ref q_p0), (1, .int x1), (3, .int l3), (4, .int l4)]) hx hb dX9_comesBy_49 rfl hl (by decide) rfl (fun ls hl => ?_)
                refine lv_iinc (v := (l4 + 1)) (lv' := [(4, .int (l4 + 1)), (2, .int y8), (0, .ref q_p0), (1, .int x1), (3, .int l3)]) hx hb dX9_comesBy_50 hl (k := 4) rfl rfl (by decide) rfl (fun ls hl => ?_)
                refine lv_goto (tgt := 12) hx hb dX9_comesBy_53 (by decide) ?_
                exact ih12 y8 (l4 + 1) _ _ _ h hP hD hS (lv_sub hl [2, 3, 1, 4, 0] rfl)
        obtain ⟨n12, h⟩ := h
        exact k12 l3 n12 l2 (0 : Int32) _ _ _ h hP hD hS (lv_sub hl [1, 2, 3, 4, 0] rfl)
  obtain ⟨n4, h⟩ := h
  exact k4 f_p0_patterns v_p0_patternMany n4 (0 : Int32) (0 : Int32) _ _ _ h hP hD hS (lv_sub hl [2, 3, 1, 0] rfl)
theorem hd_X9_isSimple : yX9_isSimple.cls = RX9 ∧ yX9_isSimple.cls ≠ "java/lang/invoke/MethodHandle" ∧ yX9_isSimple.cls ≠ "java/lang/invoke/VarHandle" ∧ (parseMethodDescriptor yX9_isSimple.desc).map (fun d => d.parameters.length) = some 1 := by decide +kernel
set_option maxHeartbeats 4000000 in
set_option maxRecDepth 100000 in
theorem c_X9_isSimple (l : Launch) (D : va_G) (cI cJ cB : ClassId) (tU tM tS : Nat) (q_p0 q_p0_led q_p0_were q_p0_paths q_p0_more q_p0_patterns q_p0_loop q_p0_ranks q_p0_counts q_p0_then q_p0_table q_p0_product q_p0_turned q_p0_tape q_p0_reasons q_p0_imageLed : Nat) (sz : Nat) (x1 : Int32) (f_p0_loop : (Nat → Int32)) (v_p0_n : Int32) (v_p0_way : Int32) (v_p0_deeds : Int32) (v_p0_patternMany : Int32) (v_p0_taped : Int32) (v_p0_hasWhy : Int32) (v_p0_hasImage : Int32) (v_p0_imageN : Int32) (v_p0_imageWay : Int32) (P : Int32 → Prop) (h : M_X9_isSimple x1 f_p0_loop P) : Met l yX9_isSimple wsX9_isSimple ({ frames := 0, cells := 0, slots := 0, locals := 0 }) (va_Pc [.ref q_p0, .int x1] (zPre D cI cJ cB tU tM tS [(q_p0, .inr (7, [.int v_p0_n, .int v_p0_way, .ref q_p0_led, .int v_p0_deeds, .ref q_p0_were, .ref q_p0_paths, .ref q_p0_more, .ref q_p0_patterns, .int v_p0_patternMany, .ref q_p0_loop, .ref q_p0_ranks, .ref q_p0_counts, .ref q_p0_then, .ref q_p0_table, .ref q_p0_product, .ref q_p0_turned, .ref q_p0_tape, .int v_p0_taped, .int v_p0_hasWhy, .ref q_p0_reasons, .int v_p0_hasImage, .int v_p0_imageN, .int v_p0_imageWay, .ref q_p0_imageLed])), (q_p0_loop, .inl (cI, 6, .inl f_p0_loop))] sz)) (va_Qi (fun (r : Int32) (u : Unit) => P r ) (fun u t => zPost D cI cJ cB (va_A [(q_p0, .inr (7, [.int v_p0_n, .int v_p0_way, .ref q_p0_led, .int v_p0_deeds, .ref q_p0_were, .ref q_p0_paths, .ref q_p0_more, .ref q_p0_patterns, .int v_p0_patternMany, .ref q_p0_loop, .ref q_p0_ranks, .ref q_p0_counts, .ref q_p0_then, .ref q_p0_table, .ref q_p0_product, .ref q_p0_turned, .ref q_p0_tape, .int v_p0_taped, .int v_p0_hasWhy, .ref q_p0_reasons, .int v_p0_hasImage, .int v_p0_imageN, .int v_p0_imageWay, .ref q_p0_imageLed])), (q_p0_loop, .inl (cI, 6, .inl f_p0_loop))] sz) [(q_p0, .inr (7, [.int v_p0_n, .int v_p0_way, .ref q_p0_led, .int v_p0_deeds, .ref q_p0_were, .ref q_p0_paths, .ref q_p0_more, .ref q_p0_patterns, .int v_p0_patternMany, .ref q_p0_loop, .ref q_p0_ranks, .ref q_p0_counts, .ref q_p0_then, .ref q_p0_table, .ref q_p0_product, .ref q_p0_turned, .ref q_p0_tape, .int v_p0_taped, .int v_p0_hasWhy, .ref q_p0_reasons, .int v_p0_hasImage, .int v_p0_imageN, .int v_p0_imageWay, .ref q_p0_imageLed])), (q_p0_loop, .inl (cI, 6, .inl f_p0_loop))] t) (va_A [(q_p0, .inr (7, [.int v_p0_n, .int v_p0_way, .ref q_p0_led, .int v_p0_deeds, .ref q_p0_were, .ref q_p0_paths, .ref q_p0_more, .ref q_p0_patterns, .int v_p0_patternMany, .ref q_p0_loop, .ref q_p0_ranks, .ref q_p0_counts, .ref q_p0_then, .ref q_p0_table, .ref q_p0_product, .ref q_p0_turned, .ref q_p0_tape, .int v_p0_taped, .int v_p0_hasWhy, .ref q_p0_reasons, .int v_p0_hasImage, .int v_p0_imageN, .int v_p0_imageWay, .ref q_p0_imageLed])), (q_p0_loop, .inl (cI, 6, .inl f_p0_loop))] sz)) 0 0 (va_A [(q_p0, .inr (7, [.int v_p0_n, .int v_p0_way, .ref q_p0_led, .int v_p0_deeds, .ref q_p0_were, .ref q_p0_paths, .ref q_p0_more, .ref q_p0_patterns, .int v_p0_patternMany, .ref q_p0_loop, .ref q_p0_ranks, .ref q_p0_counts, .ref q_p0_then, .ref q_p0_table, .ref q_p0_product, .ref q_p0_turned, .ref q_p0_tape, .int v_p0_taped, .int v_p0_hasWhy, .ref q_p0_reasons, .int v_p0_hasImage, .int v_p0_imageN, .int v_p0_imageWay, .ref q_p0_imageLed])), (q_p0_loop, .inl (cI, 6, .inl f_p0_loop))] sz) := by
  refine z_met (cc := cX9_isSimple) (maxL := 5) (ret := (some .boolean)) (Qc := fun A => va_Qi (fun (r : Int32) (u : Unit) => P r ) (fun u t => zPost D cI cJ cB A [(q_p0, .inr (7, [.int v_p0_n, .int v_p0_way, .ref q_p0_led, .int v_p0_deeds, .ref q_p0_were, .ref q_p0_paths, .ref q_p0_more, .ref q_p0_patterns, .int v_p0_patternMany, .ref q_p0_loop, .ref q_p0_ranks, .ref q_p0_counts, .ref q_p0_then, .ref q_p0_table, .ref q_p0_product, .ref q_p0_turned, .ref q_p0_tape, .int v_p0_taped, .int v_p0_hasWhy, .ref q_p0_reasons, .int v_p0_hasImage, .int v_p0_imageN, .int v_p0_imageWay, .ref q_p0_imageLed])), (q_p0_loop, .inl (cI, 6, .inl f_p0_loop))] t) A) (by decide) rfl [.ref q_p0, .int x1] (Nat.le_of_ble_eq_true rfl) ?_
  intro p e s m args below meth c A hx hb hr hts hown hml hlocks hA hX hK H locs hP hD hS ls hl Q hQ
  have hown : s.vm.findClass RX9 = some m.cls := hown
  have hl : lv_has ls 5 [(0, .ref q_p0), (1, .int x1)] := hl
  have hw0 : (Cond.fieldLink RX9 32 "ForcedRingsModel" "loop" "[I").before args s = true := hts _ (List.mem_of_getElem? (i := 1) rfl)
  have hinX9 : ∀ w ∈ wsX90, w ∈ wsX9_isSimple := fun _ h => List.mem_cons_of_mem _ (List.mem_append_right _ h)
  refine lv_iconst (v := (1 : Int32)) hx hb dX9_isSimple_0 (by decide) ?_
  refine lv_istore_n (lv' := [(2, .int (1 : Int32)), (0, .ref q_p0), (1, .int x1)]) hx hb dX9_isSimple_1 rfl hl (by decide) rfl (fun ls hl => ?_)
  have k2 : ∀  (n2 : Nat) (l2 : Int32) (H : Heap) (locs : List Loc) (ls : Array Slot), LP1 (M_X9_isSimple_l2 x1 f_p0_loop P ) n2 l2 → va_P D vwCl [(q_p0, .inr (7, [.int v_p0_n, .int v_p0_way, .ref q_p0_led, .int v_p0_deeds, .ref q_p0_were, .ref q_p0_paths, .ref q_p0_more, .ref q_p0_patterns, .int v_p0_patternMany, .ref q_p0_loop, .ref q_p0_ranks, .ref q_p0_counts, .ref q_p0_then, .ref q_p0_table, .ref q_p0_product, .ref q_p0_turned, .ref q_p0_tape, .int v_p0_taped, .int v_p0_hasWhy, .ref q_p0_reasons, .int v_p0_hasImage, .int v_p0_imageN, .int v_p0_imageWay, .ref q_p0_imageLed])), (q_p0_loop, .inl (cI, 6, .inl f_p0_loop))] H → va_D A [(q_p0, .inr (7, [.int v_p0_n, .int v_p0_way, .ref q_p0_led, .int v_p0_deeds, .ref q_p0_were, .ref q_p0_paths, .ref q_p0_more, .ref q_p0_patterns, .int v_p0_patternMany, .ref q_p0_loop, .ref q_p0_ranks, .ref q_p0_counts, .ref q_p0_then, .ref q_p0_table, .ref q_p0_product, .ref q_p0_turned, .ref q_p0_tape, .int v_p0_taped, .int v_p0_hasWhy, .ref q_p0_reasons, .int v_p0_hasImage, .int v_p0_imageN, .int v_p0_imageWay, .ref q_p0_imageLed])), (q_p0_loop, .inl (cI, 6, .inl f_p0_loop))] → va_S A s.heap H locs → lv_has ls 5 [(0, .ref q_p0), (1, .int x1), (2, .int l2)] → W p l e { frames := 0, cells := 0, slots := 0, locals := 0 } s m args below meth c H locs 0 0 Q (F0 m 2 ls []) := by
    intro  n2
    induction n2 with
    | zero =>
      intro l2 H locs ls h
      exact False.elim h
    | succ n2 ih2 =>
      intro l2 H locs ls h hP hD hS hl
      have h : M_X9_isSimple_l2 x1 f_p0_loop P  (LP1 (M_X9_isSimple_l2 x1 f_p0_loop P ) n2) l2 := h
      refine lv_iload_n hx hb dX9_isSimple_2 rfl (lv_at hl 2 rfl) ?_
      refine lv_iload_n hx hb dX9_isSimple_3 rfl (lv_at hl 1 rfl) ?_
      refine lv_icmp_ge (tgt := 65) hx hb dX9_isSimple_4 (by decide) (fun c1 => ?_) (fun c1 => ?_)
      · have h := And.left h c1
        refine lv_iconst (v := (1 : Int32)) hx hb dX9_isSimple_65 (by decide) ?_
        exact z_iret hQ hx hb hr rfl hlocks hK () h hP hD hS dX9_isSimple_66
      · have h := And.right h c1
        refine lv_iconst (v := (1 : Int32)) hx hb dX9_isSimple_7 (by decide) ?_
        refine lv_istore_n (lv' := [(3, .int (1 : Int32)), (0, .ref q_p0), (1, .int x1), (2, .int l2)]) hx hb dX9_isSimple_8 rfl hl (by decide) rfl (fun ls hl => ?_)
        refine lv_iconst (v := (0 : Int32)) hx hb dX9_isSimple_9 (by decide) ?_
        refine lv_istore (lv' := [(4, .int (0 : Int32)), (3, .int (1 : Int32)), (0, .ref q_p0), (1, .int x1), (2, .int l2)]) hx hb dX9_isSimple_10 hl (by decide) rfl (fun ls hl => ?_)
        have k12 : ∀ (l2 : Int32) (n12 : Nat) (l3 : Int32) (l4 : Int32) (H : Heap) (locs : List Loc) (ls : Array Slot), LP2 (M_X9_isSimple_l12 x1 f_p0_loop (LP1 (M_X9_isSimple_l2 x1 f_p0_loop P ) n2) P l2) n12 l3 l4 → va_P D vwCl [(q_p0, .inr (7, [.int v_p0_n, .int v_p0_way, .ref q_p0_led, .int v_p0_deeds, .ref q_p0_were, .ref q_p0_paths, .ref q_p0_more, .ref q_p0_patterns, .int v_p0_patternMany, .ref q_p0_loop, .ref q_p0_ranks, .ref q_p0_counts, .ref q_p0_then, .ref q_p0_table, .ref q_p0_product, .ref q_p0_turned, .ref q_p0_tape, .int v_p0_taped, .int v_p0_hasWhy, .ref q_p0_reasons, .int v_p0_hasImage, .int v_p0_imageN, .int v_p0_imageWay, .ref q_p0_imageLed])), (q_p0_loop, .inl (cI, 6, .inl f_p0_loop))] H → va_D A [(q_p0, .inr (7, [.int v_p0_n, .int v_p0_way, .ref q_p0_led, .int v_p0_deeds, .ref q_p0_were, .ref q_p0_paths, .ref q_p0_more, .ref q_p0_patterns, .int v_p0_patternMany, .ref q_p0_loop, .ref q_p0_ranks, .ref q_p0_counts, .ref q_p0_then, .ref q_p0_table, .ref q_p0_product, .ref q_p0_turned, .ref q_p0_tape, .int v_p0_taped, .int v_p0_hasWhy, .ref q_p0_reasons, .int v_p0_hasImage, .int v_p0_imageN, .int v_p0_imageWay, .ref q_p0_imageLed])), (q_p0_loop, .inl (cI, 6, .inl f_p0_loop))] → va_S A s.heap H locs → lv_has ls 5 [(0, .ref q_p0), (1, .int x1), (2, .int l2), (3, .int l3), (4, .int l4)] → W p l e { frames := 0, cells := 0, slots := 0, locals := 0 } s m args below meth c H locs 0 0 Q (F0 m 12 ls []) := by
          intro l2 n12
          induction n12 with
          | zero =>
            intro l3 l4 H locs ls h
            exact False.elim h
          | succ n12 ih12 =>
            intro l3 l4 H locs ls h hP hD hS hl
            have h : M_X9_isSimple_l12 x1 f_p0_loop (LP1 (M_X9_isSimple_l2 x1 f_p0_loop P ) n2) P l2 (LP2 (M_X9_isSimple_l12 x1 f_p0_loop (LP1 (M_X9_isSimple_l2 x1 f_p0_loop P ) n2) P l2) n12) l3 l4 := h
            refine lv_iload hx hb dX9_isSimple_12 (lv_at hl 4 rfl) ?_
            refine lv_iload_n hx hb dX9_isSimple_14 rfl (lv_at hl 1 rfl) ?_
            refine lv_icmp_ge (tgt := 53) hx hb dX9_isSimple_15 (by decide) (fun c2 => ?_) (fun c2 => ?_)
            · have h := And.left h c2
              refine lv_iload_n hx hb dX9_isSimple_53 rfl (lv_at hl 3 rfl) ?_
              refine lv_if_eq (tgt := 59) hx hb dX9_isSimple_54 (by decide) (fun c3 => ?_) (fun c3 => ?_)
              · have h := And.left h c3
                refine lv_iinc (v := (l2 + 1)) (lv' := [(2, .int (l2 + 1)), (0, .ref q_p0), (1, .int x1), (3, .int l3), (4, .int l4)]) hx hb dX9_isSimple_59 hl (k := 2) rfl rfl (by decide) rfl (fun ls hl => ?_)
                refine lv_goto (tgt := 2) hx hb dX9_isSimple_62 (by decide) ?_
                exact ih2 (l2 + 1) _ _ _ h hP hD hS (lv_sub hl [1, 2, 0] rfl)
              · have h := And.right h c3
                refine lv_iconst (v := (0 : Int32)) hx hb dX9_isSimple_57 (by decide) ?_
                exact z_iret hQ hx hb hr rfl hlocks hK () h hP hD hS dX9_isSimple_58
            · have h := And.right h c2
              refine lv_iload_n hx hb dX9_isSimple_18 rfl (lv_at hl 3 rfl) ?_
              refine lv_aload_n hx hb dX9_isSimple_19 rfl (lv_at hl 0 rfl) ?_
              refine va_get (ci := 7) (C := RX9) (T := TX9) (N := 24) (v := .ref q_p0_loop) hx hb hts hinX9 hown hK hP 0 rfl rfl 9 (by decide) hw0 (fun _ h9 => h9) rfl dX9_isSimple_20 ?_
              refine lv_iload hx hb dX9_isSimple_23 (lv_at hl 4 rfl) ?_
              obtain ⟨hi4, h⟩ := h
              refine va_iald hx hb hK hP 1 0 rfl rfl hi4 dX9_isSimple_25 ?_
              refine lv_aload_n hx hb dX9_isSimple_26 rfl (lv_at hl 0 rfl) ?_
              refine va_get (ci := 7) (C := RX9) (T := TX9) (N := 24) (v := .ref q_p0_loop) hx hb hts hinX9 hown hK hP 0 rfl rfl 9 (by decide) hw0 (fun _ h9 => h9) rfl dX9_isSimple_27 ?_
              refine lv_iload hx hb dX9_isSimple_30 (lv_at hl 4 rfl) ?_
              refine lv_iload_n hx hb dX9_isSimple_32 rfl (lv_at hl 2 rfl) ?_
              refine lv_iadd hx hb dX9_isSimple_33 ?_
              refine lv_iload_n hx hb dX9_isSimple_34 rfl (lv_at hl 1 rfl) ?_
              obtain ⟨hn5, h⟩ := h
              refine lv_irem hx hb dX9_isSimple_35 hn5 ?_
              obtain ⟨hi6, h⟩ := h
              refine va_iald hx hb hK hP 1 0 rfl rfl hi6 dX9_isSimple_36 ?_
              refine lv_icmp_ne (tgt := 44) hx hb dX9_isSimple_37 (by decide) (fun c7 => ?_) (fun c7 => ?_)
              · have h := And.right h c7
                refine lv_iconst (v := (0 : Int32)) hx hb dX9_isSimple_44 (by decide) ?_
                refine lv_iand hx hb dX9_isSimple_45 ?_
                refine lv_istore_n (lv' := [(3, .int (l3 &&& (0 : Int32))), (0, .ref q_p0), (1, .int x1), (2, .int l2), (4, .int l4)]) hx hb dX9_isSimple_46 rfl hl (by decide) rfl (fun ls hl => ?_)
                refine lv_iinc (v := (l4 + 1)) (lv' := [(4, .int (l4 + 1)), (3, .int (l3 &&& (0 : Int32))), (0, .ref q_p0), (1, .int x1), (2, .int l2)]) hx hb dX9_isSimple_47 hl (k := 4) rfl rfl (by decide) rfl (fun ls hl => ?_)
                refine lv_goto (tgt := 12) hx hb dX9_isSimple_50 (by decide) ?_
                exact ih12 (l3 &&& (0 : Int32)) (l4 + 1) _ _ _ h hP hD hS (lv_sub hl [2, 3, 4, 1, 0] rfl)
              · have h := And.left h c7
                refine lv_iconst (v := (1 : Int32)) hx hb dX9_isSimple_40 (by decide) ?_
                refine lv_goto (tgt := 45) hx hb dX9_isSimple_41 (by decide) ?_
                refine lv_iand hx hb dX9_isSimple_45 ?_
                refine lv_istore_n (lv' := [(3, .int (l3 &&& (1 : Int32))), (0, .ref q_p0), (1, .int x1), (2, .int l2), (4, .int l4)]) hx hb dX9_isSimple_46 rfl hl (by decide) rfl (fun ls hl => ?_)
                refine lv_iinc (v := (l4 + 1)) (lv' := [(4, .int (l4 + 1)), (3, .int (l3 &&& (1 : Int32))), (0, .ref q_p0), (1, .int x1), (2, .int l2)]) hx hb dX9_isSimple_47 hl (k := 4) rfl rfl (by decide) rfl (fun ls hl => ?_)
                refine lv_goto (tgt := 12) hx hb dX9_isSimple_50 (by decide) ?_
                exact ih12 (l3 &&& (1 : Int32)) (l4 + 1) _ _ _ h hP hD hS (lv_sub hl [2, 3, 4, 1, 0] rfl)
        obtain ⟨n12, h⟩ := h
        exact k12 l2 n12 (1 : Int32) (0 : Int32) _ _ _ h hP hD hS (lv_sub hl [2, 3, 4, 1, 0] rfl)
  obtain ⟨n2, h⟩ := h
  exact k2  n2 (1 : Int32) _ _ _ h hP hD hS (lv_sub hl [1, 2, 0] rfl)
theorem hd_X9_isLess : yX9_isLess.cls = RX9 ∧ yX9_isLess.cls ≠ "java/lang/invoke/MethodHandle" ∧ yX9_isLess.cls ≠ "java/lang/invoke/VarHandle" ∧ (parseMethodDescriptor yX9_isLess.desc).map (fun d => d.parameters.length) = some 3 := by decide +kernel
set_option maxHeartbeats 4000000 in
set_option maxRecDepth 100000 in
theorem c_X9_isLess (l : Launch) (D : va_G) (cI cJ cB : ClassId) (tU tM tS : Nat) (q_p0 q_p0_led q_p0_were q_p0_paths q_p0_more q_p0_patterns q_p0_loop q_p0_ranks q_p0_counts q_p0_then q_p0_table q_p0_product q_p0_turned q_p0_tape q_p0_reasons q_p0_imageLed : Nat) (sz : Nat) (x1 : Int32) (x2 : Int32) (x3 : Int32) (f_p0_loop : (Nat → Int32)) (v_p0_way : Int32) (f_p0_led : (Nat → Int32)) (v_p0_n : Int32) (v_p0_deeds : Int32) (v_p0_patternMany : Int32) (v_p0_taped : Int32) (v_p0_hasWhy : Int32) (v_p0_hasImage : Int32) (v_p0_imageN : Int32) (v_p0_imageWay : Int32) (P : Int32 → Prop) (h : M_X9_isLess x1 x2 x3 f_p0_loop v_p0_way f_p0_led P) : Met l yX9_isLess wsX9_isLess ({ frames := 1, cells := 0, slots := 0, locals := 21 }) (va_Pc [.ref q_p0, .int x1, .int x2, .int x3] (zPre D cI cJ cB tU tM tS [(q_p0, .inr (7, [.int v_p0_n, .int v_p0_way, .ref q_p0_led, .int v_p0_deeds, .ref q_p0_were, .ref q_p0_paths, .ref q_p0_more, .ref q_p0_patterns, .int v_p0_patternMany, .ref q_p0_loop, .ref q_p0_ranks, .ref q_p0_counts, .ref q_p0_then, .ref q_p0_table, .ref q_p0_product, .ref q_p0_turned, .ref q_p0_tape, .int v_p0_taped, .int v_p0_hasWhy, .ref q_p0_reasons, .int v_p0_hasImage, .int v_p0_imageN, .int v_p0_imageWay, .ref q_p0_imageLed])), (q_p0_loop, .inl (cI, 6, .inl f_p0_loop)), (q_p0_led, .inl (cI, 8, .inl f_p0_led))] sz)) (va_Qi (fun (r : Int32) (u : Unit) => P r ) (fun u t => zPost D cI cJ cB (va_A [(q_p0, .inr (7, [.int v_p0_n, .int v_p0_way, .ref q_p0_led, .int v_p0_deeds, .ref q_p0_were, .ref q_p0_paths, .ref q_p0_more, .ref q_p0_patterns, .int v_p0_patternMany, .ref q_p0_loop, .ref q_p0_ranks, .ref q_p0_counts, .ref q_p0_then, .ref q_p0_table, .ref q_p0_product, .ref q_p0_turned, .ref q_p0_tape, .int v_p0_taped, .int v_p0_hasWhy, .ref q_p0_reasons, .int v_p0_hasImage, .int v_p0_imageN, .int v_p0_imageWay, .ref q_p0_imageLed])), (q_p0_loop, .inl (cI, 6, .inl f_p0_loop)), (q_p0_led, .inl (cI, 8, .inl f_p0_led))] sz) [(q_p0, .inr (7, [.int v_p0_n, .int v_p0_way, .ref q_p0_led, .int v_p0_deeds, .ref q_p0_were, .ref q_p0_paths, .ref q_p0_more, .ref q_p0_patterns, .int v_p0_patternMany, .ref q_p0_loop, .ref q_p0_ranks, .ref q_p0_counts, .ref q_p0_then, .ref q_p0_table, .ref q_p0_product, .ref q_p0_turned, .ref q_p0_tape, .int v_p0_taped, .int v_p0_hasWhy, .ref q_p0_reasons, .int v_p0_hasImage, .int v_p0_imageN, .int v_p0_imageWay, .ref q_p0_imageLed])), (q_p0_loop, .inl (cI, 6, .inl f_p0_loop)), (q_p0_led, .inl (cI, 8, .inl f_p0_led))] t) (va_A [(q_p0, .inr (7, [.int v_p0_n, .int v_p0_way, .ref q_p0_led, .int v_p0_deeds, .ref q_p0_were, .ref q_p0_paths, .ref q_p0_more, .ref q_p0_patterns, .int v_p0_patternMany, .ref q_p0_loop, .ref q_p0_ranks, .ref q_p0_counts, .ref q_p0_then, .ref q_p0_table, .ref q_p0_product, .ref q_p0_turned, .ref q_p0_tape, .int v_p0_taped, .int v_p0_hasWhy, .ref q_p0_reasons, .int v_p0_hasImage, .int v_p0_imageN, .int v_p0_imageWay, .ref q_p0_imageLed])), (q_p0_loop, .inl (cI, 6, .inl f_p0_loop)), (q_p0_led, .inl (cI, 8, .inl f_p0_led))] sz)) 0 0 (va_A [(q_p0, .inr (7, [.int v_p0_n, .int v_p0_way, .ref q_p0_led, .int v_p0_deeds, .ref q_p0_were, .ref q_p0_paths, .ref q_p0_more, .ref q_p0_patterns, .int v_p0_patternMany, .ref q_p0_loop, .ref q_p0_ranks, .ref q_p0_counts, .ref q_p0_then, .ref q_p0_table, .ref q_p0_product, .ref q_p0_turned, .ref q_p0_tape, .int v_p0_taped, .int v_p0_hasWhy, .ref q_p0_reasons, .int v_p0_hasImage, .int v_p0_imageN, .int v_p0_imageWay, .ref q_p0_imageLed])), (q_p0_loop, .inl (cI, 6, .inl f_p0_loop)), (q_p0_led, .inl (cI, 8, .inl f_p0_led))] sz) := by
  refine z_met (cc := cX9_isLess) (maxL := 6) (ret := (some .boolean)) (Qc := fun A => va_Qi (fun (r : Int32) (u : Unit) => P r ) (fun u t => zPost D cI cJ cB A [(q_p0, .inr (7, [.int v_p0_n, .int v_p0_way, .ref q_p0_led, .int v_p0_deeds, .ref q_p0_were, .ref q_p0_paths, .ref q_p0_more, .ref q_p0_patterns, .int v_p0_patternMany, .ref q_p0_loop, .ref q_p0_ranks, .ref q_p0_counts, .ref q_p0_then, .ref q_p0_table, .ref q_p0_product, .ref q_p0_turned, .ref q_p0_tape, .int v_p0_taped, .int v_p0_hasWhy, .ref q_p0_reasons, .int v_p0_hasImage, .int v_p0_imageN, .int v_p0_imageWay, .ref q_p0_imageLed])), (q_p0_loop, .inl (cI, 6, .inl f_p0_loop)), (q_p0_led, .inl (cI, 8, .inl f_p0_led))] t) A) (by decide) rfl [.ref q_p0, .int x1, .int x2, .int x3] (Nat.le_of_ble_eq_true rfl) ?_
  intro p e s m args below meth c A hx hb hr hts hown hml hlocks hA hX hK H locs hP hD hS ls hl Q hQ
  have hown : s.vm.findClass RX9 = some m.cls := hown
  have hl : lv_has ls 6 [(0, .ref q_p0), (1, .int x1), (2, .int x2), (3, .int x3)] := hl
  have hw0 : (Cond.fieldLink RX9 32 "ForcedRingsModel" "loop" "[I").before args s = true := hts _ (List.mem_of_getElem? (i := 1) rfl)
  have hinX9 : ∀ w ∈ wsX90, w ∈ wsX9_isLess := fun _ h => List.mem_cons_of_mem _ (List.mem_append_right _ h)
  refine lv_iconst (v := (1 : Int32)) hx hb dX9_isLess_0 (by decide) ?_
  refine lv_istore (lv' := [(4, .int (1 : Int32)), (0, .ref q_p0), (1, .int x1), (2, .int x2), (3, .int x3)]) hx hb dX9_isLess_1 hl (by decide) rfl (fun ls hl => ?_)
  refine lv_iconst (v := (0 : Int32)) hx hb dX9_isLess_3 (by decide) ?_
  refine lv_istore (lv' := [(5, .int (0 : Int32)), (4, .int (1 : Int32)), (0, .ref q_p0), (1, .int x1), (2, .int x2), (3, .int x3)]) hx hb dX9_isLess_4 hl (by decide) rfl (fun ls hl => ?_)
  have k6 : ∀  (n6 : Nat) (l4 : Int32) (l5 : Int32) (H : Heap) (locs : List Loc) (ls : Array Slot), LP2 (M_X9_isLess_l6 x1 x2 x3 f_p0_loop v_p0_way f_p0_led P ) n6 l4 l5 → va_P D vwCl [(q_p0, .inr (7, [.int v_p0_n, .int v_p0_way, .ref q_p0_led, .int v_p0_deeds, .ref q_p0_were, .ref q_p0_paths, .ref q_p0_more, .ref q_p0_patterns, .int v_p0_patternMany, .ref q_p0_loop, .ref q_p0_ranks, .ref q_p0_counts, .ref q_p0_then, .ref q_p0_table, .ref q_p0_product, .ref q_p0_turned, .ref q_p0_tape, .int v_p0_taped, .int v_p0_hasWhy, .ref q_p0_reasons, .int v_p0_hasImage, .int v_p0_imageN, .int v_p0_imageWay, .ref q_p0_imageLed])), (q_p0_loop, .inl (cI, 6, .inl f_p0_loop)), (q_p0_led, .inl (cI, 8, .inl f_p0_led))] H → va_D A [(q_p0, .inr (7, [.int v_p0_n, .int v_p0_way, .ref q_p0_led, .int v_p0_deeds, .ref q_p0_were, .ref q_p0_paths, .ref q_p0_more, .ref q_p0_patterns, .int v_p0_patternMany, .ref q_p0_loop, .ref q_p0_ranks, .ref q_p0_counts, .ref q_p0_then, .ref q_p0_table, .ref q_p0_product, .ref q_p0_turned, .ref q_p0_tape, .int v_p0_taped, .int v_p0_hasWhy, .ref q_p0_reasons, .int v_p0_hasImage, .int v_p0_imageN, .int v_p0_imageWay, .ref q_p0_imageLed])), (q_p0_loop, .inl (cI, 6, .inl f_p0_loop)), (q_p0_led, .inl (cI, 8, .inl f_p0_led))] → va_S A s.heap H locs → lv_has ls 6 [(0, .ref q_p0), (1, .int x1), (2, .int x2), (3, .int x3), (4, .int l4), (5, .int l5)] → W p l e { frames := 1, cells := 0, slots := 0, locals := 21 } s m args below meth c H locs 0 0 Q (F0 m 6 ls []) := by
    intro  n6
    induction n6 with
    | zero =>
      intro l4 l5 H locs ls h
      exact False.elim h
    | succ n6 ih6 =>
      intro l4 l5 H locs ls h hP hD hS hl
      have h : M_X9_isLess_l6 x1 x2 x3 f_p0_loop v_p0_way f_p0_led P  (LP2 (M_X9_isLess_l6 x1 x2 x3 f_p0_loop v_p0_way f_p0_led P ) n6) l4 l5 := h
      refine lv_aload_n hx hb dX9_isLess_6 rfl (lv_at hl 0 rfl) ?_
      refine va_get (ci := 7) (C := RX9) (T := TX9) (N := 24) (v := .ref q_p0_loop) hx hb hts hinX9 hown hK hP 0 rfl rfl 9 (by decide) hw0 (fun _ h9 => h9) rfl dX9_isLess_7 ?_
      refine lv_iload_n hx hb dX9_isLess_10 rfl (lv_at hl 1 rfl) ?_
      refine lv_iload hx hb dX9_isLess_11 (lv_at hl 5 rfl) ?_
      refine lv_iadd hx hb dX9_isLess_13 ?_
      refine lv_iload_n hx hb dX9_isLess_14 rfl (lv_at hl 3 rfl) ?_
      obtain ⟨hn1, h⟩ := h
      refine lv_irem hx hb dX9_isLess_15 hn1 ?_
      obtain ⟨hi2, h⟩ := h
      refine va_iald hx hb hK hP 1 0 rfl rfl hi2 dX9_isLess_16 ?_
      refine lv_aload_n hx hb dX9_isLess_17 rfl (lv_at hl 0 rfl) ?_
      refine va_get (ci := 7) (C := RX9) (T := TX9) (N := 24) (v := .ref q_p0_loop) hx hb hts hinX9 hown hK hP 0 rfl rfl 9 (by decide) hw0 (fun _ h9 => h9) rfl dX9_isLess_18 ?_
      refine lv_iload_n hx hb dX9_isLess_21 rfl (lv_at hl 2 rfl) ?_
      refine lv_iload hx hb dX9_isLess_22 (lv_at hl 5 rfl) ?_
      refine lv_iadd hx hb dX9_isLess_24 ?_
      refine lv_iload_n hx hb dX9_isLess_25 rfl (lv_at hl 3 rfl) ?_
      obtain ⟨hn3, h⟩ := h
      refine lv_irem hx hb dX9_isLess_26 hn3 ?_
      obtain ⟨hi4, h⟩ := h
      refine va_iald hx hb hK hP 1 0 rfl rfl hi4 dX9_isLess_27 ?_
      refine lv_icmp_ne (tgt := 57) hx hb dX9_isLess_28 (by decide) (fun c5 => ?_) (fun c5 => ?_)
      · have h := And.right h c5
        refine lv_aload_n hx hb dX9_isLess_57 rfl (lv_at hl 0 rfl) ?_
        refine va_get (ci := 7) (C := RX9) (T := TX9) (N := 24) (v := .ref q_p0_loop) hx hb hts hinX9 hown hK hP 0 rfl rfl 9 (by decide) hw0 (fun _ h9 => h9) rfl dX9_isLess_58 ?_
        refine lv_iload_n hx hb dX9_isLess_61 rfl (lv_at hl 1 rfl) ?_
        refine lv_iload hx hb dX9_isLess_62 (lv_at hl 5 rfl) ?_
        refine lv_iadd hx hb dX9_isLess_64 ?_
        refine lv_iload_n hx hb dX9_isLess_65 rfl (lv_at hl 3 rfl) ?_
        obtain ⟨hn6, h⟩ := h
        refine lv_irem hx hb dX9_isLess_66 hn6 ?_
        obtain ⟨hi7, h⟩ := h
        refine va_iald hx hb hK hP 1 0 rfl rfl hi7 dX9_isLess_67 ?_
        refine lv_aload_n hx hb dX9_isLess_68 rfl (lv_at hl 0 rfl) ?_
        refine va_get (ci := 7) (C := RX9) (T := TX9) (N := 24) (v := .ref q_p0_loop) hx hb hts hinX9 hown hK hP 0 rfl rfl 9 (by decide) hw0 (fun _ h9 => h9) rfl dX9_isLess_69 ?_
        refine lv_iload_n hx hb dX9_isLess_72 rfl (lv_at hl 2 rfl) ?_
        refine lv_iload hx hb dX9_isLess_73 (lv_at hl 5 rfl) ?_
        refine lv_iadd hx hb dX9_isLess_75 ?_
        refine lv_iload_n hx hb dX9_isLess_76 rfl (lv_at hl 3 rfl) ?_
        obtain ⟨hn8, h⟩ := h
        refine lv_irem hx hb dX9_isLess_77 hn8 ?_
        obtain ⟨hi9, h⟩ := h
        refine va_iald hx hb hK hP 1 0 rfl rfl hi9 dX9_isLess_78 ?_
        have k87 : ∀ (l4 : Int32) (s0 : Int32) (H : Heap) (locs : List Loc) (ls : Array Slot), M_X9_isLess_b87 x1 x2 x3 f_p0_loop v_p0_way f_p0_led P l4 s0 → va_P D vwCl [(q_p0, .inr (7, [.int v_p0_n, .int v_p0_way, .ref q_p0_led, .int v_p0_deeds, .ref q_p0_were, .ref q_p0_paths, .ref q_p0_more, .ref q_p0_patterns, .int v_p0_patternMany, .ref q_p0_loop, .ref q_p0_ranks, .ref q_p0_counts, .ref q_p0_then, .ref q_p0_table, .ref q_p0_product, .ref q_p0_turned, .ref q_p0_tape, .int v_p0_taped, .int v_p0_hasWhy, .ref q_p0_reasons, .int v_p0_hasImage, .int v_p0_imageN, .int v_p0_imageWay, .ref q_p0_imageLed])), (q_p0_loop, .inl (cI, 6, .inl f_p0_loop)), (q_p0_led, .inl (cI, 8, .inl f_p0_led))] H → va_D A [(q_p0, .inr (7, [.int v_p0_n, .int v_p0_way, .ref q_p0_led, .int v_p0_deeds, .ref q_p0_were, .ref q_p0_paths, .ref q_p0_more, .ref q_p0_patterns, .int v_p0_patternMany, .ref q_p0_loop, .ref q_p0_ranks, .ref q_p0_counts, .ref q_p0_then, .ref q_p0_table, .ref q_p0_product, .ref q_p0_turned, .ref q_p0_tape, .int v_p0_taped, .int v_p0_hasWhy, .ref q_p0_reasons, .int v_p0_hasImage, .int v_p0_imageN, .int v_p0_imageWay, .ref q_p0_imageLed])), (q_p0_loop, .inl (cI, 6, .inl f_p0_loop)), (q_p0_led, .inl (cI, 8, .inl f_p0_led))] → va_S A s.heap H locs → lv_has ls 6 [(4, .int l4)] → W p l e { frames := 1, cells := 0, slots := 0, locals := 21 } s m args below meth c H locs 0 0 Q (F0 m 87 ls [.int s0]) := by
          intro l4 s0 H locs ls h hP hD hS hl
          refine lv_iload hx hb dX9_isLess_87 (lv_at hl 0 rfl) ?_
          refine lv_icmp_ne (tgt := 96) hx hb dX9_isLess_89 (by decide) (fun c10 => ?_) (fun c10 => ?_)
          · have h := And.right h c10
            refine lv_iconst (v := (0 : Int32)) hx hb dX9_isLess_96 (by decide) ?_
            exact z_iret hQ hx hb hr rfl hlocks hK () h hP hD hS dX9_isLess_97
          · have h := And.left h c10
            refine lv_iconst (v := (1 : Int32)) hx hb dX9_isLess_92 (by decide) ?_
            refine lv_goto (tgt := 97) hx hb dX9_isLess_93 (by decide) ?_
            exact z_iret hQ hx hb hr rfl hlocks hK () h hP hD hS dX9_isLess_97
        refine lv_icmp_ge (tgt := 86) hx hb dX9_isLess_79 (by decide) (fun c11 => ?_) (fun c11 => ?_)
        · have h := And.left h c11
          refine lv_iconst (v := (0 : Int32)) hx hb dX9_isLess_86 (by decide) ?_
          exact k87 l4 (0 : Int32) _ _ _ h hP hD hS (lv_sub hl [4] rfl)
        · have h := And.right h c11
          refine lv_iconst (v := (1 : Int32)) hx hb dX9_isLess_82 (by decide) ?_
          refine lv_goto (tgt := 87) hx hb dX9_isLess_83 (by decide) ?_
          exact k87 l4 (1 : Int32) _ _ _ h hP hD hS (lv_sub hl [4] rfl)
      · have h := And.left h c5
        refine lv_iload hx hb dX9_isLess_31 (lv_at hl 4 rfl) ?_
        refine lv_aload_n hx hb dX9_isLess_33 rfl (lv_at hl 0 rfl) ?_
        refine lv_aload_n hx hb dX9_isLess_34 rfl (lv_at hl 0 rfl) ?_
        refine va_get (ci := 7) (C := RX9) (T := TX9) (N := 24) (v := .ref q_p0_loop) hx hb hts hinX9 hown hK hP 0 rfl rfl 9 (by decide) hw0 (fun _ h9 => h9) rfl dX9_isLess_35 ?_
        refine lv_iload_n hx hb dX9_isLess_38 rfl (lv_at hl 1 rfl) ?_
        refine lv_iload hx hb dX9_isLess_39 (lv_at hl 5 rfl) ?_
        refine lv_iadd hx hb dX9_isLess_41 ?_
        refine lv_iload_n hx hb dX9_isLess_42 rfl (lv_at hl 3 rfl) ?_
        obtain ⟨hn12, h⟩ := h
        refine lv_irem hx hb dX9_isLess_43 hn12 ?_
        obtain ⟨hi13, h⟩ := h
        refine va_iald hx hb hK hP 1 0 rfl rfl hi13 dX9_isLess_44 ?_
        refine z_cVi (As := [.int (f_p0_loop ((x1 + l5) - (x1 + l5) / x3 * x3).toNatClampNeg)]) (rest := [.int l4]) (wr := [(q_p0_loop, .inl (cI, 6, .inl f_p0_loop))]) (wn := fun u => [(q_p0, .inr (7, [.int v_p0_n, .int v_p0_way, .ref q_p0_led, .int v_p0_deeds, .ref q_p0_were, .ref q_p0_paths, .ref q_p0_more, .ref q_p0_patterns, .int v_p0_patternMany, .ref q_p0_loop, .ref q_p0_ranks, .ref q_p0_counts, .ref q_p0_then, .ref q_p0_table, .ref q_p0_product, .ref q_p0_turned, .ref q_p0_tape, .int v_p0_taped, .int v_p0_hasWhy, .ref q_p0_reasons, .int v_p0_hasImage, .int v_p0_imageN, .int v_p0_imageWay, .ref q_p0_imageLed])), (q_p0_loop, .inl (cI, 6, .inl f_p0_loop)), (q_p0_led, .inl (cI, 8, .inl f_p0_led))]) (c_X9_falls l D cI cJ cB tU tM tS q_p0 q_p0_led q_p0_were q_p0_paths q_p0_more q_p0_patterns q_p0_loop q_p0_ranks q_p0_counts q_p0_then q_p0_table q_p0_product q_p0_turned q_p0_tape q_p0_reasons q_p0_imageLed H.size (f_p0_loop ((x1 + l5) - (x1 + l5) / x3 * x3).toNatClampNeg) v_p0_way f_p0_led v_p0_n v_p0_deeds v_p0_patternMany v_p0_taped v_p0_hasWhy v_p0_hasImage v_p0_imageN v_p0_imageWay _ h) ⟨hx, hb, hml, hown, hts⟩ (cwV 1 hts gX9_isLess_X9_falls rfl rfl rfl hd_X9_falls ⟨Nat.le_of_ble_eq_true rfl, Nat.le_of_ble_eq_true rfl⟩) hX hK hP hD hS hA [0, 2] [1] [1, 0, 2] rfl rfl rfl (by decide) (fun _ => rfl) (q0 := 0) (ci := 7) rfl rfl rfl hl.1 rfl (Nat.le_of_ble_eq_true rfl) ⟨Nat.le_refl _, Nat.le_refl _⟩ dX9_isLess_45 (fun r14 u14 H locs h hP hD hS => ?_)
        refine lv_ixor hx hb dX9_isLess_48 ?_
        refine lv_istore (lv' := [(4, .int (l4 ^^^ r14)), (0, .ref q_p0), (1, .int x1), (2, .int x2), (3, .int x3), (5, .int l5)]) hx hb dX9_isLess_49 hl (by decide) rfl (fun ls hl => ?_)
        refine lv_iinc (v := (l5 + 1)) (lv' := [(5, .int (l5 + 1)), (4, .int (l4 ^^^ r14)), (0, .ref q_p0), (1, .int x1), (2, .int x2), (3, .int x3)]) hx hb dX9_isLess_51 hl (k := 5) rfl rfl (by decide) rfl (fun ls hl => ?_)
        refine lv_goto (tgt := 6) hx hb dX9_isLess_54 (by decide) ?_
        exact ih6 (l4 ^^^ r14) (l5 + 1) _ _ _ h hP hD hS (lv_sub hl [2, 3, 4, 5, 1, 0] rfl)
  obtain ⟨n6, h⟩ := h
  exact k6  n6 (1 : Int32) (0 : Int32) _ _ _ h hP hD hS (lv_sub hl [2, 3, 4, 5, 1, 0] rfl)
theorem hd_X9_goes : yX9_goes.cls = RX9 ∧ yX9_goes.cls ≠ "java/lang/invoke/MethodHandle" ∧ yX9_goes.cls ≠ "java/lang/invoke/VarHandle" ∧ (parseMethodDescriptor yX9_goes.desc).map (fun d => d.parameters.length) = some 2 := by decide +kernel
set_option maxHeartbeats 4000000 in
set_option maxRecDepth 100000 in
theorem c_X9_goes (l : Launch) (D : va_G) (cI cJ cB : ClassId) (tU tM tS : Nat) (q_p0 q_p0_led q_p0_were q_p0_paths q_p0_more q_p0_patterns q_p0_loop q_p0_ranks q_p0_counts q_p0_then q_p0_table q_p0_product q_p0_turned q_p0_tape q_p0_reasons q_p0_imageLed : Nat) : ∀ (d : Nat) (sz : Nat) (x1 : Int32) (x2 : Int32) (f_p0_loop : (Nat → Int32)) (f_p0_led : (Nat → Int32)) (v_p0_n : Int32) (v_p0_way : Int32) (v_p0_patternMany : Int32) (f_p0_patterns : (Nat → Int32)) (f_p0_ranks : (Nat → Int32)) (v_p0_deeds : Int32) (v_p0_taped : Int32) (v_p0_hasWhy : Int32) (v_p0_hasImage : Int32) (v_p0_imageN : Int32) (v_p0_imageWay : Int32) (P : (Nat → Int32) → Int32 → (Nat → Int32) → (Nat → Int32) → Prop), M_X9_goes d x1 x2 f_p0_loop f_p0_led v_p0_n v_p0_way v_p0_patternMany f_p0_patterns f_p0_ranks P → Met l yX9_goes wsX9_goes ({ frames := 2 + d, cells := 0, slots := 0, locals := 47 + d * 24 }) (va_Pc [.ref q_p0, .int x1, .int x2] (zPre D cI cJ cB tU tM tS [(q_p0, .inr (7, [.int v_p0_n, .int v_p0_way, .ref q_p0_led, .int v_p0_deeds, .ref q_p0_were, .ref q_p0_paths, .ref q_p0_more, .ref q_p0_patterns, .int v_p0_patternMany, .ref q_p0_loop, .ref q_p0_ranks, .ref q_p0_counts, .ref q_p0_then, .ref q_p0_table, .ref q_p0_product, .ref q_p0_turned, .ref q_p0_tape, .int v_p0_taped, .int v_p0_hasWhy, .ref q_p0_reasons, .int v_p0_hasImage, .int v_p0_imageN, .int v_p0_imageWay, .ref q_p0_imageLed])), (q_p0_loop, .inl (cI, 6, .inl f_p0_loop)), (q_p0_led, .inl (cI, 8, .inl f_p0_led)), (q_p0_patterns, .inl (cI, 800, .inl f_p0_patterns)), (q_p0_ranks, .inl (cI, 6, .inl f_p0_ranks))] sz)) (va_Qv (fun u : (Nat → Int32) × Int32 × (Nat → Int32) × (Nat → Int32) => P u.1 u.2.1 u.2.2.1 u.2.2.2) (fun u t => zPost D cI cJ cB (va_A [(q_p0, .inr (7, [.int v_p0_n, .int v_p0_way, .ref q_p0_led, .int v_p0_deeds, .ref q_p0_were, .ref q_p0_paths, .ref q_p0_more, .ref q_p0_patterns, .int v_p0_patternMany, .ref q_p0_loop, .ref q_p0_ranks, .ref q_p0_counts, .ref q_p0_then, .ref q_p0_table, .ref q_p0_product, .ref q_p0_turned, .ref q_p0_tape, .int v_p0_taped, .int v_p0_hasWhy, .ref q_p0_reasons, .int v_p0_hasImage, .int v_p0_imageN, .int v_p0_imageWay, .ref q_p0_imageLed])), (q_p0_loop, .inl (cI, 6, .inl f_p0_loop)), (q_p0_led, .inl (cI, 8, .inl f_p0_led)), (q_p0_patterns, .inl (cI, 800, .inl f_p0_patterns)), (q_p0_ranks, .inl (cI, 6, .inl f_p0_ranks))] sz) [(q_p0, .inr (7, [.int v_p0_n, .int v_p0_way, .ref q_p0_led, .int v_p0_deeds, .ref q_p0_were, .ref q_p0_paths, .ref q_p0_more, .ref q_p0_patterns, .int u.2.1, .ref q_p0_loop, .ref q_p0_ranks, .ref q_p0_counts, .ref q_p0_then, .ref q_p0_table, .ref q_p0_product, .ref q_p0_turned, .ref q_p0_tape, .int v_p0_taped, .int v_p0_hasWhy, .ref q_p0_reasons, .int v_p0_hasImage, .int v_p0_imageN, .int v_p0_imageWay, .ref q_p0_imageLed])), (q_p0_loop, .inl (cI, 6, .inl u.2.2.2)), (q_p0_led, .inl (cI, 8, .inl f_p0_led)), (q_p0_patterns, .inl (cI, 800, .inl u.1)), (q_p0_ranks, .inl (cI, 6, .inl u.2.2.1))] t) (va_A [(q_p0, .inr (7, [.int v_p0_n, .int v_p0_way, .ref q_p0_led, .int v_p0_deeds, .ref q_p0_were, .ref q_p0_paths, .ref q_p0_more, .ref q_p0_patterns, .int v_p0_patternMany, .ref q_p0_loop, .ref q_p0_ranks, .ref q_p0_counts, .ref q_p0_then, .ref q_p0_table, .ref q_p0_product, .ref q_p0_turned, .ref q_p0_tape, .int v_p0_taped, .int v_p0_hasWhy, .ref q_p0_reasons, .int v_p0_hasImage, .int v_p0_imageN, .int v_p0_imageWay, .ref q_p0_imageLed])), (q_p0_loop, .inl (cI, 6, .inl f_p0_loop)), (q_p0_led, .inl (cI, 8, .inl f_p0_led)), (q_p0_patterns, .inl (cI, 800, .inl f_p0_patterns)), (q_p0_ranks, .inl (cI, 6, .inl f_p0_ranks))] sz)) 0 0 (va_A [(q_p0, .inr (7, [.int v_p0_n, .int v_p0_way, .ref q_p0_led, .int v_p0_deeds, .ref q_p0_were, .ref q_p0_paths, .ref q_p0_more, .ref q_p0_patterns, .int v_p0_patternMany, .ref q_p0_loop, .ref q_p0_ranks, .ref q_p0_counts, .ref q_p0_then, .ref q_p0_table, .ref q_p0_product, .ref q_p0_turned, .ref q_p0_tape, .int v_p0_taped, .int v_p0_hasWhy, .ref q_p0_reasons, .int v_p0_hasImage, .int v_p0_imageN, .int v_p0_imageWay, .ref q_p0_imageLed])), (q_p0_loop, .inl (cI, 6, .inl f_p0_loop)), (q_p0_led, .inl (cI, 8, .inl f_p0_led)), (q_p0_patterns, .inl (cI, 800, .inl f_p0_patterns)), (q_p0_ranks, .inl (cI, 6, .inl f_p0_ranks))] sz) := by
  intro d
  induction d with
  | zero =>
    intro sz x1 x2 f_p0_loop f_p0_led v_p0_n v_p0_way v_p0_patternMany f_p0_patterns f_p0_ranks v_p0_deeds v_p0_taped v_p0_hasWhy v_p0_hasImage v_p0_imageN v_p0_imageWay P h
    exact False.elim h
  | succ d ihd =>
  intro sz x1 x2 f_p0_loop f_p0_led v_p0_n v_p0_way v_p0_patternMany f_p0_patterns f_p0_ranks v_p0_deeds v_p0_taped v_p0_hasWhy v_p0_hasImage v_p0_imageN v_p0_imageWay P h
  have h : Mb_X9_goes (M_X9_goes d) x1 x2 f_p0_loop f_p0_led v_p0_n v_p0_way v_p0_patternMany f_p0_patterns f_p0_ranks P := h
  refine z_met (cc := cX9_goes) (maxL := 5) (ret := none) (Qc := fun A => va_Qv (fun u : (Nat → Int32) × Int32 × (Nat → Int32) × (Nat → Int32) => P u.1 u.2.1 u.2.2.1 u.2.2.2) (fun u t => zPost D cI cJ cB A [(q_p0, .inr (7, [.int v_p0_n, .int v_p0_way, .ref q_p0_led, .int v_p0_deeds, .ref q_p0_were, .ref q_p0_paths, .ref q_p0_more, .ref q_p0_patterns, .int u.2.1, .ref q_p0_loop, .ref q_p0_ranks, .ref q_p0_counts, .ref q_p0_then, .ref q_p0_table, .ref q_p0_product, .ref q_p0_turned, .ref q_p0_tape, .int v_p0_taped, .int v_p0_hasWhy, .ref q_p0_reasons, .int v_p0_hasImage, .int v_p0_imageN, .int v_p0_imageWay, .ref q_p0_imageLed])), (q_p0_loop, .inl (cI, 6, .inl u.2.2.2)), (q_p0_led, .inl (cI, 8, .inl f_p0_led)), (q_p0_patterns, .inl (cI, 800, .inl u.1)), (q_p0_ranks, .inl (cI, 6, .inl u.2.2.1))] t) A) (by decide) rfl [.ref q_p0, .int x1, .int x2] (Nat.le_of_ble_eq_true rfl) ?_
  intro p e s m args below meth c A hx hb hr hts hown hml hlocks hA hX hK H locs hP hD hS ls hl Q hQ
  have hown : s.vm.findClass RX9 = some m.cls := hown
  have hl : lv_has ls 5 [(0, .ref q_p0), (1, .int x1), (2, .int x2)] := hl
  have hw0 : (Cond.fieldLink RX9 32 "ForcedRingsModel" "loop" "[I").before args s = true := hts _ (List.mem_of_getElem? (i := 1) rfl)
  have hw1 : (Cond.fieldLink RX9 35 "ForcedRingsModel" "ranks" "[I").before args s = true := hts _ (List.mem_of_getElem? (i := 2) rfl)
  have hinX9 : ∀ w ∈ wsX90, w ∈ wsX9_goes := fun _ h => List.mem_cons_of_mem _ (List.mem_append_right _ h)
  refine lv_iload_n hx hb dX9_goes_0 rfl (lv_at hl 1 rfl) ?_
  refine lv_iload_n hx hb dX9_goes_1 rfl (lv_at hl 2 rfl) ?_
  refine lv_icmp_ge (tgt := 60) hx hb dX9_goes_2 (by decide) (fun c1 => ?_) (fun c1 => ?_)
  · have h := And.left h c1
    refine lv_aload_n hx hb dX9_goes_60 rfl (lv_at hl 0 rfl) ?_
    refine lv_aload_n hx hb dX9_goes_61 rfl (lv_at hl 0 rfl) ?_
    refine va_get (ci := 7) (C := RX9) (T := TX9) (N := 24) (v := .ref q_p0_loop) hx hb hts hinX9 hown hK hP 0 rfl rfl 9 (by decide) hw0 (fun _ h9 => h9) rfl dX9_goes_62 ?_
    refine lv_iload_n hx hb dX9_goes_65 rfl (lv_at hl 2 rfl) ?_
    refine lv_iconst (v := (1 : Int32)) hx hb dX9_goes_66 (by decide) ?_
    refine lv_isub hx hb dX9_goes_67 ?_
    obtain ⟨hi2, h⟩ := h
    refine va_iald hx hb hK hP 1 0 rfl rfl hi2 dX9_goes_68 ?_
    refine z_cVi (As := [.int (f_p0_loop (x2 - (1 : Int32)).toNatClampNeg)]) (rest := []) (wr := [(q_p0_loop, .inl (cI, 6, .inl f_p0_loop)), (q_p0_patterns, .inl (cI, 800, .inl f_p0_patterns)), (q_p0_ranks, .inl (cI, 6, .inl f_p0_ranks))]) (wn := fun u => [(q_p0, .inr (7, [.int v_p0_n, .int v_p0_way, .ref q_p0_led, .int v_p0_deeds, .ref q_p0_were, .ref q_p0_paths, .ref q_p0_more, .ref q_p0_patterns, .int v_p0_patternMany, .ref q_p0_loop, .ref q_p0_ranks, .ref q_p0_counts, .ref q_p0_then, .ref q_p0_table, .ref q_p0_product, .ref q_p0_turned, .ref q_p0_tape, .int v_p0_taped, .int v_p0_hasWhy, .ref q_p0_reasons, .int v_p0_hasImage, .int v_p0_imageN, .int v_p0_imageWay, .ref q_p0_imageLed])), (q_p0_loop, .inl (cI, 6, .inl f_p0_loop)), (q_p0_led, .inl (cI, 8, .inl f_p0_led)), (q_p0_patterns, .inl (cI, 800, .inl f_p0_patterns)), (q_p0_ranks, .inl (cI, 6, .inl f_p0_ranks))]) (c_X9_coversOf l D cI cJ cB tU tM tS q_p0 q_p0_led q_p0_were q_p0_paths q_p0_more q_p0_patterns q_p0_loop q_p0_ranks q_p0_counts q_p0_then q_p0_table q_p0_product q_p0_turned q_p0_tape q_p0_reasons q_p0_imageLed H.size (f_p0_loop (x2 - (1 : Int32)).toNatClampNeg) f_p0_led v_p0_n v_p0_way v_p0_deeds v_p0_patternMany v_p0_taped v_p0_hasWhy v_p0_hasImage v_p0_imageN v_p0_imageWay _ h) ⟨hx, hb, hml, hown, hts⟩ (cwV 1 hts gX9_goes_X9_coversOf rfl rfl rfl hd_X9_coversOf (by constructor <;> (dsimp only; omega))) hX hK hP hD hS hA [0, 2] [1, 3, 4] [3, 0, 4, 1, 2] rfl rfl rfl (by decide) (fun _ => rfl) (q0 := 0) (ci := 7) rfl rfl rfl hl.1 rfl (Nat.le_of_ble_eq_true rfl) ⟨Nat.le_refl _, Nat.le_refl _⟩ dX9_goes_69 (fun r3 u3 H locs h hP hD hS => ?_)
    refine lv_aload_n hx hb dX9_goes_72 rfl (lv_at hl 0 rfl) ?_
    refine va_get (ci := 7) (C := RX9) (T := TX9) (N := 24) (v := .ref q_p0_loop) hx hb hts hinX9 hown hK hP 0 rfl rfl 9 (by decide) hw0 (fun _ h9 => h9) rfl dX9_goes_73 ?_
    refine lv_iconst (v := (0 : Int32)) hx hb dX9_goes_76 (by decide) ?_
    obtain ⟨hi4, h⟩ := h
    refine va_iald hx hb hK hP 1 0 rfl rfl hi4 dX9_goes_77 ?_
    refine lv_ishr hx hb dX9_goes_78 ?_
    refine lv_iconst (v := (1 : Int32)) hx hb dX9_goes_79 (by decide) ?_
    refine lv_iand hx hb dX9_goes_80 ?_
    refine lv_if_eq (tgt := 92) hx hb dX9_goes_81 (by decide) (fun c5 => ?_) (fun c5 => ?_)
    · have h := And.left h c5
      exact z_vret hQ hx hb hr hlocks hK (f_p0_patterns, v_p0_patternMany, f_p0_ranks, f_p0_loop) h hP hD hS dX9_goes_92
    · have h := And.right h c5
      refine lv_aload_n hx hb dX9_goes_84 rfl (lv_at hl 0 rfl) ?_
      refine lv_iload_n hx hb dX9_goes_85 rfl (lv_at hl 2 rfl) ?_
      refine z_cVi (As := [.int x2]) (rest := []) (wr := [(q_p0_led, .inl (cI, 8, .inl f_p0_led)), (q_p0_patterns, .inl (cI, 800, .inl f_p0_patterns)), (q_p0_ranks, .inl (cI, 6, .inl f_p0_ranks))]) (wn := fun u => [(q_p0, .inr (7, [.int v_p0_n, .int v_p0_way, .ref q_p0_led, .int v_p0_deeds, .ref q_p0_were, .ref q_p0_paths, .ref q_p0_more, .ref q_p0_patterns, .int v_p0_patternMany, .ref q_p0_loop, .ref q_p0_ranks, .ref q_p0_counts, .ref q_p0_then, .ref q_p0_table, .ref q_p0_product, .ref q_p0_turned, .ref q_p0_tape, .int v_p0_taped, .int v_p0_hasWhy, .ref q_p0_reasons, .int v_p0_hasImage, .int v_p0_imageN, .int v_p0_imageWay, .ref q_p0_imageLed])), (q_p0_loop, .inl (cI, 6, .inl f_p0_loop)), (q_p0_led, .inl (cI, 8, .inl f_p0_led)), (q_p0_patterns, .inl (cI, 800, .inl f_p0_patterns)), (q_p0_ranks, .inl (cI, 6, .inl f_p0_ranks))]) (c_X9_isSimple l D cI cJ cB tU tM tS q_p0 q_p0_led q_p0_were q_p0_paths q_p0_more q_p0_patterns q_p0_loop q_p0_ranks q_p0_counts q_p0_then q_p0_table q_p0_product q_p0_turned q_p0_tape q_p0_reasons q_p0_imageLed H.size x2 f_p0_loop v_p0_n v_p0_way v_p0_deeds v_p0_patternMany v_p0_taped v_p0_hasWhy v_p0_hasImage v_p0_imageN v_p0_imageWay _ h) ⟨hx, hb, hml, hown, hts⟩ (cwV 1 hts gX9_goes_X9_isSimple rfl rfl rfl hd_X9_isSimple (by constructor <;> (dsimp only; omega))) hX hK hP hD hS hA [0, 1] [2, 3, 4] [3, 4, 0, 1, 2] rfl rfl rfl (by decide) (fun _ => rfl) (q0 := 0) (ci := 7) rfl rfl rfl hl.1 rfl (Nat.le_of_ble_eq_true rfl) ⟨Nat.le_refl _, Nat.le_refl _⟩ dX9_goes_86 (fun r6 u6 H locs h hP hD hS => ?_)
      refine lv_if_ne (tgt := 93) hx hb dX9_goes_89 (by decide) (fun c7 => ?_) (fun c7 => ?_)
      · have h := And.right h c7
        refine lv_iconst (v := (0 : Int32)) hx hb dX9_goes_93 (by decide) ?_
        refine lv_istore_n (lv' := [(3, .int (0 : Int32)), (0, .ref q_p0), (1, .int x1), (2, .int x2)]) hx hb dX9_goes_94 rfl hl (by decide) rfl (fun ls hl => ?_)
        have k95 : ∀ (f_p0_patterns : (Nat → Int32)) (v_p0_patternMany : Int32) (f_p0_loop : (Nat → Int32)) (n95 : Nat) (l3 : Int32) (f_p0_ranks : (Nat → Int32)) (H : Heap) (locs : List Loc) (ls : Array Slot), LP2 (M_X9_goes_l95 (M_X9_goes d) x1 x2 f_p0_led v_p0_n v_p0_way P f_p0_patterns v_p0_patternMany f_p0_loop) n95 l3 f_p0_ranks → va_P D vwCl [(q_p0, .inr (7, [.int v_p0_n, .int v_p0_way, .ref q_p0_led, .int v_p0_deeds, .ref q_p0_were, .ref q_p0_paths, .ref q_p0_more, .ref q_p0_patterns, .int v_p0_patternMany, .ref q_p0_loop, .ref q_p0_ranks, .ref q_p0_counts, .ref q_p0_then, .ref q_p0_table, .ref q_p0_product, .ref q_p0_turned, .ref q_p0_tape, .int v_p0_taped, .int v_p0_hasWhy, .ref q_p0_reasons, .int v_p0_hasImage, .int v_p0_imageN, .int v_p0_imageWay, .ref q_p0_imageLed])), (q_p0_loop, .inl (cI, 6, .inl f_p0_loop)), (q_p0_led, .inl (cI, 8, .inl f_p0_led)), (q_p0_patterns, .inl (cI, 800, .inl f_p0_patterns)), (q_p0_ranks, .inl (cI, 6, .inl f_p0_ranks))] H → va_D A [(q_p0, .inr (7, [.int v_p0_n, .int v_p0_way, .ref q_p0_led, .int v_p0_deeds, .ref q_p0_were, .ref q_p0_paths, .ref q_p0_more, .ref q_p0_patterns, .int v_p0_patternMany, .ref q_p0_loop, .ref q_p0_ranks, .ref q_p0_counts, .ref q_p0_then, .ref q_p0_table, .ref q_p0_product, .ref q_p0_turned, .ref q_p0_tape, .int v_p0_taped, .int v_p0_hasWhy, .ref q_p0_reasons, .int v_p0_hasImage, .int v_p0_imageN, .int v_p0_imageWay, .ref q_p0_imageLed])), (q_p0_loop, .inl (cI, 6, .inl f_p0_loop)), (q_p0_led, .inl (cI, 8, .inl f_p0_led)), (q_p0_patterns, .inl (cI, 800, .inl f_p0_patterns)), (q_p0_ranks, .inl (cI, 6, .inl f_p0_ranks))] → va_S A s.heap H locs → lv_has ls 5 [(0, .ref q_p0), (2, .int x2), (3, .int l3)] → W p l e { frames := 2 + (d + 1), cells := 0, slots := 0, locals := 47 + (d + 1) * 24 } s m args below meth c H locs 0 0 Q (F0 m 95 ls []) := by
          intro f_p0_patterns v_p0_patternMany f_p0_loop n95
          induction n95 with
          | zero =>
            intro l3 f_p0_ranks H locs ls h
            exact False.elim h
          | succ n95 ih95 =>
            intro l3 f_p0_ranks H locs ls h hP hD hS hl
            have h : M_X9_goes_l95 (M_X9_goes d) x1 x2 f_p0_led v_p0_n v_p0_way P f_p0_patterns v_p0_patternMany f_p0_loop (LP2 (M_X9_goes_l95 (M_X9_goes d) x1 x2 f_p0_led v_p0_n v_p0_way P f_p0_patterns v_p0_patternMany f_p0_loop) n95) l3 f_p0_ranks := h
            refine lv_iload_n hx hb dX9_goes_95 rfl (lv_at hl 2 rfl) ?_
            refine lv_iload_n hx hb dX9_goes_96 rfl (lv_at hl 1 rfl) ?_
            refine lv_icmp_ge (tgt := 159) hx hb dX9_goes_97 (by decide) (fun c8 => ?_) (fun c8 => ?_)
            · have h := And.left h c8
              refine lv_aload_n hx hb dX9_goes_159 rfl (lv_at hl 0 rfl) ?_
              refine lv_iload_n hx hb dX9_goes_160 rfl (lv_at hl 1 rfl) ?_
              refine z_cVv (As := [.int x2]) (rest := []) (wr := [(q_p0_loop, .inl (cI, 6, .inl f_p0_loop)), (q_p0_led, .inl (cI, 8, .inl f_p0_led))]) (wn := fun u => [(q_p0, .inr (7, [.int v_p0_n, .int v_p0_way, .ref q_p0_led, .int v_p0_deeds, .ref q_p0_were, .ref q_p0_paths, .ref q_p0_more, .ref q_p0_patterns, .int u.2, .ref q_p0_loop, .ref q_p0_ranks, .ref q_p0_counts, .ref q_p0_then, .ref q_p0_table, .ref q_p0_product, .ref q_p0_turned, .ref q_p0_tape, .int v_p0_taped, .int v_p0_hasWhy, .ref q_p0_reasons, .int v_p0_hasImage, .int v_p0_imageN, .int v_p0_imageWay, .ref q_p0_imageLed])), (q_p0_loop, .inl (cI, 6, .inl f_p0_loop)), (q_p0_led, .inl (cI, 8, .inl f_p0_led)), (q_p0_patterns, .inl (cI, 800, .inl u.1)), (q_p0_ranks, .inl (cI, 6, .inl f_p0_ranks))]) (c_X9_comesBy l D cI cJ cB tU tM tS q_p0 q_p0_led q_p0_were q_p0_paths q_p0_more q_p0_patterns q_p0_loop q_p0_ranks q_p0_counts q_p0_then q_p0_table q_p0_product q_p0_turned q_p0_tape q_p0_reasons q_p0_imageLed H.size x2 v_p0_patternMany f_p0_patterns f_p0_ranks v_p0_n v_p0_way v_p0_deeds v_p0_taped v_p0_hasWhy v_p0_hasImage v_p0_imageN v_p0_imageWay _ h) ⟨hx, hb, hml, hown, hts⟩ (cwV 1 hts gX9_goes_X9_comesBy rfl rfl rfl hd_X9_comesBy (by constructor <;> (dsimp only; omega))) hX hK hP hD hS hA [0, 3, 4] [1, 2] [2, 0, 1, 3, 4] rfl rfl rfl (by decide) (fun _ => rfl) (q0 := 0) (ci := 7) rfl rfl rfl hl.1 rfl (Nat.le_of_ble_eq_true rfl) ⟨Nat.le_refl _, Nat.le_refl _⟩ dX9_goes_161 (fun u9 H locs h hP hD hS => ?_)
              obtain ⟨m9_0, m9_1⟩ := u9
              exact z_vret hQ hx hb hr hlocks hK (m9_0, m9_1, f_p0_ranks, f_p0_loop) h hP hD hS dX9_goes_164
            · have h := And.right h c8
              refine lv_aload_n hx hb dX9_goes_100 rfl (lv_at hl 0 rfl) ?_
              refine va_get (ci := 7) (C := RX9) (T := TX9) (N := 24) (v := .ref q_p0_ranks) hx hb hts hinX9 hown hK hP 0 rfl rfl 10 (by decide) hw1 (fun _ h9 => h9) rfl dX9_goes_101 ?_
              refine lv_iload_n hx hb dX9_goes_104 rfl (lv_at hl 2 rfl) ?_
              refine lv_iconst (v := (0 : Int32)) hx hb dX9_goes_105 (by decide) ?_
              obtain ⟨hi10, h⟩ := h
              refine z_iast (wn := [(q_p0, .inr (7, [.int v_p0_n, .int v_p0_way, .ref q_p0_led, .int v_p0_deeds, .ref q_p0_were, .ref q_p0_paths, .ref q_p0_more, .ref q_p0_patterns, .int v_p0_patternMany, .ref q_p0_loop, .ref q_p0_ranks, .ref q_p0_counts, .ref q_p0_then, .ref q_p0_table, .ref q_p0_product, .ref q_p0_turned, .ref q_p0_tape, .int v_p0_taped, .int v_p0_hasWhy, .ref q_p0_reasons, .int v_p0_hasImage, .int v_p0_imageN, .int v_p0_imageWay, .ref q_p0_imageLed])), (q_p0_loop, .inl (cI, 6, .inl f_p0_loop)), (q_p0_led, .inl (cI, 8, .inl f_p0_led)), (q_p0_patterns, .inl (cI, 800, .inl f_p0_patterns)), (q_p0_ranks, .inl (cI, 6, .inl (upd f_p0_ranks l3.toNatClampNeg (0 : Int32))))]) hx hb hK hP hD hS 4 rfl hi10 dX9_goes_106 rfl (fun H locs hP hD hS => ?_)
              refine lv_iconst (v := (0 : Int32)) hx hb dX9_goes_107 (by decide) ?_
              refine lv_istore (lv' := [(4, .int (0 : Int32)), (0, .ref q_p0), (2, .int x2), (3, .int l3)]) hx hb dX9_goes_108 hl (by decide) rfl (fun ls hl => ?_)
              have k110 : ∀ (l3 : Int32) (n110 : Nat) (l4 : Int32) (f_p0_ranks : (Nat → Int32)) (H : Heap) (locs : List Loc) (ls : Array Slot), LP2 (M_X9_goes_l110 (M_X9_goes d) x1 x2 f_p0_led v_p0_n v_p0_way (LP2 (M_X9_goes_l95 (M_X9_goes d) x1 x2 f_p0_led v_p0_n v_p0_way P f_p0_patterns v_p0_patternMany f_p0_loop) n95) P l3 f_p0_patterns v_p0_patternMany f_p0_loop) n110 l4 f_p0_ranks → va_P D vwCl [(q_p0, .inr (7, [.int v_p0_n, .int v_p0_way, .ref q_p0_led, .int v_p0_deeds, .ref q_p0_were, .ref q_p0_paths, .ref q_p0_more, .ref q_p0_patterns, .int v_p0_patternMany, .ref q_p0_loop, .ref q_p0_ranks, .ref q_p0_counts, .ref q_p0_then, .ref q_p0_table, .ref q_p0_product, .ref q_p0_turned, .ref q_p0_tape, .int v_p0_taped, .int v_p0_hasWhy, .ref q_p0_reasons, .int v_p0_hasImage, .int v_p0_imageN, .int v_p0_imageWay, .ref q_p0_imageLed])), (q_p0_loop, .inl (cI, 6, .inl f_p0_loop)), (q_p0_led, .inl (cI, 8, .inl f_p0_led)), (q_p0_patterns, .inl (cI, 800, .inl f_p0_patterns)), (q_p0_ranks, .inl (cI, 6, .inl f_p0_ranks))] H → va_D A [(q_p0, .inr (7, [.int v_p0_n, .int v_p0_way, .ref q_p0_led, .int v_p0_deeds, .ref q_p0_were, .ref q_p0_paths, .ref q_p0_more, .ref q_p0_patterns, .int v_p0_patternMany, .ref q_p0_loop, .ref q_p0_ranks, .ref q_p0_counts, .ref q_p0_then, .ref q_p0_table, .ref q_p0_product, .ref q_p0_turned, .ref q_p0_tape, .int v_p0_taped, .int v_p0_hasWhy, .ref q_p0_reasons, .int v_p0_hasImage, .int v_p0_imageN, .int v_p0_imageWay, .ref q_p0_imageLed])), (q_p0_loop, .inl (cI, 6, .inl f_p0_loop)), (q_p0_led, .inl (cI, 8, .inl f_p0_led)), (q_p0_patterns, .inl (cI, 800, .inl f_p0_patterns)), (q_p0_ranks, .inl (cI, 6, .inl f_p0_ranks))] → va_S A s.heap H locs → lv_has ls 5 [(0, .ref q_p0), (2, .int x2), (3, .int l3), (4, .int l4)] → W p l e { frames := 2 + (d + 1), cells := 0, slots := 0, locals := 47 + (d + 1) * 24 } s m args below meth c H locs 0 0 Q (F0 m 110 ls []) := by
                intro l3 n110
                induction n110 with
                | zero =>
                  intro l4 f_p0_ranks H locs ls h
                  exact False.elim h
                | succ n110 ih110 =>
                  intro l4 f_p0_ranks H locs ls h hP hD hS hl
                  have h : M_X9_goes_l110 (M_X9_goes d) x1 x2 f_p0_led v_p0_n v_p0_way (LP2 (M_X9_goes_l95 (M_X9_goes d) x1 x2 f_p0_led v_p0_n v_p0_way P f_p0_patterns v_p0_patternMany f_p0_loop) n95) P l3 f_p0_patterns v_p0_patternMany f_p0_loop (LP2 (M_X9_goes_l110 (M_X9_goes d) x1 x2 f_p0_led v_p0_n v_p0_way (LP2 (M_X9_goes_l95 (M_X9_goes d) x1 x2 f_p0_led v_p0_n v_p0_way P f_p0_patterns v_p0_patternMany f_p0_loop) n95) P l3 f_p0_patterns v_p0_patternMany f_p0_loop) n110) l4 f_p0_ranks := h
                  refine lv_iload hx hb dX9_goes_110 (lv_at hl 3 rfl) ?_
                  refine lv_iload_n hx hb dX9_goes_112 rfl (lv_at hl 1 rfl) ?_
                  refine lv_icmp_ge (tgt := 153) hx hb dX9_goes_113 (by decide) (fun c11 => ?_) (fun c11 => ?_)
                  · have h := And.left h c11
                    refine lv_iinc (v := (l3 + 1)) (lv' := [(3, .int (l3 + 1)), (0, .ref q_p0), (2, .int x2), (4, .int l4)]) hx hb dX9_goes_153 hl (k := 2) rfl rfl (by decide) rfl (fun ls hl => ?_)
                    refine lv_goto (tgt := 95) hx hb dX9_goes_156 (by decide) ?_
                    exact ih95 (l3 + 1) f_p0_ranks _ _ _ h hP hD hS (lv_sub hl [1, 2, 0] rfl)
                  · have h := And.right h c11
                    refine lv_aload_n hx hb dX9_goes_116 rfl (lv_at hl 0 rfl) ?_
                    refine va_get (ci := 7) (C := RX9) (T := TX9) (N := 24) (v := .ref q_p0_ranks) hx hb hts hinX9 hown hK hP 0 rfl rfl 10 (by decide) hw1 (fun _ h9 => h9) rfl dX9_goes_117 ?_
                    refine lv_iload_n hx hb dX9_goes_120 rfl (lv_at hl 2 rfl) ?_
                    refine lv_dup2_11 hx hb dX9_goes_121 rfl rfl ?_
                    obtain ⟨hi12, h⟩ := h
                    refine va_iald hx hb hK hP 4 0 rfl rfl hi12 dX9_goes_122 ?_
                    refine lv_iload hx hb dX9_goes_123 (lv_at hl 3 rfl) ?_
                    refine lv_iload_n hx hb dX9_goes_125 rfl (lv_at hl 2 rfl) ?_
                    refine lv_icmp_eq (tgt := 144) hx hb dX9_goes_126 (by decide) (fun c13 => ?_) (fun c13 => ?_)
                    · have h := And.left h c13
                      refine lv_iconst (v := (0 : Int32)) hx hb dX9_goes_144 (by decide) ?_
                      refine lv_iadd hx hb dX9_goes_145 ?_
                      obtain ⟨hi14, h⟩ := h
                      refine z_iast (wn := [(q_p0, .inr (7, [.int v_p0_n, .int v_p0_way, .ref q_p0_led, .int v_p0_deeds, .ref q_p0_were, .ref q_p0_paths, .ref q_p0_more, .ref q_p0_patterns, .int v_p0_patternMany, .ref q_p0_loop, .ref q_p0_ranks, .ref q_p0_counts, .ref q_p0_then, .ref q_p0_table, .ref q_p0_product, .ref q_p0_turned, .ref q_p0_tape, .int v_p0_taped, .int v_p0_hasWhy, .ref q_p0_reasons, .int v_p0_hasImage, .int v_p0_imageN, .int v_p0_imageWay, .ref q_p0_imageLed])), (q_p0_loop, .inl (cI, 6, .inl f_p0_loop)), (q_p0_led, .inl (cI, 8, .inl f_p0_led)), (q_p0_patterns, .inl (cI, 800, .inl f_p0_patterns)), (q_p0_ranks, .inl (cI, 6, .inl (upd f_p0_ranks l3.toNatClampNeg ((f_p0_ranks l3.toNatClampNeg) + (0 : Int32)))))]) hx hb hK hP hD hS 4 rfl hi14 dX9_goes_146 rfl (fun H locs hP hD hS => ?_)
                      refine lv_iinc (v := (l4 + 1)) (lv' := [(4, .int (l4 + 1)), (0, .ref q_p0), (2, .int x2), (3, .int l3)]) hx hb dX9_goes_147 hl (k := 3) rfl rfl (by decide) rfl (fun ls hl => ?_)
                      refine lv_goto (tgt := 110) hx hb dX9_goes_150 (by decide) ?_
                      exact ih110 (l4 + 1) (upd f_p0_ranks l3.toNatClampNeg ((f_p0_ranks l3.toNatClampNeg) + (0 : Int32))) _ _ _ h hP hD hS (lv_sub hl [1, 2, 3, 0] rfl)
                    · have h := And.right h c13
                      refine lv_aload_n hx hb dX9_goes_129 rfl (lv_at hl 0 rfl) ?_
                      refine lv_iload hx hb dX9_goes_130 (lv_at hl 3 rfl) ?_
                      refine lv_iload_n hx hb dX9_goes_132 rfl (lv_at hl 2 rfl) ?_
                      refine lv_iload_n hx hb dX9_goes_133 rfl (lv_at hl 1 rfl) ?_
                      refine z_cVi (As := [.int l4, .int l3, .int x2]) (rest := [.int (f_p0_ranks l3.toNatClampNeg), .int l3, .ref q_p0_ranks]) (wr := [(q_p0_patterns, .inl (cI, 800, .inl f_p0_patterns)), (q_p0_ranks, .inl (cI, 6, .inl f_p0_ranks))]) (wn := fun u => [(q_p0, .inr (7, [.int v_p0_n, .int v_p0_way, .ref q_p0_led, .int v_p0_deeds, .ref q_p0_were, .ref q_p0_paths, .ref q_p0_more, .ref q_p0_patterns, .int v_p0_patternMany, .ref q_p0_loop, .ref q_p0_ranks, .ref q_p0_counts, .ref q_p0_then, .ref q_p0_table, .ref q_p0_product, .ref q_p0_turned, .ref q_p0_tape, .int v_p0_taped, .int v_p0_hasWhy, .ref q_p0_reasons, .int v_p0_hasImage, .int v_p0_imageN, .int v_p0_imageWay, .ref q_p0_imageLed])), (q_p0_loop, .inl (cI, 6, .inl f_p0_loop)), (q_p0_led, .inl (cI, 8, .inl f_p0_led)), (q_p0_patterns, .inl (cI, 800, .inl f_p0_patterns)), (q_p0_ranks, .inl (cI, 6, .inl f_p0_ranks))]) (c_X9_isLess l D cI cJ cB tU tM tS q_p0 q_p0_led q_p0_were q_p0_paths q_p0_more q_p0_patterns q_p0_loop q_p0_ranks q_p0_counts q_p0_then q_p0_table q_p0_product q_p0_turned q_p0_tape q_p0_reasons q_p0_imageLed H.size l4 l3 x2 f_p0_loop v_p0_way f_p0_led v_p0_n v_p0_deeds v_p0_patternMany v_p0_taped v_p0_hasWhy v_p0_hasImage v_p0_imageN v_p0_imageWay _ h) ⟨hx, hb, hml, hown, hts⟩ (cwV 3 hts gX9_goes_X9_isLess rfl rfl rfl hd_X9_isLess (by constructor <;> (dsimp only; omega))) hX hK hP hD hS hA [0, 1, 2] [3, 4] [2, 3, 4, 0, 1] rfl rfl rfl (by decide) (fun _ => rfl) (q0 := 0) (ci := 7) rfl rfl rfl hl.1 rfl (Nat.le_of_ble_eq_true rfl) ⟨Nat.le_refl _, Nat.le_refl _⟩ dX9_goes_134 (fun r15 u15 H locs h hP hD hS => ?_)
                      refine lv_if_eq (tgt := 144) hx hb dX9_goes_137 (by decide) (fun c16 => ?_) (fun c16 => ?_)
                      · have h := And.left h c16
                        refine lv_iconst (v := (0 : Int32)) hx hb dX9_goes_144 (by decide) ?_
                        refine lv_iadd hx hb dX9_goes_145 ?_
                        obtain ⟨hi17, h⟩ := h
                        refine z_iast (wn := [(q_p0, .inr (7, [.int v_p0_n, .int v_p0_way, .ref q_p0_led, .int v_p0_deeds, .ref q_p0_were, .ref q_p0_paths, .ref q_p0_more, .ref q_p0_patterns, .int v_p0_patternMany, .ref q_p0_loop, .ref q_p0_ranks, .ref q_p0_counts, .ref q_p0_then, .ref q_p0_table, .ref q_p0_product, .ref q_p0_turned, .ref q_p0_tape, .int v_p0_taped, .int v_p0_hasWhy, .ref q_p0_reasons, .int v_p0_hasImage, .int v_p0_imageN, .int v_p0_imageWay, .ref q_p0_imageLed])), (q_p0_loop, .inl (cI, 6, .inl f_p0_loop)), (q_p0_led, .inl (cI, 8, .inl f_p0_led)), (q_p0_patterns, .inl (cI, 800, .inl f_p0_patterns)), (q_p0_ranks, .inl (cI, 6, .inl (upd f_p0_ranks l3.toNatClampNeg ((f_p0_ranks l3.toNatClampNeg) + (0 : Int32)))))]) hx hb hK hP hD hS 4 rfl hi17 dX9_goes_146 rfl (fun H locs hP hD hS => ?_)
                        refine lv_iinc (v := (l4 + 1)) (lv' := [(4, .int (l4 + 1)), (0, .ref q_p0), (2, .int x2), (3, .int l3)]) hx hb dX9_goes_147 hl (k := 3) rfl rfl (by decide) rfl (fun ls hl => ?_)
                        refine lv_goto (tgt := 110) hx hb dX9_goes_150 (by decide) ?_
                        exact ih110 (l4 + 1) (upd f_p0_ranks l3.toNatClampNeg ((f_p0_ranks l3.toNatClampNeg) + (0 : Int32))) _ _ _ h hP hD hS (lv_sub hl [1, 2, 3, 0] rfl)
                      · have h := And.right h c16
                        refine lv_iconst (v := (1 : Int32)) hx hb dX9_goes_140 (by decide) ?_
                        refine lv_goto (tgt := 145) hx hb dX9_goes_141 (by decide) ?_
                        refine lv_iadd hx hb dX9_goes_145 ?_
                        obtain ⟨hi18, h⟩ := h
                        refine z_iast (wn := [(q_p0, .inr (7, [.int v_p0_n, .int v_p0_way, .ref q_p0_led, .int v_p0_deeds, .ref q_p0_were, .ref q_p0_paths, .ref q_p0_more, .ref q_p0_patterns, .int v_p0_patternMany, .ref q_p0_loop, .ref q_p0_ranks, .ref q_p0_counts, .ref q_p0_then, .ref q_p0_table, .ref q_p0_product, .ref q_p0_turned, .ref q_p0_tape, .int v_p0_taped, .int v_p0_hasWhy, .ref q_p0_reasons, .int v_p0_hasImage, .int v_p0_imageN, .int v_p0_imageWay, .ref q_p0_imageLed])), (q_p0_loop, .inl (cI, 6, .inl f_p0_loop)), (q_p0_led, .inl (cI, 8, .inl f_p0_led)), (q_p0_patterns, .inl (cI, 800, .inl f_p0_patterns)), (q_p0_ranks, .inl (cI, 6, .inl (upd f_p0_ranks l3.toNatClampNeg ((f_p0_ranks l3.toNatClampNeg) + (1 : Int32)))))]) hx hb hK hP hD hS 4 rfl hi18 dX9_goes_146 rfl (fun H locs hP hD hS => ?_)
                        refine lv_iinc (v := (l4 + 1)) (lv' := [(4, .int (l4 + 1)), (0, .ref q_p0), (2, .int x2), (3, .int l3)]) hx hb dX9_goes_147 hl (k := 3) rfl rfl (by decide) rfl (fun ls hl => ?_)
                        refine lv_goto (tgt := 110) hx hb dX9_goes_150 (by decide) ?_
                        exact ih110 (l4 + 1) (upd f_p0_ranks l3.toNatClampNeg ((f_p0_ranks l3.toNatClampNeg) + (1 : Int32))) _ _ _ h hP hD hS (lv_sub hl [1, 2, 3, 0] rfl)
              obtain ⟨n110, h⟩ := h
              exact k110 l3 n110 (0 : Int32) (upd f_p0_ranks l3.toNatClampNeg (0 : Int32)) _ _ _ h hP hD hS (lv_sub hl [1, 2, 3, 0] rfl)
        obtain ⟨n95, h⟩ := h
        exact k95 f_p0_patterns v_p0_patternMany f_p0_loop n95 (0 : Int32) f_p0_ranks _ _ _ h hP hD hS (lv_sub hl [1, 3, 0] rfl)
      · have h := And.left h c7
        exact z_vret hQ hx hb hr hlocks hK (f_p0_patterns, v_p0_patternMany, f_p0_ranks, f_p0_loop) h hP hD hS dX9_goes_92
  · have h := And.right h c1
    refine lv_iconst (v := (0 : Int32)) hx hb dX9_goes_5 (by decide) ?_
    refine lv_istore_n (lv' := [(3, .int (0 : Int32)), (0, .ref q_p0), (1, .int x1), (2, .int x2)]) hx hb dX9_goes_6 rfl hl (by decide) rfl (fun ls hl => ?_)
    have k7 : ∀  (n7 : Nat) (l3 : Int32) (f_p0_patterns : (Nat → Int32)) (v_p0_patternMany : Int32) (f_p0_ranks : (Nat → Int32)) (f_p0_loop : (Nat → Int32)) (H : Heap) (locs : List Loc) (ls : Array Slot), LP5 (M_X9_goes_l7 (M_X9_goes d) x1 x2 f_p0_led v_p0_n v_p0_way P ) n7 l3 f_p0_patterns v_p0_patternMany f_p0_ranks f_p0_loop → va_P D vwCl [(q_p0, .inr (7, [.int v_p0_n, .int v_p0_way, .ref q_p0_led, .int v_p0_deeds, .ref q_p0_were, .ref q_p0_paths, .ref q_p0_more, .ref q_p0_patterns, .int v_p0_patternMany, .ref q_p0_loop, .ref q_p0_ranks, .ref q_p0_counts, .ref q_p0_then, .ref q_p0_table, .ref q_p0_product, .ref q_p0_turned, .ref q_p0_tape, .int v_p0_taped, .int v_p0_hasWhy, .ref q_p0_reasons, .int v_p0_hasImage, .int v_p0_imageN, .int v_p0_imageWay, .ref q_p0_imageLed])), (q_p0_loop, .inl (cI, 6, .inl f_p0_loop)), (q_p0_led, .inl (cI, 8, .inl f_p0_led)), (q_p0_patterns, .inl (cI, 800, .inl f_p0_patterns)), (q_p0_ranks, .inl (cI, 6, .inl f_p0_ranks))] H → va_D A [(q_p0, .inr (7, [.int v_p0_n, .int v_p0_way, .ref q_p0_led, .int v_p0_deeds, .ref q_p0_were, .ref q_p0_paths, .ref q_p0_more, .ref q_p0_patterns, .int v_p0_patternMany, .ref q_p0_loop, .ref q_p0_ranks, .ref q_p0_counts, .ref q_p0_then, .ref q_p0_table, .ref q_p0_product, .ref q_p0_turned, .ref q_p0_tape, .int v_p0_taped, .int v_p0_hasWhy, .ref q_p0_reasons, .int v_p0_hasImage, .int v_p0_imageN, .int v_p0_imageWay, .ref q_p0_imageLed])), (q_p0_loop, .inl (cI, 6, .inl f_p0_loop)), (q_p0_led, .inl (cI, 8, .inl f_p0_led)), (q_p0_patterns, .inl (cI, 800, .inl f_p0_patterns)), (q_p0_ranks, .inl (cI, 6, .inl f_p0_ranks))] → va_S A s.heap H locs → lv_has ls 5 [(0, .ref q_p0), (1, .int x1), (2, .int x2), (3, .int l3)] → W p l e { frames := 2 + (d + 1), cells := 0, slots := 0, locals := 47 + (d + 1) * 24 } s m args below meth c H locs 0 0 Q (F0 m 7 ls []) := by
      intro  n7
      induction n7 with
      | zero =>
        intro l3 f_p0_patterns v_p0_patternMany f_p0_ranks f_p0_loop H locs ls h
        exact False.elim h
      | succ n7 ih7 =>
        intro l3 f_p0_patterns v_p0_patternMany f_p0_ranks f_p0_loop H locs ls h hP hD hS hl
        have h : M_X9_goes_l7 (M_X9_goes d) x1 x2 f_p0_led v_p0_n v_p0_way P  (LP5 (M_X9_goes_l7 (M_X9_goes d) x1 x2 f_p0_led v_p0_n v_p0_way P ) n7) l3 f_p0_patterns v_p0_patternMany f_p0_ranks f_p0_loop := h
        refine lv_iload_n hx hb dX9_goes_7 rfl (lv_at hl 3 rfl) ?_
        refine lv_aload_n hx hb dX9_goes_8 rfl (lv_at hl 0 rfl) ?_
        refine z_cVi (As := []) (rest := [.int l3]) (wr := [(q_p0_loop, .inl (cI, 6, .inl f_p0_loop)), (q_p0_led, .inl (cI, 8, .inl f_p0_led)), (q_p0_patterns, .inl (cI, 800, .inl f_p0_patterns)), (q_p0_ranks, .inl (cI, 6, .inl f_p0_ranks))]) (wn := fun u => [(q_p0, .inr (7, [.int v_p0_n, .int v_p0_way, .ref q_p0_led, .int v_p0_deeds, .ref q_p0_were, .ref q_p0_paths, .ref q_p0_more, .ref q_p0_patterns, .int v_p0_patternMany, .ref q_p0_loop, .ref q_p0_ranks, .ref q_p0_counts, .ref q_p0_then, .ref q_p0_table, .ref q_p0_product, .ref q_p0_turned, .ref q_p0_tape, .int v_p0_taped, .int v_p0_hasWhy, .ref q_p0_reasons, .int v_p0_hasImage, .int v_p0_imageN, .int v_p0_imageWay, .ref q_p0_imageLed])), (q_p0_loop, .inl (cI, 6, .inl f_p0_loop)), (q_p0_led, .inl (cI, 8, .inl f_p0_led)), (q_p0_patterns, .inl (cI, 800, .inl f_p0_patterns)), (q_p0_ranks, .inl (cI, 6, .inl f_p0_ranks))]) (c_X9_pieces l D cI cJ cB tU tM tS q_p0 q_p0_led q_p0_were q_p0_paths q_p0_more q_p0_patterns q_p0_loop q_p0_ranks q_p0_counts q_p0_then q_p0_table q_p0_product q_p0_turned q_p0_tape q_p0_reasons q_p0_imageLed H.size v_p0_way v_p0_n v_p0_deeds v_p0_patternMany v_p0_taped v_p0_hasWhy v_p0_hasImage v_p0_imageN v_p0_imageWay _ h) ⟨hx, hb, hml, hown, hts⟩ (cwV 0 hts gX9_goes_X9_pieces rfl rfl rfl hd_X9_pieces (by constructor <;> (dsimp only; omega))) hX hK hP hD hS hA [0] [1, 2, 3, 4] [4, 0, 1, 2, 3] rfl rfl rfl (by decide) (fun _ => rfl) (q0 := 0) (ci := 7) rfl rfl rfl hl.1 rfl (Nat.le_of_ble_eq_true rfl) ⟨Nat.le_refl _, Nat.le_refl _⟩ dX9_goes_9 (fun r19 u19 H locs h hP hD hS => ?_)
        refine lv_icmp_ge (tgt := 59) hx hb dX9_goes_12 (by decide) (fun c20 => ?_) (fun c20 => ?_)
        · have h := And.left h c20
          exact z_vret hQ hx hb hr hlocks hK (f_p0_patterns, v_p0_patternMany, f_p0_ranks, f_p0_loop) h hP hD hS dX9_goes_59
        · have h := And.right h c20
          refine lv_iload_n hx hb dX9_goes_15 rfl (lv_at hl 1 rfl) ?_
          have k38 : ∀ (l3 : Int32) (f_p0_patterns : (Nat → Int32)) (v_p0_patternMany : Int32) (f_p0_ranks : (Nat → Int32)) (f_p0_loop : (Nat → Int32)) (H : Heap) (locs : List Loc) (ls : Array Slot), M_X9_goes_b38 (M_X9_goes d) x1 x2 f_p0_led v_p0_n v_p0_way (LP5 (M_X9_goes_l7 (M_X9_goes d) x1 x2 f_p0_led v_p0_n v_p0_way P ) n7) P l3 f_p0_patterns v_p0_patternMany f_p0_ranks f_p0_loop → va_P D vwCl [(q_p0, .inr (7, [.int v_p0_n, .int v_p0_way, .ref q_p0_led, .int v_p0_deeds, .ref q_p0_were, .ref q_p0_paths, .ref q_p0_more, .ref q_p0_patterns, .int v_p0_patternMany, .ref q_p0_loop, .ref q_p0_ranks, .ref q_p0_counts, .ref q_p0_then, .ref q_p0_table, .ref q_p0_product, .ref q_p0_turned, .ref q_p0_tape, .int v_p0_taped, .int v_p0_hasWhy, .ref q_p0_reasons, .int v_p0_hasImage, .int v_p0_imageN, .int v_p0_imageWay, .ref q_p0_imageLed])), (q_p0_loop, .inl (cI, 6, .inl f_p0_loop)), (q_p0_led, .inl (cI, 8, .inl f_p0_led)), (q_p0_patterns, .inl (cI, 800, .inl f_p0_patterns)), (q_p0_ranks, .inl (cI, 6, .inl f_p0_ranks))] H → va_D A [(q_p0, .inr (7, [.int v_p0_n, .int v_p0_way, .ref q_p0_led, .int v_p0_deeds, .ref q_p0_were, .ref q_p0_paths, .ref q_p0_more, .ref q_p0_patterns, .int v_p0_patternMany, .ref q_p0_loop, .ref q_p0_ranks, .ref q_p0_counts, .ref q_p0_then, .ref q_p0_table, .ref q_p0_product, .ref q_p0_turned, .ref q_p0_tape, .int v_p0_taped, .int v_p0_hasWhy, .ref q_p0_reasons, .int v_p0_hasImage, .int v_p0_imageN, .int v_p0_imageWay, .ref q_p0_imageLed])), (q_p0_loop, .inl (cI, 6, .inl f_p0_loop)), (q_p0_led, .inl (cI, 8, .inl f_p0_led)), (q_p0_patterns, .inl (cI, 800, .inl f_p0_patterns)), (q_p0_ranks, .inl (cI, 6, .inl f_p0_ranks))] → va_S A s.heap H locs → lv_has ls 5 [(0, .ref q_p0), (1, .int x1), (2, .int x2), (3, .int l3)] → W p l e { frames := 2 + (d + 1), cells := 0, slots := 0, locals := 47 + (d + 1) * 24 } s m args below meth c H locs 0 0 Q (F0 m 38 ls []) := by
            intro l3 f_p0_patterns v_p0_patternMany f_p0_ranks f_p0_loop H locs ls h hP hD hS hl
            refine lv_aload_n hx hb dX9_goes_38 rfl (lv_at hl 0 rfl) ?_
            refine va_get (ci := 7) (C := RX9) (T := TX9) (N := 24) (v := .ref q_p0_loop) hx hb hts hinX9 hown hK hP 0 rfl rfl 9 (by decide) hw0 (fun _ h9 => h9) rfl dX9_goes_39 ?_
            refine lv_iload_n hx hb dX9_goes_42 rfl (lv_at hl 1 rfl) ?_
            refine lv_iload_n hx hb dX9_goes_43 rfl (lv_at hl 3 rfl) ?_
            obtain ⟨hi21, h⟩ := h
            refine z_iast (wn := [(q_p0, .inr (7, [.int v_p0_n, .int v_p0_way, .ref q_p0_led, .int v_p0_deeds, .ref q_p0_were, .ref q_p0_paths, .ref q_p0_more, .ref q_p0_patterns, .int v_p0_patternMany, .ref q_p0_loop, .ref q_p0_ranks, .ref q_p0_counts, .ref q_p0_then, .ref q_p0_table, .ref q_p0_product, .ref q_p0_turned, .ref q_p0_tape, .int v_p0_taped, .int v_p0_hasWhy, .ref q_p0_reasons, .int v_p0_hasImage, .int v_p0_imageN, .int v_p0_imageWay, .ref q_p0_imageLed])), (q_p0_loop, .inl (cI, 6, .inl (upd f_p0_loop x1.toNatClampNeg l3))), (q_p0_led, .inl (cI, 8, .inl f_p0_led)), (q_p0_patterns, .inl (cI, 800, .inl f_p0_patterns)), (q_p0_ranks, .inl (cI, 6, .inl f_p0_ranks))]) hx hb hK hP hD hS 1 rfl hi21 dX9_goes_44 rfl (fun H locs hP hD hS => ?_)
            refine lv_aload_n hx hb dX9_goes_45 rfl (lv_at hl 0 rfl) ?_
            refine lv_iload_n hx hb dX9_goes_46 rfl (lv_at hl 1 rfl) ?_
            refine lv_iconst (v := (1 : Int32)) hx hb dX9_goes_47 (by decide) ?_
            refine lv_iadd hx hb dX9_goes_48 ?_
            refine lv_iload_n hx hb dX9_goes_49 rfl (lv_at hl 2 rfl) ?_
            refine z_cVv (As := [.int (x1 + (1 : Int32)), .int x2]) (rest := []) (wr := []) (wn := fun u => [(q_p0, .inr (7, [.int v_p0_n, .int v_p0_way, .ref q_p0_led, .int v_p0_deeds, .ref q_p0_were, .ref q_p0_paths, .ref q_p0_more, .ref q_p0_patterns, .int u.2.1, .ref q_p0_loop, .ref q_p0_ranks, .ref q_p0_counts, .ref q_p0_then, .ref q_p0_table, .ref q_p0_product, .ref q_p0_turned, .ref q_p0_tape, .int v_p0_taped, .int v_p0_hasWhy, .ref q_p0_reasons, .int v_p0_hasImage, .int v_p0_imageN, .int v_p0_imageWay, .ref q_p0_imageLed])), (q_p0_loop, .inl (cI, 6, .inl u.2.2.2)), (q_p0_led, .inl (cI, 8, .inl f_p0_led)), (q_p0_patterns, .inl (cI, 800, .inl u.1)), (q_p0_ranks, .inl (cI, 6, .inl u.2.2.1))]) (ihd H.size (x1 + (1 : Int32)) x2 (upd f_p0_loop x1.toNatClampNeg l3) f_p0_led v_p0_n v_p0_way v_p0_patternMany f_p0_patterns f_p0_ranks v_p0_deeds v_p0_taped v_p0_hasWhy v_p0_hasImage v_p0_imageN v_p0_imageWay _ h) ⟨hx, hb, hml, hown, hts⟩ (cwV 2 hts gX9_goes_X9_goes rfl rfl rfl hd_X9_goes (by constructor <;> (dsimp only; omega))) hX hK hP hD hS hA [0, 1, 2, 3, 4] [] [0, 1, 2, 3, 4] rfl rfl rfl (by decide) (fun _ => rfl) (q0 := 0) (ci := 7) rfl rfl rfl hl.1 rfl (Nat.le_of_ble_eq_true rfl) ⟨Nat.le_refl _, Nat.le_refl _⟩ dX9_goes_50 (fun u22 H locs h hP hD hS => ?_)
            obtain ⟨m22_0, m22_1, m22_2, m22_3⟩ := u22
            refine lv_iinc (v := (l3 + 1)) (lv' := [(3, .int (l3 + 1)), (0, .ref q_p0), (1, .int x1), (2, .int x2)]) hx hb dX9_goes_53 hl (k := 3) rfl rfl (by decide) rfl (fun ls hl => ?_)
            refine lv_goto (tgt := 7) hx hb dX9_goes_56 (by decide) ?_
            exact ih7 (l3 + 1) m22_0 m22_1 m22_2 m22_3 _ _ _ h hP hD hS (lv_sub hl [1, 2, 3, 0] rfl)
          refine lv_if_eq (tgt := 38) hx hb dX9_goes_16 (by decide) (fun c23 => ?_) (fun c23 => ?_)
          · have h := And.left h c23
            exact k38 l3 f_p0_patterns v_p0_patternMany f_p0_ranks f_p0_loop _ _ _ h hP hD hS (lv_sub hl [0, 1, 2, 3] rfl)
          · have h := And.right h c23
            refine lv_aload_n hx hb dX9_goes_19 rfl (lv_at hl 0 rfl) ?_
            refine lv_aload_n hx hb dX9_goes_20 rfl (lv_at hl 0 rfl) ?_
            refine va_get (ci := 7) (C := RX9) (T := TX9) (N := 24) (v := .ref q_p0_loop) hx hb hts hinX9 hown hK hP 0 rfl rfl 9 (by decide) hw0 (fun _ h9 => h9) rfl dX9_goes_21 ?_
            refine lv_iload_n hx hb dX9_goes_24 rfl (lv_at hl 1 rfl) ?_
            refine lv_iconst (v := (1 : Int32)) hx hb dX9_goes_25 (by decide) ?_
            refine lv_isub hx hb dX9_goes_26 ?_
            obtain ⟨hi24, h⟩ := h
            refine va_iald hx hb hK hP 1 0 rfl rfl hi24 dX9_goes_27 ?_
            refine z_cVi (As := [.int (f_p0_loop (x1 - (1 : Int32)).toNatClampNeg)]) (rest := []) (wr := [(q_p0_loop, .inl (cI, 6, .inl f_p0_loop)), (q_p0_patterns, .inl (cI, 800, .inl f_p0_patterns)), (q_p0_ranks, .inl (cI, 6, .inl f_p0_ranks))]) (wn := fun u => [(q_p0, .inr (7, [.int v_p0_n, .int v_p0_way, .ref q_p0_led, .int v_p0_deeds, .ref q_p0_were, .ref q_p0_paths, .ref q_p0_more, .ref q_p0_patterns, .int v_p0_patternMany, .ref q_p0_loop, .ref q_p0_ranks, .ref q_p0_counts, .ref q_p0_then, .ref q_p0_table, .ref q_p0_product, .ref q_p0_turned, .ref q_p0_tape, .int v_p0_taped, .int v_p0_hasWhy, .ref q_p0_reasons, .int v_p0_hasImage, .int v_p0_imageN, .int v_p0_imageWay, .ref q_p0_imageLed])), (q_p0_loop, .inl (cI, 6, .inl f_p0_loop)), (q_p0_led, .inl (cI, 8, .inl f_p0_led)), (q_p0_patterns, .inl (cI, 800, .inl f_p0_patterns)), (q_p0_ranks, .inl (cI, 6, .inl f_p0_ranks))]) (c_X9_coversOf l D cI cJ cB tU tM tS q_p0 q_p0_led q_p0_were q_p0_paths q_p0_more q_p0_patterns q_p0_loop q_p0_ranks q_p0_counts q_p0_then q_p0_table q_p0_product q_p0_turned q_p0_tape q_p0_reasons q_p0_imageLed H.size (f_p0_loop (x1 - (1 : Int32)).toNatClampNeg) f_p0_led v_p0_n v_p0_way v_p0_deeds v_p0_patternMany v_p0_taped v_p0_hasWhy v_p0_hasImage v_p0_imageN v_p0_imageWay _ h) ⟨hx, hb, hml, hown, hts⟩ (cwV 1 hts gX9_goes_X9_coversOf rfl rfl rfl hd_X9_coversOf (by constructor <;> (dsimp only; omega))) hX hK hP hD hS hA [0, 2] [1, 3, 4] [3, 0, 4, 1, 2] rfl rfl rfl (by decide) (fun _ => rfl) (q0 := 0) (ci := 7) rfl rfl rfl hl.1 rfl (Nat.le_of_ble_eq_true rfl) ⟨Nat.le_refl _, Nat.le_refl _⟩ dX9_goes_28 (fun r25 u25 H locs h hP hD hS => ?_)
            refine lv_iload_n hx hb dX9_goes_31 rfl (lv_at hl 3 rfl) ?_
            refine lv_ishr hx hb dX9_goes_32 ?_
            refine lv_iconst (v := (1 : Int32)) hx hb dX9_goes_33 (by decide) ?_
            refine lv_iand hx hb dX9_goes_34 ?_
            refine lv_if_eq (tgt := 53) hx hb dX9_goes_35 (by decide) (fun c26 => ?_) (fun c26 => ?_)
            · have h := And.left h c26
              refine lv_iinc (v := (l3 + 1)) (lv' := [(3, .int (l3 + 1)), (0, .ref q_p0), (1, .int x1), (2, .int x2)]) hx hb dX9_goes_53 hl (k := 3) rfl rfl (by decide) rfl (fun ls hl => ?_)
              refine lv_goto (tgt := 7) hx hb dX9_goes_56 (by decide) ?_
              exact ih7 (l3 + 1) f_p0_patterns v_p0_patternMany f_p0_ranks f_p0_loop _ _ _ h hP hD hS (lv_sub hl [1, 2, 3, 0] rfl)
            · have h := And.right h c26
              exact k38 l3 f_p0_patterns v_p0_patternMany f_p0_ranks f_p0_loop _ _ _ h hP hD hS (lv_sub hl [0, 1, 2, 3] rfl)
    obtain ⟨n7, h⟩ := h
    exact k7  n7 (0 : Int32) f_p0_patterns v_p0_patternMany f_p0_ranks f_p0_loop _ _ _ h hP hD hS (lv_sub hl [1, 2, 3, 0] rfl)
theorem hd_X9_tellsPatterns : yX9_tellsPatterns.cls = RX9 ∧ yX9_tellsPatterns.cls ≠ "java/lang/invoke/MethodHandle" ∧ yX9_tellsPatterns.cls ≠ "java/lang/invoke/VarHandle" ∧ (parseMethodDescriptor yX9_tellsPatterns.desc).map (fun d => d.parameters.length) = some 1 := by decide +kernel
set_option maxHeartbeats 4000000 in
set_option maxRecDepth 100000 in
theorem c_X9_tellsPatterns (l : Launch) (D : va_G) (cI cJ cB : ClassId) (tU tM tS : Nat) (q_p0 q_p0_led q_p0_were q_p0_paths q_p0_more q_p0_patterns q_p0_loop q_p0_ranks q_p0_counts q_p0_then q_p0_table q_p0_product q_p0_turned q_p0_tape q_p0_reasons q_p0_imageLed : Nat) (sz : Nat) (x1 : Int32) (v_p0_patternMany : Int32) (f_p0_loop : (Nat → Int32)) (f_p0_led : (Nat → Int32)) (v_p0_n : Int32) (v_p0_way : Int32) (f_p0_patterns : (Nat → Int32)) (f_p0_ranks : (Nat → Int32)) (v_p0_deeds : Int32) (v_p0_taped : Int32) (v_p0_hasWhy : Int32) (v_p0_hasImage : Int32) (v_p0_imageN : Int32) (v_p0_imageWay : Int32) (P : Int32 → (Nat → Int32) → (Nat → Int32) → (Nat → Int32) → Prop) (h : M_X9_tellsPatterns x1 v_p0_patternMany f_p0_loop f_p0_led v_p0_n v_p0_way f_p0_patterns f_p0_ranks P) : Met l yX9_tellsPatterns wsX9_tellsPatterns ({ frames := 11, cells := 0, slots := 0, locals := 263 }) (va_Pc [.ref q_p0, .int x1] (zPre D cI cJ cB tU tM tS [(q_p0, .inr (7, [.int v_p0_n, .int v_p0_way, .ref q_p0_led, .int v_p0_deeds, .ref q_p0_were, .ref q_p0_paths, .ref q_p0_more, .ref q_p0_patterns, .int v_p0_patternMany, .ref q_p0_loop, .ref q_p0_ranks, .ref q_p0_counts, .ref q_p0_then, .ref q_p0_table, .ref q_p0_product, .ref q_p0_turned, .ref q_p0_tape, .int v_p0_taped, .int v_p0_hasWhy, .ref q_p0_reasons, .int v_p0_hasImage, .int v_p0_imageN, .int v_p0_imageWay, .ref q_p0_imageLed])), (q_p0_loop, .inl (cI, 6, .inl f_p0_loop)), (q_p0_led, .inl (cI, 8, .inl f_p0_led)), (q_p0_patterns, .inl (cI, 800, .inl f_p0_patterns)), (q_p0_ranks, .inl (cI, 6, .inl f_p0_ranks))] sz)) (va_Qv (fun u : Int32 × (Nat → Int32) × (Nat → Int32) × (Nat → Int32) => P u.1 u.2.1 u.2.2.1 u.2.2.2) (fun u t => zPost D cI cJ cB (va_A [(q_p0, .inr (7, [.int v_p0_n, .int v_p0_way, .ref q_p0_led, .int v_p0_deeds, .ref q_p0_were, .ref q_p0_paths, .ref q_p0_more, .ref q_p0_patterns, .int v_p0_patternMany, .ref q_p0_loop, .ref q_p0_ranks, .ref q_p0_counts, .ref q_p0_then, .ref q_p0_table, .ref q_p0_product, .ref q_p0_turned, .ref q_p0_tape, .int v_p0_taped, .int v_p0_hasWhy, .ref q_p0_reasons, .int v_p0_hasImage, .int v_p0_imageN, .int v_p0_imageWay, .ref q_p0_imageLed])), (q_p0_loop, .inl (cI, 6, .inl f_p0_loop)), (q_p0_led, .inl (cI, 8, .inl f_p0_led)), (q_p0_patterns, .inl (cI, 800, .inl f_p0_patterns)), (q_p0_ranks, .inl (cI, 6, .inl f_p0_ranks))] sz) [(q_p0, .inr (7, [.int v_p0_n, .int v_p0_way, .ref q_p0_led, .int v_p0_deeds, .ref q_p0_were, .ref q_p0_paths, .ref q_p0_more, .ref q_p0_patterns, .int u.1, .ref q_p0_loop, .ref q_p0_ranks, .ref q_p0_counts, .ref q_p0_then, .ref q_p0_table, .ref q_p0_product, .ref q_p0_turned, .ref q_p0_tape, .int v_p0_taped, .int v_p0_hasWhy, .ref q_p0_reasons, .int v_p0_hasImage, .int v_p0_imageN, .int v_p0_imageWay, .ref q_p0_imageLed])), (q_p0_loop, .inl (cI, 6, .inl u.2.2.2)), (q_p0_led, .inl (cI, 8, .inl f_p0_led)), (q_p0_patterns, .inl (cI, 800, .inl u.2.1)), (q_p0_ranks, .inl (cI, 6, .inl u.2.2.1))] t) (va_A [(q_p0, .inr (7, [.int v_p0_n, .int v_p0_way, .ref q_p0_led, .int v_p0_deeds, .ref q_p0_were, .ref q_p0_paths, .ref q_p0_more, .ref q_p0_patterns, .int v_p0_patternMany, .ref q_p0_loop, .ref q_p0_ranks, .ref q_p0_counts, .ref q_p0_then, .ref q_p0_table, .ref q_p0_product, .ref q_p0_turned, .ref q_p0_tape, .int v_p0_taped, .int v_p0_hasWhy, .ref q_p0_reasons, .int v_p0_hasImage, .int v_p0_imageN, .int v_p0_imageWay, .ref q_p0_imageLed])), (q_p0_loop, .inl (cI, 6, .inl f_p0_loop)), (q_p0_led, .inl (cI, 8, .inl f_p0_led)), (q_p0_patterns, .inl (cI, 800, .inl f_p0_patterns)), (q_p0_ranks, .inl (cI, 6, .inl f_p0_ranks))] sz)) 0 0 (va_A [(q_p0, .inr (7, [.int v_p0_n, .int v_p0_way, .ref q_p0_led, .int v_p0_deeds, .ref q_p0_were, .ref q_p0_paths, .ref q_p0_more, .ref q_p0_patterns, .int v_p0_patternMany, .ref q_p0_loop, .ref q_p0_ranks, .ref q_p0_counts, .ref q_p0_then, .ref q_p0_table, .ref q_p0_product, .ref q_p0_turned, .ref q_p0_tape, .int v_p0_taped, .int v_p0_hasWhy, .ref q_p0_reasons, .int v_p0_hasImage, .int v_p0_imageN, .int v_p0_imageWay, .ref q_p0_imageLed])), (q_p0_loop, .inl (cI, 6, .inl f_p0_loop)), (q_p0_led, .inl (cI, 8, .inl f_p0_led)), (q_p0_patterns, .inl (cI, 800, .inl f_p0_patterns)), (q_p0_ranks, .inl (cI, 6, .inl f_p0_ranks))] sz) := by
  refine z_met (cc := cX9_tellsPatterns) (maxL := 6) (ret := none) (Qc := fun A => va_Qv (fun u : Int32 × (Nat → Int32) × (Nat → Int32) × (Nat → Int32) => P u.1 u.2.1 u.2.2.1 u.2.2.2) (fun u t => zPost D cI cJ cB A [(q_p0, .inr (7, [.int v_p0_n, .int v_p0_way, .ref q_p0_led, .int v_p0_deeds, .ref q_p0_were, .ref q_p0_paths, .ref q_p0_more, .ref q_p0_patterns, .int u.1, .ref q_p0_loop, .ref q_p0_ranks, .ref q_p0_counts, .ref q_p0_then, .ref q_p0_table, .ref q_p0_product, .ref q_p0_turned, .ref q_p0_tape, .int v_p0_taped, .int v_p0_hasWhy, .ref q_p0_reasons, .int v_p0_hasImage, .int v_p0_imageN, .int v_p0_imageWay, .ref q_p0_imageLed])), (q_p0_loop, .inl (cI, 6, .inl u.2.2.2)), (q_p0_led, .inl (cI, 8, .inl f_p0_led)), (q_p0_patterns, .inl (cI, 800, .inl u.2.1)), (q_p0_ranks, .inl (cI, 6, .inl u.2.2.1))] t) A) (by decide) rfl [.ref q_p0, .int x1] (Nat.le_of_ble_eq_true rfl) ?_
  intro p e s m args below meth c A hx hb hr hts hown hml hlocks hA hX hK H locs hP hD hS ls hl Q hQ
  have hown : s.vm.findClass RX9 = some m.cls := hown
  have hl : lv_has ls 6 [(0, .ref q_p0), (1, .int x1)] := hl
  have hw0 : (Cond.fieldLink RX9 168 "ForcedRingsModel" "patternMany" "I").before args s = true := hts _ (List.mem_of_getElem? (i := 1) rfl)
  have hw1 : (Cond.fieldLink RX9 35 "ForcedRingsModel" "ranks" "[I").before args s = true := hts _ (List.mem_of_getElem? (i := 2) rfl)
  have hw2 : (Cond.fieldLink RX9 15 "ForcedRingsModel" "led" "[I").before args s = true := hts _ (List.mem_of_getElem? (i := 3) rfl)
  have hinX9 : ∀ w ∈ wsX90, w ∈ wsX9_tellsPatterns := fun _ h => List.mem_cons_of_mem _ (List.mem_append_right _ h)
  refine lv_aload_n hx hb dX9_tellsPatterns_0 rfl (lv_at hl 0 rfl) ?_
  refine lv_iconst (v := (0 : Int32)) hx hb dX9_tellsPatterns_1 (by decide) ?_
  refine z_put (ci := 7) (C := RX9) (T := TX9) (N := 24) (ty := .int) (wn := [(q_p0, .inr (7, [.int v_p0_n, .int v_p0_way, .ref q_p0_led, .int v_p0_deeds, .ref q_p0_were, .ref q_p0_paths, .ref q_p0_more, .ref q_p0_patterns, .int (0 : Int32), .ref q_p0_loop, .ref q_p0_ranks, .ref q_p0_counts, .ref q_p0_then, .ref q_p0_table, .ref q_p0_product, .ref q_p0_turned, .ref q_p0_tape, .int v_p0_taped, .int v_p0_hasWhy, .ref q_p0_reasons, .int v_p0_hasImage, .int v_p0_imageN, .int v_p0_imageWay, .ref q_p0_imageLed])), (q_p0_loop, .inl (cI, 6, .inl f_p0_loop)), (q_p0_led, .inl (cI, 8, .inl f_p0_led)), (q_p0_patterns, .inl (cI, 800, .inl f_p0_patterns)), (q_p0_ranks, .inl (cI, 6, .inl f_p0_ranks))]) hx hb hts hinX9 tyX9 tyX9_ok nmX9 hown hK hP hD hS 0 rfl rfl 8 (by decide) hw0 (fun _ h9 => h9) rfl (by decide +kernel) rfl rfl (Nat.le_of_ble_eq_true rfl) dX9_tellsPatterns_2 rfl (fun H locs hP hD hS => ?_)
  refine lv_aload_n hx hb dX9_tellsPatterns_5 rfl (lv_at hl 0 rfl) ?_
  refine lv_iconst (v := (0 : Int32)) hx hb dX9_tellsPatterns_6 (by decide) ?_
  refine lv_iload_n hx hb dX9_tellsPatterns_7 rfl (lv_at hl 1 rfl) ?_
  refine z_cVv (As := [.int (0 : Int32), .int x1]) (rest := []) (wr := []) (wn := fun u => [(q_p0, .inr (7, [.int v_p0_n, .int v_p0_way, .ref q_p0_led, .int v_p0_deeds, .ref q_p0_were, .ref q_p0_paths, .ref q_p0_more, .ref q_p0_patterns, .int u.2.1, .ref q_p0_loop, .ref q_p0_ranks, .ref q_p0_counts, .ref q_p0_then, .ref q_p0_table, .ref q_p0_product, .ref q_p0_turned, .ref q_p0_tape, .int v_p0_taped, .int v_p0_hasWhy, .ref q_p0_reasons, .int v_p0_hasImage, .int v_p0_imageN, .int v_p0_imageWay, .ref q_p0_imageLed])), (q_p0_loop, .inl (cI, 6, .inl u.2.2.2)), (q_p0_led, .inl (cI, 8, .inl f_p0_led)), (q_p0_patterns, .inl (cI, 800, .inl u.1)), (q_p0_ranks, .inl (cI, 6, .inl u.2.2.1))]) (c_X9_goes l D cI cJ cB tU tM tS q_p0 q_p0_led q_p0_were q_p0_paths q_p0_more q_p0_patterns q_p0_loop q_p0_ranks q_p0_counts q_p0_then q_p0_table q_p0_product q_p0_turned q_p0_tape q_p0_reasons q_p0_imageLed 8 H.size (0 : Int32) x1 f_p0_loop f_p0_led v_p0_n v_p0_way (0 : Int32) f_p0_patterns f_p0_ranks v_p0_deeds v_p0_taped v_p0_hasWhy v_p0_hasImage v_p0_imageN v_p0_imageWay _ h) ⟨hx, hb, hml, hown, hts⟩ (cwV 2 hts gX9_tellsPatterns_X9_goes rfl rfl rfl hd_X9_goes ⟨Nat.le_of_ble_eq_true rfl, Nat.le_of_ble_eq_true rfl⟩) hX hK hP hD hS hA [0, 1, 2, 3, 4] [] [0, 1, 2, 3, 4] rfl rfl rfl (by decide) (fun _ => rfl) (q0 := 0) (ci := 7) rfl rfl rfl hl.1 rfl (Nat.le_of_ble_eq_true rfl) ⟨Nat.le_refl _, Nat.le_refl _⟩ dX9_tellsPatterns_8 (fun u1 H locs h hP hD hS => ?_)
  obtain ⟨m1_0, m1_1, m1_2, m1_3⟩ := u1
  refine lv_iconst (v := (0 : Int32)) hx hb dX9_tellsPatterns_11 (by decide) ?_
  refine lv_istore_n (lv' := [(2, .int (0 : Int32)), (0, .ref q_p0), (1, .int x1)]) hx hb dX9_tellsPatterns_12 rfl hl (by decide) rfl (fun ls hl => ?_)
  have k13 : ∀ (f_p0_loop : (Nat → Int32)) (n13 : Nat) (l2 : Int32) (v_p0_patternMany : Int32) (f_p0_patterns : (Nat → Int32)) (f_p0_ranks : (Nat → Int32)) (H : Heap) (locs : List Loc) (ls : Array Slot), LP4 (M_X9_tellsPatterns_l13 x1 f_p0_led v_p0_n v_p0_way P f_p0_loop) n13 l2 v_p0_patternMany f_p0_patterns f_p0_ranks → va_P D vwCl [(q_p0, .inr (7, [.int v_p0_n, .int v_p0_way, .ref q_p0_led, .int v_p0_deeds, .ref q_p0_were, .ref q_p0_paths, .ref q_p0_more, .ref q_p0_patterns, .int v_p0_patternMany, .ref q_p0_loop, .ref q_p0_ranks, .ref q_p0_counts, .ref q_p0_then, .ref q_p0_table, .ref q_p0_product, .ref q_p0_turned, .ref q_p0_tape, .int v_p0_taped, .int v_p0_hasWhy, .ref q_p0_reasons, .int v_p0_hasImage, .int v_p0_imageN, .int v_p0_imageWay, .ref q_p0_imageLed])), (q_p0_loop, .inl (cI, 6, .inl f_p0_loop)), (q_p0_led, .inl (cI, 8, .inl f_p0_led)), (q_p0_patterns, .inl (cI, 800, .inl f_p0_patterns)), (q_p0_ranks, .inl (cI, 6, .inl f_p0_ranks))] H → va_D A [(q_p0, .inr (7, [.int v_p0_n, .int v_p0_way, .ref q_p0_led, .int v_p0_deeds, .ref q_p0_were, .ref q_p0_paths, .ref q_p0_more, .ref q_p0_patterns, .int v_p0_patternMany, .ref q_p0_loop, .ref q_p0_ranks, .ref q_p0_counts, .ref q_p0_then, .ref q_p0_table, .ref q_p0_product, .ref q_p0_turned, .ref q_p0_tape, .int v_p0_taped, .int v_p0_hasWhy, .ref q_p0_reasons, .int v_p0_hasImage, .int v_p0_imageN, .int v_p0_imageWay, .ref q_p0_imageLed])), (q_p0_loop, .inl (cI, 6, .inl f_p0_loop)), (q_p0_led, .inl (cI, 8, .inl f_p0_led)), (q_p0_patterns, .inl (cI, 800, .inl f_p0_patterns)), (q_p0_ranks, .inl (cI, 6, .inl f_p0_ranks))] → va_S A s.heap H locs → lv_has ls 6 [(0, .ref q_p0), (1, .int x1), (2, .int l2)] → W p l e { frames := 11, cells := 0, slots := 0, locals := 263 } s m args below meth c H locs 0 0 Q (F0 m 13 ls []) := by
    intro f_p0_loop n13
    induction n13 with
    | zero =>
      intro l2 v_p0_patternMany f_p0_patterns f_p0_ranks H locs ls h
      exact False.elim h
    | succ n13 ih13 =>
      intro l2 v_p0_patternMany f_p0_patterns f_p0_ranks H locs ls h hP hD hS hl
      have h : M_X9_tellsPatterns_l13 x1 f_p0_led v_p0_n v_p0_way P f_p0_loop (LP4 (M_X9_tellsPatterns_l13 x1 f_p0_led v_p0_n v_p0_way P f_p0_loop) n13) l2 v_p0_patternMany f_p0_patterns f_p0_ranks := h
      refine lv_aload_n hx hb dX9_tellsPatterns_13 rfl (lv_at hl 0 rfl) ?_
      refine lv_iload_n hx hb dX9_tellsPatterns_14 rfl (lv_at hl 2 rfl) ?_
      refine z_cVi (As := [.int l2]) (rest := []) (wr := [(q_p0_loop, .inl (cI, 6, .inl f_p0_loop)), (q_p0_patterns, .inl (cI, 800, .inl f_p0_patterns)), (q_p0_ranks, .inl (cI, 6, .inl f_p0_ranks))]) (wn := fun u => [(q_p0, .inr (7, [.int v_p0_n, .int v_p0_way, .ref q_p0_led, .int v_p0_deeds, .ref q_p0_were, .ref q_p0_paths, .ref q_p0_more, .ref q_p0_patterns, .int v_p0_patternMany, .ref q_p0_loop, .ref q_p0_ranks, .ref q_p0_counts, .ref q_p0_then, .ref q_p0_table, .ref q_p0_product, .ref q_p0_turned, .ref q_p0_tape, .int v_p0_taped, .int v_p0_hasWhy, .ref q_p0_reasons, .int v_p0_hasImage, .int v_p0_imageN, .int v_p0_imageWay, .ref q_p0_imageLed])), (q_p0_loop, .inl (cI, 6, .inl f_p0_loop)), (q_p0_led, .inl (cI, 8, .inl f_p0_led)), (q_p0_patterns, .inl (cI, 800, .inl f_p0_patterns)), (q_p0_ranks, .inl (cI, 6, .inl f_p0_ranks))]) (c_X9_ringAt l D cI cJ cB tU tM tS q_p0 q_p0_led q_p0_were q_p0_paths q_p0_more q_p0_patterns q_p0_loop q_p0_ranks q_p0_counts q_p0_then q_p0_table q_p0_product q_p0_turned q_p0_tape q_p0_reasons q_p0_imageLed H.size l2 v_p0_n f_p0_led v_p0_way v_p0_deeds v_p0_patternMany v_p0_taped v_p0_hasWhy v_p0_hasImage v_p0_imageN v_p0_imageWay _ h) ⟨hx, hb, hml, hown, hts⟩ (cwV 1 hts gX9_tellsPatterns_X9_ringAt rfl rfl rfl hd_X9_ringAt ⟨Nat.le_of_ble_eq_true rfl, Nat.le_of_ble_eq_true rfl⟩) hX hK hP hD hS hA [0, 2] [1, 3, 4] [3, 0, 4, 1, 2] rfl rfl rfl (by decide) (fun _ => rfl) (q0 := 0) (ci := 7) rfl rfl rfl hl.1 rfl (Nat.le_of_ble_eq_true rfl) ⟨Nat.le_refl _, Nat.le_refl _⟩ dX9_tellsPatterns_15 (fun r2 u2 H locs h hP hD hS => ?_)
      refine lv_if_eq (tgt := 94) hx hb dX9_tellsPatterns_18 (by decide) (fun c3 => ?_) (fun c3 => ?_)
      · have h := And.left h c3
        exact z_vret hQ hx hb hr hlocks hK (v_p0_patternMany, f_p0_patterns, f_p0_ranks, f_p0_loop) h hP hD hS dX9_tellsPatterns_94
      · have h := And.right h c3
        refine lv_aload_n hx hb dX9_tellsPatterns_21 rfl (lv_at hl 0 rfl) ?_
        refine lv_iload_n hx hb dX9_tellsPatterns_22 rfl (lv_at hl 2 rfl) ?_
        refine z_cVi (As := [.int l2]) (rest := []) (wr := [(q_p0_loop, .inl (cI, 6, .inl f_p0_loop)), (q_p0_patterns, .inl (cI, 800, .inl f_p0_patterns)), (q_p0_ranks, .inl (cI, 6, .inl f_p0_ranks))]) (wn := fun u => [(q_p0, .inr (7, [.int v_p0_n, .int v_p0_way, .ref q_p0_led, .int v_p0_deeds, .ref q_p0_were, .ref q_p0_paths, .ref q_p0_more, .ref q_p0_patterns, .int v_p0_patternMany, .ref q_p0_loop, .ref q_p0_ranks, .ref q_p0_counts, .ref q_p0_then, .ref q_p0_table, .ref q_p0_product, .ref q_p0_turned, .ref q_p0_tape, .int v_p0_taped, .int v_p0_hasWhy, .ref q_p0_reasons, .int v_p0_hasImage, .int v_p0_imageN, .int v_p0_imageWay, .ref q_p0_imageLed])), (q_p0_loop, .inl (cI, 6, .inl f_p0_loop)), (q_p0_led, .inl (cI, 8, .inl f_p0_led)), (q_p0_patterns, .inl (cI, 800, .inl f_p0_patterns)), (q_p0_ranks, .inl (cI, 6, .inl f_p0_ranks))]) (c_X9_ringAt l D cI cJ cB tU tM tS q_p0 q_p0_led q_p0_were q_p0_paths q_p0_more q_p0_patterns q_p0_loop q_p0_ranks q_p0_counts q_p0_then q_p0_table q_p0_product q_p0_turned q_p0_tape q_p0_reasons q_p0_imageLed H.size l2 v_p0_n f_p0_led v_p0_way v_p0_deeds v_p0_patternMany v_p0_taped v_p0_hasWhy v_p0_hasImage v_p0_imageN v_p0_imageWay _ h) ⟨hx, hb, hml, hown, hts⟩ (cwV 1 hts gX9_tellsPatterns_X9_ringAt rfl rfl rfl hd_X9_ringAt ⟨Nat.le_of_ble_eq_true rfl, Nat.le_of_ble_eq_true rfl⟩) hX hK hP hD hS hA [0, 2] [1, 3, 4] [3, 0, 4, 1, 2] rfl rfl rfl (by decide) (fun _ => rfl) (q0 := 0) (ci := 7) rfl rfl rfl hl.1 rfl (Nat.le_of_ble_eq_true rfl) ⟨Nat.le_refl _, Nat.le_refl _⟩ dX9_tellsPatterns_23 (fun r4 u4 H locs h hP hD hS => ?_)
        refine lv_istore_n (lv' := [(3, .int r4), (0, .ref q_p0), (1, .int x1), (2, .int l2)]) hx hb dX9_tellsPatterns_26 rfl hl (by decide) rfl (fun ls hl => ?_)
        refine lv_iload_n hx hb dX9_tellsPatterns_27 rfl (lv_at hl 0 rfl) ?_
        refine z_cSi (As := [.int r4]) (rest := []) (wr := [(q_p0, .inr (7, [.int v_p0_n, .int v_p0_way, .ref q_p0_led, .int v_p0_deeds, .ref q_p0_were, .ref q_p0_paths, .ref q_p0_more, .ref q_p0_patterns, .int v_p0_patternMany, .ref q_p0_loop, .ref q_p0_ranks, .ref q_p0_counts, .ref q_p0_then, .ref q_p0_table, .ref q_p0_product, .ref q_p0_turned, .ref q_p0_tape, .int v_p0_taped, .int v_p0_hasWhy, .ref q_p0_reasons, .int v_p0_hasImage, .int v_p0_imageN, .int v_p0_imageWay, .ref q_p0_imageLed])), (q_p0_loop, .inl (cI, 6, .inl f_p0_loop)), (q_p0_led, .inl (cI, 8, .inl f_p0_led)), (q_p0_patterns, .inl (cI, 800, .inl f_p0_patterns)), (q_p0_ranks, .inl (cI, 6, .inl f_p0_ranks))]) (wn := fun u => [(q_p0, .inr (7, [.int v_p0_n, .int v_p0_way, .ref q_p0_led, .int v_p0_deeds, .ref q_p0_were, .ref q_p0_paths, .ref q_p0_more, .ref q_p0_patterns, .int v_p0_patternMany, .ref q_p0_loop, .ref q_p0_ranks, .ref q_p0_counts, .ref q_p0_then, .ref q_p0_table, .ref q_p0_product, .ref q_p0_turned, .ref q_p0_tape, .int v_p0_taped, .int v_p0_hasWhy, .ref q_p0_reasons, .int v_p0_hasImage, .int v_p0_imageN, .int v_p0_imageWay, .ref q_p0_imageLed])), (q_p0_loop, .inl (cI, 6, .inl f_p0_loop)), (q_p0_led, .inl (cI, 8, .inl f_p0_led)), (q_p0_patterns, .inl (cI, 800, .inl f_p0_patterns)), (q_p0_ranks, .inl (cI, 6, .inl f_p0_ranks))]) (c_J6_bitCount_0f7a4 l D cI cJ cB tU tM tS  H.size r4 _ h) ⟨hx, hb, hml, hown, hts⟩ (va_cwS 1 hts gX9_tellsPatterns_J6_bitCount_0f7a4 rfl rfl rfl hd_J6_bitCount_0f7a4.2 ⟨Nat.le_of_ble_eq_true rfl, Nat.le_of_ble_eq_true rfl⟩) hX hK hP hD hS hA [] [0, 1, 2, 3, 4] [0, 1, 2, 3, 4] rfl rfl rfl (by decide) (fun _ => rfl) rfl hl.1 rfl (Nat.le_of_ble_eq_true rfl) ⟨Nat.le_refl _, Nat.le_refl _⟩ dX9_tellsPatterns_28 (fun r5 u5 H locs h hP hD hS => ?_)
        refine lv_iload_n hx hb dX9_tellsPatterns_31 rfl (lv_at hl 2 rfl) ?_
        refine lv_icmp_ne (tgt := 88) hx hb dX9_tellsPatterns_32 (by decide) (fun c6 => ?_) (fun c6 => ?_)
        · have h := And.right h c6
          refine lv_iinc (v := (l2 + 1)) (lv' := [(2, .int (l2 + 1)), (3, .int r4), (0, .ref q_p0), (1, .int x1)]) hx hb dX9_tellsPatterns_88 hl (k := 3) rfl rfl (by decide) rfl (fun ls hl => ?_)
          refine lv_goto (tgt := 13) hx hb dX9_tellsPatterns_91 (by decide) ?_
          exact ih13 (l2 + 1) v_p0_patternMany f_p0_patterns f_p0_ranks _ _ _ h hP hD hS (lv_sub hl [2, 3, 0] rfl)
        · have h := And.left h c6
          refine lv_iload_n hx hb dX9_tellsPatterns_35 rfl (lv_at hl 0 rfl) ?_
          refine z_cSi (As := [.int r4]) (rest := []) (wr := [(q_p0, .inr (7, [.int v_p0_n, .int v_p0_way, .ref q_p0_led, .int v_p0_deeds, .ref q_p0_were, .ref q_p0_paths, .ref q_p0_more, .ref q_p0_patterns, .int v_p0_patternMany, .ref q_p0_loop, .ref q_p0_ranks, .ref q_p0_counts, .ref q_p0_then, .ref q_p0_table, .ref q_p0_product, .ref q_p0_turned, .ref q_p0_tape, .int v_p0_taped, .int v_p0_hasWhy, .ref q_p0_reasons, .int v_p0_hasImage, .int v_p0_imageN, .int v_p0_imageWay, .ref q_p0_imageLed])), (q_p0_loop, .inl (cI, 6, .inl f_p0_loop)), (q_p0_led, .inl (cI, 8, .inl f_p0_led)), (q_p0_patterns, .inl (cI, 800, .inl f_p0_patterns)), (q_p0_ranks, .inl (cI, 6, .inl f_p0_ranks))]) (wn := fun u => [(q_p0, .inr (7, [.int v_p0_n, .int v_p0_way, .ref q_p0_led, .int v_p0_deeds, .ref q_p0_were, .ref q_p0_paths, .ref q_p0_more, .ref q_p0_patterns, .int v_p0_patternMany, .ref q_p0_loop, .ref q_p0_ranks, .ref q_p0_counts, .ref q_p0_then, .ref q_p0_table, .ref q_p0_product, .ref q_p0_turned, .ref q_p0_tape, .int v_p0_taped, .int v_p0_hasWhy, .ref q_p0_reasons, .int v_p0_hasImage, .int v_p0_imageN, .int v_p0_imageWay, .ref q_p0_imageLed])), (q_p0_loop, .inl (cI, 6, .inl f_p0_loop)), (q_p0_led, .inl (cI, 8, .inl f_p0_led)), (q_p0_patterns, .inl (cI, 800, .inl f_p0_patterns)), (q_p0_ranks, .inl (cI, 6, .inl f_p0_ranks))]) (c_J6_numberOfTrailingZeros_0f7a4 l D cI cJ cB tU tM tS  H.size r4 _ h) ⟨hx, hb, hml, hown, hts⟩ (va_cwS 1 hts gX9_tellsPatterns_J6_numberOfTrailingZeros_0f7a4 rfl rfl rfl hd_J6_numberOfTrailingZeros_0f7a4.2 ⟨Nat.le_of_ble_eq_true rfl, Nat.le_of_ble_eq_true rfl⟩) hX hK hP hD hS hA [] [0, 1, 2, 3, 4] [0, 1, 2, 3, 4] rfl rfl rfl (by decide) (fun _ => rfl) rfl hl.1 rfl (Nat.le_of_ble_eq_true rfl) ⟨Nat.le_refl _, Nat.le_refl _⟩ dX9_tellsPatterns_36 (fun r7 u7 H locs h hP hD hS => ?_)
          refine lv_istore (lv' := [(4, .int r7), (3, .int r4), (0, .ref q_p0), (1, .int x1), (2, .int l2)]) hx hb dX9_tellsPatterns_39 hl (by decide) rfl (fun ls hl => ?_)
          refine lv_iconst (v := (0 : Int32)) hx hb dX9_tellsPatterns_41 (by decide) ?_
          refine lv_istore (lv' := [(5, .int (0 : Int32)), (4, .int r7), (3, .int r4), (0, .ref q_p0), (1, .int x1), (2, .int l2)]) hx hb dX9_tellsPatterns_42 hl (by decide) rfl (fun ls hl => ?_)
          have k44 : ∀ (l2 : Int32) (l3 : Int32) (v_p0_patternMany : Int32) (f_p0_patterns : (Nat → Int32)) (n44 : Nat) (l4 : Int32) (l5 : Int32) (f_p0_ranks : (Nat → Int32)) (H : Heap) (locs : List Loc) (ls : Array Slot), LP3 (M_X9_tellsPatterns_l44 x1 f_p0_led v_p0_n v_p0_way (LP4 (M_X9_tellsPatterns_l13 x1 f_p0_led v_p0_n v_p0_way P f_p0_loop) n13) P l2 l3 v_p0_patternMany f_p0_patterns f_p0_loop) n44 l4 l5 f_p0_ranks → va_P D vwCl [(q_p0, .inr (7, [.int v_p0_n, .int v_p0_way, .ref q_p0_led, .int v_p0_deeds, .ref q_p0_were, .ref q_p0_paths, .ref q_p0_more, .ref q_p0_patterns, .int v_p0_patternMany, .ref q_p0_loop, .ref q_p0_ranks, .ref q_p0_counts, .ref q_p0_then, .ref q_p0_table, .ref q_p0_product, .ref q_p0_turned, .ref q_p0_tape, .int v_p0_taped, .int v_p0_hasWhy, .ref q_p0_reasons, .int v_p0_hasImage, .int v_p0_imageN, .int v_p0_imageWay, .ref q_p0_imageLed])), (q_p0_loop, .inl (cI, 6, .inl f_p0_loop)), (q_p0_led, .inl (cI, 8, .inl f_p0_led)), (q_p0_patterns, .inl (cI, 800, .inl f_p0_patterns)), (q_p0_ranks, .inl (cI, 6, .inl f_p0_ranks))] H → va_D A [(q_p0, .inr (7, [.int v_p0_n, .int v_p0_way, .ref q_p0_led, .int v_p0_deeds, .ref q_p0_were, .ref q_p0_paths, .ref q_p0_more, .ref q_p0_patterns, .int v_p0_patternMany, .ref q_p0_loop, .ref q_p0_ranks, .ref q_p0_counts, .ref q_p0_then, .ref q_p0_table, .ref q_p0_product, .ref q_p0_turned, .ref q_p0_tape, .int v_p0_taped, .int v_p0_hasWhy, .ref q_p0_reasons, .int v_p0_hasImage, .int v_p0_imageN, .int v_p0_imageWay, .ref q_p0_imageLed])), (q_p0_loop, .inl (cI, 6, .inl f_p0_loop)), (q_p0_led, .inl (cI, 8, .inl f_p0_led)), (q_p0_patterns, .inl (cI, 800, .inl f_p0_patterns)), (q_p0_ranks, .inl (cI, 6, .inl f_p0_ranks))] → va_S A s.heap H locs → lv_has ls 6 [(0, .ref q_p0), (1, .int x1), (2, .int l2), (3, .int l3), (4, .int l4), (5, .int l5)] → W p l e { frames := 11, cells := 0, slots := 0, locals := 263 } s m args below meth c H locs 0 0 Q (F0 m 44 ls []) := by
            intro l2 l3 v_p0_patternMany f_p0_patterns n44
            induction n44 with
            | zero =>
              intro l4 l5 f_p0_ranks H locs ls h
              exact False.elim h
            | succ n44 ih44 =>
              intro l4 l5 f_p0_ranks H locs ls h hP hD hS hl
              have h : M_X9_tellsPatterns_l44 x1 f_p0_led v_p0_n v_p0_way (LP4 (M_X9_tellsPatterns_l13 x1 f_p0_led v_p0_n v_p0_way P f_p0_loop) n13) P l2 l3 v_p0_patternMany f_p0_patterns f_p0_loop (LP3 (M_X9_tellsPatterns_l44 x1 f_p0_led v_p0_n v_p0_way (LP4 (M_X9_tellsPatterns_l13 x1 f_p0_led v_p0_n v_p0_way P f_p0_loop) n13) P l2 l3 v_p0_patternMany f_p0_patterns f_p0_loop) n44) l4 l5 f_p0_ranks := h
              refine lv_iload hx hb dX9_tellsPatterns_44 (lv_at hl 5 rfl) ?_
              refine lv_iload_n hx hb dX9_tellsPatterns_46 rfl (lv_at hl 1 rfl) ?_
              refine lv_icmp_ge (tgt := 83) hx hb dX9_tellsPatterns_47 (by decide) (fun c8 => ?_) (fun c8 => ?_)
              · have h := And.left h c8
                refine lv_aload_n hx hb dX9_tellsPatterns_83 rfl (lv_at hl 0 rfl) ?_
                refine lv_iload_n hx hb dX9_tellsPatterns_84 rfl (lv_at hl 1 rfl) ?_
                refine z_cVv (As := [.int x1]) (rest := []) (wr := [(q_p0_loop, .inl (cI, 6, .inl f_p0_loop)), (q_p0_led, .inl (cI, 8, .inl f_p0_led))]) (wn := fun u => [(q_p0, .inr (7, [.int v_p0_n, .int v_p0_way, .ref q_p0_led, .int v_p0_deeds, .ref q_p0_were, .ref q_p0_paths, .ref q_p0_more, .ref q_p0_patterns, .int u.2, .ref q_p0_loop, .ref q_p0_ranks, .ref q_p0_counts, .ref q_p0_then, .ref q_p0_table, .ref q_p0_product, .ref q_p0_turned, .ref q_p0_tape, .int v_p0_taped, .int v_p0_hasWhy, .ref q_p0_reasons, .int v_p0_hasImage, .int v_p0_imageN, .int v_p0_imageWay, .ref q_p0_imageLed])), (q_p0_loop, .inl (cI, 6, .inl f_p0_loop)), (q_p0_led, .inl (cI, 8, .inl f_p0_led)), (q_p0_patterns, .inl (cI, 800, .inl u.1)), (q_p0_ranks, .inl (cI, 6, .inl f_p0_ranks))]) (c_X9_comesBy l D cI cJ cB tU tM tS q_p0 q_p0_led q_p0_were q_p0_paths q_p0_more q_p0_patterns q_p0_loop q_p0_ranks q_p0_counts q_p0_then q_p0_table q_p0_product q_p0_turned q_p0_tape q_p0_reasons q_p0_imageLed H.size x1 v_p0_patternMany f_p0_patterns f_p0_ranks v_p0_n v_p0_way v_p0_deeds v_p0_taped v_p0_hasWhy v_p0_hasImage v_p0_imageN v_p0_imageWay _ h) ⟨hx, hb, hml, hown, hts⟩ (cwV 1 hts gX9_tellsPatterns_X9_comesBy rfl rfl rfl hd_X9_comesBy ⟨Nat.le_of_ble_eq_true rfl, Nat.le_of_ble_eq_true rfl⟩) hX hK hP hD hS hA [0, 3, 4] [1, 2] [2, 0, 1, 3, 4] rfl rfl rfl (by decide) (fun _ => rfl) (q0 := 0) (ci := 7) rfl rfl rfl hl.1 rfl (Nat.le_of_ble_eq_true rfl) ⟨Nat.le_refl _, Nat.le_refl _⟩ dX9_tellsPatterns_85 (fun u9 H locs h hP hD hS => ?_)
                obtain ⟨m9_0, m9_1⟩ := u9
                refine lv_iinc (v := (l2 + 1)) (lv' := [(2, .int (l2 + 1)), (0, .ref q_p0), (1, .int x1), (3, .int l3), (4, .int l4), (5, .int l5)]) hx hb dX9_tellsPatterns_88 hl (k := 2) rfl rfl (by decide) rfl (fun ls hl => ?_)
                refine lv_goto (tgt := 13) hx hb dX9_tellsPatterns_91 (by decide) ?_
                exact ih13 (l2 + 1) m9_1 m9_0 f_p0_ranks _ _ _ h hP hD hS (lv_sub hl [1, 2, 0] rfl)
              · have h := And.right h c8
                refine lv_aload_n hx hb dX9_tellsPatterns_50 rfl (lv_at hl 0 rfl) ?_
                refine va_get (ci := 7) (C := RX9) (T := TX9) (N := 24) (v := .ref q_p0_ranks) hx hb hts hinX9 hown hK hP 0 rfl rfl 10 (by decide) hw1 (fun _ h9 => h9) rfl dX9_tellsPatterns_51 ?_
                refine lv_iload hx hb dX9_tellsPatterns_54 (lv_at hl 5 rfl) ?_
                refine lv_iload_n hx hb dX9_tellsPatterns_56 rfl (lv_at hl 3 rfl) ?_
                refine lv_iconst (v := (1 : Int32)) hx hb dX9_tellsPatterns_57 (by decide) ?_
                refine lv_iload hx hb dX9_tellsPatterns_58 (lv_at hl 4 rfl) ?_
                refine lv_ishl hx hb dX9_tellsPatterns_60 ?_
                refine lv_iconst (v := (1 : Int32)) hx hb dX9_tellsPatterns_61 (by decide) ?_
                refine lv_isub hx hb dX9_tellsPatterns_62 ?_
                refine lv_iand hx hb dX9_tellsPatterns_63 ?_
                refine z_cSi (As := [.int (l3 &&& (((1 : Int32) <<< (l4 &&& 31)) - (1 : Int32)))]) (rest := [.int l5, .ref q_p0_ranks]) (wr := [(q_p0, .inr (7, [.int v_p0_n, .int v_p0_way, .ref q_p0_led, .int v_p0_deeds, .ref q_p0_were, .ref q_p0_paths, .ref q_p0_more, .ref q_p0_patterns, .int v_p0_patternMany, .ref q_p0_loop, .ref q_p0_ranks, .ref q_p0_counts, .ref q_p0_then, .ref q_p0_table, .ref q_p0_product, .ref q_p0_turned, .ref q_p0_tape, .int v_p0_taped, .int v_p0_hasWhy, .ref q_p0_reasons, .int v_p0_hasImage, .int v_p0_imageN, .int v_p0_imageWay, .ref q_p0_imageLed])), (q_p0_loop, .inl (cI, 6, .inl f_p0_loop)), (q_p0_led, .inl (cI, 8, .inl f_p0_led)), (q_p0_patterns, .inl (cI, 800, .inl f_p0_patterns)), (q_p0_ranks, .inl (cI, 6, .inl f_p0_ranks))]) (wn := fun u => [(q_p0, .inr (7, [.int v_p0_n, .int v_p0_way, .ref q_p0_led, .int v_p0_deeds, .ref q_p0_were, .ref q_p0_paths, .ref q_p0_more, .ref q_p0_patterns, .int v_p0_patternMany, .ref q_p0_loop, .ref q_p0_ranks, .ref q_p0_counts, .ref q_p0_then, .ref q_p0_table, .ref q_p0_product, .ref q_p0_turned, .ref q_p0_tape, .int v_p0_taped, .int v_p0_hasWhy, .ref q_p0_reasons, .int v_p0_hasImage, .int v_p0_imageN, .int v_p0_imageWay, .ref q_p0_imageLed])), (q_p0_loop, .inl (cI, 6, .inl f_p0_loop)), (q_p0_led, .inl (cI, 8, .inl f_p0_led)), (q_p0_patterns, .inl (cI, 800, .inl f_p0_patterns)), (q_p0_ranks, .inl (cI, 6, .inl f_p0_ranks))]) (c_J6_bitCount_0f7a4 l D cI cJ cB tU tM tS  H.size (l3 &&& (((1 : Int32) <<< (l4 &&& 31)) - (1 : Int32))) _ h) ⟨hx, hb, hml, hown, hts⟩ (va_cwS 1 hts gX9_tellsPatterns_J6_bitCount_0f7a4 rfl rfl rfl hd_J6_bitCount_0f7a4.2 ⟨Nat.le_of_ble_eq_true rfl, Nat.le_of_ble_eq_true rfl⟩) hX hK hP hD hS hA [] [0, 1, 2, 3, 4] [0, 1, 2, 3, 4] rfl rfl rfl (by decide) (fun _ => rfl) rfl hl.1 rfl (Nat.le_of_ble_eq_true rfl) ⟨Nat.le_refl _, Nat.le_refl _⟩ dX9_tellsPatterns_64 (fun r10 u10 H locs h hP hD hS => ?_)
                obtain ⟨hi11, h⟩ := h
                refine z_iast (wn := [(q_p0, .inr (7, [.int v_p0_n, .int v_p0_way, .ref q_p0_led, .int v_p0_deeds, .ref q_p0_were, .ref q_p0_paths, .ref q_p0_more, .ref q_p0_patterns, .int v_p0_patternMany, .ref q_p0_loop, .ref q_p0_ranks, .ref q_p0_counts, .ref q_p0_then, .ref q_p0_table, .ref q_p0_product, .ref q_p0_turned, .ref q_p0_tape, .int v_p0_taped, .int v_p0_hasWhy, .ref q_p0_reasons, .int v_p0_hasImage, .int v_p0_imageN, .int v_p0_imageWay, .ref q_p0_imageLed])), (q_p0_loop, .inl (cI, 6, .inl f_p0_loop)), (q_p0_led, .inl (cI, 8, .inl f_p0_led)), (q_p0_patterns, .inl (cI, 800, .inl f_p0_patterns)), (q_p0_ranks, .inl (cI, 6, .inl (upd f_p0_ranks l5.toNatClampNeg r10)))]) hx hb hK hP hD hS 4 rfl hi11 dX9_tellsPatterns_67 rfl (fun H locs hP hD hS => ?_)
                refine lv_aload_n hx hb dX9_tellsPatterns_68 rfl (lv_at hl 0 rfl) ?_
                refine va_get (ci := 7) (C := RX9) (T := TX9) (N := 24) (v := .ref q_p0_led) hx hb hts hinX9 hown hK hP 0 rfl rfl 2 (by decide) hw2 (fun _ h9 => h9) rfl dX9_tellsPatterns_69 ?_
                refine lv_iload hx hb dX9_tellsPatterns_72 (lv_at hl 4 rfl) ?_
                obtain ⟨hi12, h⟩ := h
                refine va_iald hx hb hK hP 2 0 rfl rfl hi12 dX9_tellsPatterns_74 ?_
                refine lv_istore (lv' := [(4, .int (f_p0_led l4.toNatClampNeg)), (0, .ref q_p0), (1, .int x1), (2, .int l2), (3, .int l3), (5, .int l5)]) hx hb dX9_tellsPatterns_75 hl (by decide) rfl (fun ls hl => ?_)
                refine lv_iinc (v := (l5 + 1)) (lv' := [(5, .int (l5 + 1)), (4, .int (f_p0_led l4.toNatClampNeg)), (0, .ref q_p0), (1, .int x1), (2, .int l2), (3, .int l3)]) hx hb dX9_tellsPatterns_77 hl (k := 5) rfl rfl (by decide) rfl (fun ls hl => ?_)
                refine lv_goto (tgt := 44) hx hb dX9_tellsPatterns_80 (by decide) ?_
                exact ih44 (f_p0_led l4.toNatClampNeg) (l5 + 1) (upd f_p0_ranks l5.toNatClampNeg r10) _ _ _ h hP hD hS (lv_sub hl [2, 3, 4, 5, 1, 0] rfl)
          obtain ⟨n44, h⟩ := h
          exact k44 l2 r4 v_p0_patternMany f_p0_patterns n44 r7 (0 : Int32) f_p0_ranks _ _ _ h hP hD hS (lv_sub hl [3, 4, 5, 2, 1, 0] rfl)
  obtain ⟨n13, h⟩ := h
  exact k13 m1_3 n13 (0 : Int32) m1_1 m1_0 m1_2 _ _ _ h hP hD hS (lv_sub hl [1, 2, 0] rfl)
theorem hd_X9_pattern : yX9_pattern.cls = RX9 ∧ yX9_pattern.cls ≠ "java/lang/invoke/MethodHandle" ∧ yX9_pattern.cls ≠ "java/lang/invoke/VarHandle" ∧ (parseMethodDescriptor yX9_pattern.desc).map (fun d => d.parameters.length) = some 2 := by decide +kernel
set_option maxHeartbeats 4000000 in
set_option maxRecDepth 100000 in
theorem c_X9_pattern (l : Launch) (D : va_G) (cI cJ cB : ClassId) (tU tM tS : Nat) (q_p0 q_p0_led q_p0_were q_p0_paths q_p0_more q_p0_patterns q_p0_loop q_p0_ranks q_p0_counts q_p0_then q_p0_table q_p0_product q_p0_turned q_p0_tape q_p0_reasons q_p0_imageLed : Nat) (sz : Nat) (x1 : Int32) (x2 : Int32) (v_p0_way : Int32) (v_p0_patternMany : Int32) (f_p0_loop : (Nat → Int32)) (f_p0_led : (Nat → Int32)) (v_p0_n : Int32) (f_p0_patterns : (Nat → Int32)) (f_p0_ranks : (Nat → Int32)) (v_p0_deeds : Int32) (v_p0_taped : Int32) (v_p0_hasWhy : Int32) (v_p0_hasImage : Int32) (v_p0_imageN : Int32) (v_p0_imageWay : Int32) (P : Int32 → Int32 → (Nat → Int32) → (Nat → Int32) → (Nat → Int32) → Prop) (h : M_X9_pattern x1 x2 v_p0_way v_p0_patternMany f_p0_loop f_p0_led v_p0_n f_p0_patterns f_p0_ranks P) : Met l yX9_pattern wsX9_pattern ({ frames := 12, cells := 0, slots := 0, locals := 288 }) (va_Pc [.ref q_p0, .int x1, .int x2] (zPre D cI cJ cB tU tM tS [(q_p0, .inr (7, [.int v_p0_n, .int v_p0_way, .ref q_p0_led, .int v_p0_deeds, .ref q_p0_were, .ref q_p0_paths, .ref q_p0_more, .ref q_p0_patterns, .int v_p0_patternMany, .ref q_p0_loop, .ref q_p0_ranks, .ref q_p0_counts, .ref q_p0_then, .ref q_p0_table, .ref q_p0_product, .ref q_p0_turned, .ref q_p0_tape, .int v_p0_taped, .int v_p0_hasWhy, .ref q_p0_reasons, .int v_p0_hasImage, .int v_p0_imageN, .int v_p0_imageWay, .ref q_p0_imageLed])), (q_p0_loop, .inl (cI, 6, .inl f_p0_loop)), (q_p0_led, .inl (cI, 8, .inl f_p0_led)), (q_p0_patterns, .inl (cI, 800, .inl f_p0_patterns)), (q_p0_ranks, .inl (cI, 6, .inl f_p0_ranks))] sz)) (va_Qi (fun (r : Int32) (u : Int32 × (Nat → Int32) × (Nat → Int32) × (Nat → Int32)) => P r u.1 u.2.1 u.2.2.1 u.2.2.2) (fun u t => zPost D cI cJ cB (va_A [(q_p0, .inr (7, [.int v_p0_n, .int v_p0_way, .ref q_p0_led, .int v_p0_deeds, .ref q_p0_were, .ref q_p0_paths, .ref q_p0_more, .ref q_p0_patterns, .int v_p0_patternMany, .ref q_p0_loop, .ref q_p0_ranks, .ref q_p0_counts, .ref q_p0_then, .ref q_p0_table, .ref q_p0_product, .ref q_p0_turned, .ref q_p0_tape, .int v_p0_taped, .int v_p0_hasWhy, .ref q_p0_reasons, .int v_p0_hasImage, .int v_p0_imageN, .int v_p0_imageWay, .ref q_p0_imageLed])), (q_p0_loop, .inl (cI, 6, .inl f_p0_loop)), (q_p0_led, .inl (cI, 8, .inl f_p0_led)), (q_p0_patterns, .inl (cI, 800, .inl f_p0_patterns)), (q_p0_ranks, .inl (cI, 6, .inl f_p0_ranks))] sz) [(q_p0, .inr (7, [.int v_p0_n, .int v_p0_way, .ref q_p0_led, .int v_p0_deeds, .ref q_p0_were, .ref q_p0_paths, .ref q_p0_more, .ref q_p0_patterns, .int u.1, .ref q_p0_loop, .ref q_p0_ranks, .ref q_p0_counts, .ref q_p0_then, .ref q_p0_table, .ref q_p0_product, .ref q_p0_turned, .ref q_p0_tape, .int v_p0_taped, .int v_p0_hasWhy, .ref q_p0_reasons, .int v_p0_hasImage, .int v_p0_imageN, .int v_p0_imageWay, .ref q_p0_imageLed])), (q_p0_loop, .inl (cI, 6, .inl u.2.2.2)), (q_p0_led, .inl (cI, 8, .inl f_p0_led)), (q_p0_patterns, .inl (cI, 800, .inl u.2.1)), (q_p0_ranks, .inl (cI, 6, .inl u.2.2.1))] t) (va_A [(q_p0, .inr (7, [.int v_p0_n, .int v_p0_way, .ref q_p0_led, .int v_p0_deeds, .ref q_p0_were, .ref q_p0_paths, .ref q_p0_more, .ref q_p0_patterns, .int v_p0_patternMany, .ref q_p0_loop, .ref q_p0_ranks, .ref q_p0_counts, .ref q_p0_then, .ref q_p0_table, .ref q_p0_product, .ref q_p0_turned, .ref q_p0_tape, .int v_p0_taped, .int v_p0_hasWhy, .ref q_p0_reasons, .int v_p0_hasImage, .int v_p0_imageN, .int v_p0_imageWay, .ref q_p0_imageLed])), (q_p0_loop, .inl (cI, 6, .inl f_p0_loop)), (q_p0_led, .inl (cI, 8, .inl f_p0_led)), (q_p0_patterns, .inl (cI, 800, .inl f_p0_patterns)), (q_p0_ranks, .inl (cI, 6, .inl f_p0_ranks))] sz)) 0 0 (va_A [(q_p0, .inr (7, [.int v_p0_n, .int v_p0_way, .ref q_p0_led, .int v_p0_deeds, .ref q_p0_were, .ref q_p0_paths, .ref q_p0_more, .ref q_p0_patterns, .int v_p0_patternMany, .ref q_p0_loop, .ref q_p0_ranks, .ref q_p0_counts, .ref q_p0_then, .ref q_p0_table, .ref q_p0_product, .ref q_p0_turned, .ref q_p0_tape, .int v_p0_taped, .int v_p0_hasWhy, .ref q_p0_reasons, .int v_p0_hasImage, .int v_p0_imageN, .int v_p0_imageWay, .ref q_p0_imageLed])), (q_p0_loop, .inl (cI, 6, .inl f_p0_loop)), (q_p0_led, .inl (cI, 8, .inl f_p0_led)), (q_p0_patterns, .inl (cI, 800, .inl f_p0_patterns)), (q_p0_ranks, .inl (cI, 6, .inl f_p0_ranks))] sz) := by
  refine z_met (cc := cX9_pattern) (maxL := 3) (ret := (some .int)) (Qc := fun A => va_Qi (fun (r : Int32) (u : Int32 × (Nat → Int32) × (Nat → Int32) × (Nat → Int32)) => P r u.1 u.2.1 u.2.2.1 u.2.2.2) (fun u t => zPost D cI cJ cB A [(q_p0, .inr (7, [.int v_p0_n, .int v_p0_way, .ref q_p0_led, .int v_p0_deeds, .ref q_p0_were, .ref q_p0_paths, .ref q_p0_more, .ref q_p0_patterns, .int u.1, .ref q_p0_loop, .ref q_p0_ranks, .ref q_p0_counts, .ref q_p0_then, .ref q_p0_table, .ref q_p0_product, .ref q_p0_turned, .ref q_p0_tape, .int v_p0_taped, .int v_p0_hasWhy, .ref q_p0_reasons, .int v_p0_hasImage, .int v_p0_imageN, .int v_p0_imageWay, .ref q_p0_imageLed])), (q_p0_loop, .inl (cI, 6, .inl u.2.2.2)), (q_p0_led, .inl (cI, 8, .inl f_p0_led)), (q_p0_patterns, .inl (cI, 800, .inl u.2.1)), (q_p0_ranks, .inl (cI, 6, .inl u.2.2.1))] t) A) (by decide) rfl [.ref q_p0, .int x1, .int x2] (Nat.le_of_ble_eq_true rfl) ?_
  intro p e s m args below meth c A hx hb hr hts hown hml hlocks hA hX hK H locs hP hD hS ls hl Q hQ
  have hown : s.vm.findClass RX9 = some m.cls := hown
  have hl : lv_has ls 3 [(0, .ref q_p0), (1, .int x1), (2, .int x2)] := hl
  have hw0 : (Cond.constantLong RX9 69 (2)).before args s = true := hts _ (List.mem_of_getElem? (i := 1) rfl)
  have hw1 : (Cond.constantLong RX9 188 (6)).before args s = true := hts _ (List.mem_of_getElem? (i := 2) rfl)
  have hw2 : (Cond.fieldLink RX9 73 "ForcedRingsModel" "way" "I").before args s = true := hts _ (List.mem_of_getElem? (i := 3) rfl)
  have hw3 : (Cond.fieldLink RX9 168 "ForcedRingsModel" "patternMany" "I").before args s = true := hts _ (List.mem_of_getElem? (i := 4) rfl)
  have hw4 : (Cond.fieldLink RX9 29 "ForcedRingsModel" "patterns" "[I").before args s = true := hts _ (List.mem_of_getElem? (i := 5) rfl)
  have hinX9 : ∀ w ∈ wsX90, w ∈ wsX9_pattern := fun _ h => List.mem_cons_of_mem _ (List.mem_append_right _ h)
  refine lv_iload_n hx hb dX9_pattern_0 rfl (lv_at hl 1 rfl) ?_
  refine lv_i2l (v := x1.toInt64) hx hb dX9_pattern_1 rfl ?_
  refine lv_ldc2 (v := (2 : Int64)) hx hb hown hw0 dX9_pattern_2 ?_
  refine lv_ldc2 (v := (6 : Int64)) hx hb hown hw1 dX9_pattern_5 ?_
  refine z_cSi (As := [.long x1.toInt64, .long (2 : Int64), .long (6 : Int64)]) (rest := []) (wr := [(q_p0, .inr (7, [.int v_p0_n, .int v_p0_way, .ref q_p0_led, .int v_p0_deeds, .ref q_p0_were, .ref q_p0_paths, .ref q_p0_more, .ref q_p0_patterns, .int v_p0_patternMany, .ref q_p0_loop, .ref q_p0_ranks, .ref q_p0_counts, .ref q_p0_then, .ref q_p0_table, .ref q_p0_product, .ref q_p0_turned, .ref q_p0_tape, .int v_p0_taped, .int v_p0_hasWhy, .ref q_p0_reasons, .int v_p0_hasImage, .int v_p0_imageN, .int v_p0_imageWay, .ref q_p0_imageLed])), (q_p0_loop, .inl (cI, 6, .inl f_p0_loop)), (q_p0_led, .inl (cI, 8, .inl f_p0_led)), (q_p0_patterns, .inl (cI, 800, .inl f_p0_patterns)), (q_p0_ranks, .inl (cI, 6, .inl f_p0_ranks))]) (wn := fun u => [(q_p0, .inr (7, [.int v_p0_n, .int v_p0_way, .ref q_p0_led, .int v_p0_deeds, .ref q_p0_were, .ref q_p0_paths, .ref q_p0_more, .ref q_p0_patterns, .int v_p0_patternMany, .ref q_p0_loop, .ref q_p0_ranks, .ref q_p0_counts, .ref q_p0_then, .ref q_p0_table, .ref q_p0_product, .ref q_p0_turned, .ref q_p0_tape, .int v_p0_taped, .int v_p0_hasWhy, .ref q_p0_reasons, .int v_p0_hasImage, .int v_p0_imageN, .int v_p0_imageWay, .ref q_p0_imageLed])), (q_p0_loop, .inl (cI, 6, .inl f_p0_loop)), (q_p0_led, .inl (cI, 8, .inl f_p0_led)), (q_p0_patterns, .inl (cI, 800, .inl f_p0_patterns)), (q_p0_ranks, .inl (cI, 6, .inl f_p0_ranks))]) (c_X9_in l D cI cJ cB tU tM tS  H.size x1.toInt64 (2 : Int64) (6 : Int64) _ h) ⟨hx, hb, hml, hown, hts⟩ (va_cwS 3 hts gX9_pattern_X9_in rfl rfl rfl hd_X9_in.2 ⟨Nat.le_of_ble_eq_true rfl, Nat.le_of_ble_eq_true rfl⟩) hX hK hP hD hS hA [] [0, 1, 2, 3, 4] [0, 1, 2, 3, 4] rfl rfl rfl (by decide) (fun _ => rfl) rfl hl.1 rfl (Nat.le_of_ble_eq_true rfl) ⟨Nat.le_refl _, Nat.le_refl _⟩ dX9_pattern_8 (fun r1 u1 H locs h hP hD hS => ?_)
  refine lv_if_eq (tgt := 19) hx hb dX9_pattern_11 (by decide) (fun c2 => ?_) (fun c2 => ?_)
  · have h := And.left h c2
    refine lv_bipush (v := (-2 : Int32)) hx hb dX9_pattern_19 (by decide) ?_
    exact z_iret hQ hx hb hr rfl hlocks hK (v_p0_patternMany, f_p0_patterns, f_p0_ranks, f_p0_loop) h hP hD hS dX9_pattern_21
  · have h := And.right h c2
    refine lv_iload_n hx hb dX9_pattern_14 rfl (lv_at hl 2 rfl) ?_
    refine lv_iconst (v := (-1 : Int32)) hx hb dX9_pattern_15 (by decide) ?_
    refine lv_icmp_ge (tgt := 22) hx hb dX9_pattern_16 (by decide) (fun c3 => ?_) (fun c3 => ?_)
    · have h := And.left h c3
      refine lv_aload_n hx hb dX9_pattern_22 rfl (lv_at hl 0 rfl) ?_
      refine va_get (ci := 7) (C := RX9) (T := TX9) (N := 24) (v := .int v_p0_way) hx hb hts hinX9 hown hK hP 0 rfl rfl 1 (by decide) hw2 (fun _ h9 => h9) rfl dX9_pattern_23 ?_
      refine lv_iconst (v := (1 : Int32)) hx hb dX9_pattern_26 (by decide) ?_
      refine lv_icmp_ne (tgt := 33) hx hb dX9_pattern_27 (by decide) (fun c4 => ?_) (fun c4 => ?_)
      · have h := And.right h c4
        refine lv_aload_n hx hb dX9_pattern_33 rfl (lv_at hl 0 rfl) ?_
        refine lv_iload_n hx hb dX9_pattern_34 rfl (lv_at hl 1 rfl) ?_
        refine z_cVv (As := [.int x1]) (rest := []) (wr := []) (wn := fun u => [(q_p0, .inr (7, [.int v_p0_n, .int v_p0_way, .ref q_p0_led, .int v_p0_deeds, .ref q_p0_were, .ref q_p0_paths, .ref q_p0_more, .ref q_p0_patterns, .int u.1, .ref q_p0_loop, .ref q_p0_ranks, .ref q_p0_counts, .ref q_p0_then, .ref q_p0_table, .ref q_p0_product, .ref q_p0_turned, .ref q_p0_tape, .int v_p0_taped, .int v_p0_hasWhy, .ref q_p0_reasons, .int v_p0_hasImage, .int v_p0_imageN, .int v_p0_imageWay, .ref q_p0_imageLed])), (q_p0_loop, .inl (cI, 6, .inl u.2.2.2)), (q_p0_led, .inl (cI, 8, .inl f_p0_led)), (q_p0_patterns, .inl (cI, 800, .inl u.2.1)), (q_p0_ranks, .inl (cI, 6, .inl u.2.2.1))]) (c_X9_tellsPatterns l D cI cJ cB tU tM tS q_p0 q_p0_led q_p0_were q_p0_paths q_p0_more q_p0_patterns q_p0_loop q_p0_ranks q_p0_counts q_p0_then q_p0_table q_p0_product q_p0_turned q_p0_tape q_p0_reasons q_p0_imageLed H.size x1 v_p0_patternMany f_p0_loop f_p0_led v_p0_n v_p0_way f_p0_patterns f_p0_ranks v_p0_deeds v_p0_taped v_p0_hasWhy v_p0_hasImage v_p0_imageN v_p0_imageWay _ h) ⟨hx, hb, hml, hown, hts⟩ (cwV 1 hts gX9_pattern_X9_tellsPatterns rfl rfl rfl hd_X9_tellsPatterns ⟨Nat.le_of_ble_eq_true rfl, Nat.le_of_ble_eq_true rfl⟩) hX hK hP hD hS hA [0, 1, 2, 3, 4] [] [0, 1, 2, 3, 4] rfl rfl rfl (by decide) (fun _ => rfl) (q0 := 0) (ci := 7) rfl rfl rfl hl.1 rfl (Nat.le_of_ble_eq_true rfl) ⟨Nat.le_refl _, Nat.le_refl _⟩ dX9_pattern_35 (fun u5 H locs h hP hD hS => ?_)
        obtain ⟨m5_0, m5_1, m5_2, m5_3⟩ := u5
        refine lv_iload_n hx hb dX9_pattern_38 rfl (lv_at hl 2 rfl) ?_
        refine lv_iconst (v := (-1 : Int32)) hx hb dX9_pattern_39 (by decide) ?_
        refine lv_icmp_ne (tgt := 50) hx hb dX9_pattern_40 (by decide) (fun c6 => ?_) (fun c6 => ?_)
        · have h := And.right h c6
          refine lv_iload_n hx hb dX9_pattern_50 rfl (lv_at hl 2 rfl) ?_
          refine lv_aload_n hx hb dX9_pattern_51 rfl (lv_at hl 0 rfl) ?_
          refine va_get (ci := 7) (C := RX9) (T := TX9) (N := 24) (v := .int m5_0) hx hb hts hinX9 hown hK hP 0 rfl rfl 8 (by decide) hw3 (fun _ h9 => h9) rfl dX9_pattern_52 ?_
          refine lv_icmp_ge (tgt := 67) hx hb dX9_pattern_55 (by decide) (fun c7 => ?_) (fun c7 => ?_)
          · have h := And.left h c7
            refine lv_iconst (v := (-1 : Int32)) hx hb dX9_pattern_67 (by decide) ?_
            exact z_iret hQ hx hb hr rfl hlocks hK (m5_0, m5_1, m5_2, m5_3) h hP hD hS dX9_pattern_68
          · have h := And.right h c7
            refine lv_aload_n hx hb dX9_pattern_58 rfl (lv_at hl 0 rfl) ?_
            refine va_get (ci := 7) (C := RX9) (T := TX9) (N := 24) (v := .ref q_p0_patterns) hx hb hts hinX9 hown hK hP 0 rfl rfl 7 (by decide) hw4 (fun _ h9 => h9) rfl dX9_pattern_59 ?_
            refine lv_iload_n hx hb dX9_pattern_62 rfl (lv_at hl 2 rfl) ?_
            obtain ⟨hi8, h⟩ := h
            refine va_iald hx hb hK hP 3 0 rfl rfl hi8 dX9_pattern_63 ?_
            refine lv_goto (tgt := 68) hx hb dX9_pattern_64 (by decide) ?_
            exact z_iret hQ hx hb hr rfl hlocks hK (m5_0, m5_1, m5_2, m5_3) h hP hD hS dX9_pattern_68
        · have h := And.left h c6
          refine lv_aload_n hx hb dX9_pattern_43 rfl (lv_at hl 0 rfl) ?_
          refine va_get (ci := 7) (C := RX9) (T := TX9) (N := 24) (v := .int m5_0) hx hb hts hinX9 hown hK hP 0 rfl rfl 8 (by decide) hw3 (fun _ h9 => h9) rfl dX9_pattern_44 ?_
          refine lv_goto (tgt := 68) hx hb dX9_pattern_47 (by decide) ?_
          exact z_iret hQ hx hb hr rfl hlocks hK (m5_0, m5_1, m5_2, m5_3) h hP hD hS dX9_pattern_68
      · have h := And.left h c4
        refine lv_bipush (v := (-3 : Int32)) hx hb dX9_pattern_30 (by decide) ?_
        exact z_iret hQ hx hb hr rfl hlocks hK (v_p0_patternMany, f_p0_patterns, f_p0_ranks, f_p0_loop) h hP hD hS dX9_pattern_32
    · have h := And.right h c3
      refine lv_bipush (v := (-2 : Int32)) hx hb dX9_pattern_19 (by decide) ?_
      exact z_iret hQ hx hb hr rfl hlocks hK (v_p0_patternMany, f_p0_patterns, f_p0_ranks, f_p0_loop) h hP hD hS dX9_pattern_21
theorem hd_X9_has : yX9_has.cls = RX9 ∧ yX9_has.cls ≠ "java/lang/invoke/MethodHandle" ∧ yX9_has.cls ≠ "java/lang/invoke/VarHandle" ∧ (parseMethodDescriptor yX9_has.desc).map (fun d => d.parameters.length) = some 2 := by decide +kernel
set_option maxHeartbeats 4000000 in
set_option maxRecDepth 100000 in
theorem c_X9_has (l : Launch) (D : va_G) (cI cJ cB : ClassId) (tU tM tS : Nat) (q_p0 q_p0_led q_p0_were q_p0_paths q_p0_more q_p0_patterns q_p0_loop q_p0_ranks q_p0_counts q_p0_then q_p0_table q_p0_product q_p0_turned q_p0_tape q_p0_reasons q_p0_imageLed : Nat) (sz : Nat) (x1 : Int32) (x2 : Int32) (v_p0_way : Int32) (v_p0_patternMany : Int32) (f_p0_loop : (Nat → Int32)) (f_p0_led : (Nat → Int32)) (v_p0_n : Int32) (f_p0_patterns : (Nat → Int32)) (f_p0_ranks : (Nat → Int32)) (v_p0_deeds : Int32) (v_p0_taped : Int32) (v_p0_hasWhy : Int32) (v_p0_hasImage : Int32) (v_p0_imageN : Int32) (v_p0_imageWay : Int32) (P : Int32 → Int32 → (Nat → Int32) → (Nat → Int32) → (Nat → Int32) → Prop) (h : M_X9_has x1 x2 v_p0_way v_p0_patternMany f_p0_loop f_p0_led v_p0_n f_p0_patterns f_p0_ranks P) : Met l yX9_has wsX9_has ({ frames := 12, cells := 0, slots := 0, locals := 288 }) (va_Pc [.ref q_p0, .int x1, .int x2] (zPre D cI cJ cB tU tM tS [(q_p0, .inr (7, [.int v_p0_n, .int v_p0_way, .ref q_p0_led, .int v_p0_deeds, .ref q_p0_were, .ref q_p0_paths, .ref q_p0_more, .ref q_p0_patterns, .int v_p0_patternMany, .ref q_p0_loop, .ref q_p0_ranks, .ref q_p0_counts, .ref q_p0_then, .ref q_p0_table, .ref q_p0_product, .ref q_p0_turned, .ref q_p0_tape, .int v_p0_taped, .int v_p0_hasWhy, .ref q_p0_reasons, .int v_p0_hasImage, .int v_p0_imageN, .int v_p0_imageWay, .ref q_p0_imageLed])), (q_p0_loop, .inl (cI, 6, .inl f_p0_loop)), (q_p0_led, .inl (cI, 8, .inl f_p0_led)), (q_p0_patterns, .inl (cI, 800, .inl f_p0_patterns)), (q_p0_ranks, .inl (cI, 6, .inl f_p0_ranks))] sz)) (va_Qi (fun (r : Int32) (u : Int32 × (Nat → Int32) × (Nat → Int32) × (Nat → Int32)) => P r u.1 u.2.1 u.2.2.1 u.2.2.2) (fun u t => zPost D cI cJ cB (va_A [(q_p0, .inr (7, [.int v_p0_n, .int v_p0_way, .ref q_p0_led, .int v_p0_deeds, .ref q_p0_were, .ref q_p0_paths, .ref q_p0_more, .ref q_p0_patterns, .int v_p0_patternMany, .ref q_p0_loop, .ref q_p0_ranks, .ref q_p0_counts, .ref q_p0_then, .ref q_p0_table, .ref q_p0_product, .ref q_p0_turned, .ref q_p0_tape, .int v_p0_taped, .int v_p0_hasWhy, .ref q_p0_reasons, .int v_p0_hasImage, .int v_p0_imageN, .int v_p0_imageWay, .ref q_p0_imageLed])), (q_p0_loop, .inl (cI, 6, .inl f_p0_loop)), (q_p0_led, .inl (cI, 8, .inl f_p0_led)), (q_p0_patterns, .inl (cI, 800, .inl f_p0_patterns)), (q_p0_ranks, .inl (cI, 6, .inl f_p0_ranks))] sz) [(q_p0, .inr (7, [.int v_p0_n, .int v_p0_way, .ref q_p0_led, .int v_p0_deeds, .ref q_p0_were, .ref q_p0_paths, .ref q_p0_more, .ref q_p0_patterns, .int u.1, .ref q_p0_loop, .ref q_p0_ranks, .ref q_p0_counts, .ref q_p0_then, .ref q_p0_table, .ref q_p0_product, .ref q_p0_turned, .ref q_p0_tape, .int v_p0_taped, .int v_p0_hasWhy, .ref q_p0_reasons, .int v_p0_hasImage, .int v_p0_imageN, .int v_p0_imageWay, .ref q_p0_imageLed])), (q_p0_loop, .inl (cI, 6, .inl u.2.2.2)), (q_p0_led, .inl (cI, 8, .inl f_p0_led)), (q_p0_patterns, .inl (cI, 800, .inl u.2.1)), (q_p0_ranks, .inl (cI, 6, .inl u.2.2.1))] t) (va_A [(q_p0, .inr (7, [.int v_p0_n, .int v_p0_way, .ref q_p0_led, .int v_p0_deeds, .ref q_p0_were, .ref q_p0_paths, .ref q_p0_more, .ref q_p0_patterns, .int v_p0_patternMany, .ref q_p0_loop, .ref q_p0_ranks, .ref q_p0_counts, .ref q_p0_then, .ref q_p0_table, .ref q_p0_product, .ref q_p0_turned, .ref q_p0_tape, .int v_p0_taped, .int v_p0_hasWhy, .ref q_p0_reasons, .int v_p0_hasImage, .int v_p0_imageN, .int v_p0_imageWay, .ref q_p0_imageLed])), (q_p0_loop, .inl (cI, 6, .inl f_p0_loop)), (q_p0_led, .inl (cI, 8, .inl f_p0_led)), (q_p0_patterns, .inl (cI, 800, .inl f_p0_patterns)), (q_p0_ranks, .inl (cI, 6, .inl f_p0_ranks))] sz)) 0 0 (va_A [(q_p0, .inr (7, [.int v_p0_n, .int v_p0_way, .ref q_p0_led, .int v_p0_deeds, .ref q_p0_were, .ref q_p0_paths, .ref q_p0_more, .ref q_p0_patterns, .int v_p0_patternMany, .ref q_p0_loop, .ref q_p0_ranks, .ref q_p0_counts, .ref q_p0_then, .ref q_p0_table, .ref q_p0_product, .ref q_p0_turned, .ref q_p0_tape, .int v_p0_taped, .int v_p0_hasWhy, .ref q_p0_reasons, .int v_p0_hasImage, .int v_p0_imageN, .int v_p0_imageWay, .ref q_p0_imageLed])), (q_p0_loop, .inl (cI, 6, .inl f_p0_loop)), (q_p0_led, .inl (cI, 8, .inl f_p0_led)), (q_p0_patterns, .inl (cI, 800, .inl f_p0_patterns)), (q_p0_ranks, .inl (cI, 6, .inl f_p0_ranks))] sz) := by
  refine z_met (cc := cX9_has) (maxL := 5) (ret := (some .int)) (Qc := fun A => va_Qi (fun (r : Int32) (u : Int32 × (Nat → Int32) × (Nat → Int32) × (Nat → Int32)) => P r u.1 u.2.1 u.2.2.1 u.2.2.2) (fun u t => zPost D cI cJ cB A [(q_p0, .inr (7, [.int v_p0_n, .int v_p0_way, .ref q_p0_led, .int v_p0_deeds, .ref q_p0_were, .ref q_p0_paths, .ref q_p0_more, .ref q_p0_patterns, .int u.1, .ref q_p0_loop, .ref q_p0_ranks, .ref q_p0_counts, .ref q_p0_then, .ref q_p0_table, .ref q_p0_product, .ref q_p0_turned, .ref q_p0_tape, .int v_p0_taped, .int v_p0_hasWhy, .ref q_p0_reasons, .int v_p0_hasImage, .int v_p0_imageN, .int v_p0_imageWay, .ref q_p0_imageLed])), (q_p0_loop, .inl (cI, 6, .inl u.2.2.2)), (q_p0_led, .inl (cI, 8, .inl f_p0_led)), (q_p0_patterns, .inl (cI, 800, .inl u.2.1)), (q_p0_ranks, .inl (cI, 6, .inl u.2.2.1))] t) A) (by decide) rfl [.ref q_p0, .int x1, .int x2] (Nat.le_of_ble_eq_true rfl) ?_
  intro p e s m args below meth c A hx hb hr hts hown hml hlocks hA hX hK H locs hP hD hS ls hl Q hQ
  have hown : s.vm.findClass RX9 = some m.cls := hown
  have hl : lv_has ls 5 [(0, .ref q_p0), (1, .int x1), (2, .int x2)] := hl
  have hw0 : (Cond.constantLong RX9 69 (2)).before args s = true := hts _ (List.mem_of_getElem? (i := 1) rfl)
  have hw1 : (Cond.constantLong RX9 188 (6)).before args s = true := hts _ (List.mem_of_getElem? (i := 2) rfl)
  have hw2 : (Cond.fieldLink RX9 73 "ForcedRingsModel" "way" "I").before args s = true := hts _ (List.mem_of_getElem? (i := 3) rfl)
  have hw3 : (Cond.fieldLink RX9 168 "ForcedRingsModel" "patternMany" "I").before args s = true := hts _ (List.mem_of_getElem? (i := 4) rfl)
  have hw4 : (Cond.fieldLink RX9 29 "ForcedRingsModel" "patterns" "[I").before args s = true := hts _ (List.mem_of_getElem? (i := 5) rfl)
  have hinX9 : ∀ w ∈ wsX90, w ∈ wsX9_has := fun _ h => List.mem_cons_of_mem _ (List.mem_append_right _ h)
  refine lv_iload_n hx hb dX9_has_0 rfl (lv_at hl 1 rfl) ?_
  refine lv_i2l (v := x1.toInt64) hx hb dX9_has_1 rfl ?_
  refine lv_ldc2 (v := (2 : Int64)) hx hb hown hw0 dX9_has_2 ?_
  refine lv_ldc2 (v := (6 : Int64)) hx hb hown hw1 dX9_has_5 ?_
  refine z_cSi (As := [.long x1.toInt64, .long (2 : Int64), .long (6 : Int64)]) (rest := []) (wr := [(q_p0, .inr (7, [.int v_p0_n, .int v_p0_way, .ref q_p0_led, .int v_p0_deeds, .ref q_p0_were, .ref q_p0_paths, .ref q_p0_more, .ref q_p0_patterns, .int v_p0_patternMany, .ref q_p0_loop, .ref q_p0_ranks, .ref q_p0_counts, .ref q_p0_then, .ref q_p0_table, .ref q_p0_product, .ref q_p0_turned, .ref q_p0_tape, .int v_p0_taped, .int v_p0_hasWhy, .ref q_p0_reasons, .int v_p0_hasImage, .int v_p0_imageN, .int v_p0_imageWay, .ref q_p0_imageLed])), (q_p0_loop, .inl (cI, 6, .inl f_p0_loop)), (q_p0_led, .inl (cI, 8, .inl f_p0_led)), (q_p0_patterns, .inl (cI, 800, .inl f_p0_patterns)), (q_p0_ranks, .inl (cI, 6, .inl f_p0_ranks))]) (wn := fun u => [(q_p0, .inr (7, [.int v_p0_n, .int v_p0_way, .ref q_p0_led, .int v_p0_deeds, .ref q_p0_were, .ref q_p0_paths, .ref q_p0_more, .ref q_p0_patterns, .int v_p0_patternMany, .ref q_p0_loop, .ref q_p0_ranks, .ref q_p0_counts, .ref q_p0_then, .ref q_p0_table, .ref q_p0_product, .ref q_p0_turned, .ref q_p0_tape, .int v_p0_taped, .int v_p0_hasWhy, .ref q_p0_reasons, .int v_p0_hasImage, .int v_p0_imageN, .int v_p0_imageWay, .ref q_p0_imageLed])), (q_p0_loop, .inl (cI, 6, .inl f_p0_loop)), (q_p0_led, .inl (cI, 8, .inl f_p0_led)), (q_p0_patterns, .inl (cI, 800, .inl f_p0_patterns)), (q_p0_ranks, .inl (cI, 6, .inl f_p0_ranks))]) (c_X9_in l D cI cJ cB tU tM tS  H.size x1.toInt64 (2 : Int64) (6 : Int64) _ h) ⟨hx, hb, hml, hown, hts⟩ (va_cwS 3 hts gX9_has_X9_in rfl rfl rfl hd_X9_in.2 ⟨Nat.le_of_ble_eq_true rfl, Nat.le_of_ble_eq_true rfl⟩) hX hK hP hD hS hA [] [0, 1, 2, 3, 4] [0, 1, 2, 3, 4] rfl rfl rfl (by decide) (fun _ => rfl) rfl hl.1 rfl (Nat.le_of_ble_eq_true rfl) ⟨Nat.le_refl _, Nat.le_refl _⟩ dX9_has_8 (fun r1 u1 H locs h hP hD hS => ?_)
  refine lv_if_ne (tgt := 17) hx hb dX9_has_11 (by decide) (fun c2 => ?_) (fun c2 => ?_)
  · have h := And.right h c2
    refine lv_aload_n hx hb dX9_has_17 rfl (lv_at hl 0 rfl) ?_
    refine va_get (ci := 7) (C := RX9) (T := TX9) (N := 24) (v := .int v_p0_way) hx hb hts hinX9 hown hK hP 0 rfl rfl 1 (by decide) hw2 (fun _ h9 => h9) rfl dX9_has_18 ?_
    refine lv_iconst (v := (1 : Int32)) hx hb dX9_has_21 (by decide) ?_
    refine lv_icmp_ne (tgt := 28) hx hb dX9_has_22 (by decide) (fun c3 => ?_) (fun c3 => ?_)
    · have h := And.right h c3
      refine lv_aload_n hx hb dX9_has_28 rfl (lv_at hl 0 rfl) ?_
      refine lv_iload_n hx hb dX9_has_29 rfl (lv_at hl 1 rfl) ?_
      refine z_cVv (As := [.int x1]) (rest := []) (wr := []) (wn := fun u => [(q_p0, .inr (7, [.int v_p0_n, .int v_p0_way, .ref q_p0_led, .int v_p0_deeds, .ref q_p0_were, .ref q_p0_paths, .ref q_p0_more, .ref q_p0_patterns, .int u.1, .ref q_p0_loop, .ref q_p0_ranks, .ref q_p0_counts, .ref q_p0_then, .ref q_p0_table, .ref q_p0_product, .ref q_p0_turned, .ref q_p0_tape, .int v_p0_taped, .int v_p0_hasWhy, .ref q_p0_reasons, .int v_p0_hasImage, .int v_p0_imageN, .int v_p0_imageWay, .ref q_p0_imageLed])), (q_p0_loop, .inl (cI, 6, .inl u.2.2.2)), (q_p0_led, .inl (cI, 8, .inl f_p0_led)), (q_p0_patterns, .inl (cI, 800, .inl u.2.1)), (q_p0_ranks, .inl (cI, 6, .inl u.2.2.1))]) (c_X9_tellsPatterns l D cI cJ cB tU tM tS q_p0 q_p0_led q_p0_were q_p0_paths q_p0_more q_p0_patterns q_p0_loop q_p0_ranks q_p0_counts q_p0_then q_p0_table q_p0_product q_p0_turned q_p0_tape q_p0_reasons q_p0_imageLed H.size x1 v_p0_patternMany f_p0_loop f_p0_led v_p0_n v_p0_way f_p0_patterns f_p0_ranks v_p0_deeds v_p0_taped v_p0_hasWhy v_p0_hasImage v_p0_imageN v_p0_imageWay _ h) ⟨hx, hb, hml, hown, hts⟩ (cwV 1 hts gX9_has_X9_tellsPatterns rfl rfl rfl hd_X9_tellsPatterns ⟨Nat.le_of_ble_eq_true rfl, Nat.le_of_ble_eq_true rfl⟩) hX hK hP hD hS hA [0, 1, 2, 3, 4] [] [0, 1, 2, 3, 4] rfl rfl rfl (by decide) (fun _ => rfl) (q0 := 0) (ci := 7) rfl rfl rfl hl.1 rfl (Nat.le_of_ble_eq_true rfl) ⟨Nat.le_refl _, Nat.le_refl _⟩ dX9_has_30 (fun u4 H locs h hP hD hS => ?_)
      obtain ⟨m4_0, m4_1, m4_2, m4_3⟩ := u4
      refine lv_iconst (v := (0 : Int32)) hx hb dX9_has_33 (by decide) ?_
      refine lv_istore_n (lv' := [(3, .int (0 : Int32)), (0, .ref q_p0), (1, .int x1), (2, .int x2)]) hx hb dX9_has_34 rfl hl (by decide) rfl (fun ls hl => ?_)
      refine lv_iconst (v := (0 : Int32)) hx hb dX9_has_35 (by decide) ?_
      refine lv_istore (lv' := [(4, .int (0 : Int32)), (3, .int (0 : Int32)), (0, .ref q_p0), (1, .int x1), (2, .int x2)]) hx hb dX9_has_36 hl (by decide) rfl (fun ls hl => ?_)
      have k38 : ∀ (v_p0_patternMany : Int32) (f_p0_patterns : (Nat → Int32)) (f_p0_ranks : (Nat → Int32)) (f_p0_loop : (Nat → Int32)) (n38 : Nat) (l3 : Int32) (l4 : Int32) (H : Heap) (locs : List Loc) (ls : Array Slot), LP2 (M_X9_has_l38 x1 x2 v_p0_way f_p0_led v_p0_n P v_p0_patternMany f_p0_patterns f_p0_ranks f_p0_loop) n38 l3 l4 → va_P D vwCl [(q_p0, .inr (7, [.int v_p0_n, .int v_p0_way, .ref q_p0_led, .int v_p0_deeds, .ref q_p0_were, .ref q_p0_paths, .ref q_p0_more, .ref q_p0_patterns, .int v_p0_patternMany, .ref q_p0_loop, .ref q_p0_ranks, .ref q_p0_counts, .ref q_p0_then, .ref q_p0_table, .ref q_p0_product, .ref q_p0_turned, .ref q_p0_tape, .int v_p0_taped, .int v_p0_hasWhy, .ref q_p0_reasons, .int v_p0_hasImage, .int v_p0_imageN, .int v_p0_imageWay, .ref q_p0_imageLed])), (q_p0_loop, .inl (cI, 6, .inl f_p0_loop)), (q_p0_led, .inl (cI, 8, .inl f_p0_led)), (q_p0_patterns, .inl (cI, 800, .inl f_p0_patterns)), (q_p0_ranks, .inl (cI, 6, .inl f_p0_ranks))] H → va_D A [(q_p0, .inr (7, [.int v_p0_n, .int v_p0_way, .ref q_p0_led, .int v_p0_deeds, .ref q_p0_were, .ref q_p0_paths, .ref q_p0_more, .ref q_p0_patterns, .int v_p0_patternMany, .ref q_p0_loop, .ref q_p0_ranks, .ref q_p0_counts, .ref q_p0_then, .ref q_p0_table, .ref q_p0_product, .ref q_p0_turned, .ref q_p0_tape, .int v_p0_taped, .int v_p0_hasWhy, .ref q_p0_reasons, .int v_p0_hasImage, .int v_p0_imageN, .int v_p0_imageWay, .ref q_p0_imageLed])), (q_p0_loop, .inl (cI, 6, .inl f_p0_loop)), (q_p0_led, .inl (cI, 8, .inl f_p0_led)), (q_p0_patterns, .inl (cI, 800, .inl f_p0_patterns)), (q_p0_ranks, .inl (cI, 6, .inl f_p0_ranks))] → va_S A s.heap H locs → lv_has ls 5 [(0, .ref q_p0), (2, .int x2), (3, .int l3), (4, .int l4)] → W p l e { frames := 12, cells := 0, slots := 0, locals := 288 } s m args below meth c H locs 0 0 Q (F0 m 38 ls []) := by
        intro v_p0_patternMany f_p0_patterns f_p0_ranks f_p0_loop n38
        induction n38 with
        | zero =>
          intro l3 l4 H locs ls h
          exact False.elim h
        | succ n38 ih38 =>
          intro l3 l4 H locs ls h hP hD hS hl
          have h : M_X9_has_l38 x1 x2 v_p0_way f_p0_led v_p0_n P v_p0_patternMany f_p0_patterns f_p0_ranks f_p0_loop (LP2 (M_X9_has_l38 x1 x2 v_p0_way f_p0_led v_p0_n P v_p0_patternMany f_p0_patterns f_p0_ranks f_p0_loop) n38) l3 l4 := h
          refine lv_iload hx hb dX9_has_38 (lv_at hl 3 rfl) ?_
          refine lv_aload_n hx hb dX9_has_40 rfl (lv_at hl 0 rfl) ?_
          refine va_get (ci := 7) (C := RX9) (T := TX9) (N := 24) (v := .int v_p0_patternMany) hx hb hts hinX9 hown hK hP 0 rfl rfl 8 (by decide) hw3 (fun _ h9 => h9) rfl dX9_has_41 ?_
          refine lv_icmp_ge (tgt := 70) hx hb dX9_has_44 (by decide) (fun c5 => ?_) (fun c5 => ?_)
          · have h := And.left h c5
            refine lv_iload_n hx hb dX9_has_70 rfl (lv_at hl 2 rfl) ?_
            exact z_iret hQ hx hb hr rfl hlocks hK (v_p0_patternMany, f_p0_patterns, f_p0_ranks, f_p0_loop) h hP hD hS dX9_has_71
          · have h := And.right h c5
            refine lv_aload_n hx hb dX9_has_47 rfl (lv_at hl 0 rfl) ?_
            refine va_get (ci := 7) (C := RX9) (T := TX9) (N := 24) (v := .ref q_p0_patterns) hx hb hts hinX9 hown hK hP 0 rfl rfl 7 (by decide) hw4 (fun _ h9 => h9) rfl dX9_has_48 ?_
            refine lv_iload hx hb dX9_has_51 (lv_at hl 3 rfl) ?_
            obtain ⟨hi6, h⟩ := h
            refine va_iald hx hb hK hP 3 0 rfl rfl hi6 dX9_has_53 ?_
            refine lv_iload_n hx hb dX9_has_54 rfl (lv_at hl 1 rfl) ?_
            refine lv_icmp_ne (tgt := 62) hx hb dX9_has_55 (by decide) (fun c7 => ?_) (fun c7 => ?_)
            · have h := And.right h c7
              refine lv_iload_n hx hb dX9_has_62 rfl (lv_at hl 2 rfl) ?_
              refine lv_istore_n (lv' := [(3, .int l3), (0, .ref q_p0), (2, .int x2), (4, .int l4)]) hx hb dX9_has_63 rfl hl (by decide) rfl (fun ls hl => ?_)
              refine lv_iinc (v := (l4 + 1)) (lv' := [(4, .int (l4 + 1)), (3, .int l3), (0, .ref q_p0), (2, .int x2)]) hx hb dX9_has_64 hl (k := 3) rfl rfl (by decide) rfl (fun ls hl => ?_)
              refine lv_goto (tgt := 38) hx hb dX9_has_67 (by decide) ?_
              exact ih38 l3 (l4 + 1) _ _ _ h hP hD hS (lv_sub hl [2, 3, 1, 0] rfl)
            · have h := And.left h c7
              refine lv_iconst (v := (1 : Int32)) hx hb dX9_has_58 (by decide) ?_
              refine lv_goto (tgt := 63) hx hb dX9_has_59 (by decide) ?_
              refine lv_istore_n (lv' := [(3, .int (1 : Int32)), (0, .ref q_p0), (2, .int x2), (4, .int l4)]) hx hb dX9_has_63 rfl hl (by decide) rfl (fun ls hl => ?_)
              refine lv_iinc (v := (l4 + 1)) (lv' := [(4, .int (l4 + 1)), (3, .int (1 : Int32)), (0, .ref q_p0), (2, .int x2)]) hx hb dX9_has_64 hl (k := 3) rfl rfl (by decide) rfl (fun ls hl => ?_)
              refine lv_goto (tgt := 38) hx hb dX9_has_67 (by decide) ?_
              exact ih38 (1 : Int32) (l4 + 1) _ _ _ h hP hD hS (lv_sub hl [2, 3, 1, 0] rfl)
      obtain ⟨n38, h⟩ := h
      exact k38 m4_0 m4_1 m4_2 m4_3 n38 (0 : Int32) (0 : Int32) _ _ _ h hP hD hS (lv_sub hl [2, 4, 1, 0] rfl)
    · have h := And.left h c3
      refine lv_bipush (v := (-3 : Int32)) hx hb dX9_has_25 (by decide) ?_
      exact z_iret hQ hx hb hr rfl hlocks hK (v_p0_patternMany, f_p0_patterns, f_p0_ranks, f_p0_loop) h hP hD hS dX9_has_27
  · have h := And.left h c2
    refine lv_bipush (v := (-2 : Int32)) hx hb dX9_has_14 (by decide) ?_
    exact z_iret hQ hx hb hr rfl hlocks hK (v_p0_patternMany, f_p0_patterns, f_p0_ranks, f_p0_loop) h hP hD hS dX9_has_16
theorem hd_X9_lowest : yX9_lowest.cls = RX9 ∧ yX9_lowest.cls ≠ "java/lang/invoke/MethodHandle" ∧ yX9_lowest.cls ≠ "java/lang/invoke/VarHandle" ∧ (parseMethodDescriptor yX9_lowest.desc).map (fun d => d.parameters.length) = some 3 := by decide +kernel
set_option maxHeartbeats 4000000 in
set_option maxRecDepth 100000 in
theorem c_X9_lowest (l : Launch) (D : va_G) (cI cJ cB : ClassId) (tU tM tS : Nat) (sz : Nat) (x0 : Int64) (x1 : Int64) (x2 : Int32)  (P : Int64 → Prop) (h : M_X9_lowest x0 x1 x2 P) : Met l yX9_lowest wsX9_lowest ({ frames := 0, cells := 0, slots := 0, locals := 0 }) (va_Pc [.long x0, .long x1, .int x2] (zPre D cI cJ cB tU tM tS [] sz)) (va_Ql (fun (r : Int64) (u : Unit) => P r ) (fun u t => zPost D cI cJ cB (va_A [] sz) [] t) (va_A [] sz)) 0 0 (va_A [] sz) := by
  refine z_met (cc := cX9_lowest) (maxL := 11) (ret := (some .long)) (Qc := fun A => va_Ql (fun (r : Int64) (u : Unit) => P r ) (fun u t => zPost D cI cJ cB A [] t) A) (by decide) rfl [.long x0, .long x1, .int x2] (Nat.le_of_ble_eq_true rfl) ?_
  intro p e s m args below meth c A hx hb hr hts hown hml hlocks hA hX hK H locs hP hD hS ls hl Q hQ
  have hown : s.vm.findClass RX9 = some m.cls := hown
  have hl : lv_has ls 11 [(0, .long x0), (2, .long x1), (4, .int x2)] := hl
  refine lv_lload_n hx hb dX9_lowest_0 rfl (lv_at hl 0 rfl) ?_
  refine lv_lstore (lv' := [(5, .long x0), (0, .long x0), (2, .long x1), (4, .int x2)]) hx hb dX9_lowest_1 hl (by decide) rfl (fun ls hl => ?_)
  refine lv_lload_n hx hb dX9_lowest_3 rfl (lv_at hl 2 rfl) ?_
  refine lv_lstore (lv' := [(7, .long x1), (5, .long x0), (0, .long x0), (2, .long x1), (4, .int x2)]) hx hb dX9_lowest_4 hl (by decide) rfl (fun ls hl => ?_)
  have k6 : ∀  (n6 : Nat) (l5 : Int64) (l7 : Int64) (H : Heap) (locs : List Loc) (ls : Array Slot), LP2 (M_X9_lowest_l6 x0 x1 x2 P ) n6 l5 l7 → va_P D vwCl [] H → va_D A [] → va_S A s.heap H locs → lv_has ls 11 [(0, .long x0), (2, .long x1), (4, .int x2), (5, .long l5), (7, .long l7)] → W p l e { frames := 0, cells := 0, slots := 0, locals := 0 } s m args below meth c H locs 0 0 Q (F0 m 6 ls []) := by
    intro  n6
    induction n6 with
    | zero =>
      intro l5 l7 H locs ls h
      exact False.elim h
    | succ n6 ih6 =>
      intro l5 l7 H locs ls h hP hD hS hl
      have h : M_X9_lowest_l6 x0 x1 x2 P  (LP2 (M_X9_lowest_l6 x0 x1 x2 P ) n6) l5 l7 := h
      refine lv_lload hx hb dX9_lowest_6 (lv_at hl 4 rfl) ?_
      refine lv_lconst (v := (0 : Int64)) hx hb dX9_lowest_8 (by decide) ?_
      refine W.lcmp hx hb dX9_lowest_9 ?_
      refine lv_if_eq (tgt := 31) hx hb dX9_lowest_10 (by decide) (fun c1 => ?_) (fun c1 => ?_)
      · have h := And.left h c1
        refine lv_iload hx hb dX9_lowest_31 (lv_at hl 2 rfl) ?_
        refine lv_if_ne (tgt := 40) hx hb dX9_lowest_33 (by decide) (fun c2 => ?_) (fun c2 => ?_)
        · have h := And.right h c2
          refine lv_lload_n hx hb dX9_lowest_40 rfl (lv_at hl 1 rfl) ?_
          refine lv_lload hx hb dX9_lowest_41 (lv_at hl 3 rfl) ?_
          obtain ⟨hn3, h⟩ := h
          refine lv_ldiv hx hb dX9_lowest_43 hn3 ?_
          exact z_lret hQ hx hb hr hlocks hK () h hP hD hS dX9_lowest_44
        · have h := And.left h c2
          refine lv_lload_n hx hb dX9_lowest_36 rfl (lv_at hl 0 rfl) ?_
          refine lv_goto (tgt := 41) hx hb dX9_lowest_37 (by decide) ?_
          refine lv_lload hx hb dX9_lowest_41 (lv_at hl 3 rfl) ?_
          obtain ⟨hn4, h⟩ := h
          refine lv_ldiv hx hb dX9_lowest_43 hn4 ?_
          exact z_lret hQ hx hb hr hlocks hK () h hP hD hS dX9_lowest_44
      · have h := And.right h c1
        refine lv_lload hx hb dX9_lowest_13 (lv_at hl 3 rfl) ?_
        refine lv_lload hx hb dX9_lowest_15 (lv_at hl 4 rfl) ?_
        obtain ⟨hn5, h⟩ := h
        refine lv_lrem hx hb dX9_lowest_17 hn5 ?_
        refine lv_lstore (lv' := [(9, .long (l5 - l5 / l7 * l7)), (0, .long x0), (2, .long x1), (4, .int x2), (5, .long l5), (7, .long l7)]) hx hb dX9_lowest_18 hl (by decide) rfl (fun ls hl => ?_)
        refine lv_lload hx hb dX9_lowest_20 (lv_at hl 5 rfl) ?_
        refine lv_lstore (lv' := [(5, .long l7), (9, .long (l5 - l5 / l7 * l7)), (0, .long x0), (2, .long x1), (4, .int x2), (7, .long l7)]) hx hb dX9_lowest_22 hl (by decide) rfl (fun ls hl => ?_)
        refine lv_lload hx hb dX9_lowest_24 (lv_at hl 1 rfl) ?_
        refine lv_lstore (lv' := [(7, .long (l5 - l5 / l7 * l7)), (5, .long l7), (9, .long (l5 - l5 / l7 * l7)), (0, .long x0), (2, .long x1), (4, .int x2)]) hx hb dX9_lowest_26 hl (by decide) rfl (fun ls hl => ?_)
        refine lv_goto (tgt := 6) hx hb dX9_lowest_28 (by decide) ?_
        exact ih6 l7 (l5 - l5 / l7 * l7) _ _ _ h hP hD hS (lv_sub hl [3, 4, 5, 1, 0] rfl)
  obtain ⟨n6, h⟩ := h
  exact k6  n6 x0 x1 _ _ _ h hP hD hS (lv_sub hl [2, 3, 4, 1, 0] rfl)
theorem hd_X9_counted : yX9_counted.cls = RX9 ∧ yX9_counted.cls ≠ "java/lang/invoke/MethodHandle" ∧ yX9_counted.cls ≠ "java/lang/invoke/VarHandle" ∧ (parseMethodDescriptor yX9_counted.desc).map (fun d => d.parameters.length) = some 0 := by decide +kernel
set_option maxHeartbeats 4000000 in
set_option maxRecDepth 100000 in
theorem c_X9_counted (l : Launch) (D : va_G) (cI cJ cB : ClassId) (tU tM tS : Nat) (q_p0 q_p0_led q_p0_were q_p0_paths q_p0_more q_p0_patterns q_p0_loop q_p0_ranks q_p0_counts q_p0_then q_p0_table q_p0_product q_p0_turned q_p0_tape q_p0_reasons q_p0_imageLed : Nat) (sz : Nat) (v_p0_way : Int32) (v_p0_n : Int32) (f_p0_led : (Nat → Int32)) (f_p0_then : (Nat → Int64)) (f_p0_counts : (Nat → Int64)) (v_p0_deeds : Int32) (v_p0_patternMany : Int32) (v_p0_taped : Int32) (v_p0_hasWhy : Int32) (v_p0_hasImage : Int32) (v_p0_imageN : Int32) (v_p0_imageWay : Int32) (P : (Nat → Int64) → Prop) (h : M_X9_counted v_p0_way v_p0_n f_p0_led f_p0_then f_p0_counts P) : Met l yX9_counted wsX9_counted ({ frames := 2, cells := 0, slots := 0, locals := 46 }) (va_Pc [.ref q_p0] (zPre D cI cJ cB tU tM tS [(q_p0, .inr (7, [.int v_p0_n, .int v_p0_way, .ref q_p0_led, .int v_p0_deeds, .ref q_p0_were, .ref q_p0_paths, .ref q_p0_more, .ref q_p0_patterns, .int v_p0_patternMany, .ref q_p0_loop, .ref q_p0_ranks, .ref q_p0_counts, .ref q_p0_then, .ref q_p0_table, .ref q_p0_product, .ref q_p0_turned, .ref q_p0_tape, .int v_p0_taped, .int v_p0_hasWhy, .ref q_p0_reasons, .int v_p0_hasImage, .int v_p0_imageN, .int v_p0_imageWay, .ref q_p0_imageLed])), (q_p0_led, .inl (cI, 8, .inl f_p0_led)), (q_p0_then, .inl (cJ, 8, .inr (.inl f_p0_then))), (q_p0_counts, .inl (cJ, 8, .inr (.inl f_p0_counts)))] sz)) (va_Qv (fun u : (Nat → Int64) => P u) (fun u t => zPost D cI cJ cB (va_A [(q_p0, .inr (7, [.int v_p0_n, .int v_p0_way, .ref q_p0_led, .int v_p0_deeds, .ref q_p0_were, .ref q_p0_paths, .ref q_p0_more, .ref q_p0_patterns, .int v_p0_patternMany, .ref q_p0_loop, .ref q_p0_ranks, .ref q_p0_counts, .ref q_p0_then, .ref q_p0_table, .ref q_p0_product, .ref q_p0_turned, .ref q_p0_tape, .int v_p0_taped, .int v_p0_hasWhy, .ref q_p0_reasons, .int v_p0_hasImage, .int v_p0_imageN, .int v_p0_imageWay, .ref q_p0_imageLed])), (q_p0_led, .inl (cI, 8, .inl f_p0_led)), (q_p0_then, .inl (cJ, 8, .inr (.inl f_p0_then))), (q_p0_counts, .inl (cJ, 8, .inr (.inl f_p0_counts)))] sz) [(q_p0, .inr (7, [.int v_p0_n, .int v_p0_way, .ref q_p0_led, .int v_p0_deeds, .ref q_p0_were, .ref q_p0_paths, .ref q_p0_more, .ref q_p0_patterns, .int v_p0_patternMany, .ref q_p0_loop, .ref q_p0_ranks, .ref q_p0_counts, .ref q_p0_then, .ref q_p0_table, .ref q_p0_product, .ref q_p0_turned, .ref q_p0_tape, .int v_p0_taped, .int v_p0_hasWhy, .ref q_p0_reasons, .int v_p0_hasImage, .int v_p0_imageN, .int v_p0_imageWay, .ref q_p0_imageLed])), (q_p0_led, .inl (cI, 8, .inl f_p0_led)), (q_p0_then, .inl (cJ, 8, .inr (.inl u))), (q_p0_counts, .inl (cJ, 8, .inr (.inl f_p0_counts)))] t) (va_A [(q_p0, .inr (7, [.int v_p0_n, .int v_p0_way, .ref q_p0_led, .int v_p0_deeds, .ref q_p0_were, .ref q_p0_paths, .ref q_p0_more, .ref q_p0_patterns, .int v_p0_patternMany, .ref q_p0_loop, .ref q_p0_ranks, .ref q_p0_counts, .ref q_p0_then, .ref q_p0_table, .ref q_p0_product, .ref q_p0_turned, .ref q_p0_tape, .int v_p0_taped, .int v_p0_hasWhy, .ref q_p0_reasons, .int v_p0_hasImage, .int v_p0_imageN, .int v_p0_imageWay, .ref q_p0_imageLed])), (q_p0_led, .inl (cI, 8, .inl f_p0_led)), (q_p0_then, .inl (cJ, 8, .inr (.inl f_p0_then))), (q_p0_counts, .inl (cJ, 8, .inr (.inl f_p0_counts)))] sz)) 0 0 (va_A [(q_p0, .inr (7, [.int v_p0_n, .int v_p0_way, .ref q_p0_led, .int v_p0_deeds, .ref q_p0_were, .ref q_p0_paths, .ref q_p0_more, .ref q_p0_patterns, .int v_p0_patternMany, .ref q_p0_loop, .ref q_p0_ranks, .ref q_p0_counts, .ref q_p0_then, .ref q_p0_table, .ref q_p0_product, .ref q_p0_turned, .ref q_p0_tape, .int v_p0_taped, .int v_p0_hasWhy, .ref q_p0_reasons, .int v_p0_hasImage, .int v_p0_imageN, .int v_p0_imageWay, .ref q_p0_imageLed])), (q_p0_led, .inl (cI, 8, .inl f_p0_led)), (q_p0_then, .inl (cJ, 8, .inr (.inl f_p0_then))), (q_p0_counts, .inl (cJ, 8, .inr (.inl f_p0_counts)))] sz) := by
  refine z_met (cc := cX9_counted) (maxL := 4) (ret := none) (Qc := fun A => va_Qv (fun u : (Nat → Int64) => P u) (fun u t => zPost D cI cJ cB A [(q_p0, .inr (7, [.int v_p0_n, .int v_p0_way, .ref q_p0_led, .int v_p0_deeds, .ref q_p0_were, .ref q_p0_paths, .ref q_p0_more, .ref q_p0_patterns, .int v_p0_patternMany, .ref q_p0_loop, .ref q_p0_ranks, .ref q_p0_counts, .ref q_p0_then, .ref q_p0_table, .ref q_p0_product, .ref q_p0_turned, .ref q_p0_tape, .int v_p0_taped, .int v_p0_hasWhy, .ref q_p0_reasons, .int v_p0_hasImage, .int v_p0_imageN, .int v_p0_imageWay, .ref q_p0_imageLed])), (q_p0_led, .inl (cI, 8, .inl f_p0_led)), (q_p0_then, .inl (cJ, 8, .inr (.inl u))), (q_p0_counts, .inl (cJ, 8, .inr (.inl f_p0_counts)))] t) A) (by decide) rfl [.ref q_p0] (Nat.le_of_ble_eq_true rfl) ?_
  intro p e s m args below meth c A hx hb hr hts hown hml hlocks hA hX hK H locs hP hD hS ls hl Q hQ
  have hown : s.vm.findClass RX9 = some m.cls := hown
  have hl : lv_has ls 4 [(0, .ref q_p0)] := hl
  have hw0 : (Cond.fieldLink RX9 41 "ForcedRingsModel" "then" "[J").before args s = true := hts _ (List.mem_of_getElem? (i := 1) rfl)
  have hw1 : (Cond.fieldLink RX9 38 "ForcedRingsModel" "counts" "[J").before args s = true := hts _ (List.mem_of_getElem? (i := 2) rfl)
  have hinX9 : ∀ w ∈ wsX90, w ∈ wsX9_counted := fun _ h => List.mem_cons_of_mem _ (List.mem_append_right _ h)
  refine lv_iconst (v := (0 : Int32)) hx hb dX9_counted_0 (by decide) ?_
  refine lv_istore_n (lv' := [(1, .int (0 : Int32)), (0, .ref q_p0)]) hx hb dX9_counted_1 rfl hl (by decide) rfl (fun ls hl => ?_)
  have k2 : ∀  (n2 : Nat) (l1 : Int32) (f_p0_then : (Nat → Int64)) (H : Heap) (locs : List Loc) (ls : Array Slot), LP2 (M_X9_counted_l2 v_p0_way v_p0_n f_p0_led f_p0_counts P ) n2 l1 f_p0_then → va_P D vwCl [(q_p0, .inr (7, [.int v_p0_n, .int v_p0_way, .ref q_p0_led, .int v_p0_deeds, .ref q_p0_were, .ref q_p0_paths, .ref q_p0_more, .ref q_p0_patterns, .int v_p0_patternMany, .ref q_p0_loop, .ref q_p0_ranks, .ref q_p0_counts, .ref q_p0_then, .ref q_p0_table, .ref q_p0_product, .ref q_p0_turned, .ref q_p0_tape, .int v_p0_taped, .int v_p0_hasWhy, .ref q_p0_reasons, .int v_p0_hasImage, .int v_p0_imageN, .int v_p0_imageWay, .ref q_p0_imageLed])), (q_p0_led, .inl (cI, 8, .inl f_p0_led)), (q_p0_then, .inl (cJ, 8, .inr (.inl f_p0_then))), (q_p0_counts, .inl (cJ, 8, .inr (.inl f_p0_counts)))] H → va_D A [(q_p0, .inr (7, [.int v_p0_n, .int v_p0_way, .ref q_p0_led, .int v_p0_deeds, .ref q_p0_were, .ref q_p0_paths, .ref q_p0_more, .ref q_p0_patterns, .int v_p0_patternMany, .ref q_p0_loop, .ref q_p0_ranks, .ref q_p0_counts, .ref q_p0_then, .ref q_p0_table, .ref q_p0_product, .ref q_p0_turned, .ref q_p0_tape, .int v_p0_taped, .int v_p0_hasWhy, .ref q_p0_reasons, .int v_p0_hasImage, .int v_p0_imageN, .int v_p0_imageWay, .ref q_p0_imageLed])), (q_p0_led, .inl (cI, 8, .inl f_p0_led)), (q_p0_then, .inl (cJ, 8, .inr (.inl f_p0_then))), (q_p0_counts, .inl (cJ, 8, .inr (.inl f_p0_counts)))] → va_S A s.heap H locs → lv_has ls 4 [(0, .ref q_p0), (1, .int l1)] → W p l e { frames := 2, cells := 0, slots := 0, locals := 46 } s m args below meth c H locs 0 0 Q (F0 m 2 ls []) := by
    intro  n2
    induction n2 with
    | zero =>
      intro l1 f_p0_then H locs ls h
      exact False.elim h
    | succ n2 ih2 =>
      intro l1 f_p0_then H locs ls h hP hD hS hl
      have h : M_X9_counted_l2 v_p0_way v_p0_n f_p0_led f_p0_counts P  (LP2 (M_X9_counted_l2 v_p0_way v_p0_n f_p0_led f_p0_counts P ) n2) l1 f_p0_then := h
      refine lv_iload_n hx hb dX9_counted_2 rfl (lv_at hl 1 rfl) ?_
      refine lv_aload_n hx hb dX9_counted_3 rfl (lv_at hl 0 rfl) ?_
      refine z_cVi (As := []) (rest := [.int l1]) (wr := [(q_p0_led, .inl (cI, 8, .inl f_p0_led)), (q_p0_then, .inl (cJ, 8, .inr (.inl f_p0_then))), (q_p0_counts, .inl (cJ, 8, .inr (.inl f_p0_counts)))]) (wn := fun u => [(q_p0, .inr (7, [.int v_p0_n, .int v_p0_way, .ref q_p0_led, .int v_p0_deeds, .ref q_p0_were, .ref q_p0_paths, .ref q_p0_more, .ref q_p0_patterns, .int v_p0_patternMany, .ref q_p0_loop, .ref q_p0_ranks, .ref q_p0_counts, .ref q_p0_then, .ref q_p0_table, .ref q_p0_product, .ref q_p0_turned, .ref q_p0_tape, .int v_p0_taped, .int v_p0_hasWhy, .ref q_p0_reasons, .int v_p0_hasImage, .int v_p0_imageN, .int v_p0_imageWay, .ref q_p0_imageLed])), (q_p0_led, .inl (cI, 8, .inl f_p0_led)), (q_p0_then, .inl (cJ, 8, .inr (.inl f_p0_then))), (q_p0_counts, .inl (cJ, 8, .inr (.inl f_p0_counts)))]) (c_X9_pieces l D cI cJ cB tU tM tS q_p0 q_p0_led q_p0_were q_p0_paths q_p0_more q_p0_patterns q_p0_loop q_p0_ranks q_p0_counts q_p0_then q_p0_table q_p0_product q_p0_turned q_p0_tape q_p0_reasons q_p0_imageLed H.size v_p0_way v_p0_n v_p0_deeds v_p0_patternMany v_p0_taped v_p0_hasWhy v_p0_hasImage v_p0_imageN v_p0_imageWay _ h) ⟨hx, hb, hml, hown, hts⟩ (cwV 0 hts gX9_counted_X9_pieces rfl rfl rfl hd_X9_pieces ⟨Nat.le_of_ble_eq_true rfl, Nat.le_of_ble_eq_true rfl⟩) hX hK hP hD hS hA [0] [1, 2, 3] [3, 0, 1, 2] rfl rfl rfl (by decide) (fun _ => rfl) (q0 := 0) (ci := 7) rfl rfl rfl hl.1 rfl (Nat.le_of_ble_eq_true rfl) ⟨Nat.le_refl _, Nat.le_refl _⟩ dX9_counted_4 (fun r1 u1 H locs h hP hD hS => ?_)
      refine lv_icmp_ge (tgt := 72) hx hb dX9_counted_7 (by decide) (fun c2 => ?_) (fun c2 => ?_)
      · have h := And.left h c2
        exact z_vret hQ hx hb hr hlocks hK f_p0_then h hP hD hS dX9_counted_72
      · have h := And.right h c2
        refine lv_aload_n hx hb dX9_counted_10 rfl (lv_at hl 0 rfl) ?_
        refine lv_iload_n hx hb dX9_counted_11 rfl (lv_at hl 1 rfl) ?_
        refine z_cVi (As := [.int l1]) (rest := []) (wr := [(q_p0_then, .inl (cJ, 8, .inr (.inl f_p0_then))), (q_p0_counts, .inl (cJ, 8, .inr (.inl f_p0_counts)))]) (wn := fun u => [(q_p0, .inr (7, [.int v_p0_n, .int v_p0_way, .ref q_p0_led, .int v_p0_deeds, .ref q_p0_were, .ref q_p0_paths, .ref q_p0_more, .ref q_p0_patterns, .int v_p0_patternMany, .ref q_p0_loop, .ref q_p0_ranks, .ref q_p0_counts, .ref q_p0_then, .ref q_p0_table, .ref q_p0_product, .ref q_p0_turned, .ref q_p0_tape, .int v_p0_taped, .int v_p0_hasWhy, .ref q_p0_reasons, .int v_p0_hasImage, .int v_p0_imageN, .int v_p0_imageWay, .ref q_p0_imageLed])), (q_p0_led, .inl (cI, 8, .inl f_p0_led)), (q_p0_then, .inl (cJ, 8, .inr (.inl f_p0_then))), (q_p0_counts, .inl (cJ, 8, .inr (.inl f_p0_counts)))]) (c_X9_coversOf l D cI cJ cB tU tM tS q_p0 q_p0_led q_p0_were q_p0_paths q_p0_more q_p0_patterns q_p0_loop q_p0_ranks q_p0_counts q_p0_then q_p0_table q_p0_product q_p0_turned q_p0_tape q_p0_reasons q_p0_imageLed H.size l1 f_p0_led v_p0_n v_p0_way v_p0_deeds v_p0_patternMany v_p0_taped v_p0_hasWhy v_p0_hasImage v_p0_imageN v_p0_imageWay _ h) ⟨hx, hb, hml, hown, hts⟩ (cwV 1 hts gX9_counted_X9_coversOf rfl rfl rfl hd_X9_coversOf ⟨Nat.le_of_ble_eq_true rfl, Nat.le_of_ble_eq_true rfl⟩) hX hK hP hD hS hA [0, 1] [2, 3] [2, 3, 0, 1] rfl rfl rfl (by decide) (fun _ => rfl) (q0 := 0) (ci := 7) rfl rfl rfl hl.1 rfl (Nat.le_of_ble_eq_true rfl) ⟨Nat.le_refl _, Nat.le_refl _⟩ dX9_counted_12 (fun r3 u3 H locs h hP hD hS => ?_)
        refine lv_istore_n (lv' := [(2, .int r3), (0, .ref q_p0), (1, .int l1)]) hx hb dX9_counted_15 rfl hl (by decide) rfl (fun ls hl => ?_)
        refine lv_aload_n hx hb dX9_counted_16 rfl (lv_at hl 1 rfl) ?_
        refine va_get (ci := 7) (C := RX9) (T := TX9) (N := 24) (v := .ref q_p0_then) hx hb hts hinX9 hown hK hP 0 rfl rfl 12 (by decide) hw0 (fun _ h9 => h9) rfl dX9_counted_17 ?_
        refine lv_iload_n hx hb dX9_counted_20 rfl (lv_at hl 2 rfl) ?_
        refine lv_lconst (v := (0 : Int64)) hx hb dX9_counted_21 (by decide) ?_
        obtain ⟨hi4, h⟩ := h
        refine z_last (wn := [(q_p0, .inr (7, [.int v_p0_n, .int v_p0_way, .ref q_p0_led, .int v_p0_deeds, .ref q_p0_were, .ref q_p0_paths, .ref q_p0_more, .ref q_p0_patterns, .int v_p0_patternMany, .ref q_p0_loop, .ref q_p0_ranks, .ref q_p0_counts, .ref q_p0_then, .ref q_p0_table, .ref q_p0_product, .ref q_p0_turned, .ref q_p0_tape, .int v_p0_taped, .int v_p0_hasWhy, .ref q_p0_reasons, .int v_p0_hasImage, .int v_p0_imageN, .int v_p0_imageWay, .ref q_p0_imageLed])), (q_p0_led, .inl (cI, 8, .inl f_p0_led)), (q_p0_then, .inl (cJ, 8, .inr (.inl (vp_updL f_p0_then l1.toNatClampNeg (0 : Int64))))), (q_p0_counts, .inl (cJ, 8, .inr (.inl f_p0_counts)))]) hx hb hK hP hD hS 2 rfl hi4 dX9_counted_22 rfl (fun H locs hP hD hS => ?_)
        refine lv_iconst (v := (0 : Int32)) hx hb dX9_counted_23 (by decide) ?_
        refine lv_istore_n (lv' := [(3, .int (0 : Int32)), (2, .int r3), (0, .ref q_p0), (1, .int l1)]) hx hb dX9_counted_24 rfl hl (by decide) rfl (fun ls hl => ?_)
        have k25 : ∀ (l1 : Int32) (l2 : Int32) (n25 : Nat) (l3 : Int32) (f_p0_then : (Nat → Int64)) (H : Heap) (locs : List Loc) (ls : Array Slot), LP2 (M_X9_counted_l25 v_p0_way v_p0_n f_p0_led f_p0_counts (LP2 (M_X9_counted_l2 v_p0_way v_p0_n f_p0_led f_p0_counts P ) n2) P l1 l2) n25 l3 f_p0_then → va_P D vwCl [(q_p0, .inr (7, [.int v_p0_n, .int v_p0_way, .ref q_p0_led, .int v_p0_deeds, .ref q_p0_were, .ref q_p0_paths, .ref q_p0_more, .ref q_p0_patterns, .int v_p0_patternMany, .ref q_p0_loop, .ref q_p0_ranks, .ref q_p0_counts, .ref q_p0_then, .ref q_p0_table, .ref q_p0_product, .ref q_p0_turned, .ref q_p0_tape, .int v_p0_taped, .int v_p0_hasWhy, .ref q_p0_reasons, .int v_p0_hasImage, .int v_p0_imageN, .int v_p0_imageWay, .ref q_p0_imageLed])), (q_p0_led, .inl (cI, 8, .inl f_p0_led)), (q_p0_then, .inl (cJ, 8, .inr (.inl f_p0_then))), (q_p0_counts, .inl (cJ, 8, .inr (.inl f_p0_counts)))] H → va_D A [(q_p0, .inr (7, [.int v_p0_n, .int v_p0_way, .ref q_p0_led, .int v_p0_deeds, .ref q_p0_were, .ref q_p0_paths, .ref q_p0_more, .ref q_p0_patterns, .int v_p0_patternMany, .ref q_p0_loop, .ref q_p0_ranks, .ref q_p0_counts, .ref q_p0_then, .ref q_p0_table, .ref q_p0_product, .ref q_p0_turned, .ref q_p0_tape, .int v_p0_taped, .int v_p0_hasWhy, .ref q_p0_reasons, .int v_p0_hasImage, .int v_p0_imageN, .int v_p0_imageWay, .ref q_p0_imageLed])), (q_p0_led, .inl (cI, 8, .inl f_p0_led)), (q_p0_then, .inl (cJ, 8, .inr (.inl f_p0_then))), (q_p0_counts, .inl (cJ, 8, .inr (.inl f_p0_counts)))] → va_S A s.heap H locs → lv_has ls 4 [(0, .ref q_p0), (1, .int l1), (2, .int l2), (3, .int l3)] → W p l e { frames := 2, cells := 0, slots := 0, locals := 46 } s m args below meth c H locs 0 0 Q (F0 m 25 ls []) := by
          intro l1 l2 n25
          induction n25 with
          | zero =>
            intro l3 f_p0_then H locs ls h
            exact False.elim h
          | succ n25 ih25 =>
            intro l3 f_p0_then H locs ls h hP hD hS hl
            have h : M_X9_counted_l25 v_p0_way v_p0_n f_p0_led f_p0_counts (LP2 (M_X9_counted_l2 v_p0_way v_p0_n f_p0_led f_p0_counts P ) n2) P l1 l2 (LP2 (M_X9_counted_l25 v_p0_way v_p0_n f_p0_led f_p0_counts (LP2 (M_X9_counted_l2 v_p0_way v_p0_n f_p0_led f_p0_counts P ) n2) P l1 l2) n25) l3 f_p0_then := h
            refine lv_iload_n hx hb dX9_counted_25 rfl (lv_at hl 3 rfl) ?_
            refine lv_aload_n hx hb dX9_counted_26 rfl (lv_at hl 0 rfl) ?_
            refine z_cVi (As := []) (rest := [.int l3]) (wr := [(q_p0_led, .inl (cI, 8, .inl f_p0_led)), (q_p0_then, .inl (cJ, 8, .inr (.inl f_p0_then))), (q_p0_counts, .inl (cJ, 8, .inr (.inl f_p0_counts)))]) (wn := fun u => [(q_p0, .inr (7, [.int v_p0_n, .int v_p0_way, .ref q_p0_led, .int v_p0_deeds, .ref q_p0_were, .ref q_p0_paths, .ref q_p0_more, .ref q_p0_patterns, .int v_p0_patternMany, .ref q_p0_loop, .ref q_p0_ranks, .ref q_p0_counts, .ref q_p0_then, .ref q_p0_table, .ref q_p0_product, .ref q_p0_turned, .ref q_p0_tape, .int v_p0_taped, .int v_p0_hasWhy, .ref q_p0_reasons, .int v_p0_hasImage, .int v_p0_imageN, .int v_p0_imageWay, .ref q_p0_imageLed])), (q_p0_led, .inl (cI, 8, .inl f_p0_led)), (q_p0_then, .inl (cJ, 8, .inr (.inl f_p0_then))), (q_p0_counts, .inl (cJ, 8, .inr (.inl f_p0_counts)))]) (c_X9_pieces l D cI cJ cB tU tM tS q_p0 q_p0_led q_p0_were q_p0_paths q_p0_more q_p0_patterns q_p0_loop q_p0_ranks q_p0_counts q_p0_then q_p0_table q_p0_product q_p0_turned q_p0_tape q_p0_reasons q_p0_imageLed H.size v_p0_way v_p0_n v_p0_deeds v_p0_patternMany v_p0_taped v_p0_hasWhy v_p0_hasImage v_p0_imageN v_p0_imageWay _ h) ⟨hx, hb, hml, hown, hts⟩ (cwV 0 hts gX9_counted_X9_pieces rfl rfl rfl hd_X9_pieces ⟨Nat.le_of_ble_eq_true rfl, Nat.le_of_ble_eq_true rfl⟩) hX hK hP hD hS hA [0] [1, 2, 3] [3, 0, 1, 2] rfl rfl rfl (by decide) (fun _ => rfl) (q0 := 0) (ci := 7) rfl rfl rfl hl.1 rfl (Nat.le_of_ble_eq_true rfl) ⟨Nat.le_refl _, Nat.le_refl _⟩ dX9_counted_27 (fun r5 u5 H locs h hP hD hS => ?_)
            refine lv_icmp_ge (tgt := 66) hx hb dX9_counted_30 (by decide) (fun c6 => ?_) (fun c6 => ?_)
            · have h := And.left h c6
              refine lv_iinc (v := (l1 + 1)) (lv' := [(1, .int (l1 + 1)), (0, .ref q_p0), (2, .int l2), (3, .int l3)]) hx hb dX9_counted_66 hl (k := 1) rfl rfl (by decide) rfl (fun ls hl => ?_)
              refine lv_goto (tgt := 2) hx hb dX9_counted_69 (by decide) ?_
              exact ih2 (l1 + 1) f_p0_then _ _ _ h hP hD hS (lv_sub hl [1, 0] rfl)
            · have h := And.right h c6
              refine lv_aload_n hx hb dX9_counted_33 rfl (lv_at hl 0 rfl) ?_
              refine va_get (ci := 7) (C := RX9) (T := TX9) (N := 24) (v := .ref q_p0_then) hx hb hts hinX9 hown hK hP 0 rfl rfl 12 (by decide) hw0 (fun _ h9 => h9) rfl dX9_counted_34 ?_
              refine lv_iload_n hx hb dX9_counted_37 rfl (lv_at hl 1 rfl) ?_
              refine lv_dup2_11 hx hb dX9_counted_38 rfl rfl ?_
              obtain ⟨hi7, h⟩ := h
              refine va_lald hx hb hK hP 2 1 rfl rfl hi7 dX9_counted_39 ?_
              refine lv_iload_n hx hb dX9_counted_40 rfl (lv_at hl 2 rfl) ?_
              refine lv_iload_n hx hb dX9_counted_41 rfl (lv_at hl 3 rfl) ?_
              refine lv_ishr hx hb dX9_counted_42 ?_
              refine lv_iconst (v := (1 : Int32)) hx hb dX9_counted_43 (by decide) ?_
              refine lv_iand hx hb dX9_counted_44 ?_
              refine lv_if_eq (tgt := 57) hx hb dX9_counted_45 (by decide) (fun c8 => ?_) (fun c8 => ?_)
              · have h := And.left h c8
                refine lv_lconst (v := (0 : Int64)) hx hb dX9_counted_57 (by decide) ?_
                refine lv_ladd hx hb dX9_counted_58 ?_
                obtain ⟨hi9, h⟩ := h
                refine z_last (wn := [(q_p0, .inr (7, [.int v_p0_n, .int v_p0_way, .ref q_p0_led, .int v_p0_deeds, .ref q_p0_were, .ref q_p0_paths, .ref q_p0_more, .ref q_p0_patterns, .int v_p0_patternMany, .ref q_p0_loop, .ref q_p0_ranks, .ref q_p0_counts, .ref q_p0_then, .ref q_p0_table, .ref q_p0_product, .ref q_p0_turned, .ref q_p0_tape, .int v_p0_taped, .int v_p0_hasWhy, .ref q_p0_reasons, .int v_p0_hasImage, .int v_p0_imageN, .int v_p0_imageWay, .ref q_p0_imageLed])), (q_p0_led, .inl (cI, 8, .inl f_p0_led)), (q_p0_then, .inl (cJ, 8, .inr (.inl (vp_updL f_p0_then l1.toNatClampNeg ((f_p0_then l1.toNatClampNeg) + (0 : Int64)))))), (q_p0_counts, .inl (cJ, 8, .inr (.inl f_p0_counts)))]) hx hb hK hP hD hS 2 rfl hi9 dX9_counted_59 rfl (fun H locs hP hD hS => ?_)
                refine lv_iinc (v := (l3 + 1)) (lv' := [(3, .int (l3 + 1)), (0, .ref q_p0), (1, .int l1), (2, .int l2)]) hx hb dX9_counted_60 hl (k := 3) rfl rfl (by decide) rfl (fun ls hl => ?_)
                refine lv_goto (tgt := 25) hx hb dX9_counted_63 (by decide) ?_
                exact ih25 (l3 + 1) (vp_updL f_p0_then l1.toNatClampNeg ((f_p0_then l1.toNatClampNeg) + (0 : Int64))) _ _ _ h hP hD hS (lv_sub hl [1, 2, 3, 0] rfl)
              · have h := And.right h c8
                refine lv_aload_n hx hb dX9_counted_48 rfl (lv_at hl 0 rfl) ?_
                refine va_get (ci := 7) (C := RX9) (T := TX9) (N := 24) (v := .ref q_p0_counts) hx hb hts hinX9 hown hK hP 0 rfl rfl 11 (by decide) hw1 (fun _ h9 => h9) rfl dX9_counted_49 ?_
                refine lv_iload_n hx hb dX9_counted_52 rfl (lv_at hl 3 rfl) ?_
                obtain ⟨hi10, h⟩ := h
                refine va_lald hx hb hK hP 3 1 rfl rfl hi10 dX9_counted_53 ?_
                refine lv_goto (tgt := 58) hx hb dX9_counted_54 (by decide) ?_
                refine lv_ladd hx hb dX9_counted_58 ?_
                refine lv_topl (fun y11 ey11 => ?_)
                have h := h y11 ey11
                obtain ⟨hi12, h⟩ := h
                refine z_last (wn := [(q_p0, .inr (7, [.int v_p0_n, .int v_p0_way, .ref q_p0_led, .int v_p0_deeds, .ref q_p0_were, .ref q_p0_paths, .ref q_p0_more, .ref q_p0_patterns, .int v_p0_patternMany, .ref q_p0_loop, .ref q_p0_ranks, .ref q_p0_counts, .ref q_p0_then, .ref q_p0_table, .ref q_p0_product, .ref q_p0_turned, .ref q_p0_tape, .int v_p0_taped, .int v_p0_hasWhy, .ref q_p0_reasons, .int v_p0_hasImage, .int v_p0_imageN, .int v_p0_imageWay, .ref q_p0_imageLed])), (q_p0_led, .inl (cI, 8, .inl f_p0_led)), (q_p0_then, .inl (cJ, 8, .inr (.inl (vp_updL f_p0_then l1.toNatClampNeg y11)))), (q_p0_counts, .inl (cJ, 8, .inr (.inl f_p0_counts)))]) hx hb hK hP hD hS 2 rfl hi12 dX9_counted_59 rfl (fun H locs hP hD hS => ?_)
                refine lv_iinc (v := (l3 + 1)) (lv' := [(3, .int (l3 + 1)), (0, .ref q_p0), (1, .int l1), (2, .int l2)]) hx hb dX9_counted_60 hl (k := 3) rfl rfl (by decide) rfl (fun ls hl => ?_)
                refine lv_goto (tgt := 25) hx hb dX9_counted_63 (by decide) ?_
                exact ih25 (l3 + 1) (vp_updL f_p0_then l1.toNatClampNeg y11) _ _ _ h hP hD hS (lv_sub hl [1, 2, 3, 0] rfl)
        obtain ⟨n25, h⟩ := h
        exact k25 l1 r3 n25 (0 : Int32) (vp_updL f_p0_then l1.toNatClampNeg (0 : Int64)) _ _ _ h hP hD hS (lv_sub hl [2, 3, 1, 0] rfl)
  obtain ⟨n2, h⟩ := h
  exact k2  n2 (0 : Int32) f_p0_then _ _ _ h hP hD hS (lv_sub hl [1, 0] rfl)
theorem hd_X9_growth : yX9_growth.cls = RX9 ∧ yX9_growth.cls ≠ "java/lang/invoke/MethodHandle" ∧ yX9_growth.cls ≠ "java/lang/invoke/VarHandle" ∧ (parseMethodDescriptor yX9_growth.desc).map (fun d => d.parameters.length) = some 3 := by decide +kernel
set_option maxHeartbeats 4000000 in
set_option maxRecDepth 100000 in
theorem c_X9_growth (l : Launch) (D : va_G) (cI cJ cB : ClassId) (tU tM tS : Nat) (q_p0 q_p0_led q_p0_were q_p0_paths q_p0_more q_p0_patterns q_p0_loop q_p0_ranks q_p0_counts q_p0_then q_p0_table q_p0_product q_p0_turned q_p0_tape q_p0_reasons q_p0_imageLed : Nat) (sz : Nat) (x1 : Int32) (x2 : Int32) (x3 : Int32) (v_p0_way : Int32) (v_p0_n : Int32) (f_p0_led : (Nat → Int32)) (f_p0_then : (Nat → Int64)) (f_p0_counts : (Nat → Int64)) (v_p0_deeds : Int32) (v_p0_patternMany : Int32) (v_p0_taped : Int32) (v_p0_hasWhy : Int32) (v_p0_hasImage : Int32) (v_p0_imageN : Int32) (v_p0_imageWay : Int32) (P : Int64 → (Nat → Int64) → (Nat → Int64) → Prop) (h : M_X9_growth x1 x2 x3 v_p0_way v_p0_n f_p0_led f_p0_then f_p0_counts P) : Met l yX9_growth wsX9_growth ({ frames := 3, cells := 0, slots := 0, locals := 69 }) (va_Pc [.ref q_p0, .int x1, .int x2, .int x3] (zPre D cI cJ cB tU tM tS [(q_p0, .inr (7, [.int v_p0_n, .int v_p0_way, .ref q_p0_led, .int v_p0_deeds, .ref q_p0_were, .ref q_p0_paths, .ref q_p0_more, .ref q_p0_patterns, .int v_p0_patternMany, .ref q_p0_loop, .ref q_p0_ranks, .ref q_p0_counts, .ref q_p0_then, .ref q_p0_table, .ref q_p0_product, .ref q_p0_turned, .ref q_p0_tape, .int v_p0_taped, .int v_p0_hasWhy, .ref q_p0_reasons, .int v_p0_hasImage, .int v_p0_imageN, .int v_p0_imageWay, .ref q_p0_imageLed])), (q_p0_led, .inl (cI, 8, .inl f_p0_led)), (q_p0_then, .inl (cJ, 8, .inr (.inl f_p0_then))), (q_p0_counts, .inl (cJ, 8, .inr (.inl f_p0_counts)))] sz)) (va_Ql (fun (r : Int64) (u : (Nat → Int64) × (Nat → Int64)) => P r u.1 u.2) (fun u t => zPost D cI cJ cB (va_A [(q_p0, .inr (7, [.int v_p0_n, .int v_p0_way, .ref q_p0_led, .int v_p0_deeds, .ref q_p0_were, .ref q_p0_paths, .ref q_p0_more, .ref q_p0_patterns, .int v_p0_patternMany, .ref q_p0_loop, .ref q_p0_ranks, .ref q_p0_counts, .ref q_p0_then, .ref q_p0_table, .ref q_p0_product, .ref q_p0_turned, .ref q_p0_tape, .int v_p0_taped, .int v_p0_hasWhy, .ref q_p0_reasons, .int v_p0_hasImage, .int v_p0_imageN, .int v_p0_imageWay, .ref q_p0_imageLed])), (q_p0_led, .inl (cI, 8, .inl f_p0_led)), (q_p0_then, .inl (cJ, 8, .inr (.inl f_p0_then))), (q_p0_counts, .inl (cJ, 8, .inr (.inl f_p0_counts)))] sz) [(q_p0, .inr (7, [.int v_p0_n, .int v_p0_way, .ref q_p0_led, .int v_p0_deeds, .ref q_p0_were, .ref q_p0_paths, .ref q_p0_more, .ref q_p0_patterns, .int v_p0_patternMany, .ref q_p0_loop, .ref q_p0_ranks, .ref q_p0_counts, .ref q_p0_then, .ref q_p0_table, .ref q_p0_product, .ref q_p0_turned, .ref q_p0_tape, .int v_p0_taped, .int v_p0_hasWhy, .ref q_p0_reasons, .int v_p0_hasImage, .int v_p0_imageN, .int v_p0_imageWay, .ref q_p0_imageLed])), (q_p0_led, .inl (cI, 8, .inl f_p0_led)), (q_p0_then, .inl (cJ, 8, .inr (.inl u.1))), (q_p0_counts, .inl (cJ, 8, .inr (.inl u.2)))] t) (va_A [(q_p0, .inr (7, [.int v_p0_n, .int v_p0_way, .ref q_p0_led, .int v_p0_deeds, .ref q_p0_were, .ref q_p0_paths, .ref q_p0_more, .ref q_p0_patterns, .int v_p0_patternMany, .ref q_p0_loop, .ref q_p0_ranks, .ref q_p0_counts, .ref q_p0_then, .ref q_p0_table, .ref q_p0_product, .ref q_p0_turned, .ref q_p0_tape, .int v_p0_taped, .int v_p0_hasWhy, .ref q_p0_reasons, .int v_p0_hasImage, .int v_p0_imageN, .int v_p0_imageWay, .ref q_p0_imageLed])), (q_p0_led, .inl (cI, 8, .inl f_p0_led)), (q_p0_then, .inl (cJ, 8, .inr (.inl f_p0_then))), (q_p0_counts, .inl (cJ, 8, .inr (.inl f_p0_counts)))] sz)) 0 0 (va_A [(q_p0, .inr (7, [.int v_p0_n, .int v_p0_way, .ref q_p0_led, .int v_p0_deeds, .ref q_p0_were, .ref q_p0_paths, .ref q_p0_more, .ref q_p0_patterns, .int v_p0_patternMany, .ref q_p0_loop, .ref q_p0_ranks, .ref q_p0_counts, .ref q_p0_then, .ref q_p0_table, .ref q_p0_product, .ref q_p0_turned, .ref q_p0_tape, .int v_p0_taped, .int v_p0_hasWhy, .ref q_p0_reasons, .int v_p0_hasImage, .int v_p0_imageN, .int v_p0_imageWay, .ref q_p0_imageLed])), (q_p0_led, .inl (cI, 8, .inl f_p0_led)), (q_p0_then, .inl (cJ, 8, .inr (.inl f_p0_then))), (q_p0_counts, .inl (cJ, 8, .inr (.inl f_p0_counts)))] sz) := by
  refine z_met (cc := cX9_growth) (maxL := 8) (ret := (some .long)) (Qc := fun A => va_Ql (fun (r : Int64) (u : (Nat → Int64) × (Nat → Int64)) => P r u.1 u.2) (fun u t => zPost D cI cJ cB A [(q_p0, .inr (7, [.int v_p0_n, .int v_p0_way, .ref q_p0_led, .int v_p0_deeds, .ref q_p0_were, .ref q_p0_paths, .ref q_p0_more, .ref q_p0_patterns, .int v_p0_patternMany, .ref q_p0_loop, .ref q_p0_ranks, .ref q_p0_counts, .ref q_p0_then, .ref q_p0_table, .ref q_p0_product, .ref q_p0_turned, .ref q_p0_tape, .int v_p0_taped, .int v_p0_hasWhy, .ref q_p0_reasons, .int v_p0_hasImage, .int v_p0_imageN, .int v_p0_imageWay, .ref q_p0_imageLed])), (q_p0_led, .inl (cI, 8, .inl f_p0_led)), (q_p0_then, .inl (cJ, 8, .inr (.inl u.1))), (q_p0_counts, .inl (cJ, 8, .inr (.inl u.2)))] t) A) (by decide) rfl [.ref q_p0, .int x1, .int x2, .int x3] (Nat.le_of_ble_eq_true rfl) ?_
  intro p e s m args below meth c A hx hb hr hts hown hml hlocks hA hX hK H locs hP hD hS ls hl Q hQ
  have hown : s.vm.findClass RX9 = some m.cls := hown
  have hl : lv_has ls 8 [(0, .ref q_p0), (1, .int x1), (2, .int x2), (3, .int x3)] := hl
  have hw0 : (Cond.constantLong RX9 193 (10)).before args s = true := hts _ (List.mem_of_getElem? (i := 1) rfl)
  have hw1 : (Cond.constantLong RX9 141 (-9223372036854775808)).before args s = true := hts _ (List.mem_of_getElem? (i := 2) rfl)
  have hw2 : (Cond.fieldLink RX9 41 "ForcedRingsModel" "then" "[J").before args s = true := hts _ (List.mem_of_getElem? (i := 4) rfl)
  have hw3 : (Cond.fieldLink RX9 38 "ForcedRingsModel" "counts" "[J").before args s = true := hts _ (List.mem_of_getElem? (i := 3) rfl)
  have hinX9 : ∀ w ∈ wsX90, w ∈ wsX9_growth := fun _ h => List.mem_cons_of_mem _ (List.mem_append_right _ h)
  refine lv_iload_n hx hb dX9_growth_0 rfl (lv_at hl 1 rfl) ?_
  refine lv_i2l (v := x1.toInt64) hx hb dX9_growth_1 rfl ?_
  refine lv_lconst (v := (0 : Int64)) hx hb dX9_growth_2 (by decide) ?_
  refine lv_ldc2 (v := (10 : Int64)) hx hb hown hw0 dX9_growth_3 ?_
  refine z_cSi (As := [.long x1.toInt64, .long (0 : Int64), .long (10 : Int64)]) (rest := []) (wr := [(q_p0, .inr (7, [.int v_p0_n, .int v_p0_way, .ref q_p0_led, .int v_p0_deeds, .ref q_p0_were, .ref q_p0_paths, .ref q_p0_more, .ref q_p0_patterns, .int v_p0_patternMany, .ref q_p0_loop, .ref q_p0_ranks, .ref q_p0_counts, .ref q_p0_then, .ref q_p0_table, .ref q_p0_product, .ref q_p0_turned, .ref q_p0_tape, .int v_p0_taped, .int v_p0_hasWhy, .ref q_p0_reasons, .int v_p0_hasImage, .int v_p0_imageN, .int v_p0_imageWay, .ref q_p0_imageLed])), (q_p0_led, .inl (cI, 8, .inl f_p0_led)), (q_p0_then, .inl (cJ, 8, .inr (.inl f_p0_then))), (q_p0_counts, .inl (cJ, 8, .inr (.inl f_p0_counts)))]) (wn := fun u => [(q_p0, .inr (7, [.int v_p0_n, .int v_p0_way, .ref q_p0_led, .int v_p0_deeds, .ref q_p0_were, .ref q_p0_paths, .ref q_p0_more, .ref q_p0_patterns, .int v_p0_patternMany, .ref q_p0_loop, .ref q_p0_ranks, .ref q_p0_counts, .ref q_p0_then, .ref q_p0_table, .ref q_p0_product, .ref q_p0_turned, .ref q_p0_tape, .int v_p0_taped, .int v_p0_hasWhy, .ref q_p0_reasons, .int v_p0_hasImage, .int v_p0_imageN, .int v_p0_imageWay, .ref q_p0_imageLed])), (q_p0_led, .inl (cI, 8, .inl f_p0_led)), (q_p0_then, .inl (cJ, 8, .inr (.inl f_p0_then))), (q_p0_counts, .inl (cJ, 8, .inr (.inl f_p0_counts)))]) (c_X9_in l D cI cJ cB tU tM tS  H.size x1.toInt64 (0 : Int64) (10 : Int64) _ h) ⟨hx, hb, hml, hown, hts⟩ (va_cwS 3 hts gX9_growth_X9_in rfl rfl rfl hd_X9_in.2 ⟨Nat.le_of_ble_eq_true rfl, Nat.le_of_ble_eq_true rfl⟩) hX hK hP hD hS hA [] [0, 1, 2, 3] [0, 1, 2, 3] rfl rfl rfl (by decide) (fun _ => rfl) rfl hl.1 rfl (Nat.le_of_ble_eq_true rfl) ⟨Nat.le_refl _, Nat.le_refl _⟩ dX9_growth_6 (fun r1 u1 H locs h hP hD hS => ?_)
  refine lv_if_eq (tgt := 32) hx hb dX9_growth_9 (by decide) (fun c2 => ?_) (fun c2 => ?_)
  · have h := And.left h c2
    refine lv_ldc2 (v := (-9223372036854775808 : Int64)) hx hb hown hw1 dX9_growth_32 ?_
    exact z_lret hQ hx hb hr hlocks hK (f_p0_then, f_p0_counts) h hP hD hS dX9_growth_35
  · have h := And.right h c2
    refine lv_iload_n hx hb dX9_growth_12 rfl (lv_at hl 2 rfl) ?_
    refine lv_i2l (v := x2.toInt64) hx hb dX9_growth_13 rfl ?_
    refine lv_lconst (v := (0 : Int64)) hx hb dX9_growth_14 (by decide) ?_
    refine lv_lconst (v := (1 : Int64)) hx hb dX9_growth_15 (by decide) ?_
    refine z_cSi (As := [.long x2.toInt64, .long (0 : Int64), .long (1 : Int64)]) (rest := []) (wr := [(q_p0, .inr (7, [.int v_p0_n, .int v_p0_way, .ref q_p0_led, .int v_p0_deeds, .ref q_p0_were, .ref q_p0_paths, .ref q_p0_more, .ref q_p0_patterns, .int v_p0_patternMany, .ref q_p0_loop, .ref q_p0_ranks, .ref q_p0_counts, .ref q_p0_then, .ref q_p0_table, .ref q_p0_product, .ref q_p0_turned, .ref q_p0_tape, .int v_p0_taped, .int v_p0_hasWhy, .ref q_p0_reasons, .int v_p0_hasImage, .int v_p0_imageN, .int v_p0_imageWay, .ref q_p0_imageLed])), (q_p0_led, .inl (cI, 8, .inl f_p0_led)), (q_p0_then, .inl (cJ, 8, .inr (.inl f_p0_then))), (q_p0_counts, .inl (cJ, 8, .inr (.inl f_p0_counts)))]) (wn := fun u => [(q_p0, .inr (7, [.int v_p0_n, .int v_p0_way, .ref q_p0_led, .int v_p0_deeds, .ref q_p0_were, .ref q_p0_paths, .ref q_p0_more, .ref q_p0_patterns, .int v_p0_patternMany, .ref q_p0_loop, .ref q_p0_ranks, .ref q_p0_counts, .ref q_p0_then, .ref q_p0_table, .ref q_p0_product, .ref q_p0_turned, .ref q_p0_tape, .int v_p0_taped, .int v_p0_hasWhy, .ref q_p0_reasons, .int v_p0_hasImage, .int v_p0_imageN, .int v_p0_imageWay, .ref q_p0_imageLed])), (q_p0_led, .inl (cI, 8, .inl f_p0_led)), (q_p0_then, .inl (cJ, 8, .inr (.inl f_p0_then))), (q_p0_counts, .inl (cJ, 8, .inr (.inl f_p0_counts)))]) (c_X9_in l D cI cJ cB tU tM tS  H.size x2.toInt64 (0 : Int64) (1 : Int64) _ h) ⟨hx, hb, hml, hown, hts⟩ (va_cwS 3 hts gX9_growth_X9_in rfl rfl rfl hd_X9_in.2 ⟨Nat.le_of_ble_eq_true rfl, Nat.le_of_ble_eq_true rfl⟩) hX hK hP hD hS hA [] [0, 1, 2, 3] [0, 1, 2, 3] rfl rfl rfl (by decide) (fun _ => rfl) rfl hl.1 rfl (Nat.le_of_ble_eq_true rfl) ⟨Nat.le_refl _, Nat.le_refl _⟩ dX9_growth_16 (fun r3 u3 H locs h hP hD hS => ?_)
    refine lv_if_eq (tgt := 32) hx hb dX9_growth_19 (by decide) (fun c4 => ?_) (fun c4 => ?_)
    · have h := And.left h c4
      refine lv_ldc2 (v := (-9223372036854775808 : Int64)) hx hb hown hw1 dX9_growth_32 ?_
      exact z_lret hQ hx hb hr hlocks hK (f_p0_then, f_p0_counts) h hP hD hS dX9_growth_35
    · have h := And.right h c4
      refine lv_iload_n hx hb dX9_growth_22 rfl (lv_at hl 3 rfl) ?_
      refine lv_i2l (v := x3.toInt64) hx hb dX9_growth_23 rfl ?_
      refine lv_lconst (v := (0 : Int64)) hx hb dX9_growth_24 (by decide) ?_
      refine lv_lconst (v := (1 : Int64)) hx hb dX9_growth_25 (by decide) ?_
      refine z_cSi (As := [.long x3.toInt64, .long (0 : Int64), .long (1 : Int64)]) (rest := []) (wr := [(q_p0, .inr (7, [.int v_p0_n, .int v_p0_way, .ref q_p0_led, .int v_p0_deeds, .ref q_p0_were, .ref q_p0_paths, .ref q_p0_more, .ref q_p0_patterns, .int v_p0_patternMany, .ref q_p0_loop, .ref q_p0_ranks, .ref q_p0_counts, .ref q_p0_then, .ref q_p0_table, .ref q_p0_product, .ref q_p0_turned, .ref q_p0_tape, .int v_p0_taped, .int v_p0_hasWhy, .ref q_p0_reasons, .int v_p0_hasImage, .int v_p0_imageN, .int v_p0_imageWay, .ref q_p0_imageLed])), (q_p0_led, .inl (cI, 8, .inl f_p0_led)), (q_p0_then, .inl (cJ, 8, .inr (.inl f_p0_then))), (q_p0_counts, .inl (cJ, 8, .inr (.inl f_p0_counts)))]) (wn := fun u => [(q_p0, .inr (7, [.int v_p0_n, .int v_p0_way, .ref q_p0_led, .int v_p0_deeds, .ref q_p0_were, .ref q_p0_paths, .ref q_p0_more, .ref q_p0_patterns, .int v_p0_patternMany, .ref q_p0_loop, .ref q_p0_ranks, .ref q_p0_counts, .ref q_p0_then, .ref q_p0_table, .ref q_p0_product, .ref q_p0_turned, .ref q_p0_tape, .int v_p0_taped, .int v_p0_hasWhy, .ref q_p0_reasons, .int v_p0_hasImage, .int v_p0_imageN, .int v_p0_imageWay, .ref q_p0_imageLed])), (q_p0_led, .inl (cI, 8, .inl f_p0_led)), (q_p0_then, .inl (cJ, 8, .inr (.inl f_p0_then))), (q_p0_counts, .inl (cJ, 8, .inr (.inl f_p0_counts)))]) (c_X9_in l D cI cJ cB tU tM tS  H.size x3.toInt64 (0 : Int64) (1 : Int64) _ h) ⟨hx, hb, hml, hown, hts⟩ (va_cwS 3 hts gX9_growth_X9_in rfl rfl rfl hd_X9_in.2 ⟨Nat.le_of_ble_eq_true rfl, Nat.le_of_ble_eq_true rfl⟩) hX hK hP hD hS hA [] [0, 1, 2, 3] [0, 1, 2, 3] rfl rfl rfl (by decide) (fun _ => rfl) rfl hl.1 rfl (Nat.le_of_ble_eq_true rfl) ⟨Nat.le_refl _, Nat.le_refl _⟩ dX9_growth_26 (fun r5 u5 H locs h hP hD hS => ?_)
      refine lv_if_ne (tgt := 36) hx hb dX9_growth_29 (by decide) (fun c6 => ?_) (fun c6 => ?_)
      · have h := And.right h c6
        refine lv_iconst (v := (0 : Int32)) hx hb dX9_growth_36 (by decide) ?_
        refine lv_istore (lv' := [(4, .int (0 : Int32)), (0, .ref q_p0), (1, .int x1), (2, .int x2), (3, .int x3)]) hx hb dX9_growth_37 hl (by decide) rfl (fun ls hl => ?_)
        have k39 : ∀ (f_p0_then : (Nat → Int64)) (n39 : Nat) (l4 : Int32) (f_p0_counts : (Nat → Int64)) (H : Heap) (locs : List Loc) (ls : Array Slot), LP2 (M_X9_growth_l39 x1 x2 x3 v_p0_way v_p0_n f_p0_led P f_p0_then) n39 l4 f_p0_counts → va_P D vwCl [(q_p0, .inr (7, [.int v_p0_n, .int v_p0_way, .ref q_p0_led, .int v_p0_deeds, .ref q_p0_were, .ref q_p0_paths, .ref q_p0_more, .ref q_p0_patterns, .int v_p0_patternMany, .ref q_p0_loop, .ref q_p0_ranks, .ref q_p0_counts, .ref q_p0_then, .ref q_p0_table, .ref q_p0_product, .ref q_p0_turned, .ref q_p0_tape, .int v_p0_taped, .int v_p0_hasWhy, .ref q_p0_reasons, .int v_p0_hasImage, .int v_p0_imageN, .int v_p0_imageWay, .ref q_p0_imageLed])), (q_p0_led, .inl (cI, 8, .inl f_p0_led)), (q_p0_then, .inl (cJ, 8, .inr (.inl f_p0_then))), (q_p0_counts, .inl (cJ, 8, .inr (.inl f_p0_counts)))] H → va_D A [(q_p0, .inr (7, [.int v_p0_n, .int v_p0_way, .ref q_p0_led, .int v_p0_deeds, .ref q_p0_were, .ref q_p0_paths, .ref q_p0_more, .ref q_p0_patterns, .int v_p0_patternMany, .ref q_p0_loop, .ref q_p0_ranks, .ref q_p0_counts, .ref q_p0_then, .ref q_p0_table, .ref q_p0_product, .ref q_p0_turned, .ref q_p0_tape, .int v_p0_taped, .int v_p0_hasWhy, .ref q_p0_reasons, .int v_p0_hasImage, .int v_p0_imageN, .int v_p0_imageWay, .ref q_p0_imageLed])), (q_p0_led, .inl (cI, 8, .inl f_p0_led)), (q_p0_then, .inl (cJ, 8, .inr (.inl f_p0_then))), (q_p0_counts, .inl (cJ, 8, .inr (.inl f_p0_counts)))] → va_S A s.heap H locs → lv_has ls 8 [(0, .ref q_p0), (1, .int x1), (2, .int x2), (3, .int x3), (4, .int l4)] → W p l e { frames := 3, cells := 0, slots := 0, locals := 69 } s m args below meth c H locs 0 0 Q (F0 m 39 ls []) := by
          intro f_p0_then n39
          induction n39 with
          | zero =>
            intro l4 f_p0_counts H locs ls h
            exact False.elim h
          | succ n39 ih39 =>
            intro l4 f_p0_counts H locs ls h hP hD hS hl
            have h : M_X9_growth_l39 x1 x2 x3 v_p0_way v_p0_n f_p0_led P f_p0_then (LP2 (M_X9_growth_l39 x1 x2 x3 v_p0_way v_p0_n f_p0_led P f_p0_then) n39) l4 f_p0_counts := h
            refine lv_iload hx hb dX9_growth_39 (lv_at hl 4 rfl) ?_
            refine lv_bipush (v := (8 : Int32)) hx hb dX9_growth_41 (by decide) ?_
            refine lv_icmp_ge (tgt := 60) hx hb dX9_growth_43 (by decide) (fun c7 => ?_) (fun c7 => ?_)
            · have h := And.left h c7
              refine lv_iconst (v := (0 : Int32)) hx hb dX9_growth_60 (by decide) ?_
              refine lv_istore (lv' := [(4, .int (0 : Int32)), (0, .ref q_p0), (1, .int x1), (2, .int x2), (3, .int x3)]) hx hb dX9_growth_61 hl (by decide) rfl (fun ls hl => ?_)
              have k63 : ∀  (n63 : Nat) (l4 : Int32) (f_p0_then : (Nat → Int64)) (f_p0_counts : (Nat → Int64)) (H : Heap) (locs : List Loc) (ls : Array Slot), LP3 (M_X9_growth_l63 x1 x2 x3 v_p0_way v_p0_n f_p0_led P ) n63 l4 f_p0_then f_p0_counts → va_P D vwCl [(q_p0, .inr (7, [.int v_p0_n, .int v_p0_way, .ref q_p0_led, .int v_p0_deeds, .ref q_p0_were, .ref q_p0_paths, .ref q_p0_more, .ref q_p0_patterns, .int v_p0_patternMany, .ref q_p0_loop, .ref q_p0_ranks, .ref q_p0_counts, .ref q_p0_then, .ref q_p0_table, .ref q_p0_product, .ref q_p0_turned, .ref q_p0_tape, .int v_p0_taped, .int v_p0_hasWhy, .ref q_p0_reasons, .int v_p0_hasImage, .int v_p0_imageN, .int v_p0_imageWay, .ref q_p0_imageLed])), (q_p0_led, .inl (cI, 8, .inl f_p0_led)), (q_p0_then, .inl (cJ, 8, .inr (.inl f_p0_then))), (q_p0_counts, .inl (cJ, 8, .inr (.inl f_p0_counts)))] H → va_D A [(q_p0, .inr (7, [.int v_p0_n, .int v_p0_way, .ref q_p0_led, .int v_p0_deeds, .ref q_p0_were, .ref q_p0_paths, .ref q_p0_more, .ref q_p0_patterns, .int v_p0_patternMany, .ref q_p0_loop, .ref q_p0_ranks, .ref q_p0_counts, .ref q_p0_then, .ref q_p0_table, .ref q_p0_product, .ref q_p0_turned, .ref q_p0_tape, .int v_p0_taped, .int v_p0_hasWhy, .ref q_p0_reasons, .int v_p0_hasImage, .int v_p0_imageN, .int v_p0_imageWay, .ref q_p0_imageLed])), (q_p0_led, .inl (cI, 8, .inl f_p0_led)), (q_p0_then, .inl (cJ, 8, .inr (.inl f_p0_then))), (q_p0_counts, .inl (cJ, 8, .inr (.inl f_p0_counts)))] → va_S A s.heap H locs → lv_has ls 8 [(0, .ref q_p0), (1, .int x1), (2, .int x2), (3, .int x3), (4, .int l4)] → W p l e { frames := 3, cells := 0, slots := 0, locals := 69 } s m args below meth c H locs 0 0 Q (F0 m 63 ls []) := by
                intro  n63
                induction n63 with
                | zero =>
                  intro l4 f_p0_then f_p0_counts H locs ls h
                  exact False.elim h
                | succ n63 ih63 =>
                  intro l4 f_p0_then f_p0_counts H locs ls h hP hD hS hl
                  have h : M_X9_growth_l63 x1 x2 x3 v_p0_way v_p0_n f_p0_led P  (LP3 (M_X9_growth_l63 x1 x2 x3 v_p0_way v_p0_n f_p0_led P ) n63) l4 f_p0_then f_p0_counts := h
                  refine lv_iload hx hb dX9_growth_63 (lv_at hl 4 rfl) ?_
                  refine lv_iload_n hx hb dX9_growth_65 rfl (lv_at hl 1 rfl) ?_
                  refine lv_icmp_ge (tgt := 111) hx hb dX9_growth_66 (by decide) (fun c8 => ?_) (fun c8 => ?_)
                  · have h := And.left h c8
                    refine lv_aload_n hx hb dX9_growth_111 rfl (lv_at hl 0 rfl) ?_
                    refine z_cVv (As := []) (rest := []) (wr := []) (wn := fun u => [(q_p0, .inr (7, [.int v_p0_n, .int v_p0_way, .ref q_p0_led, .int v_p0_deeds, .ref q_p0_were, .ref q_p0_paths, .ref q_p0_more, .ref q_p0_patterns, .int v_p0_patternMany, .ref q_p0_loop, .ref q_p0_ranks, .ref q_p0_counts, .ref q_p0_then, .ref q_p0_table, .ref q_p0_product, .ref q_p0_turned, .ref q_p0_tape, .int v_p0_taped, .int v_p0_hasWhy, .ref q_p0_reasons, .int v_p0_hasImage, .int v_p0_imageN, .int v_p0_imageWay, .ref q_p0_imageLed])), (q_p0_led, .inl (cI, 8, .inl f_p0_led)), (q_p0_then, .inl (cJ, 8, .inr (.inl u))), (q_p0_counts, .inl (cJ, 8, .inr (.inl f_p0_counts)))]) (c_X9_counted l D cI cJ cB tU tM tS q_p0 q_p0_led q_p0_were q_p0_paths q_p0_more q_p0_patterns q_p0_loop q_p0_ranks q_p0_counts q_p0_then q_p0_table q_p0_product q_p0_turned q_p0_tape q_p0_reasons q_p0_imageLed H.size v_p0_way v_p0_n f_p0_led f_p0_then f_p0_counts v_p0_deeds v_p0_patternMany v_p0_taped v_p0_hasWhy v_p0_hasImage v_p0_imageN v_p0_imageWay _ h) ⟨hx, hb, hml, hown, hts⟩ (cwV 0 hts gX9_growth_X9_counted rfl rfl rfl hd_X9_counted ⟨Nat.le_of_ble_eq_true rfl, Nat.le_of_ble_eq_true rfl⟩) hX hK hP hD hS hA [0, 1, 2, 3] [] [0, 1, 2, 3] rfl rfl rfl (by decide) (fun _ => rfl) (q0 := 0) (ci := 7) rfl rfl rfl hl.1 rfl (Nat.le_of_ble_eq_true rfl) ⟨Nat.le_refl _, Nat.le_refl _⟩ dX9_growth_112 (fun m9_0 H locs h hP hD hS => ?_)
                    refine lv_iconst (v := (-1 : Int32)) hx hb dX9_growth_115 (by decide) ?_
                    refine lv_istore (lv' := [(4, .int (-1 : Int32)), (0, .ref q_p0), (1, .int x1), (2, .int x2), (3, .int x3)]) hx hb dX9_growth_116 hl (by decide) rfl (fun ls hl => ?_)
                    refine lv_iconst (v := (0 : Int32)) hx hb dX9_growth_118 (by decide) ?_
                    refine lv_istore (lv' := [(5, .int (0 : Int32)), (4, .int (-1 : Int32)), (0, .ref q_p0), (1, .int x1), (2, .int x2), (3, .int x3)]) hx hb dX9_growth_119 hl (by decide) rfl (fun ls hl => ?_)
                    have k121 : ∀ (f_p0_then : (Nat → Int64)) (f_p0_counts : (Nat → Int64)) (n121 : Nat) (l4 : Int32) (l5 : Int32) (H : Heap) (locs : List Loc) (ls : Array Slot), LP2 (M_X9_growth_l121 x1 x2 x3 v_p0_way v_p0_n f_p0_led P f_p0_then f_p0_counts) n121 l4 l5 → va_P D vwCl [(q_p0, .inr (7, [.int v_p0_n, .int v_p0_way, .ref q_p0_led, .int v_p0_deeds, .ref q_p0_were, .ref q_p0_paths, .ref q_p0_more, .ref q_p0_patterns, .int v_p0_patternMany, .ref q_p0_loop, .ref q_p0_ranks, .ref q_p0_counts, .ref q_p0_then, .ref q_p0_table, .ref q_p0_product, .ref q_p0_turned, .ref q_p0_tape, .int v_p0_taped, .int v_p0_hasWhy, .ref q_p0_reasons, .int v_p0_hasImage, .int v_p0_imageN, .int v_p0_imageWay, .ref q_p0_imageLed])), (q_p0_led, .inl (cI, 8, .inl f_p0_led)), (q_p0_then, .inl (cJ, 8, .inr (.inl f_p0_then))), (q_p0_counts, .inl (cJ, 8, .inr (.inl f_p0_counts)))] H → va_D A [(q_p0, .inr (7, [.int v_p0_n, .int v_p0_way, .ref q_p0_led, .int v_p0_deeds, .ref q_p0_were, .ref q_p0_paths, .ref q_p0_more, .ref q_p0_patterns, .int v_p0_patternMany, .ref q_p0_loop, .ref q_p0_ranks, .ref q_p0_counts, .ref q_p0_then, .ref q_p0_table, .ref q_p0_product, .ref q_p0_turned, .ref q_p0_tape, .int v_p0_taped, .int v_p0_hasWhy, .ref q_p0_reasons, .int v_p0_hasImage, .int v_p0_imageN, .int v_p0_imageWay, .ref q_p0_imageLed])), (q_p0_led, .inl (cI, 8, .inl f_p0_led)), (q_p0_then, .inl (cJ, 8, .inr (.inl f_p0_then))), (q_p0_counts, .inl (cJ, 8, .inr (.inl f_p0_counts)))] → va_S A s.heap H locs → lv_has ls 8 [(0, .ref q_p0), (2, .int x2), (3, .int x3), (4, .int l4), (5, .int l5)] → W p l e { frames := 3, cells := 0, slots := 0, locals := 69 } s m args below meth c H locs 0 0 Q (F0 m 121 ls []) := by
                      intro f_p0_then f_p0_counts n121
                      induction n121 with
                      | zero =>
                        intro l4 l5 H locs ls h
                        exact False.elim h
                      | succ n121 ih121 =>
                        intro l4 l5 H locs ls h hP hD hS hl
                        have h : M_X9_growth_l121 x1 x2 x3 v_p0_way v_p0_n f_p0_led P f_p0_then f_p0_counts (LP2 (M_X9_growth_l121 x1 x2 x3 v_p0_way v_p0_n f_p0_led P f_p0_then f_p0_counts) n121) l4 l5 := h
                        refine lv_iload hx hb dX9_growth_121 (lv_at hl 4 rfl) ?_
                        refine lv_aload_n hx hb dX9_growth_123 rfl (lv_at hl 0 rfl) ?_
                        refine z_cVi (As := []) (rest := [.int l5]) (wr := [(q_p0_led, .inl (cI, 8, .inl f_p0_led)), (q_p0_then, .inl (cJ, 8, .inr (.inl f_p0_then))), (q_p0_counts, .inl (cJ, 8, .inr (.inl f_p0_counts)))]) (wn := fun u => [(q_p0, .inr (7, [.int v_p0_n, .int v_p0_way, .ref q_p0_led, .int v_p0_deeds, .ref q_p0_were, .ref q_p0_paths, .ref q_p0_more, .ref q_p0_patterns, .int v_p0_patternMany, .ref q_p0_loop, .ref q_p0_ranks, .ref q_p0_counts, .ref q_p0_then, .ref q_p0_table, .ref q_p0_product, .ref q_p0_turned, .ref q_p0_tape, .int v_p0_taped, .int v_p0_hasWhy, .ref q_p0_reasons, .int v_p0_hasImage, .int v_p0_imageN, .int v_p0_imageWay, .ref q_p0_imageLed])), (q_p0_led, .inl (cI, 8, .inl f_p0_led)), (q_p0_then, .inl (cJ, 8, .inr (.inl f_p0_then))), (q_p0_counts, .inl (cJ, 8, .inr (.inl f_p0_counts)))]) (c_X9_pieces l D cI cJ cB tU tM tS q_p0 q_p0_led q_p0_were q_p0_paths q_p0_more q_p0_patterns q_p0_loop q_p0_ranks q_p0_counts q_p0_then q_p0_table q_p0_product q_p0_turned q_p0_tape q_p0_reasons q_p0_imageLed H.size v_p0_way v_p0_n v_p0_deeds v_p0_patternMany v_p0_taped v_p0_hasWhy v_p0_hasImage v_p0_imageN v_p0_imageWay _ h) ⟨hx, hb, hml, hown, hts⟩ (cwV 0 hts gX9_growth_X9_pieces rfl rfl rfl hd_X9_pieces ⟨Nat.le_of_ble_eq_true rfl, Nat.le_of_ble_eq_true rfl⟩) hX hK hP hD hS hA [0] [1, 2, 3] [3, 0, 1, 2] rfl rfl rfl (by decide) (fun _ => rfl) (q0 := 0) (ci := 7) rfl rfl rfl hl.1 rfl (Nat.le_of_ble_eq_true rfl) ⟨Nat.le_refl _, Nat.le_refl _⟩ dX9_growth_124 (fun r10 u10 H locs h hP hD hS => ?_)
                        refine lv_icmp_ge (tgt := 229) hx hb dX9_growth_127 (by decide) (fun c11 => ?_) (fun c11 => ?_)
                        · have h := And.left h c11
                          refine lv_iload hx hb dX9_growth_229 (lv_at hl 3 rfl) ?_
                          refine lv_iconst (v := (-1 : Int32)) hx hb dX9_growth_231 (by decide) ?_
                          refine lv_icmp_ne (tgt := 241) hx hb dX9_growth_232 (by decide) (fun c12 => ?_) (fun c12 => ?_)
                          · have h := And.right h c12
                            refine lv_aload_n hx hb dX9_growth_241 rfl (lv_at hl 0 rfl) ?_
                            refine va_get (ci := 7) (C := RX9) (T := TX9) (N := 24) (v := .ref q_p0_then) hx hb hts hinX9 hown hK hP 0 rfl rfl 12 (by decide) hw2 (fun _ h9 => h9) rfl dX9_growth_242 ?_
                            refine lv_iload hx hb dX9_growth_245 (lv_at hl 3 rfl) ?_
                            obtain ⟨hi13, h⟩ := h
                            refine va_lald hx hb hK hP 2 1 rfl rfl hi13 dX9_growth_247 ?_
                            refine lv_aload_n hx hb dX9_growth_248 rfl (lv_at hl 0 rfl) ?_
                            refine va_get (ci := 7) (C := RX9) (T := TX9) (N := 24) (v := .ref q_p0_counts) hx hb hts hinX9 hown hK hP 0 rfl rfl 11 (by decide) hw3 (fun _ h9 => h9) rfl dX9_growth_249 ?_
                            refine lv_iload hx hb dX9_growth_252 (lv_at hl 3 rfl) ?_
                            obtain ⟨hi14, h⟩ := h
                            refine va_lald hx hb hK hP 3 1 rfl rfl hi14 dX9_growth_254 ?_
                            refine lv_iload_n hx hb dX9_growth_255 rfl (lv_at hl 2 rfl) ?_
                            refine z_cSl (As := [.long (f_p0_then l4.toNatClampNeg), .long (f_p0_counts l4.toNatClampNeg), .int x3]) (rest := []) (wr := [(q_p0, .inr (7, [.int v_p0_n, .int v_p0_way, .ref q_p0_led, .int v_p0_deeds, .ref q_p0_were, .ref q_p0_paths, .ref q_p0_more, .ref q_p0_patterns, .int v_p0_patternMany, .ref q_p0_loop, .ref q_p0_ranks, .ref q_p0_counts, .ref q_p0_then, .ref q_p0_table, .ref q_p0_product, .ref q_p0_turned, .ref q_p0_tape, .int v_p0_taped, .int v_p0_hasWhy, .ref q_p0_reasons, .int v_p0_hasImage, .int v_p0_imageN, .int v_p0_imageWay, .ref q_p0_imageLed])), (q_p0_led, .inl (cI, 8, .inl f_p0_led)), (q_p0_then, .inl (cJ, 8, .inr (.inl f_p0_then))), (q_p0_counts, .inl (cJ, 8, .inr (.inl f_p0_counts)))]) (wn := fun u => [(q_p0, .inr (7, [.int v_p0_n, .int v_p0_way, .ref q_p0_led, .int v_p0_deeds, .ref q_p0_were, .ref q_p0_paths, .ref q_p0_more, .ref q_p0_patterns, .int v_p0_patternMany, .ref q_p0_loop, .ref q_p0_ranks, .ref q_p0_counts, .ref q_p0_then, .ref q_p0_table, .ref q_p0_product, .ref q_p0_turned, .ref q_p0_tape, .int v_p0_taped, .int v_p0_hasWhy, .ref q_p0_reasons, .int v_p0_hasImage, .int v_p0_imageN, .int v_p0_imageWay, .ref q_p0_imageLed])), (q_p0_led, .inl (cI, 8, .inl f_p0_led)), (q_p0_then, .inl (cJ, 8, .inr (.inl f_p0_then))), (q_p0_counts, .inl (cJ, 8, .inr (.inl f_p0_counts)))]) (c_X9_lowest l D cI cJ cB tU tM tS  H.size (f_p0_then l4.toNatClampNeg) (f_p0_counts l4.toNatClampNeg) x3 _ h) ⟨hx, hb, hml, hown, hts⟩ (va_cwS 3 hts gX9_growth_X9_lowest rfl rfl rfl hd_X9_lowest.2 ⟨Nat.le_of_ble_eq_true rfl, Nat.le_of_ble_eq_true rfl⟩) hX hK hP hD hS hA [] [0, 1, 2, 3] [0, 1, 2, 3] rfl rfl rfl (by decide) (fun _ => rfl) rfl hl.1 rfl (Nat.le_of_ble_eq_true rfl) ⟨Nat.le_refl _, Nat.le_refl _⟩ dX9_growth_256 (fun r15 u15 H locs h hP hD hS => ?_)
                            exact z_lret hQ hx hb hr hlocks hK (f_p0_then, f_p0_counts) h hP hD hS dX9_growth_259
                          · have h := And.left h c12
                            refine lv_ldc2 (v := (-9223372036854775808 : Int64)) hx hb hown hw1 dX9_growth_235 ?_
                            refine lv_goto (tgt := 259) hx hb dX9_growth_238 (by decide) ?_
                            exact z_lret hQ hx hb hr hlocks hK (f_p0_then, f_p0_counts) h hP hD hS dX9_growth_259
                        · have h := And.right h c11
                          refine lv_aload_n hx hb dX9_growth_130 rfl (lv_at hl 0 rfl) ?_
                          refine va_get (ci := 7) (C := RX9) (T := TX9) (N := 24) (v := .ref q_p0_counts) hx hb hts hinX9 hown hK hP 0 rfl rfl 11 (by decide) hw3 (fun _ h9 => h9) rfl dX9_growth_131 ?_
                          refine lv_iload hx hb dX9_growth_134 (lv_at hl 4 rfl) ?_
                          obtain ⟨hi16, h⟩ := h
                          refine va_lald hx hb hK hP 3 1 rfl rfl hi16 dX9_growth_136 ?_
                          refine lv_lconst (v := (0 : Int64)) hx hb dX9_growth_137 (by decide) ?_
                          refine W.lcmp hx hb dX9_growth_138 ?_
                          refine lv_if_le (tgt := 223) hx hb dX9_growth_139 (by decide) (fun c17 => ?_) (fun c17 => ?_)
                          · have h := And.left h c17
                            refine lv_iinc (v := (l5 + 1)) (lv' := [(5, .int (l5 + 1)), (0, .ref q_p0), (2, .int x2), (3, .int x3), (4, .int l4)]) hx hb dX9_growth_223 hl (k := 4) rfl rfl (by decide) rfl (fun ls hl => ?_)
                            refine lv_goto (tgt := 121) hx hb dX9_growth_226 (by decide) ?_
                            exact ih121 l4 (l5 + 1) _ _ _ h hP hD hS (lv_sub hl [1, 2, 3, 4, 0] rfl)
                          · have h := And.right h c17
                            refine lv_iload hx hb dX9_growth_142 (lv_at hl 3 rfl) ?_
                            refine lv_iconst (v := (-1 : Int32)) hx hb dX9_growth_144 (by decide) ?_
                            have k183 : ∀ (l4 : Int32) (l5 : Int32) (s0 : Int64) (H : Heap) (locs : List Loc) (ls : Array Slot), M_X9_growth_b183 x1 x2 x3 v_p0_way v_p0_n f_p0_led (LP2 (M_X9_growth_l121 x1 x2 x3 v_p0_way v_p0_n f_p0_led P f_p0_then f_p0_counts) n121) P l4 l5 s0 f_p0_then f_p0_counts → va_P D vwCl [(q_p0, .inr (7, [.int v_p0_n, .int v_p0_way, .ref q_p0_led, .int v_p0_deeds, .ref q_p0_were, .ref q_p0_paths, .ref q_p0_more, .ref q_p0_patterns, .int v_p0_patternMany, .ref q_p0_loop, .ref q_p0_ranks, .ref q_p0_counts, .ref q_p0_then, .ref q_p0_table, .ref q_p0_product, .ref q_p0_turned, .ref q_p0_tape, .int v_p0_taped, .int v_p0_hasWhy, .ref q_p0_reasons, .int v_p0_hasImage, .int v_p0_imageN, .int v_p0_imageWay, .ref q_p0_imageLed])), (q_p0_led, .inl (cI, 8, .inl f_p0_led)), (q_p0_then, .inl (cJ, 8, .inr (.inl f_p0_then))), (q_p0_counts, .inl (cJ, 8, .inr (.inl f_p0_counts)))] H → va_D A [(q_p0, .inr (7, [.int v_p0_n, .int v_p0_way, .ref q_p0_led, .int v_p0_deeds, .ref q_p0_were, .ref q_p0_paths, .ref q_p0_more, .ref q_p0_patterns, .int v_p0_patternMany, .ref q_p0_loop, .ref q_p0_ranks, .ref q_p0_counts, .ref q_p0_then, .ref q_p0_table, .ref q_p0_product, .ref q_p0_turned, .ref q_p0_tape, .int v_p0_taped, .int v_p0_hasWhy, .ref q_p0_reasons, .int v_p0_hasImage, .int v_p0_imageN, .int v_p0_imageWay, .ref q_p0_imageLed])), (q_p0_led, .inl (cI, 8, .inl f_p0_led)), (q_p0_then, .inl (cJ, 8, .inr (.inl f_p0_then))), (q_p0_counts, .inl (cJ, 8, .inr (.inl f_p0_counts)))] → va_S A s.heap H locs → lv_has ls 8 [(0, .ref q_p0), (2, .int x2), (3, .int x3), (4, .int l4), (5, .int l5)] → W p l e { frames := 3, cells := 0, slots := 0, locals := 69 } s m args below meth c H locs 0 0 Q (F0 m 183 ls [.long s0]) := by
                              intro l4 l5 s0 H locs ls h hP hD hS hl
                              refine lv_lstore (lv' := [(6, .long s0), (0, .ref q_p0), (2, .int x2), (3, .int x3), (4, .int l4), (5, .int l5)]) hx hb dX9_growth_183 hl (by decide) rfl (fun ls hl => ?_)
                              refine lv_iload hx hb dX9_growth_185 (lv_at hl 4 rfl) ?_
                              refine lv_iconst (v := (-1 : Int32)) hx hb dX9_growth_187 (by decide) ?_
                              refine lv_icmp_eq (tgt := 214) hx hb dX9_growth_188 (by decide) (fun c18 => ?_) (fun c18 => ?_)
                              · have h := And.left h c18
                                refine lv_iload hx hb dX9_growth_214 (lv_at hl 5 rfl) ?_
                                refine lv_goto (tgt := 221) hx hb dX9_growth_216 (by decide) ?_
                                refine lv_istore (lv' := [(4, .int l5), (6, .long s0), (0, .ref q_p0), (2, .int x2), (3, .int x3), (5, .int l5)]) hx hb dX9_growth_221 hl (by decide) rfl (fun ls hl => ?_)
                                refine lv_iinc (v := (l5 + 1)) (lv' := [(5, .int (l5 + 1)), (4, .int l5), (6, .long s0), (0, .ref q_p0), (2, .int x2), (3, .int x3)]) hx hb dX9_growth_223 hl (k := 5) rfl rfl (by decide) rfl (fun ls hl => ?_)
                                refine lv_goto (tgt := 121) hx hb dX9_growth_226 (by decide) ?_
                                exact ih121 l5 (l5 + 1) _ _ _ h hP hD hS (lv_sub hl [3, 4, 5, 1, 0] rfl)
                              · have h := And.right h c18
                                refine lv_iload_n hx hb dX9_growth_191 rfl (lv_at hl 2 rfl) ?_
                                have k202 : ∀ (l4 : Int32) (l5 : Int32) (l6 : Int64) (H : Heap) (locs : List Loc) (ls : Array Slot), M_X9_growth_b202 x1 x2 x3 v_p0_way v_p0_n f_p0_led (LP2 (M_X9_growth_l121 x1 x2 x3 v_p0_way v_p0_n f_p0_led P f_p0_then f_p0_counts) n121) P l4 l5 l6 f_p0_then f_p0_counts → va_P D vwCl [(q_p0, .inr (7, [.int v_p0_n, .int v_p0_way, .ref q_p0_led, .int v_p0_deeds, .ref q_p0_were, .ref q_p0_paths, .ref q_p0_more, .ref q_p0_patterns, .int v_p0_patternMany, .ref q_p0_loop, .ref q_p0_ranks, .ref q_p0_counts, .ref q_p0_then, .ref q_p0_table, .ref q_p0_product, .ref q_p0_turned, .ref q_p0_tape, .int v_p0_taped, .int v_p0_hasWhy, .ref q_p0_reasons, .int v_p0_hasImage, .int v_p0_imageN, .int v_p0_imageWay, .ref q_p0_imageLed])), (q_p0_led, .inl (cI, 8, .inl f_p0_led)), (q_p0_then, .inl (cJ, 8, .inr (.inl f_p0_then))), (q_p0_counts, .inl (cJ, 8, .inr (.inl f_p0_counts)))] H → va_D A [(q_p0, .inr (7, [.int v_p0_n, .int v_p0_way, .ref q_p0_led, .int v_p0_deeds, .ref q_p0_were, .ref q_p0_paths, .ref q_p0_more, .ref q_p0_patterns, .int v_p0_patternMany, .ref q_p0_loop, .ref q_p0_ranks, .ref q_p0_counts, .ref q_p0_then, .ref q_p0_table, .ref q_p0_product, .ref q_p0_turned, .ref q_p0_tape, .int v_p0_taped, .int v_p0_hasWhy, .ref q_p0_reasons, .int v_p0_hasImage, .int v_p0_imageN, .int v_p0_imageWay, .ref q_p0_imageLed])), (q_p0_led, .inl (cI, 8, .inl f_p0_led)), (q_p0_then, .inl (cJ, 8, .inr (.inl f_p0_then))), (q_p0_counts, .inl (cJ, 8, .inr (.inl f_p0_counts)))] → va_S A s.heap H locs → lv_has ls 8 [(0, .ref q_p0), (2, .int x2), (3, .int x3), (4, .int l4), (5, .int l5), (6, .long l6)] → W p l e { frames := 3, cells := 0, slots := 0, locals := 69 } s m args below meth c H locs 0 0 Q (F0 m 202 ls []) := by
                                  intro l4 l5 l6 H locs ls h hP hD hS hl
                                  refine lv_iload_n hx hb dX9_growth_202 rfl (lv_at hl 1 rfl) ?_
                                  refine lv_iconst (v := (1 : Int32)) hx hb dX9_growth_203 (by decide) ?_
                                  refine lv_icmp_ne (tgt := 219) hx hb dX9_growth_204 (by decide) (fun c19 => ?_) (fun c19 => ?_)
                                  · have h := And.right h c19
                                    refine lv_iload hx hb dX9_growth_219 (lv_at hl 3 rfl) ?_
                                    refine lv_istore (lv' := [(4, .int l4), (0, .ref q_p0), (2, .int x2), (3, .int x3), (5, .int l5), (6, .long l6)]) hx hb dX9_growth_221 hl (by decide) rfl (fun ls hl => ?_)
                                    refine lv_iinc (v := (l5 + 1)) (lv' := [(5, .int (l5 + 1)), (4, .int l4), (0, .ref q_p0), (2, .int x2), (3, .int x3), (6, .long l6)]) hx hb dX9_growth_223 hl (k := 4) rfl rfl (by decide) rfl (fun ls hl => ?_)
                                    refine lv_goto (tgt := 121) hx hb dX9_growth_226 (by decide) ?_
                                    exact ih121 l4 (l5 + 1) _ _ _ h hP hD hS (lv_sub hl [2, 3, 4, 1, 0] rfl)
                                  · have h := And.left h c19
                                    refine lv_lload hx hb dX9_growth_207 (lv_at hl 5 rfl) ?_
                                    refine lv_lconst (v := (0 : Int64)) hx hb dX9_growth_209 (by decide) ?_
                                    refine W.lcmp hx hb dX9_growth_210 ?_
                                    refine lv_if_le (tgt := 219) hx hb dX9_growth_211 (by decide) (fun c20 => ?_) (fun c20 => ?_)
                                    · have h := And.left h c20
                                      refine lv_iload hx hb dX9_growth_219 (lv_at hl 3 rfl) ?_
                                      refine lv_istore (lv' := [(4, .int l4), (0, .ref q_p0), (2, .int x2), (3, .int x3), (5, .int l5), (6, .long l6)]) hx hb dX9_growth_221 hl (by decide) rfl (fun ls hl => ?_)
                                      refine lv_iinc (v := (l5 + 1)) (lv' := [(5, .int (l5 + 1)), (4, .int l4), (0, .ref q_p0), (2, .int x2), (3, .int x3), (6, .long l6)]) hx hb dX9_growth_223 hl (k := 4) rfl rfl (by decide) rfl (fun ls hl => ?_)
                                      refine lv_goto (tgt := 121) hx hb dX9_growth_226 (by decide) ?_
                                      exact ih121 l4 (l5 + 1) _ _ _ h hP hD hS (lv_sub hl [2, 3, 4, 1, 0] rfl)
                                    · have h := And.right h c20
                                      refine lv_iload hx hb dX9_growth_214 (lv_at hl 4 rfl) ?_
                                      refine lv_goto (tgt := 221) hx hb dX9_growth_216 (by decide) ?_
                                      refine lv_istore (lv' := [(4, .int l5), (0, .ref q_p0), (2, .int x2), (3, .int x3), (5, .int l5), (6, .long l6)]) hx hb dX9_growth_221 hl (by decide) rfl (fun ls hl => ?_)
                                      refine lv_iinc (v := (l5 + 1)) (lv' := [(5, .int (l5 + 1)), (4, .int l5), (0, .ref q_p0), (2, .int x2), (3, .int x3), (6, .long l6)]) hx hb dX9_growth_223 hl (k := 4) rfl rfl (by decide) rfl (fun ls hl => ?_)
                                      refine lv_goto (tgt := 121) hx hb dX9_growth_226 (by decide) ?_
                                      exact ih121 l5 (l5 + 1) _ _ _ h hP hD hS (lv_sub hl [2, 3, 4, 1, 0] rfl)
                                refine lv_if_ne (tgt := 202) hx hb dX9_growth_192 (by decide) (fun c21 => ?_) (fun c21 => ?_)
                                · have h := And.right h c21
                                  exact k202 l4 l5 s0 _ _ _ h hP hD hS (lv_sub hl [1, 2, 3, 4, 5, 0] rfl)
                                · have h := And.left h c21
                                  refine lv_lload hx hb dX9_growth_195 (lv_at hl 0 rfl) ?_
                                  refine lv_lconst (v := (0 : Int64)) hx hb dX9_growth_197 (by decide) ?_
                                  refine W.lcmp hx hb dX9_growth_198 ?_
                                  refine lv_if_lt (tgt := 214) hx hb dX9_growth_199 (by decide) (fun c22 => ?_) (fun c22 => ?_)
                                  · have h := And.left h c22
                                    refine lv_iload hx hb dX9_growth_214 (lv_at hl 5 rfl) ?_
                                    refine lv_goto (tgt := 221) hx hb dX9_growth_216 (by decide) ?_
                                    refine lv_istore (lv' := [(4, .int l5), (6, .long s0), (0, .ref q_p0), (2, .int x2), (3, .int x3), (5, .int l5)]) hx hb dX9_growth_221 hl (by decide) rfl (fun ls hl => ?_)
                                    refine lv_iinc (v := (l5 + 1)) (lv' := [(5, .int (l5 + 1)), (4, .int l5), (6, .long s0), (0, .ref q_p0), (2, .int x2), (3, .int x3)]) hx hb dX9_growth_223 hl (k := 5) rfl rfl (by decide) rfl (fun ls hl => ?_)
                                    refine lv_goto (tgt := 121) hx hb dX9_growth_226 (by decide) ?_
                                    exact ih121 l5 (l5 + 1) _ _ _ h hP hD hS (lv_sub hl [3, 4, 5, 1, 0] rfl)
                                  · have h := And.right h c22
                                    exact k202 l4 l5 s0 _ _ _ h hP hD hS (lv_sub hl [1, 2, 3, 4, 5, 0] rfl)
                            refine lv_icmp_ne (tgt := 152) hx hb dX9_growth_145 (by decide) (fun c23 => ?_) (fun c23 => ?_)
                            · have h := And.right h c23
                              refine lv_aload_n hx hb dX9_growth_152 rfl (lv_at hl 0 rfl) ?_
                              refine va_get (ci := 7) (C := RX9) (T := TX9) (N := 24) (v := .ref q_p0_then) hx hb hts hinX9 hown hK hP 0 rfl rfl 12 (by decide) hw2 (fun _ h9 => h9) rfl dX9_growth_153 ?_
                              refine lv_iload hx hb dX9_growth_156 (lv_at hl 4 rfl) ?_
                              obtain ⟨hi24, h⟩ := h
                              refine va_lald hx hb hK hP 2 1 rfl rfl hi24 dX9_growth_158 ?_
                              refine lv_aload_n hx hb dX9_growth_159 rfl (lv_at hl 0 rfl) ?_
                              refine va_get (ci := 7) (C := RX9) (T := TX9) (N := 24) (v := .ref q_p0_counts) hx hb hts hinX9 hown hK hP 0 rfl rfl 11 (by decide) hw3 (fun _ h9 => h9) rfl dX9_growth_160 ?_
                              refine lv_iload hx hb dX9_growth_163 (lv_at hl 3 rfl) ?_
                              obtain ⟨hi25, h⟩ := h
                              refine va_lald hx hb hK hP 3 1 rfl rfl hi25 dX9_growth_165 ?_
                              refine lv_lmul hx hb dX9_growth_166 ?_
                              refine lv_aload_n hx hb dX9_growth_167 rfl (lv_at hl 0 rfl) ?_
                              refine va_get (ci := 7) (C := RX9) (T := TX9) (N := 24) (v := .ref q_p0_then) hx hb hts hinX9 hown hK hP 0 rfl rfl 12 (by decide) hw2 (fun _ h9 => h9) rfl dX9_growth_168 ?_
                              refine lv_iload hx hb dX9_growth_171 (lv_at hl 3 rfl) ?_
                              obtain ⟨hi26, h⟩ := h
                              refine va_lald hx hb hK hP 2 1 rfl rfl hi26 dX9_growth_173 ?_
                              refine lv_aload_n hx hb dX9_growth_174 rfl (lv_at hl 0 rfl) ?_
                              refine va_get (ci := 7) (C := RX9) (T := TX9) (N := 24) (v := .ref q_p0_counts) hx hb hts hinX9 hown hK hP 0 rfl rfl 11 (by decide) hw3 (fun _ h9 => h9) rfl dX9_growth_175 ?_
                              refine lv_iload hx hb dX9_growth_178 (lv_at hl 4 rfl) ?_
                              obtain ⟨hi27, h⟩ := h
                              refine va_lald hx hb hK hP 3 1 rfl rfl hi27 dX9_growth_180 ?_
                              refine lv_lmul hx hb dX9_growth_181 ?_
                              refine lv_lsub hx hb dX9_growth_182 ?_
                              exact k183 l4 l5 (((f_p0_then l5.toNatClampNeg) * (f_p0_counts l4.toNatClampNeg)) - ((f_p0_then l4.toNatClampNeg) * (f_p0_counts l5.toNatClampNeg))) _ _ _ h hP hD hS (lv_sub hl [0, 1, 2, 3, 4] rfl)
                            · have h := And.left h c23
                              refine lv_lconst (v := (0 : Int64)) hx hb dX9_growth_148 (by decide) ?_
                              refine lv_goto (tgt := 183) hx hb dX9_growth_149 (by decide) ?_
                              exact k183 l4 l5 (0 : Int64) _ _ _ h hP hD hS (lv_sub hl [0, 1, 2, 3, 4] rfl)
                    obtain ⟨n121, h⟩ := h
                    exact k121 m9_0 f_p0_counts n121 (-1 : Int32) (0 : Int32) _ _ _ h hP hD hS (lv_sub hl [2, 4, 5, 1, 0] rfl)
                  · have h := And.right h c8
                    refine lv_aload_n hx hb dX9_growth_69 rfl (lv_at hl 0 rfl) ?_
                    refine z_cVv (As := []) (rest := []) (wr := []) (wn := fun u => [(q_p0, .inr (7, [.int v_p0_n, .int v_p0_way, .ref q_p0_led, .int v_p0_deeds, .ref q_p0_were, .ref q_p0_paths, .ref q_p0_more, .ref q_p0_patterns, .int v_p0_patternMany, .ref q_p0_loop, .ref q_p0_ranks, .ref q_p0_counts, .ref q_p0_then, .ref q_p0_table, .ref q_p0_product, .ref q_p0_turned, .ref q_p0_tape, .int v_p0_taped, .int v_p0_hasWhy, .ref q_p0_reasons, .int v_p0_hasImage, .int v_p0_imageN, .int v_p0_imageWay, .ref q_p0_imageLed])), (q_p0_led, .inl (cI, 8, .inl f_p0_led)), (q_p0_then, .inl (cJ, 8, .inr (.inl u))), (q_p0_counts, .inl (cJ, 8, .inr (.inl f_p0_counts)))]) (c_X9_counted l D cI cJ cB tU tM tS q_p0 q_p0_led q_p0_were q_p0_paths q_p0_more q_p0_patterns q_p0_loop q_p0_ranks q_p0_counts q_p0_then q_p0_table q_p0_product q_p0_turned q_p0_tape q_p0_reasons q_p0_imageLed H.size v_p0_way v_p0_n f_p0_led f_p0_then f_p0_counts v_p0_deeds v_p0_patternMany v_p0_taped v_p0_hasWhy v_p0_hasImage v_p0_imageN v_p0_imageWay _ h) ⟨hx, hb, hml, hown, hts⟩ (cwV 0 hts gX9_growth_X9_counted rfl rfl rfl hd_X9_counted ⟨Nat.le_of_ble_eq_true rfl, Nat.le_of_ble_eq_true rfl⟩) hX hK hP hD hS hA [0, 1, 2, 3] [] [0, 1, 2, 3] rfl rfl rfl (by decide) (fun _ => rfl) (q0 := 0) (ci := 7) rfl rfl rfl hl.1 rfl (Nat.le_of_ble_eq_true rfl) ⟨Nat.le_refl _, Nat.le_refl _⟩ dX9_growth_70 (fun m28_0 H locs h hP hD hS => ?_)
                    refine lv_iconst (v := (0 : Int32)) hx hb dX9_growth_73 (by decide) ?_
                    refine lv_istore (lv' := [(5, .int (0 : Int32)), (0, .ref q_p0), (1, .int x1), (2, .int x2), (3, .int x3), (4, .int l4)]) hx hb dX9_growth_74 hl (by decide) rfl (fun ls hl => ?_)
                    have k76 : ∀ (l4 : Int32) (f_p0_then : (Nat → Int64)) (n76 : Nat) (l5 : Int32) (f_p0_counts : (Nat → Int64)) (H : Heap) (locs : List Loc) (ls : Array Slot), LP2 (M_X9_growth_l76 x1 x2 x3 v_p0_way v_p0_n f_p0_led (LP3 (M_X9_growth_l63 x1 x2 x3 v_p0_way v_p0_n f_p0_led P ) n63) P l4 f_p0_then) n76 l5 f_p0_counts → va_P D vwCl [(q_p0, .inr (7, [.int v_p0_n, .int v_p0_way, .ref q_p0_led, .int v_p0_deeds, .ref q_p0_were, .ref q_p0_paths, .ref q_p0_more, .ref q_p0_patterns, .int v_p0_patternMany, .ref q_p0_loop, .ref q_p0_ranks, .ref q_p0_counts, .ref q_p0_then, .ref q_p0_table, .ref q_p0_product, .ref q_p0_turned, .ref q_p0_tape, .int v_p0_taped, .int v_p0_hasWhy, .ref q_p0_reasons, .int v_p0_hasImage, .int v_p0_imageN, .int v_p0_imageWay, .ref q_p0_imageLed])), (q_p0_led, .inl (cI, 8, .inl f_p0_led)), (q_p0_then, .inl (cJ, 8, .inr (.inl f_p0_then))), (q_p0_counts, .inl (cJ, 8, .inr (.inl f_p0_counts)))] H → va_D A [(q_p0, .inr (7, [.int v_p0_n, .int v_p0_way, .ref q_p0_led, .int v_p0_deeds, .ref q_p0_were, .ref q_p0_paths, .ref q_p0_more, .ref q_p0_patterns, .int v_p0_patternMany, .ref q_p0_loop, .ref q_p0_ranks, .ref q_p0_counts, .ref q_p0_then, .ref q_p0_table, .ref q_p0_product, .ref q_p0_turned, .ref q_p0_tape, .int v_p0_taped, .int v_p0_hasWhy, .ref q_p0_reasons, .int v_p0_hasImage, .int v_p0_imageN, .int v_p0_imageWay, .ref q_p0_imageLed])), (q_p0_led, .inl (cI, 8, .inl f_p0_led)), (q_p0_then, .inl (cJ, 8, .inr (.inl f_p0_then))), (q_p0_counts, .inl (cJ, 8, .inr (.inl f_p0_counts)))] → va_S A s.heap H locs → lv_has ls 8 [(0, .ref q_p0), (1, .int x1), (2, .int x2), (3, .int x3), (4, .int l4), (5, .int l5)] → W p l e { frames := 3, cells := 0, slots := 0, locals := 69 } s m args below meth c H locs 0 0 Q (F0 m 76 ls []) := by
                      intro l4 f_p0_then n76
                      induction n76 with
                      | zero =>
                        intro l5 f_p0_counts H locs ls h
                        exact False.elim h
                      | succ n76 ih76 =>
                        intro l5 f_p0_counts H locs ls h hP hD hS hl
                        have h : M_X9_growth_l76 x1 x2 x3 v_p0_way v_p0_n f_p0_led (LP3 (M_X9_growth_l63 x1 x2 x3 v_p0_way v_p0_n f_p0_led P ) n63) P l4 f_p0_then (LP2 (M_X9_growth_l76 x1 x2 x3 v_p0_way v_p0_n f_p0_led (LP3 (M_X9_growth_l63 x1 x2 x3 v_p0_way v_p0_n f_p0_led P ) n63) P l4 f_p0_then) n76) l5 f_p0_counts := h
                        refine lv_iload hx hb dX9_growth_76 (lv_at hl 5 rfl) ?_
                        refine lv_aload_n hx hb dX9_growth_78 rfl (lv_at hl 0 rfl) ?_
                        refine z_cVi (As := []) (rest := [.int l5]) (wr := [(q_p0_led, .inl (cI, 8, .inl f_p0_led)), (q_p0_then, .inl (cJ, 8, .inr (.inl f_p0_then))), (q_p0_counts, .inl (cJ, 8, .inr (.inl f_p0_counts)))]) (wn := fun u => [(q_p0, .inr (7, [.int v_p0_n, .int v_p0_way, .ref q_p0_led, .int v_p0_deeds, .ref q_p0_were, .ref q_p0_paths, .ref q_p0_more, .ref q_p0_patterns, .int v_p0_patternMany, .ref q_p0_loop, .ref q_p0_ranks, .ref q_p0_counts, .ref q_p0_then, .ref q_p0_table, .ref q_p0_product, .ref q_p0_turned, .ref q_p0_tape, .int v_p0_taped, .int v_p0_hasWhy, .ref q_p0_reasons, .int v_p0_hasImage, .int v_p0_imageN, .int v_p0_imageWay, .ref q_p0_imageLed])), (q_p0_led, .inl (cI, 8, .inl f_p0_led)), (q_p0_then, .inl (cJ, 8, .inr (.inl f_p0_then))), (q_p0_counts, .inl (cJ, 8, .inr (.inl f_p0_counts)))]) (c_X9_pieces l D cI cJ cB tU tM tS q_p0 q_p0_led q_p0_were q_p0_paths q_p0_more q_p0_patterns q_p0_loop q_p0_ranks q_p0_counts q_p0_then q_p0_table q_p0_product q_p0_turned q_p0_tape q_p0_reasons q_p0_imageLed H.size v_p0_way v_p0_n v_p0_deeds v_p0_patternMany v_p0_taped v_p0_hasWhy v_p0_hasImage v_p0_imageN v_p0_imageWay _ h) ⟨hx, hb, hml, hown, hts⟩ (cwV 0 hts gX9_growth_X9_pieces rfl rfl rfl hd_X9_pieces ⟨Nat.le_of_ble_eq_true rfl, Nat.le_of_ble_eq_true rfl⟩) hX hK hP hD hS hA [0] [1, 2, 3] [3, 0, 1, 2] rfl rfl rfl (by decide) (fun _ => rfl) (q0 := 0) (ci := 7) rfl rfl rfl hl.1 rfl (Nat.le_of_ble_eq_true rfl) ⟨Nat.le_refl _, Nat.le_refl _⟩ dX9_growth_79 (fun r29 u29 H locs h hP hD hS => ?_)
                        refine lv_icmp_ge (tgt := 105) hx hb dX9_growth_82 (by decide) (fun c30 => ?_) (fun c30 => ?_)
                        · have h := And.left h c30
                          refine lv_iinc (v := (l4 + 1)) (lv' := [(4, .int (l4 + 1)), (0, .ref q_p0), (1, .int x1), (2, .int x2), (3, .int x3), (5, .int l5)]) hx hb dX9_growth_105 hl (k := 4) rfl rfl (by decide) rfl (fun ls hl => ?_)
                          refine lv_goto (tgt := 63) hx hb dX9_growth_108 (by decide) ?_
                          exact ih63 (l4 + 1) f_p0_then f_p0_counts _ _ _ h hP hD hS (lv_sub hl [1, 2, 3, 4, 0] rfl)
                        · have h := And.right h c30
                          refine lv_aload_n hx hb dX9_growth_85 rfl (lv_at hl 0 rfl) ?_
                          refine va_get (ci := 7) (C := RX9) (T := TX9) (N := 24) (v := .ref q_p0_counts) hx hb hts hinX9 hown hK hP 0 rfl rfl 11 (by decide) hw3 (fun _ h9 => h9) rfl dX9_growth_86 ?_
                          refine lv_iload hx hb dX9_growth_89 (lv_at hl 5 rfl) ?_
                          refine lv_aload_n hx hb dX9_growth_91 rfl (lv_at hl 0 rfl) ?_
                          refine va_get (ci := 7) (C := RX9) (T := TX9) (N := 24) (v := .ref q_p0_then) hx hb hts hinX9 hown hK hP 0 rfl rfl 12 (by decide) hw2 (fun _ h9 => h9) rfl dX9_growth_92 ?_
                          refine lv_iload hx hb dX9_growth_95 (lv_at hl 5 rfl) ?_
                          obtain ⟨hi31, h⟩ := h
                          refine va_lald hx hb hK hP 2 1 rfl rfl hi31 dX9_growth_97 ?_
                          obtain ⟨hi32, h⟩ := h
                          refine z_last (wn := [(q_p0, .inr (7, [.int v_p0_n, .int v_p0_way, .ref q_p0_led, .int v_p0_deeds, .ref q_p0_were, .ref q_p0_paths, .ref q_p0_more, .ref q_p0_patterns, .int v_p0_patternMany, .ref q_p0_loop, .ref q_p0_ranks, .ref q_p0_counts, .ref q_p0_then, .ref q_p0_table, .ref q_p0_product, .ref q_p0_turned, .ref q_p0_tape, .int v_p0_taped, .int v_p0_hasWhy, .ref q_p0_reasons, .int v_p0_hasImage, .int v_p0_imageN, .int v_p0_imageWay, .ref q_p0_imageLed])), (q_p0_led, .inl (cI, 8, .inl f_p0_led)), (q_p0_then, .inl (cJ, 8, .inr (.inl f_p0_then))), (q_p0_counts, .inl (cJ, 8, .inr (.inl (vp_updL f_p0_counts l5.toNatClampNeg (f_p0_then l5.toNatClampNeg)))))]) hx hb hK hP hD hS 3 rfl hi32 dX9_growth_98 rfl (fun H locs hP hD hS => ?_)
                          refine lv_iinc (v := (l5 + 1)) (lv' := [(5, .int (l5 + 1)), (0, .ref q_p0), (1, .int x1), (2, .int x2), (3, .int x3), (4, .int l4)]) hx hb dX9_growth_99 hl (k := 5) rfl rfl (by decide) rfl (fun ls hl => ?_)
                          refine lv_goto (tgt := 76) hx hb dX9_growth_102 (by decide) ?_
                          exact ih76 (l5 + 1) (vp_updL f_p0_counts l5.toNatClampNeg (f_p0_then l5.toNatClampNeg)) _ _ _ h hP hD hS (lv_sub hl [1, 2, 3, 4, 5, 0] rfl)
                    obtain ⟨n76, h⟩ := h
                    exact k76 l4 m28_0 n76 (0 : Int32) f_p0_counts _ _ _ h hP hD hS (lv_sub hl [1, 2, 3, 4, 5, 0] rfl)
              obtain ⟨n63, h⟩ := h
              exact k63  n63 (0 : Int32) f_p0_then f_p0_counts _ _ _ h hP hD hS (lv_sub hl [1, 2, 3, 4, 0] rfl)
            · have h := And.right h c7
              refine lv_aload_n hx hb dX9_growth_46 rfl (lv_at hl 0 rfl) ?_
              refine va_get (ci := 7) (C := RX9) (T := TX9) (N := 24) (v := .ref q_p0_counts) hx hb hts hinX9 hown hK hP 0 rfl rfl 11 (by decide) hw3 (fun _ h9 => h9) rfl dX9_growth_47 ?_
              refine lv_iload hx hb dX9_growth_50 (lv_at hl 4 rfl) ?_
              refine lv_lconst (v := (1 : Int64)) hx hb dX9_growth_52 (by decide) ?_
              obtain ⟨hi33, h⟩ := h
              refine z_last (wn := [(q_p0, .inr (7, [.int v_p0_n, .int v_p0_way, .ref q_p0_led, .int v_p0_deeds, .ref q_p0_were, .ref q_p0_paths, .ref q_p0_more, .ref q_p0_patterns, .int v_p0_patternMany, .ref q_p0_loop, .ref q_p0_ranks, .ref q_p0_counts, .ref q_p0_then, .ref q_p0_table, .ref q_p0_product, .ref q_p0_turned, .ref q_p0_tape, .int v_p0_taped, .int v_p0_hasWhy, .ref q_p0_reasons, .int v_p0_hasImage, .int v_p0_imageN, .int v_p0_imageWay, .ref q_p0_imageLed])), (q_p0_led, .inl (cI, 8, .inl f_p0_led)), (q_p0_then, .inl (cJ, 8, .inr (.inl f_p0_then))), (q_p0_counts, .inl (cJ, 8, .inr (.inl (vp_updL f_p0_counts l4.toNatClampNeg (1 : Int64)))))]) hx hb hK hP hD hS 3 rfl hi33 dX9_growth_53 rfl (fun H locs hP hD hS => ?_)
              refine lv_iinc (v := (l4 + 1)) (lv' := [(4, .int (l4 + 1)), (0, .ref q_p0), (1, .int x1), (2, .int x2), (3, .int x3)]) hx hb dX9_growth_54 hl (k := 4) rfl rfl (by decide) rfl (fun ls hl => ?_)
              refine lv_goto (tgt := 39) hx hb dX9_growth_57 (by decide) ?_
              exact ih39 (l4 + 1) (vp_updL f_p0_counts l4.toNatClampNeg (1 : Int64)) _ _ _ h hP hD hS (lv_sub hl [1, 2, 3, 4, 0] rfl)
        obtain ⟨n39, h⟩ := h
        exact k39 f_p0_then n39 (0 : Int32) f_p0_counts _ _ _ h hP hD hS (lv_sub hl [1, 2, 3, 4, 0] rfl)
      · have h := And.left h c6
        refine lv_ldc2 (v := (-9223372036854775808 : Int64)) hx hb hown hw1 dX9_growth_32 ?_
        exact z_lret hQ hx hb hr hlocks hK (f_p0_then, f_p0_counts) h hP hD hS dX9_growth_35
theorem hd_X9_polynomial : yX9_polynomial.cls = RX9 ∧ yX9_polynomial.cls ≠ "java/lang/invoke/MethodHandle" ∧ yX9_polynomial.cls ≠ "java/lang/invoke/VarHandle" ∧ (parseMethodDescriptor yX9_polynomial.desc).map (fun d => d.parameters.length) = some 1 := by decide +kernel
set_option maxHeartbeats 4000000 in
set_option maxRecDepth 100000 in
theorem c_X9_polynomial (l : Launch) (D : va_G) (cI cJ cB : ClassId) (tU tM tS : Nat) (q_p0 q_p0_led q_p0_were q_p0_paths q_p0_more q_p0_patterns q_p0_loop q_p0_ranks q_p0_counts q_p0_then q_p0_table q_p0_product q_p0_turned q_p0_tape q_p0_reasons q_p0_imageLed : Nat) (sz : Nat) (x1 : Int32) (v_p0_way : Int32) (v_p0_n : Int32) (f_p0_product : (Nat → Int64)) (f_p0_table : (Nat → Int64)) (f_p0_led : (Nat → Int32)) (v_p0_deeds : Int32) (v_p0_patternMany : Int32) (v_p0_taped : Int32) (v_p0_hasWhy : Int32) (v_p0_hasImage : Int32) (v_p0_imageN : Int32) (v_p0_imageWay : Int32) (P : Int64 → (Nat → Int64) → (Nat → Int64) → Prop) (h : M_X9_polynomial x1 v_p0_way v_p0_n f_p0_product f_p0_table f_p0_led P) : Met l yX9_polynomial wsX9_polynomial ({ frames := 2, cells := 0, slots := 0, locals := 46 }) (va_Pc [.ref q_p0, .int x1] (zPre D cI cJ cB tU tM tS [(q_p0, .inr (7, [.int v_p0_n, .int v_p0_way, .ref q_p0_led, .int v_p0_deeds, .ref q_p0_were, .ref q_p0_paths, .ref q_p0_more, .ref q_p0_patterns, .int v_p0_patternMany, .ref q_p0_loop, .ref q_p0_ranks, .ref q_p0_counts, .ref q_p0_then, .ref q_p0_table, .ref q_p0_product, .ref q_p0_turned, .ref q_p0_tape, .int v_p0_taped, .int v_p0_hasWhy, .ref q_p0_reasons, .int v_p0_hasImage, .int v_p0_imageN, .int v_p0_imageWay, .ref q_p0_imageLed])), (q_p0_product, .inl (cJ, 64, .inr (.inl f_p0_product))), (q_p0_table, .inl (cJ, 64, .inr (.inl f_p0_table))), (q_p0_led, .inl (cI, 8, .inl f_p0_led))] sz)) (va_Ql (fun (r : Int64) (u : (Nat → Int64) × (Nat → Int64)) => P r u.1 u.2) (fun u t => zPost D cI cJ cB (va_A [(q_p0, .inr (7, [.int v_p0_n, .int v_p0_way, .ref q_p0_led, .int v_p0_deeds, .ref q_p0_were, .ref q_p0_paths, .ref q_p0_more, .ref q_p0_patterns, .int v_p0_patternMany, .ref q_p0_loop, .ref q_p0_ranks, .ref q_p0_counts, .ref q_p0_then, .ref q_p0_table, .ref q_p0_product, .ref q_p0_turned, .ref q_p0_tape, .int v_p0_taped, .int v_p0_hasWhy, .ref q_p0_reasons, .int v_p0_hasImage, .int v_p0_imageN, .int v_p0_imageWay, .ref q_p0_imageLed])), (q_p0_product, .inl (cJ, 64, .inr (.inl f_p0_product))), (q_p0_table, .inl (cJ, 64, .inr (.inl f_p0_table))), (q_p0_led, .inl (cI, 8, .inl f_p0_led))] sz) [(q_p0, .inr (7, [.int v_p0_n, .int v_p0_way, .ref q_p0_led, .int v_p0_deeds, .ref q_p0_were, .ref q_p0_paths, .ref q_p0_more, .ref q_p0_patterns, .int v_p0_patternMany, .ref q_p0_loop, .ref q_p0_ranks, .ref q_p0_counts, .ref q_p0_then, .ref q_p0_table, .ref q_p0_product, .ref q_p0_turned, .ref q_p0_tape, .int v_p0_taped, .int v_p0_hasWhy, .ref q_p0_reasons, .int v_p0_hasImage, .int v_p0_imageN, .int v_p0_imageWay, .ref q_p0_imageLed])), (q_p0_product, .inl (cJ, 64, .inr (.inl u.2))), (q_p0_table, .inl (cJ, 64, .inr (.inl u.1))), (q_p0_led, .inl (cI, 8, .inl f_p0_led))] t) (va_A [(q_p0, .inr (7, [.int v_p0_n, .int v_p0_way, .ref q_p0_led, .int v_p0_deeds, .ref q_p0_were, .ref q_p0_paths, .ref q_p0_more, .ref q_p0_patterns, .int v_p0_patternMany, .ref q_p0_loop, .ref q_p0_ranks, .ref q_p0_counts, .ref q_p0_then, .ref q_p0_table, .ref q_p0_product, .ref q_p0_turned, .ref q_p0_tape, .int v_p0_taped, .int v_p0_hasWhy, .ref q_p0_reasons, .int v_p0_hasImage, .int v_p0_imageN, .int v_p0_imageWay, .ref q_p0_imageLed])), (q_p0_product, .inl (cJ, 64, .inr (.inl f_p0_product))), (q_p0_table, .inl (cJ, 64, .inr (.inl f_p0_table))), (q_p0_led, .inl (cI, 8, .inl f_p0_led))] sz)) 0 0 (va_A [(q_p0, .inr (7, [.int v_p0_n, .int v_p0_way, .ref q_p0_led, .int v_p0_deeds, .ref q_p0_were, .ref q_p0_paths, .ref q_p0_more, .ref q_p0_patterns, .int v_p0_patternMany, .ref q_p0_loop, .ref q_p0_ranks, .ref q_p0_counts, .ref q_p0_then, .ref q_p0_table, .ref q_p0_product, .ref q_p0_turned, .ref q_p0_tape, .int v_p0_taped, .int v_p0_hasWhy, .ref q_p0_reasons, .int v_p0_hasImage, .int v_p0_imageN, .int v_p0_imageWay, .ref q_p0_imageLed])), (q_p0_product, .inl (cJ, 64, .inr (.inl f_p0_product))), (q_p0_table, .inl (cJ, 64, .inr (.inl f_p0_table))), (q_p0_led, .inl (cI, 8, .inl f_p0_led))] sz) := by
  refine z_met (cc := cX9_polynomial) (maxL := 14) (ret := (some .long)) (Qc := fun A => va_Ql (fun (r : Int64) (u : (Nat → Int64) × (Nat → Int64)) => P r u.1 u.2) (fun u t => zPost D cI cJ cB A [(q_p0, .inr (7, [.int v_p0_n, .int v_p0_way, .ref q_p0_led, .int v_p0_deeds, .ref q_p0_were, .ref q_p0_paths, .ref q_p0_more, .ref q_p0_patterns, .int v_p0_patternMany, .ref q_p0_loop, .ref q_p0_ranks, .ref q_p0_counts, .ref q_p0_then, .ref q_p0_table, .ref q_p0_product, .ref q_p0_turned, .ref q_p0_tape, .int v_p0_taped, .int v_p0_hasWhy, .ref q_p0_reasons, .int v_p0_hasImage, .int v_p0_imageN, .int v_p0_imageWay, .ref q_p0_imageLed])), (q_p0_product, .inl (cJ, 64, .inr (.inl u.2))), (q_p0_table, .inl (cJ, 64, .inr (.inl u.1))), (q_p0_led, .inl (cI, 8, .inl f_p0_led))] t) A) (by decide) rfl [.ref q_p0, .int x1] (Nat.le_of_ble_eq_true rfl) ?_
  intro p e s m args below meth c A hx hb hr hts hown hml hlocks hA hX hK H locs hP hD hS ls hl Q hQ
  have hown : s.vm.findClass RX9 = some m.cls := hown
  have hl : lv_has ls 14 [(0, .ref q_p0), (1, .int x1)] := hl
  have hw0 : (Cond.fieldLink RX9 44 "ForcedRingsModel" "table" "[J").before args s = true := hts _ (List.mem_of_getElem? (i := 2) rfl)
  have hw1 : (Cond.fieldLink RX9 47 "ForcedRingsModel" "product" "[J").before args s = true := hts _ (List.mem_of_getElem? (i := 3) rfl)
  have hw2 : (Cond.constantLong RX9 141 (-9223372036854775808)).before args s = true := hts _ (List.mem_of_getElem? (i := 1) rfl)
  have hinX9 : ∀ w ∈ wsX90, w ∈ wsX9_polynomial := fun _ h => List.mem_cons_of_mem _ (List.mem_append_right _ h)
  refine lv_aload_n hx hb dX9_polynomial_0 rfl (lv_at hl 0 rfl) ?_
  refine z_cVi (As := []) (rest := []) (wr := [(q_p0_product, .inl (cJ, 64, .inr (.inl f_p0_product))), (q_p0_table, .inl (cJ, 64, .inr (.inl f_p0_table))), (q_p0_led, .inl (cI, 8, .inl f_p0_led))]) (wn := fun u => [(q_p0, .inr (7, [.int v_p0_n, .int v_p0_way, .ref q_p0_led, .int v_p0_deeds, .ref q_p0_were, .ref q_p0_paths, .ref q_p0_more, .ref q_p0_patterns, .int v_p0_patternMany, .ref q_p0_loop, .ref q_p0_ranks, .ref q_p0_counts, .ref q_p0_then, .ref q_p0_table, .ref q_p0_product, .ref q_p0_turned, .ref q_p0_tape, .int v_p0_taped, .int v_p0_hasWhy, .ref q_p0_reasons, .int v_p0_hasImage, .int v_p0_imageN, .int v_p0_imageWay, .ref q_p0_imageLed])), (q_p0_product, .inl (cJ, 64, .inr (.inl f_p0_product))), (q_p0_table, .inl (cJ, 64, .inr (.inl f_p0_table))), (q_p0_led, .inl (cI, 8, .inl f_p0_led))]) (c_X9_pieces l D cI cJ cB tU tM tS q_p0 q_p0_led q_p0_were q_p0_paths q_p0_more q_p0_patterns q_p0_loop q_p0_ranks q_p0_counts q_p0_then q_p0_table q_p0_product q_p0_turned q_p0_tape q_p0_reasons q_p0_imageLed H.size v_p0_way v_p0_n v_p0_deeds v_p0_patternMany v_p0_taped v_p0_hasWhy v_p0_hasImage v_p0_imageN v_p0_imageWay _ h) ⟨hx, hb, hml, hown, hts⟩ (cwV 0 hts gX9_polynomial_X9_pieces rfl rfl rfl hd_X9_pieces ⟨Nat.le_of_ble_eq_true rfl, Nat.le_of_ble_eq_true rfl⟩) hX hK hP hD hS hA [0] [1, 2, 3] [3, 0, 1, 2] rfl rfl rfl (by decide) (fun _ => rfl) (q0 := 0) (ci := 7) rfl rfl rfl hl.1 rfl (Nat.le_of_ble_eq_true rfl) ⟨Nat.le_refl _, Nat.le_refl _⟩ dX9_polynomial_1 (fun r1 u1 H locs h hP hD hS => ?_)
  refine lv_istore_n (lv' := [(2, .int r1), (0, .ref q_p0), (1, .int x1)]) hx hb dX9_polynomial_4 rfl hl (by decide) rfl (fun ls hl => ?_)
  refine lv_iload_n hx hb dX9_polynomial_5 rfl (lv_at hl 2 rfl) ?_
  refine lv_i2l (v := x1.toInt64) hx hb dX9_polynomial_6 rfl ?_
  refine lv_lconst (v := (0 : Int64)) hx hb dX9_polynomial_7 (by decide) ?_
  refine lv_iload_n hx hb dX9_polynomial_8 rfl (lv_at hl 0 rfl) ?_
  refine lv_i2l (v := r1.toInt64) hx hb dX9_polynomial_9 rfl ?_
  refine z_cSi (As := [.long x1.toInt64, .long (0 : Int64), .long r1.toInt64]) (rest := []) (wr := [(q_p0, .inr (7, [.int v_p0_n, .int v_p0_way, .ref q_p0_led, .int v_p0_deeds, .ref q_p0_were, .ref q_p0_paths, .ref q_p0_more, .ref q_p0_patterns, .int v_p0_patternMany, .ref q_p0_loop, .ref q_p0_ranks, .ref q_p0_counts, .ref q_p0_then, .ref q_p0_table, .ref q_p0_product, .ref q_p0_turned, .ref q_p0_tape, .int v_p0_taped, .int v_p0_hasWhy, .ref q_p0_reasons, .int v_p0_hasImage, .int v_p0_imageN, .int v_p0_imageWay, .ref q_p0_imageLed])), (q_p0_product, .inl (cJ, 64, .inr (.inl f_p0_product))), (q_p0_table, .inl (cJ, 64, .inr (.inl f_p0_table))), (q_p0_led, .inl (cI, 8, .inl f_p0_led))]) (wn := fun u => [(q_p0, .inr (7, [.int v_p0_n, .int v_p0_way, .ref q_p0_led, .int v_p0_deeds, .ref q_p0_were, .ref q_p0_paths, .ref q_p0_more, .ref q_p0_patterns, .int v_p0_patternMany, .ref q_p0_loop, .ref q_p0_ranks, .ref q_p0_counts, .ref q_p0_then, .ref q_p0_table, .ref q_p0_product, .ref q_p0_turned, .ref q_p0_tape, .int v_p0_taped, .int v_p0_hasWhy, .ref q_p0_reasons, .int v_p0_hasImage, .int v_p0_imageN, .int v_p0_imageWay, .ref q_p0_imageLed])), (q_p0_product, .inl (cJ, 64, .inr (.inl f_p0_product))), (q_p0_table, .inl (cJ, 64, .inr (.inl f_p0_table))), (q_p0_led, .inl (cI, 8, .inl f_p0_led))]) (c_X9_in l D cI cJ cB tU tM tS  H.size x1.toInt64 (0 : Int64) r1.toInt64 _ h) ⟨hx, hb, hml, hown, hts⟩ (va_cwS 3 hts gX9_polynomial_X9_in rfl rfl rfl hd_X9_in.2 ⟨Nat.le_of_ble_eq_true rfl, Nat.le_of_ble_eq_true rfl⟩) hX hK hP hD hS hA [] [0, 1, 2, 3] [0, 1, 2, 3] rfl rfl rfl (by decide) (fun _ => rfl) rfl hl.1 rfl (Nat.le_of_ble_eq_true rfl) ⟨Nat.le_refl _, Nat.le_refl _⟩ dX9_polynomial_10 (fun r2 u2 H locs h hP hD hS => ?_)
  refine lv_if_ne (tgt := 20) hx hb dX9_polynomial_13 (by decide) (fun c3 => ?_) (fun c3 => ?_)
  · have h := And.right h c3
    refine lv_lconst (v := (1 : Int64)) hx hb dX9_polynomial_20 (by decide) ?_
    refine lv_lstore_n (lv' := [(3, .long (1 : Int64)), (2, .int r1), (0, .ref q_p0), (1, .int x1)]) hx hb dX9_polynomial_21 rfl hl (by decide) rfl (fun ls hl => ?_)
    refine lv_iconst (v := (0 : Int32)) hx hb dX9_polynomial_22 (by decide) ?_
    refine lv_istore (lv' := [(5, .int (0 : Int32)), (3, .long (1 : Int64)), (2, .int r1), (0, .ref q_p0), (1, .int x1)]) hx hb dX9_polynomial_23 hl (by decide) rfl (fun ls hl => ?_)
    have k25 : ∀ (l2 : Int32) (l3 : Int64) (f_p0_product : (Nat → Int64)) (n25 : Nat) (l5 : Int32) (f_p0_table : (Nat → Int64)) (H : Heap) (locs : List Loc) (ls : Array Slot), LP2 (M_X9_polynomial_l25 x1 v_p0_way v_p0_n f_p0_led P l2 l3 f_p0_product) n25 l5 f_p0_table → va_P D vwCl [(q_p0, .inr (7, [.int v_p0_n, .int v_p0_way, .ref q_p0_led, .int v_p0_deeds, .ref q_p0_were, .ref q_p0_paths, .ref q_p0_more, .ref q_p0_patterns, .int v_p0_patternMany, .ref q_p0_loop, .ref q_p0_ranks, .ref q_p0_counts, .ref q_p0_then, .ref q_p0_table, .ref q_p0_product, .ref q_p0_turned, .ref q_p0_tape, .int v_p0_taped, .int v_p0_hasWhy, .ref q_p0_reasons, .int v_p0_hasImage, .int v_p0_imageN, .int v_p0_imageWay, .ref q_p0_imageLed])), (q_p0_product, .inl (cJ, 64, .inr (.inl f_p0_product))), (q_p0_table, .inl (cJ, 64, .inr (.inl f_p0_table))), (q_p0_led, .inl (cI, 8, .inl f_p0_led))] H → va_D A [(q_p0, .inr (7, [.int v_p0_n, .int v_p0_way, .ref q_p0_led, .int v_p0_deeds, .ref q_p0_were, .ref q_p0_paths, .ref q_p0_more, .ref q_p0_patterns, .int v_p0_patternMany, .ref q_p0_loop, .ref q_p0_ranks, .ref q_p0_counts, .ref q_p0_then, .ref q_p0_table, .ref q_p0_product, .ref q_p0_turned, .ref q_p0_tape, .int v_p0_taped, .int v_p0_hasWhy, .ref q_p0_reasons, .int v_p0_hasImage, .int v_p0_imageN, .int v_p0_imageWay, .ref q_p0_imageLed])), (q_p0_product, .inl (cJ, 64, .inr (.inl f_p0_product))), (q_p0_table, .inl (cJ, 64, .inr (.inl f_p0_table))), (q_p0_led, .inl (cI, 8, .inl f_p0_led))] → va_S A s.heap H locs → lv_has ls 14 [(0, .ref q_p0), (1, .int x1), (2, .int l2), (3, .long l3), (5, .int l5)] → W p l e { frames := 2, cells := 0, slots := 0, locals := 46 } s m args below meth c H locs 0 0 Q (F0 m 25 ls []) := by
      intro l2 l3 f_p0_product n25
      induction n25 with
      | zero =>
        intro l5 f_p0_table H locs ls h
        exact False.elim h
      | succ n25 ih25 =>
        intro l5 f_p0_table H locs ls h hP hD hS hl
        have h : M_X9_polynomial_l25 x1 v_p0_way v_p0_n f_p0_led P l2 l3 f_p0_product (LP2 (M_X9_polynomial_l25 x1 v_p0_way v_p0_n f_p0_led P l2 l3 f_p0_product) n25) l5 f_p0_table := h
        refine lv_iload hx hb dX9_polynomial_25 (lv_at hl 4 rfl) ?_
        refine lv_bipush (v := (64 : Int32)) hx hb dX9_polynomial_27 (by decide) ?_
        refine lv_icmp_ge (tgt := 63) hx hb dX9_polynomial_29 (by decide) (fun c4 => ?_) (fun c4 => ?_)
        · have h := And.left h c4
          refine lv_iconst (v := (1 : Int32)) hx hb dX9_polynomial_63 (by decide) ?_
          refine lv_istore (lv' := [(5, .int (1 : Int32)), (0, .ref q_p0), (1, .int x1), (2, .int l2), (3, .long l3)]) hx hb dX9_polynomial_64 hl (by decide) rfl (fun ls hl => ?_)
          have k66 : ∀ (l2 : Int32) (n66 : Nat) (l3 : Int64) (l5 : Int32) (f_p0_table : (Nat → Int64)) (f_p0_product : (Nat → Int64)) (H : Heap) (locs : List Loc) (ls : Array Slot), LP4 (M_X9_polynomial_l66 x1 v_p0_way v_p0_n f_p0_led P l2) n66 l3 l5 f_p0_table f_p0_product → va_P D vwCl [(q_p0, .inr (7, [.int v_p0_n, .int v_p0_way, .ref q_p0_led, .int v_p0_deeds, .ref q_p0_were, .ref q_p0_paths, .ref q_p0_more, .ref q_p0_patterns, .int v_p0_patternMany, .ref q_p0_loop, .ref q_p0_ranks, .ref q_p0_counts, .ref q_p0_then, .ref q_p0_table, .ref q_p0_product, .ref q_p0_turned, .ref q_p0_tape, .int v_p0_taped, .int v_p0_hasWhy, .ref q_p0_reasons, .int v_p0_hasImage, .int v_p0_imageN, .int v_p0_imageWay, .ref q_p0_imageLed])), (q_p0_product, .inl (cJ, 64, .inr (.inl f_p0_product))), (q_p0_table, .inl (cJ, 64, .inr (.inl f_p0_table))), (q_p0_led, .inl (cI, 8, .inl f_p0_led))] H → va_D A [(q_p0, .inr (7, [.int v_p0_n, .int v_p0_way, .ref q_p0_led, .int v_p0_deeds, .ref q_p0_were, .ref q_p0_paths, .ref q_p0_more, .ref q_p0_patterns, .int v_p0_patternMany, .ref q_p0_loop, .ref q_p0_ranks, .ref q_p0_counts, .ref q_p0_then, .ref q_p0_table, .ref q_p0_product, .ref q_p0_turned, .ref q_p0_tape, .int v_p0_taped, .int v_p0_hasWhy, .ref q_p0_reasons, .int v_p0_hasImage, .int v_p0_imageN, .int v_p0_imageWay, .ref q_p0_imageLed])), (q_p0_product, .inl (cJ, 64, .inr (.inl f_p0_product))), (q_p0_table, .inl (cJ, 64, .inr (.inl f_p0_table))), (q_p0_led, .inl (cI, 8, .inl f_p0_led))] → va_S A s.heap H locs → lv_has ls 14 [(0, .ref q_p0), (1, .int x1), (2, .int l2), (3, .long l3), (5, .int l5)] → W p l e { frames := 2, cells := 0, slots := 0, locals := 46 } s m args below meth c H locs 0 0 Q (F0 m 66 ls []) := by
            intro l2 n66
            induction n66 with
            | zero =>
              intro l3 l5 f_p0_table f_p0_product H locs ls h
              exact False.elim h
            | succ n66 ih66 =>
              intro l3 l5 f_p0_table f_p0_product H locs ls h hP hD hS hl
              have h : M_X9_polynomial_l66 x1 v_p0_way v_p0_n f_p0_led P l2 (LP4 (M_X9_polynomial_l66 x1 v_p0_way v_p0_n f_p0_led P l2) n66) l3 l5 f_p0_table f_p0_product := h
              refine lv_iload hx hb dX9_polynomial_66 (lv_at hl 4 rfl) ?_
              refine lv_iload_n hx hb dX9_polynomial_68 rfl (lv_at hl 2 rfl) ?_
              refine lv_iload_n hx hb dX9_polynomial_69 rfl (lv_at hl 1 rfl) ?_
              refine lv_isub hx hb dX9_polynomial_70 ?_
              refine lv_icmp_gt (tgt := 281) hx hb dX9_polynomial_71 (by decide) (fun c5 => ?_) (fun c5 => ?_)
              · have h := And.left h c5
                refine lv_lload_n hx hb dX9_polynomial_281 rfl (lv_at hl 3 rfl) ?_
                exact z_lret hQ hx hb hr hlocks hK (f_p0_table, f_p0_product) h hP hD hS dX9_polynomial_282
              · have h := And.right h c5
                refine lv_lconst (v := (0 : Int64)) hx hb dX9_polynomial_74 (by decide) ?_
                refine lv_lstore (lv' := [(6, .long (0 : Int64)), (0, .ref q_p0), (1, .int x1), (2, .int l2), (3, .long l3), (5, .int l5)]) hx hb dX9_polynomial_75 hl (by decide) rfl (fun ls hl => ?_)
                refine lv_iconst (v := (0 : Int32)) hx hb dX9_polynomial_77 (by decide) ?_
                refine lv_istore (lv' := [(8, .int (0 : Int32)), (6, .long (0 : Int64)), (0, .ref q_p0), (1, .int x1), (2, .int l2), (3, .long l3), (5, .int l5)]) hx hb dX9_polynomial_78 hl (by decide) rfl (fun ls hl => ?_)
                have k80 : ∀ (l5 : Int32) (f_p0_table : (Nat → Int64)) (n80 : Nat) (l6 : Int64) (l8 : Int32) (f_p0_product : (Nat → Int64)) (H : Heap) (locs : List Loc) (ls : Array Slot), LP3 (M_X9_polynomial_l80 x1 v_p0_way v_p0_n f_p0_led (LP4 (M_X9_polynomial_l66 x1 v_p0_way v_p0_n f_p0_led P l2) n66) P l2 l5 f_p0_table) n80 l6 l8 f_p0_product → va_P D vwCl [(q_p0, .inr (7, [.int v_p0_n, .int v_p0_way, .ref q_p0_led, .int v_p0_deeds, .ref q_p0_were, .ref q_p0_paths, .ref q_p0_more, .ref q_p0_patterns, .int v_p0_patternMany, .ref q_p0_loop, .ref q_p0_ranks, .ref q_p0_counts, .ref q_p0_then, .ref q_p0_table, .ref q_p0_product, .ref q_p0_turned, .ref q_p0_tape, .int v_p0_taped, .int v_p0_hasWhy, .ref q_p0_reasons, .int v_p0_hasImage, .int v_p0_imageN, .int v_p0_imageWay, .ref q_p0_imageLed])), (q_p0_product, .inl (cJ, 64, .inr (.inl f_p0_product))), (q_p0_table, .inl (cJ, 64, .inr (.inl f_p0_table))), (q_p0_led, .inl (cI, 8, .inl f_p0_led))] H → va_D A [(q_p0, .inr (7, [.int v_p0_n, .int v_p0_way, .ref q_p0_led, .int v_p0_deeds, .ref q_p0_were, .ref q_p0_paths, .ref q_p0_more, .ref q_p0_patterns, .int v_p0_patternMany, .ref q_p0_loop, .ref q_p0_ranks, .ref q_p0_counts, .ref q_p0_then, .ref q_p0_table, .ref q_p0_product, .ref q_p0_turned, .ref q_p0_tape, .int v_p0_taped, .int v_p0_hasWhy, .ref q_p0_reasons, .int v_p0_hasImage, .int v_p0_imageN, .int v_p0_imageWay, .ref q_p0_imageLed])), (q_p0_product, .inl (cJ, 64, .inr (.inl f_p0_product))), (q_p0_table, .inl (cJ, 64, .inr (.inl f_p0_table))), (q_p0_led, .inl (cI, 8, .inl f_p0_led))] → va_S A s.heap H locs → lv_has ls 14 [(0, .ref q_p0), (1, .int x1), (2, .int l2), (5, .int l5), (6, .long l6), (8, .int l8)] → W p l e { frames := 2, cells := 0, slots := 0, locals := 46 } s m args below meth c H locs 0 0 Q (F0 m 80 ls []) := by
                  intro l5 f_p0_table n80
                  induction n80 with
                  | zero =>
                    intro l6 l8 f_p0_product H locs ls h
                    exact False.elim h
                  | succ n80 ih80 =>
                    intro l6 l8 f_p0_product H locs ls h hP hD hS hl
                    have h : M_X9_polynomial_l80 x1 v_p0_way v_p0_n f_p0_led (LP4 (M_X9_polynomial_l66 x1 v_p0_way v_p0_n f_p0_led P l2) n66) P l2 l5 f_p0_table (LP3 (M_X9_polynomial_l80 x1 v_p0_way v_p0_n f_p0_led (LP4 (M_X9_polynomial_l66 x1 v_p0_way v_p0_n f_p0_led P l2) n66) P l2 l5 f_p0_table) n80) l6 l8 f_p0_product := h
                    refine lv_iload hx hb dX9_polynomial_80 (lv_at hl 5 rfl) ?_
                    refine lv_iload_n hx hb dX9_polynomial_82 rfl (lv_at hl 2 rfl) ?_
                    refine lv_icmp_ge (tgt := 198) hx hb dX9_polynomial_83 (by decide) (fun c6 => ?_) (fun c6 => ?_)
                    · have h := And.left h c6
                      refine lv_lload hx hb dX9_polynomial_198 (lv_at hl 4 rfl) ?_
                      refine lv_lneg hx hb dX9_polynomial_200 ?_
                      refine lv_iload hx hb dX9_polynomial_201 (lv_at hl 3 rfl) ?_
                      refine lv_i2l (v := l5.toInt64) hx hb dX9_polynomial_203 rfl ?_
                      obtain ⟨hn7, h⟩ := h
                      refine lv_ldiv hx hb dX9_polynomial_204 hn7 ?_
                      refine lv_lstore_n (lv' := [(3, .long ((-l6) / l5.toInt64)), (0, .ref q_p0), (1, .int x1), (2, .int l2), (5, .int l5), (6, .long l6), (8, .int l8)]) hx hb dX9_polynomial_205 rfl hl (by decide) rfl (fun ls hl => ?_)
                      refine lv_iconst (v := (0 : Int32)) hx hb dX9_polynomial_206 (by decide) ?_
                      refine lv_istore (lv' := [(8, .int (0 : Int32)), (3, .long ((-l6) / l5.toInt64)), (0, .ref q_p0), (1, .int x1), (2, .int l2), (5, .int l5), (6, .long l6)]) hx hb dX9_polynomial_207 hl (by decide) rfl (fun ls hl => ?_)
                      have k209 : ∀ (l3 : Int64) (l5 : Int32) (f_p0_product : (Nat → Int64)) (n209 : Nat) (l8 : Int32) (f_p0_table : (Nat → Int64)) (H : Heap) (locs : List Loc) (ls : Array Slot), LP2 (M_X9_polynomial_l209 x1 v_p0_way v_p0_n f_p0_led (LP4 (M_X9_polynomial_l66 x1 v_p0_way v_p0_n f_p0_led P l2) n66) P l2 l3 l5 f_p0_product) n209 l8 f_p0_table → va_P D vwCl [(q_p0, .inr (7, [.int v_p0_n, .int v_p0_way, .ref q_p0_led, .int v_p0_deeds, .ref q_p0_were, .ref q_p0_paths, .ref q_p0_more, .ref q_p0_patterns, .int v_p0_patternMany, .ref q_p0_loop, .ref q_p0_ranks, .ref q_p0_counts, .ref q_p0_then, .ref q_p0_table, .ref q_p0_product, .ref q_p0_turned, .ref q_p0_tape, .int v_p0_taped, .int v_p0_hasWhy, .ref q_p0_reasons, .int v_p0_hasImage, .int v_p0_imageN, .int v_p0_imageWay, .ref q_p0_imageLed])), (q_p0_product, .inl (cJ, 64, .inr (.inl f_p0_product))), (q_p0_table, .inl (cJ, 64, .inr (.inl f_p0_table))), (q_p0_led, .inl (cI, 8, .inl f_p0_led))] H → va_D A [(q_p0, .inr (7, [.int v_p0_n, .int v_p0_way, .ref q_p0_led, .int v_p0_deeds, .ref q_p0_were, .ref q_p0_paths, .ref q_p0_more, .ref q_p0_patterns, .int v_p0_patternMany, .ref q_p0_loop, .ref q_p0_ranks, .ref q_p0_counts, .ref q_p0_then, .ref q_p0_table, .ref q_p0_product, .ref q_p0_turned, .ref q_p0_tape, .int v_p0_taped, .int v_p0_hasWhy, .ref q_p0_reasons, .int v_p0_hasImage, .int v_p0_imageN, .int v_p0_imageWay, .ref q_p0_imageLed])), (q_p0_product, .inl (cJ, 64, .inr (.inl f_p0_product))), (q_p0_table, .inl (cJ, 64, .inr (.inl f_p0_table))), (q_p0_led, .inl (cI, 8, .inl f_p0_led))] → va_S A s.heap H locs → lv_has ls 14 [(0, .ref q_p0), (1, .int x1), (2, .int l2), (3, .long l3), (5, .int l5), (8, .int l8)] → W p l e { frames := 2, cells := 0, slots := 0, locals := 46 } s m args below meth c H locs 0 0 Q (F0 m 209 ls []) := by
                        intro l3 l5 f_p0_product n209
                        induction n209 with
                        | zero =>
                          intro l8 f_p0_table H locs ls h
                          exact False.elim h
                        | succ n209 ih209 =>
                          intro l8 f_p0_table H locs ls h hP hD hS hl
                          have h : M_X9_polynomial_l209 x1 v_p0_way v_p0_n f_p0_led (LP4 (M_X9_polynomial_l66 x1 v_p0_way v_p0_n f_p0_led P l2) n66) P l2 l3 l5 f_p0_product (LP2 (M_X9_polynomial_l209 x1 v_p0_way v_p0_n f_p0_led (LP4 (M_X9_polynomial_l66 x1 v_p0_way v_p0_n f_p0_led P l2) n66) P l2 l3 l5 f_p0_product) n209) l8 f_p0_table := h
                          refine lv_iload hx hb dX9_polynomial_209 (lv_at hl 5 rfl) ?_
                          refine lv_iload_n hx hb dX9_polynomial_211 rfl (lv_at hl 2 rfl) ?_
                          refine lv_icmp_ge (tgt := 275) hx hb dX9_polynomial_212 (by decide) (fun c8 => ?_) (fun c8 => ?_)
                          · have h := And.left h c8
                            refine lv_iinc (v := (l5 + 1)) (lv' := [(5, .int (l5 + 1)), (0, .ref q_p0), (1, .int x1), (2, .int l2), (3, .long l3), (8, .int l8)]) hx hb dX9_polynomial_275 hl (k := 4) rfl rfl (by decide) rfl (fun ls hl => ?_)
                            refine lv_goto (tgt := 66) hx hb dX9_polynomial_278 (by decide) ?_
                            exact ih66 l3 (l5 + 1) f_p0_table f_p0_product _ _ _ h hP hD hS (lv_sub hl [1, 2, 3, 4, 0] rfl)
                          · have h := And.right h c8
                            refine lv_iconst (v := (0 : Int32)) hx hb dX9_polynomial_215 (by decide) ?_
                            refine lv_istore (lv' := [(9, .int (0 : Int32)), (0, .ref q_p0), (1, .int x1), (2, .int l2), (3, .long l3), (5, .int l5), (8, .int l8)]) hx hb dX9_polynomial_216 hl (by decide) rfl (fun ls hl => ?_)
                            have k218 : ∀ (l8 : Int32) (n218 : Nat) (l9 : Int32) (f_p0_table : (Nat → Int64)) (H : Heap) (locs : List Loc) (ls : Array Slot), LP2 (M_X9_polynomial_l218 x1 v_p0_way v_p0_n f_p0_led (LP4 (M_X9_polynomial_l66 x1 v_p0_way v_p0_n f_p0_led P l2) n66) (LP2 (M_X9_polynomial_l209 x1 v_p0_way v_p0_n f_p0_led (LP4 (M_X9_polynomial_l66 x1 v_p0_way v_p0_n f_p0_led P l2) n66) P l2 l3 l5 f_p0_product) n209) P l2 l3 l5 l8 f_p0_product) n218 l9 f_p0_table → va_P D vwCl [(q_p0, .inr (7, [.int v_p0_n, .int v_p0_way, .ref q_p0_led, .int v_p0_deeds, .ref q_p0_were, .ref q_p0_paths, .ref q_p0_more, .ref q_p0_patterns, .int v_p0_patternMany, .ref q_p0_loop, .ref q_p0_ranks, .ref q_p0_counts, .ref q_p0_then, .ref q_p0_table, .ref q_p0_product, .ref q_p0_turned, .ref q_p0_tape, .int v_p0_taped, .int v_p0_hasWhy, .ref q_p0_reasons, .int v_p0_hasImage, .int v_p0_imageN, .int v_p0_imageWay, .ref q_p0_imageLed])), (q_p0_product, .inl (cJ, 64, .inr (.inl f_p0_product))), (q_p0_table, .inl (cJ, 64, .inr (.inl f_p0_table))), (q_p0_led, .inl (cI, 8, .inl f_p0_led))] H → va_D A [(q_p0, .inr (7, [.int v_p0_n, .int v_p0_way, .ref q_p0_led, .int v_p0_deeds, .ref q_p0_were, .ref q_p0_paths, .ref q_p0_more, .ref q_p0_patterns, .int v_p0_patternMany, .ref q_p0_loop, .ref q_p0_ranks, .ref q_p0_counts, .ref q_p0_then, .ref q_p0_table, .ref q_p0_product, .ref q_p0_turned, .ref q_p0_tape, .int v_p0_taped, .int v_p0_hasWhy, .ref q_p0_reasons, .int v_p0_hasImage, .int v_p0_imageN, .int v_p0_imageWay, .ref q_p0_imageLed])), (q_p0_product, .inl (cJ, 64, .inr (.inl f_p0_product))), (q_p0_table, .inl (cJ, 64, .inr (.inl f_p0_table))), (q_p0_led, .inl (cI, 8, .inl f_p0_led))] → va_S A s.heap H locs → lv_has ls 14 [(0, .ref q_p0), (1, .int x1), (2, .int l2), (3, .long l3), (5, .int l5), (8, .int l8), (9, .int l9)] → W p l e { frames := 2, cells := 0, slots := 0, locals := 46 } s m args below meth c H locs 0 0 Q (F0 m 218 ls []) := by
                              intro l8 n218
                              induction n218 with
                              | zero =>
                                intro l9 f_p0_table H locs ls h
                                exact False.elim h
                              | succ n218 ih218 =>
                                intro l9 f_p0_table H locs ls h hP hD hS hl
                                have h : M_X9_polynomial_l218 x1 v_p0_way v_p0_n f_p0_led (LP4 (M_X9_polynomial_l66 x1 v_p0_way v_p0_n f_p0_led P l2) n66) (LP2 (M_X9_polynomial_l209 x1 v_p0_way v_p0_n f_p0_led (LP4 (M_X9_polynomial_l66 x1 v_p0_way v_p0_n f_p0_led P l2) n66) P l2 l3 l5 f_p0_product) n209) P l2 l3 l5 l8 f_p0_product (LP2 (M_X9_polynomial_l218 x1 v_p0_way v_p0_n f_p0_led (LP4 (M_X9_polynomial_l66 x1 v_p0_way v_p0_n f_p0_led P l2) n66) (LP2 (M_X9_polynomial_l209 x1 v_p0_way v_p0_n f_p0_led (LP4 (M_X9_polynomial_l66 x1 v_p0_way v_p0_n f_p0_led P l2) n66) P l2 l3 l5 f_p0_product) n209) P l2 l3 l5 l8 f_p0_product) n218) l9 f_p0_table := h
                                refine lv_iload hx hb dX9_polynomial_218 (lv_at hl 6 rfl) ?_
                                refine lv_iload_n hx hb dX9_polynomial_220 rfl (lv_at hl 2 rfl) ?_
                                refine lv_icmp_ge (tgt := 269) hx hb dX9_polynomial_221 (by decide) (fun c9 => ?_) (fun c9 => ?_)
                                · have h := And.left h c9
                                  refine lv_iinc (v := (l8 + 1)) (lv' := [(8, .int (l8 + 1)), (0, .ref q_p0), (1, .int x1), (2, .int l2), (3, .long l3), (5, .int l5), (9, .int l9)]) hx hb dX9_polynomial_269 hl (k := 5) rfl rfl (by decide) rfl (fun ls hl => ?_)
                                  refine lv_goto (tgt := 209) hx hb dX9_polynomial_272 (by decide) ?_
                                  exact ih209 (l8 + 1) f_p0_table _ _ _ h hP hD hS (lv_sub hl [1, 2, 3, 4, 5, 0] rfl)
                                · have h := And.right h c9
                                  refine lv_aload_n hx hb dX9_polynomial_224 rfl (lv_at hl 0 rfl) ?_
                                  refine va_get (ci := 7) (C := RX9) (T := TX9) (N := 24) (v := .ref q_p0_table) hx hb hts hinX9 hown hK hP 0 rfl rfl 13 (by decide) hw0 (fun _ h9 => h9) rfl dX9_polynomial_225 ?_
                                  refine lv_bipush (v := (8 : Int32)) hx hb dX9_polynomial_228 (by decide) ?_
                                  refine lv_iload hx hb dX9_polynomial_230 (lv_at hl 5 rfl) ?_
                                  refine lv_imul hx hb dX9_polynomial_232 ?_
                                  refine lv_iload hx hb dX9_polynomial_233 (lv_at hl 6 rfl) ?_
                                  refine lv_iadd hx hb dX9_polynomial_235 ?_
                                  refine lv_aload_n hx hb dX9_polynomial_236 rfl (lv_at hl 0 rfl) ?_
                                  refine va_get (ci := 7) (C := RX9) (T := TX9) (N := 24) (v := .ref q_p0_product) hx hb hts hinX9 hown hK hP 0 rfl rfl 14 (by decide) hw1 (fun _ h9 => h9) rfl dX9_polynomial_237 ?_
                                  refine lv_bipush (v := (8 : Int32)) hx hb dX9_polynomial_240 (by decide) ?_
                                  refine lv_iload hx hb dX9_polynomial_242 (lv_at hl 5 rfl) ?_
                                  refine lv_imul hx hb dX9_polynomial_244 ?_
                                  refine lv_iload hx hb dX9_polynomial_245 (lv_at hl 6 rfl) ?_
                                  refine lv_iadd hx hb dX9_polynomial_247 ?_
                                  obtain ⟨hi10, h⟩ := h
                                  refine va_lald hx hb hK hP 1 1 rfl rfl hi10 dX9_polynomial_248 ?_
                                  refine lv_iload hx hb dX9_polynomial_249 (lv_at hl 5 rfl) ?_
                                  refine lv_iload hx hb dX9_polynomial_251 (lv_at hl 6 rfl) ?_
                                  refine lv_icmp_ne (tgt := 260) hx hb dX9_polynomial_253 (by decide) (fun c11 => ?_) (fun c11 => ?_)
                                  · have h := And.right h c11
                                    refine lv_lconst (v := (0 : Int64)) hx hb dX9_polynomial_260 (by decide) ?_
                                    refine lv_ladd hx hb dX9_polynomial_261 ?_
                                    refine lv_topl (fun y12 ey12 => ?_)
                                    have h := h y12 ey12
                                    obtain ⟨hi13, h⟩ := h
                                    refine z_last (wn := [(q_p0, .inr (7, [.int v_p0_n, .int v_p0_way, .ref q_p0_led, .int v_p0_deeds, .ref q_p0_were, .ref q_p0_paths, .ref q_p0_more, .ref q_p0_patterns, .int v_p0_patternMany, .ref q_p0_loop, .ref q_p0_ranks, .ref q_p0_counts, .ref q_p0_then, .ref q_p0_table, .ref q_p0_product, .ref q_p0_turned, .ref q_p0_tape, .int v_p0_taped, .int v_p0_hasWhy, .ref q_p0_reasons, .int v_p0_hasImage, .int v_p0_imageN, .int v_p0_imageWay, .ref q_p0_imageLed])), (q_p0_product, .inl (cJ, 64, .inr (.inl f_p0_product))), (q_p0_table, .inl (cJ, 64, .inr (.inl (vp_updL f_p0_table (((8 : Int32) * l8) + l9).toNatClampNeg y12)))), (q_p0_led, .inl (cI, 8, .inl f_p0_led))]) hx hb hK hP hD hS 2 rfl hi13 dX9_polynomial_262 rfl (fun H locs hP hD hS => ?_)
                                    refine lv_iinc (v := (l9 + 1)) (lv' := [(9, .int (l9 + 1)), (0, .ref q_p0), (1, .int x1), (2, .int l2), (3, .long l3), (5, .int l5), (8, .int l8)]) hx hb dX9_polynomial_263 hl (k := 6) rfl rfl (by decide) rfl (fun ls hl => ?_)
                                    refine lv_goto (tgt := 218) hx hb dX9_polynomial_266 (by decide) ?_
                                    exact ih218 (l9 + 1) (vp_updL f_p0_table (((8 : Int32) * l8) + l9).toNatClampNeg y12) _ _ _ h hP hD hS (lv_sub hl [1, 2, 3, 4, 5, 6, 0] rfl)
                                  · have h := And.left h c11
                                    refine lv_lload_n hx hb dX9_polynomial_256 rfl (lv_at hl 3 rfl) ?_
                                    refine lv_goto (tgt := 261) hx hb dX9_polynomial_257 (by decide) ?_
                                    refine lv_ladd hx hb dX9_polynomial_261 ?_
                                    refine lv_topl (fun y14 ey14 => ?_)
                                    have h := h y14 ey14
                                    obtain ⟨hi15, h⟩ := h
                                    refine z_last (wn := [(q_p0, .inr (7, [.int v_p0_n, .int v_p0_way, .ref q_p0_led, .int v_p0_deeds, .ref q_p0_were, .ref q_p0_paths, .ref q_p0_more, .ref q_p0_patterns, .int v_p0_patternMany, .ref q_p0_loop, .ref q_p0_ranks, .ref q_p0_counts, .ref q_p0_then, .ref q_p0_table, .ref q_p0_product, .ref q_p0_turned, .ref q_p0_tape, .int v_p0_taped, .int v_p0_hasWhy, .ref q_p0_reasons, .int v_p0_hasImage, .int v_p0_imageN, .int v_p0_imageWay, .ref q_p0_imageLed])), (q_p0_product, .inl (cJ, 64, .inr (.inl f_p0_product))), (q_p0_table, .inl (cJ, 64, .inr (.inl (vp_updL f_p0_table (((8 : Int32) * l8) + l9).toNatClampNeg y14)))), (q_p0_led, .inl (cI, 8, .inl f_p0_led))]) hx hb hK hP hD hS 2 rfl hi15 dX9_polynomial_262 rfl (fun H locs hP hD hS => ?_)
                                    refine lv_iinc (v := (l9 + 1)) (lv' := [(9, .int (l9 + 1)), (0, .ref q_p0), (1, .int x1), (2, .int l2), (3, .long l3), (5, .int l5), (8, .int l8)]) hx hb dX9_polynomial_263 hl (k := 6) rfl rfl (by decide) rfl (fun ls hl => ?_)
                                    refine lv_goto (tgt := 218) hx hb dX9_polynomial_266 (by decide) ?_
                                    exact ih218 (l9 + 1) (vp_updL f_p0_table (((8 : Int32) * l8) + l9).toNatClampNeg y14) _ _ _ h hP hD hS (lv_sub hl [1, 2, 3, 4, 5, 6, 0] rfl)
                            obtain ⟨n218, h⟩ := h
                            exact k218 l8 n218 (0 : Int32) f_p0_table _ _ _ h hP hD hS (lv_sub hl [1, 2, 3, 4, 5, 6, 0] rfl)
                      obtain ⟨n209, h⟩ := h
                      exact k209 ((-l6) / l5.toInt64) l5 f_p0_product n209 (0 : Int32) f_p0_table _ _ _ h hP hD hS (lv_sub hl [2, 3, 4, 1, 5, 0] rfl)
                    · have h := And.right h c6
                      refine lv_aload_n hx hb dX9_polynomial_86 rfl (lv_at hl 0 rfl) ?_
                      refine lv_iload hx hb dX9_polynomial_87 (lv_at hl 5 rfl) ?_
                      refine z_cVi (As := [.int l8]) (rest := []) (wr := [(q_p0_product, .inl (cJ, 64, .inr (.inl f_p0_product))), (q_p0_table, .inl (cJ, 64, .inr (.inl f_p0_table)))]) (wn := fun u => [(q_p0, .inr (7, [.int v_p0_n, .int v_p0_way, .ref q_p0_led, .int v_p0_deeds, .ref q_p0_were, .ref q_p0_paths, .ref q_p0_more, .ref q_p0_patterns, .int v_p0_patternMany, .ref q_p0_loop, .ref q_p0_ranks, .ref q_p0_counts, .ref q_p0_then, .ref q_p0_table, .ref q_p0_product, .ref q_p0_turned, .ref q_p0_tape, .int v_p0_taped, .int v_p0_hasWhy, .ref q_p0_reasons, .int v_p0_hasImage, .int v_p0_imageN, .int v_p0_imageWay, .ref q_p0_imageLed])), (q_p0_product, .inl (cJ, 64, .inr (.inl f_p0_product))), (q_p0_table, .inl (cJ, 64, .inr (.inl f_p0_table))), (q_p0_led, .inl (cI, 8, .inl f_p0_led))]) (c_X9_coversOf l D cI cJ cB tU tM tS q_p0 q_p0_led q_p0_were q_p0_paths q_p0_more q_p0_patterns q_p0_loop q_p0_ranks q_p0_counts q_p0_then q_p0_table q_p0_product q_p0_turned q_p0_tape q_p0_reasons q_p0_imageLed H.size l8 f_p0_led v_p0_n v_p0_way v_p0_deeds v_p0_patternMany v_p0_taped v_p0_hasWhy v_p0_hasImage v_p0_imageN v_p0_imageWay _ h) ⟨hx, hb, hml, hown, hts⟩ (cwV 1 hts gX9_polynomial_X9_coversOf rfl rfl rfl hd_X9_coversOf ⟨Nat.le_of_ble_eq_true rfl, Nat.le_of_ble_eq_true rfl⟩) hX hK hP hD hS hA [0, 3] [1, 2] [2, 0, 1, 3] rfl rfl rfl (by decide) (fun _ => rfl) (q0 := 0) (ci := 7) rfl rfl rfl hl.1 rfl (Nat.le_of_ble_eq_true rfl) ⟨Nat.le_refl _, Nat.le_refl _⟩ dX9_polynomial_89 (fun r16 u16 H locs h hP hD hS => ?_)
                      refine lv_istore (lv' := [(9, .int r16), (0, .ref q_p0), (1, .int x1), (2, .int l2), (5, .int l5), (6, .long l6), (8, .int l8)]) hx hb dX9_polynomial_92 hl (by decide) rfl (fun ls hl => ?_)
                      refine lv_iconst (v := (0 : Int32)) hx hb dX9_polynomial_94 (by decide) ?_
                      refine lv_istore (lv' := [(10, .int (0 : Int32)), (9, .int r16), (0, .ref q_p0), (1, .int x1), (2, .int l2), (5, .int l5), (6, .long l6), (8, .int l8)]) hx hb dX9_polynomial_95 hl (by decide) rfl (fun ls hl => ?_)
                      have k97 : ∀ (l8 : Int32) (l9 : Int32) (n97 : Nat) (l6 : Int64) (l10 : Int32) (f_p0_product : (Nat → Int64)) (H : Heap) (locs : List Loc) (ls : Array Slot), LP3 (M_X9_polynomial_l97 x1 v_p0_way v_p0_n f_p0_led (LP4 (M_X9_polynomial_l66 x1 v_p0_way v_p0_n f_p0_led P l2) n66) (LP3 (M_X9_polynomial_l80 x1 v_p0_way v_p0_n f_p0_led (LP4 (M_X9_polynomial_l66 x1 v_p0_way v_p0_n f_p0_led P l2) n66) P l2 l5 f_p0_table) n80) P l2 l5 l8 l9 f_p0_table) n97 l6 l10 f_p0_product → va_P D vwCl [(q_p0, .inr (7, [.int v_p0_n, .int v_p0_way, .ref q_p0_led, .int v_p0_deeds, .ref q_p0_were, .ref q_p0_paths, .ref q_p0_more, .ref q_p0_patterns, .int v_p0_patternMany, .ref q_p0_loop, .ref q_p0_ranks, .ref q_p0_counts, .ref q_p0_then, .ref q_p0_table, .ref q_p0_product, .ref q_p0_turned, .ref q_p0_tape, .int v_p0_taped, .int v_p0_hasWhy, .ref q_p0_reasons, .int v_p0_hasImage, .int v_p0_imageN, .int v_p0_imageWay, .ref q_p0_imageLed])), (q_p0_product, .inl (cJ, 64, .inr (.inl f_p0_product))), (q_p0_table, .inl (cJ, 64, .inr (.inl f_p0_table))), (q_p0_led, .inl (cI, 8, .inl f_p0_led))] H → va_D A [(q_p0, .inr (7, [.int v_p0_n, .int v_p0_way, .ref q_p0_led, .int v_p0_deeds, .ref q_p0_were, .ref q_p0_paths, .ref q_p0_more, .ref q_p0_patterns, .int v_p0_patternMany, .ref q_p0_loop, .ref q_p0_ranks, .ref q_p0_counts, .ref q_p0_then, .ref q_p0_table, .ref q_p0_product, .ref q_p0_turned, .ref q_p0_tape, .int v_p0_taped, .int v_p0_hasWhy, .ref q_p0_reasons, .int v_p0_hasImage, .int v_p0_imageN, .int v_p0_imageWay, .ref q_p0_imageLed])), (q_p0_product, .inl (cJ, 64, .inr (.inl f_p0_product))), (q_p0_table, .inl (cJ, 64, .inr (.inl f_p0_table))), (q_p0_led, .inl (cI, 8, .inl f_p0_led))] → va_S A s.heap H locs → lv_has ls 14 [(0, .ref q_p0), (1, .int x1), (2, .int l2), (5, .int l5), (6, .long l6), (8, .int l8), (9, .int l9), (10, .int l10)] → W p l e { frames := 2, cells := 0, slots := 0, locals := 46 } s m args below meth c H locs 0 0 Q (F0 m 97 ls []) := by
                        intro l8 l9 n97
                        induction n97 with
                        | zero =>
                          intro l6 l10 f_p0_product H locs ls h
                          exact False.elim h
                        | succ n97 ih97 =>
                          intro l6 l10 f_p0_product H locs ls h hP hD hS hl
                          have h : M_X9_polynomial_l97 x1 v_p0_way v_p0_n f_p0_led (LP4 (M_X9_polynomial_l66 x1 v_p0_way v_p0_n f_p0_led P l2) n66) (LP3 (M_X9_polynomial_l80 x1 v_p0_way v_p0_n f_p0_led (LP4 (M_X9_polynomial_l66 x1 v_p0_way v_p0_n f_p0_led P l2) n66) P l2 l5 f_p0_table) n80) P l2 l5 l8 l9 f_p0_table (LP3 (M_X9_polynomial_l97 x1 v_p0_way v_p0_n f_p0_led (LP4 (M_X9_polynomial_l66 x1 v_p0_way v_p0_n f_p0_led P l2) n66) (LP3 (M_X9_polynomial_l80 x1 v_p0_way v_p0_n f_p0_led (LP4 (M_X9_polynomial_l66 x1 v_p0_way v_p0_n f_p0_led P l2) n66) P l2 l5 f_p0_table) n80) P l2 l5 l8 l9 f_p0_table) n97) l6 l10 f_p0_product := h
                          refine lv_iload hx hb dX9_polynomial_97 (lv_at hl 7 rfl) ?_
                          refine lv_iload_n hx hb dX9_polynomial_99 rfl (lv_at hl 2 rfl) ?_
                          refine lv_icmp_ge (tgt := 192) hx hb dX9_polynomial_100 (by decide) (fun c17 => ?_) (fun c17 => ?_)
                          · have h := And.left h c17
                            refine lv_iinc (v := (l8 + 1)) (lv' := [(8, .int (l8 + 1)), (0, .ref q_p0), (1, .int x1), (2, .int l2), (5, .int l5), (6, .long l6), (9, .int l9), (10, .int l10)]) hx hb dX9_polynomial_192 hl (k := 5) rfl rfl (by decide) rfl (fun ls hl => ?_)
                            refine lv_goto (tgt := 80) hx hb dX9_polynomial_195 (by decide) ?_
                            exact ih80 l6 (l8 + 1) f_p0_product _ _ _ h hP hD hS (lv_sub hl [1, 2, 3, 4, 5, 0] rfl)
                          · have h := And.right h c17
                            refine lv_lconst (v := (0 : Int64)) hx hb dX9_polynomial_103 (by decide) ?_
                            refine lv_lstore (lv' := [(11, .long (0 : Int64)), (0, .ref q_p0), (1, .int x1), (2, .int l2), (5, .int l5), (6, .long l6), (8, .int l8), (9, .int l9), (10, .int l10)]) hx hb dX9_polynomial_104 hl (by decide) rfl (fun ls hl => ?_)
                            refine lv_iconst (v := (0 : Int32)) hx hb dX9_polynomial_106 (by decide) ?_
                            refine lv_istore (lv' := [(13, .int (0 : Int32)), (11, .long (0 : Int64)), (0, .ref q_p0), (1, .int x1), (2, .int l2), (5, .int l5), (6, .long l6), (8, .int l8), (9, .int l9), (10, .int l10)]) hx hb dX9_polynomial_107 hl (by decide) rfl (fun ls hl => ?_)
                            have k109 : ∀ (l6 : Int64) (l10 : Int32) (f_p0_product : (Nat → Int64)) (n109 : Nat) (l11 : Int64) (l13 : Int32) (H : Heap) (locs : List Loc) (ls : Array Slot), LP2 (M_X9_polynomial_l109 x1 v_p0_way v_p0_n f_p0_led (LP4 (M_X9_polynomial_l66 x1 v_p0_way v_p0_n f_p0_led P l2) n66) (LP3 (M_X9_polynomial_l80 x1 v_p0_way v_p0_n f_p0_led (LP4 (M_X9_polynomial_l66 x1 v_p0_way v_p0_n f_p0_led P l2) n66) P l2 l5 f_p0_table) n80) (LP3 (M_X9_polynomial_l97 x1 v_p0_way v_p0_n f_p0_led (LP4 (M_X9_polynomial_l66 x1 v_p0_way v_p0_n f_p0_led P l2) n66) (LP3 (M_X9_polynomial_l80 x1 v_p0_way v_p0_n f_p0_led (LP4 (M_X9_polynomial_l66 x1 v_p0_way v_p0_n f_p0_led P l2) n66) P l2 l5 f_p0_table) n80) P l2 l5 l8 l9 f_p0_table) n97) P l2 l5 l6 l8 l9 l10 f_p0_table f_p0_product) n109 l11 l13 → va_P D vwCl [(q_p0, .inr (7, [.int v_p0_n, .int v_p0_way, .ref q_p0_led, .int v_p0_deeds, .ref q_p0_were, .ref q_p0_paths, .ref q_p0_more, .ref q_p0_patterns, .int v_p0_patternMany, .ref q_p0_loop, .ref q_p0_ranks, .ref q_p0_counts, .ref q_p0_then, .ref q_p0_table, .ref q_p0_product, .ref q_p0_turned, .ref q_p0_tape, .int v_p0_taped, .int v_p0_hasWhy, .ref q_p0_reasons, .int v_p0_hasImage, .int v_p0_imageN, .int v_p0_imageWay, .ref q_p0_imageLed])), (q_p0_product, .inl (cJ, 64, .inr (.inl f_p0_product))), (q_p0_table, .inl (cJ, 64, .inr (.inl f_p0_table))), (q_p0_led, .inl (cI, 8, .inl f_p0_led))] H → va_D A [(q_p0, .inr (7, [.int v_p0_n, .int v_p0_way, .ref q_p0_led, .int v_p0_deeds, .ref q_p0_were, .ref q_p0_paths, .ref q_p0_more, .ref q_p0_patterns, .int v_p0_patternMany, .ref q_p0_loop, .ref q_p0_ranks, .ref q_p0_counts, .ref q_p0_then, .ref q_p0_table, .ref q_p0_product, .ref q_p0_turned, .ref q_p0_tape, .int v_p0_taped, .int v_p0_hasWhy, .ref q_p0_reasons, .int v_p0_hasImage, .int v_p0_imageN, .int v_p0_imageWay, .ref q_p0_imageLed])), (q_p0_product, .inl (cJ, 64, .inr (.inl f_p0_product))), (q_p0_table, .inl (cJ, 64, .inr (.inl f_p0_table))), (q_p0_led, .inl (cI, 8, .inl f_p0_led))] → va_S A s.heap H locs → lv_has ls 14 [(0, .ref q_p0), (1, .int x1), (2, .int l2), (5, .int l5), (6, .long l6), (8, .int l8), (9, .int l9), (10, .int l10), (11, .long l11), (13, .int l13)] → W p l e { frames := 2, cells := 0, slots := 0, locals := 46 } s m args below meth c H locs 0 0 Q (F0 m 109 ls []) := by
                              intro l6 l10 f_p0_product n109
                              induction n109 with
                              | zero =>
                                intro l11 l13 H locs ls h
                                exact False.elim h
                              | succ n109 ih109 =>
                                intro l11 l13 H locs ls h hP hD hS hl
                                have h : M_X9_polynomial_l109 x1 v_p0_way v_p0_n f_p0_led (LP4 (M_X9_polynomial_l66 x1 v_p0_way v_p0_n f_p0_led P l2) n66) (LP3 (M_X9_polynomial_l80 x1 v_p0_way v_p0_n f_p0_led (LP4 (M_X9_polynomial_l66 x1 v_p0_way v_p0_n f_p0_led P l2) n66) P l2 l5 f_p0_table) n80) (LP3 (M_X9_polynomial_l97 x1 v_p0_way v_p0_n f_p0_led (LP4 (M_X9_polynomial_l66 x1 v_p0_way v_p0_n f_p0_led P l2) n66) (LP3 (M_X9_polynomial_l80 x1 v_p0_way v_p0_n f_p0_led (LP4 (M_X9_polynomial_l66 x1 v_p0_way v_p0_n f_p0_led P l2) n66) P l2 l5 f_p0_table) n80) P l2 l5 l8 l9 f_p0_table) n97) P l2 l5 l6 l8 l9 l10 f_p0_table f_p0_product (LP2 (M_X9_polynomial_l109 x1 v_p0_way v_p0_n f_p0_led (LP4 (M_X9_polynomial_l66 x1 v_p0_way v_p0_n f_p0_led P l2) n66) (LP3 (M_X9_polynomial_l80 x1 v_p0_way v_p0_n f_p0_led (LP4 (M_X9_polynomial_l66 x1 v_p0_way v_p0_n f_p0_led P l2) n66) P l2 l5 f_p0_table) n80) (LP3 (M_X9_polynomial_l97 x1 v_p0_way v_p0_n f_p0_led (LP4 (M_X9_polynomial_l66 x1 v_p0_way v_p0_n f_p0_led P l2) n66) (LP3 (M_X9_polynomial_l80 x1 v_p0_way v_p0_n f_p0_led (LP4 (M_X9_polynomial_l66 x1 v_p0_way v_p0_n f_p0_led P l2) n66) P l2 l5 f_p0_table) n80) P l2 l5 l8 l9 f_p0_table) n97) P l2 l5 l6 l8 l9 l10 f_p0_table f_p0_product) n109) l11 l13 := h
                                refine lv_iload hx hb dX9_polynomial_109 (lv_at hl 9 rfl) ?_
                                refine lv_iload_n hx hb dX9_polynomial_111 rfl (lv_at hl 2 rfl) ?_
                                refine lv_icmp_ge (tgt := 153) hx hb dX9_polynomial_112 (by decide) (fun c18 => ?_) (fun c18 => ?_)
                                · have h := And.left h c18
                                  refine lv_aload_n hx hb dX9_polynomial_153 rfl (lv_at hl 0 rfl) ?_
                                  refine va_get (ci := 7) (C := RX9) (T := TX9) (N := 24) (v := .ref q_p0_product) hx hb hts hinX9 hown hK hP 0 rfl rfl 14 (by decide) hw1 (fun _ h9 => h9) rfl dX9_polynomial_154 ?_
                                  refine lv_bipush (v := (8 : Int32)) hx hb dX9_polynomial_157 (by decide) ?_
                                  refine lv_iload hx hb dX9_polynomial_159 (lv_at hl 5 rfl) ?_
                                  refine lv_imul hx hb dX9_polynomial_161 ?_
                                  refine lv_iload hx hb dX9_polynomial_162 (lv_at hl 7 rfl) ?_
                                  refine lv_iadd hx hb dX9_polynomial_164 ?_
                                  refine lv_lload hx hb dX9_polynomial_165 (lv_at hl 8 rfl) ?_
                                  obtain ⟨hi19, h⟩ := h
                                  refine z_last (wn := [(q_p0, .inr (7, [.int v_p0_n, .int v_p0_way, .ref q_p0_led, .int v_p0_deeds, .ref q_p0_were, .ref q_p0_paths, .ref q_p0_more, .ref q_p0_patterns, .int v_p0_patternMany, .ref q_p0_loop, .ref q_p0_ranks, .ref q_p0_counts, .ref q_p0_then, .ref q_p0_table, .ref q_p0_product, .ref q_p0_turned, .ref q_p0_tape, .int v_p0_taped, .int v_p0_hasWhy, .ref q_p0_reasons, .int v_p0_hasImage, .int v_p0_imageN, .int v_p0_imageWay, .ref q_p0_imageLed])), (q_p0_product, .inl (cJ, 64, .inr (.inl (vp_updL f_p0_product (((8 : Int32) * l8) + l10).toNatClampNeg l11)))), (q_p0_table, .inl (cJ, 64, .inr (.inl f_p0_table))), (q_p0_led, .inl (cI, 8, .inl f_p0_led))]) hx hb hK hP hD hS 1 rfl hi19 dX9_polynomial_167 rfl (fun H locs hP hD hS => ?_)
                                  refine lv_lload hx hb dX9_polynomial_168 (lv_at hl 4 rfl) ?_
                                  refine lv_iload hx hb dX9_polynomial_170 (lv_at hl 5 rfl) ?_
                                  refine lv_iload hx hb dX9_polynomial_172 (lv_at hl 7 rfl) ?_
                                  refine lv_icmp_ne (tgt := 182) hx hb dX9_polynomial_174 (by decide) (fun c20 => ?_) (fun c20 => ?_)
                                  · have h := And.right h c20
                                    refine lv_lconst (v := (0 : Int64)) hx hb dX9_polynomial_182 (by decide) ?_
                                    refine lv_ladd hx hb dX9_polynomial_183 ?_
                                    refine lv_lstore (lv' := [(6, .long (l6 + (0 : Int64))), (0, .ref q_p0), (1, .int x1), (2, .int l2), (5, .int l5), (8, .int l8), (9, .int l9), (10, .int l10), (11, .long l11), (13, .int l13)]) hx hb dX9_polynomial_184 hl (by decide) rfl (fun ls hl => ?_)
                                    refine lv_iinc (v := (l10 + 1)) (lv' := [(10, .int (l10 + 1)), (6, .long (l6 + (0 : Int64))), (0, .ref q_p0), (1, .int x1), (2, .int l2), (5, .int l5), (8, .int l8), (9, .int l9), (11, .long l11), (13, .int l13)]) hx hb dX9_polynomial_186 hl (k := 7) rfl rfl (by decide) rfl (fun ls hl => ?_)
                                    refine lv_goto (tgt := 97) hx hb dX9_polynomial_189 (by decide) ?_
                                    exact ih97 (l6 + (0 : Int64)) (l10 + 1) (vp_updL f_p0_product (((8 : Int32) * l8) + l10).toNatClampNeg l11) _ _ _ h hP hD hS (lv_sub hl [2, 3, 4, 5, 1, 6, 7, 0] rfl)
                                  · have h := And.left h c20
                                    refine lv_lload hx hb dX9_polynomial_177 (lv_at hl 8 rfl) ?_
                                    refine lv_goto (tgt := 183) hx hb dX9_polynomial_179 (by decide) ?_
                                    refine lv_ladd hx hb dX9_polynomial_183 ?_
                                    refine lv_lstore (lv' := [(6, .long (l6 + l11)), (0, .ref q_p0), (1, .int x1), (2, .int l2), (5, .int l5), (8, .int l8), (9, .int l9), (10, .int l10), (11, .long l11), (13, .int l13)]) hx hb dX9_polynomial_184 hl (by decide) rfl (fun ls hl => ?_)
                                    refine lv_iinc (v := (l10 + 1)) (lv' := [(10, .int (l10 + 1)), (6, .long (l6 + l11)), (0, .ref q_p0), (1, .int x1), (2, .int l2), (5, .int l5), (8, .int l8), (9, .int l9), (11, .long l11), (13, .int l13)]) hx hb dX9_polynomial_186 hl (k := 7) rfl rfl (by decide) rfl (fun ls hl => ?_)
                                    refine lv_goto (tgt := 97) hx hb dX9_polynomial_189 (by decide) ?_
                                    exact ih97 (l6 + l11) (l10 + 1) (vp_updL f_p0_product (((8 : Int32) * l8) + l10).toNatClampNeg l11) _ _ _ h hP hD hS (lv_sub hl [2, 3, 4, 5, 1, 6, 7, 0] rfl)
                                · have h := And.right h c18
                                  refine lv_lload hx hb dX9_polynomial_115 (lv_at hl 8 rfl) ?_
                                  refine lv_iload hx hb dX9_polynomial_117 (lv_at hl 6 rfl) ?_
                                  refine lv_iload hx hb dX9_polynomial_119 (lv_at hl 9 rfl) ?_
                                  refine lv_ishr hx hb dX9_polynomial_121 ?_
                                  refine lv_iconst (v := (1 : Int32)) hx hb dX9_polynomial_122 (by decide) ?_
                                  refine lv_iand hx hb dX9_polynomial_123 ?_
                                  refine lv_if_eq (tgt := 143) hx hb dX9_polynomial_124 (by decide) (fun c21 => ?_) (fun c21 => ?_)
                                  · have h := And.left h c21
                                    refine lv_lconst (v := (0 : Int64)) hx hb dX9_polynomial_143 (by decide) ?_
                                    refine lv_ladd hx hb dX9_polynomial_144 ?_
                                    refine lv_lstore (lv' := [(11, .long (l11 + (0 : Int64))), (0, .ref q_p0), (1, .int x1), (2, .int l2), (5, .int l5), (6, .long l6), (8, .int l8), (9, .int l9), (10, .int l10), (13, .int l13)]) hx hb dX9_polynomial_145 hl (by decide) rfl (fun ls hl => ?_)
                                    refine lv_iinc (v := (l13 + 1)) (lv' := [(13, .int (l13 + 1)), (11, .long (l11 + (0 : Int64))), (0, .ref q_p0), (1, .int x1), (2, .int l2), (5, .int l5), (6, .long l6), (8, .int l8), (9, .int l9), (10, .int l10)]) hx hb dX9_polynomial_147 hl (k := 9) rfl rfl (by decide) rfl (fun ls hl => ?_)
                                    refine lv_goto (tgt := 109) hx hb dX9_polynomial_150 (by decide) ?_
                                    exact ih109 (l11 + (0 : Int64)) (l13 + 1) _ _ _ h hP hD hS (lv_sub hl [2, 3, 4, 5, 6, 7, 8, 9, 1, 0] rfl)
                                  · have h := And.right h c21
                                    refine lv_aload_n hx hb dX9_polynomial_127 rfl (lv_at hl 0 rfl) ?_
                                    refine va_get (ci := 7) (C := RX9) (T := TX9) (N := 24) (v := .ref q_p0_table) hx hb hts hinX9 hown hK hP 0 rfl rfl 13 (by decide) hw0 (fun _ h9 => h9) rfl dX9_polynomial_128 ?_
                                    refine lv_bipush (v := (8 : Int32)) hx hb dX9_polynomial_131 (by decide) ?_
                                    refine lv_iload hx hb dX9_polynomial_133 (lv_at hl 9 rfl) ?_
                                    refine lv_imul hx hb dX9_polynomial_135 ?_
                                    refine lv_iload hx hb dX9_polynomial_136 (lv_at hl 7 rfl) ?_
                                    refine lv_iadd hx hb dX9_polynomial_138 ?_
                                    obtain ⟨hi22, h⟩ := h
                                    refine va_lald hx hb hK hP 2 1 rfl rfl hi22 dX9_polynomial_139 ?_
                                    refine lv_goto (tgt := 144) hx hb dX9_polynomial_140 (by decide) ?_
                                    refine lv_ladd hx hb dX9_polynomial_144 ?_
                                    refine lv_topl (fun y23 ey23 => ?_)
                                    have h := h y23 ey23
                                    refine lv_lstore (lv' := [(11, .long y23), (0, .ref q_p0), (1, .int x1), (2, .int l2), (5, .int l5), (6, .long l6), (8, .int l8), (9, .int l9), (10, .int l10), (13, .int l13)]) hx hb dX9_polynomial_145 hl (by decide) rfl (fun ls hl => ?_)
                                    refine lv_iinc (v := (l13 + 1)) (lv' := [(13, .int (l13 + 1)), (11, .long y23), (0, .ref q_p0), (1, .int x1), (2, .int l2), (5, .int l5), (6, .long l6), (8, .int l8), (9, .int l9), (10, .int l10)]) hx hb dX9_polynomial_147 hl (k := 9) rfl rfl (by decide) rfl (fun ls hl => ?_)
                                    refine lv_goto (tgt := 109) hx hb dX9_polynomial_150 (by decide) ?_
                                    exact ih109 y23 (l13 + 1) _ _ _ h hP hD hS (lv_sub hl [2, 3, 4, 5, 6, 7, 8, 9, 1, 0] rfl)
                            obtain ⟨n109, h⟩ := h
                            exact k109 l6 l10 f_p0_product n109 (0 : Int64) (0 : Int32) _ _ _ h hP hD hS (lv_sub hl [2, 3, 4, 5, 6, 7, 8, 9, 1, 0] rfl)
                      obtain ⟨n97, h⟩ := h
                      exact k97 l8 r16 n97 l6 (0 : Int32) f_p0_product _ _ _ h hP hD hS (lv_sub hl [2, 3, 4, 5, 6, 7, 1, 0] rfl)
                obtain ⟨n80, h⟩ := h
                exact k80 l5 f_p0_table n80 (0 : Int64) (0 : Int32) f_p0_product _ _ _ h hP hD hS (lv_sub hl [2, 3, 4, 6, 1, 0] rfl)
          obtain ⟨n66, h⟩ := h
          exact k66 l2 n66 l3 (1 : Int32) f_p0_table f_p0_product _ _ _ h hP hD hS (lv_sub hl [1, 2, 3, 4, 0] rfl)
        · have h := And.right h c4
          refine lv_aload_n hx hb dX9_polynomial_32 rfl (lv_at hl 0 rfl) ?_
          refine va_get (ci := 7) (C := RX9) (T := TX9) (N := 24) (v := .ref q_p0_table) hx hb hts hinX9 hown hK hP 0 rfl rfl 13 (by decide) hw0 (fun _ h9 => h9) rfl dX9_polynomial_33 ?_
          refine lv_iload hx hb dX9_polynomial_36 (lv_at hl 4 rfl) ?_
          refine lv_iload hx hb dX9_polynomial_38 (lv_at hl 4 rfl) ?_
          refine lv_bipush (v := (8 : Int32)) hx hb dX9_polynomial_40 (by decide) ?_
          refine lv_idiv hx hb dX9_polynomial_42 (by decide) ?_
          refine lv_iload hx hb dX9_polynomial_43 (lv_at hl 4 rfl) ?_
          refine lv_bipush (v := (8 : Int32)) hx hb dX9_polynomial_45 (by decide) ?_
          refine lv_irem hx hb dX9_polynomial_47 (by decide) ?_
          refine lv_icmp_ne (tgt := 55) hx hb dX9_polynomial_48 (by decide) (fun c24 => ?_) (fun c24 => ?_)
          · have h := And.right h c24
            refine lv_lconst (v := (0 : Int64)) hx hb dX9_polynomial_55 (by decide) ?_
            obtain ⟨hi25, h⟩ := h
            refine z_last (wn := [(q_p0, .inr (7, [.int v_p0_n, .int v_p0_way, .ref q_p0_led, .int v_p0_deeds, .ref q_p0_were, .ref q_p0_paths, .ref q_p0_more, .ref q_p0_patterns, .int v_p0_patternMany, .ref q_p0_loop, .ref q_p0_ranks, .ref q_p0_counts, .ref q_p0_then, .ref q_p0_table, .ref q_p0_product, .ref q_p0_turned, .ref q_p0_tape, .int v_p0_taped, .int v_p0_hasWhy, .ref q_p0_reasons, .int v_p0_hasImage, .int v_p0_imageN, .int v_p0_imageWay, .ref q_p0_imageLed])), (q_p0_product, .inl (cJ, 64, .inr (.inl f_p0_product))), (q_p0_table, .inl (cJ, 64, .inr (.inl (vp_updL f_p0_table l5.toNatClampNeg (0 : Int64))))), (q_p0_led, .inl (cI, 8, .inl f_p0_led))]) hx hb hK hP hD hS 2 rfl hi25 dX9_polynomial_56 rfl (fun H locs hP hD hS => ?_)
            refine lv_iinc (v := (l5 + 1)) (lv' := [(5, .int (l5 + 1)), (0, .ref q_p0), (1, .int x1), (2, .int l2), (3, .long l3)]) hx hb dX9_polynomial_57 hl (k := 4) rfl rfl (by decide) rfl (fun ls hl => ?_)
            refine lv_goto (tgt := 25) hx hb dX9_polynomial_60 (by decide) ?_
            exact ih25 (l5 + 1) (vp_updL f_p0_table l5.toNatClampNeg (0 : Int64)) _ _ _ h hP hD hS (lv_sub hl [1, 2, 3, 4, 0] rfl)
          · have h := And.left h c24
            refine lv_lconst (v := (1 : Int64)) hx hb dX9_polynomial_51 (by decide) ?_
            refine lv_goto (tgt := 56) hx hb dX9_polynomial_52 (by decide) ?_
            obtain ⟨hi26, h⟩ := h
            refine z_last (wn := [(q_p0, .inr (7, [.int v_p0_n, .int v_p0_way, .ref q_p0_led, .int v_p0_deeds, .ref q_p0_were, .ref q_p0_paths, .ref q_p0_more, .ref q_p0_patterns, .int v_p0_patternMany, .ref q_p0_loop, .ref q_p0_ranks, .ref q_p0_counts, .ref q_p0_then, .ref q_p0_table, .ref q_p0_product, .ref q_p0_turned, .ref q_p0_tape, .int v_p0_taped, .int v_p0_hasWhy, .ref q_p0_reasons, .int v_p0_hasImage, .int v_p0_imageN, .int v_p0_imageWay, .ref q_p0_imageLed])), (q_p0_product, .inl (cJ, 64, .inr (.inl f_p0_product))), (q_p0_table, .inl (cJ, 64, .inr (.inl (vp_updL f_p0_table l5.toNatClampNeg (1 : Int64))))), (q_p0_led, .inl (cI, 8, .inl f_p0_led))]) hx hb hK hP hD hS 2 rfl hi26 dX9_polynomial_56 rfl (fun H locs hP hD hS => ?_)
            refine lv_iinc (v := (l5 + 1)) (lv' := [(5, .int (l5 + 1)), (0, .ref q_p0), (1, .int x1), (2, .int l2), (3, .long l3)]) hx hb dX9_polynomial_57 hl (k := 4) rfl rfl (by decide) rfl (fun ls hl => ?_)
            refine lv_goto (tgt := 25) hx hb dX9_polynomial_60 (by decide) ?_
            exact ih25 (l5 + 1) (vp_updL f_p0_table l5.toNatClampNeg (1 : Int64)) _ _ _ h hP hD hS (lv_sub hl [1, 2, 3, 4, 0] rfl)
    obtain ⟨n25, h⟩ := h
    exact k25 r1 (1 : Int64) f_p0_product n25 (0 : Int32) f_p0_table _ _ _ h hP hD hS (lv_sub hl [3, 4, 2, 1, 0] rfl)
  · have h := And.left h c3
    refine lv_ldc2 (v := (-9223372036854775808 : Int64)) hx hb hown hw2 dX9_polynomial_16 ?_
    exact z_lret hQ hx hb hr hlocks hK (f_p0_table, f_p0_product) h hP hD hS dX9_polynomial_19
theorem hd_X9_canTurn : yX9_canTurn.cls = RX9 ∧ yX9_canTurn.cls ≠ "java/lang/invoke/MethodHandle" ∧ yX9_canTurn.cls ≠ "java/lang/invoke/VarHandle" ∧ (parseMethodDescriptor yX9_canTurn.desc).map (fun d => d.parameters.length) = some 1 := by decide +kernel
set_option maxHeartbeats 4000000 in
set_option maxRecDepth 100000 in
theorem c_X9_canTurn (l : Launch) (D : va_G) (cI cJ cB : ClassId) (tU tM tS : Nat) (q_p0 q_p0_led q_p0_were q_p0_paths q_p0_more q_p0_patterns q_p0_loop q_p0_ranks q_p0_counts q_p0_then q_p0_table q_p0_product q_p0_turned q_p0_tape q_p0_reasons q_p0_imageLed : Nat) (sz : Nat) (x1 : Int32) (v_p0_n : Int32) (f_p0_led : (Nat → Int32)) (v_p0_way : Int32) (v_p0_deeds : Int32) (v_p0_patternMany : Int32) (v_p0_taped : Int32) (v_p0_hasWhy : Int32) (v_p0_hasImage : Int32) (v_p0_imageN : Int32) (v_p0_imageWay : Int32) (P : Int32 → Prop) (h : M_X9_canTurn x1 v_p0_n f_p0_led P) : Met l yX9_canTurn wsX9_canTurn ({ frames := 0, cells := 0, slots := 0, locals := 0 }) (va_Pc [.ref q_p0, .int x1] (zPre D cI cJ cB tU tM tS [(q_p0, .inr (7, [.int v_p0_n, .int v_p0_way, .ref q_p0_led, .int v_p0_deeds, .ref q_p0_were, .ref q_p0_paths, .ref q_p0_more, .ref q_p0_patterns, .int v_p0_patternMany, .ref q_p0_loop, .ref q_p0_ranks, .ref q_p0_counts, .ref q_p0_then, .ref q_p0_table, .ref q_p0_product, .ref q_p0_turned, .ref q_p0_tape, .int v_p0_taped, .int v_p0_hasWhy, .ref q_p0_reasons, .int v_p0_hasImage, .int v_p0_imageN, .int v_p0_imageWay, .ref q_p0_imageLed])), (q_p0_led, .inl (cI, 8, .inl f_p0_led))] sz)) (va_Qi (fun (r : Int32) (u : Unit) => P r ) (fun u t => zPost D cI cJ cB (va_A [(q_p0, .inr (7, [.int v_p0_n, .int v_p0_way, .ref q_p0_led, .int v_p0_deeds, .ref q_p0_were, .ref q_p0_paths, .ref q_p0_more, .ref q_p0_patterns, .int v_p0_patternMany, .ref q_p0_loop, .ref q_p0_ranks, .ref q_p0_counts, .ref q_p0_then, .ref q_p0_table, .ref q_p0_product, .ref q_p0_turned, .ref q_p0_tape, .int v_p0_taped, .int v_p0_hasWhy, .ref q_p0_reasons, .int v_p0_hasImage, .int v_p0_imageN, .int v_p0_imageWay, .ref q_p0_imageLed])), (q_p0_led, .inl (cI, 8, .inl f_p0_led))] sz) [(q_p0, .inr (7, [.int v_p0_n, .int v_p0_way, .ref q_p0_led, .int v_p0_deeds, .ref q_p0_were, .ref q_p0_paths, .ref q_p0_more, .ref q_p0_patterns, .int v_p0_patternMany, .ref q_p0_loop, .ref q_p0_ranks, .ref q_p0_counts, .ref q_p0_then, .ref q_p0_table, .ref q_p0_product, .ref q_p0_turned, .ref q_p0_tape, .int v_p0_taped, .int v_p0_hasWhy, .ref q_p0_reasons, .int v_p0_hasImage, .int v_p0_imageN, .int v_p0_imageWay, .ref q_p0_imageLed])), (q_p0_led, .inl (cI, 8, .inl f_p0_led))] t) (va_A [(q_p0, .inr (7, [.int v_p0_n, .int v_p0_way, .ref q_p0_led, .int v_p0_deeds, .ref q_p0_were, .ref q_p0_paths, .ref q_p0_more, .ref q_p0_patterns, .int v_p0_patternMany, .ref q_p0_loop, .ref q_p0_ranks, .ref q_p0_counts, .ref q_p0_then, .ref q_p0_table, .ref q_p0_product, .ref q_p0_turned, .ref q_p0_tape, .int v_p0_taped, .int v_p0_hasWhy, .ref q_p0_reasons, .int v_p0_hasImage, .int v_p0_imageN, .int v_p0_imageWay, .ref q_p0_imageLed])), (q_p0_led, .inl (cI, 8, .inl f_p0_led))] sz)) 0 0 (va_A [(q_p0, .inr (7, [.int v_p0_n, .int v_p0_way, .ref q_p0_led, .int v_p0_deeds, .ref q_p0_were, .ref q_p0_paths, .ref q_p0_more, .ref q_p0_patterns, .int v_p0_patternMany, .ref q_p0_loop, .ref q_p0_ranks, .ref q_p0_counts, .ref q_p0_then, .ref q_p0_table, .ref q_p0_product, .ref q_p0_turned, .ref q_p0_tape, .int v_p0_taped, .int v_p0_hasWhy, .ref q_p0_reasons, .int v_p0_hasImage, .int v_p0_imageN, .int v_p0_imageWay, .ref q_p0_imageLed])), (q_p0_led, .inl (cI, 8, .inl f_p0_led))] sz) := by
  refine z_met (cc := cX9_canTurn) (maxL := 4) (ret := (some .boolean)) (Qc := fun A => va_Qi (fun (r : Int32) (u : Unit) => P r ) (fun u t => zPost D cI cJ cB A [(q_p0, .inr (7, [.int v_p0_n, .int v_p0_way, .ref q_p0_led, .int v_p0_deeds, .ref q_p0_were, .ref q_p0_paths, .ref q_p0_more, .ref q_p0_patterns, .int v_p0_patternMany, .ref q_p0_loop, .ref q_p0_ranks, .ref q_p0_counts, .ref q_p0_then, .ref q_p0_table, .ref q_p0_product, .ref q_p0_turned, .ref q_p0_tape, .int v_p0_taped, .int v_p0_hasWhy, .ref q_p0_reasons, .int v_p0_hasImage, .int v_p0_imageN, .int v_p0_imageWay, .ref q_p0_imageLed])), (q_p0_led, .inl (cI, 8, .inl f_p0_led))] t) A) (by decide) rfl [.ref q_p0, .int x1] (Nat.le_of_ble_eq_true rfl) ?_
  intro p e s m args below meth c A hx hb hr hts hown hml hlocks hA hX hK H locs hP hD hS ls hl Q hQ
  have hown : s.vm.findClass RX9 = some m.cls := hown
  have hl : lv_has ls 4 [(0, .ref q_p0), (1, .int x1)] := hl
  have hw0 : (Cond.fieldLink RX9 9 "ForcedRingsModel" "n" "I").before args s = true := hts _ (List.mem_of_getElem? (i := 1) rfl)
  have hw1 : (Cond.fieldLink RX9 15 "ForcedRingsModel" "led" "[I").before args s = true := hts _ (List.mem_of_getElem? (i := 2) rfl)
  have hinX9 : ∀ w ∈ wsX90, w ∈ wsX9_canTurn := fun _ h => List.mem_cons_of_mem _ (List.mem_append_right _ h)
  refine lv_iconst (v := (0 : Int32)) hx hb dX9_canTurn_0 (by decide) ?_
  refine lv_istore_n (lv' := [(2, .int (0 : Int32)), (0, .ref q_p0), (1, .int x1)]) hx hb dX9_canTurn_1 rfl hl (by decide) rfl (fun ls hl => ?_)
  refine lv_iconst (v := (0 : Int32)) hx hb dX9_canTurn_2 (by decide) ?_
  refine lv_istore_n (lv' := [(3, .int (0 : Int32)), (2, .int (0 : Int32)), (0, .ref q_p0), (1, .int x1)]) hx hb dX9_canTurn_3 rfl hl (by decide) rfl (fun ls hl => ?_)
  have k4 : ∀  (n4 : Nat) (l2 : Int32) (l3 : Int32) (H : Heap) (locs : List Loc) (ls : Array Slot), LP2 (M_X9_canTurn_l4 x1 v_p0_n f_p0_led P ) n4 l2 l3 → va_P D vwCl [(q_p0, .inr (7, [.int v_p0_n, .int v_p0_way, .ref q_p0_led, .int v_p0_deeds, .ref q_p0_were, .ref q_p0_paths, .ref q_p0_more, .ref q_p0_patterns, .int v_p0_patternMany, .ref q_p0_loop, .ref q_p0_ranks, .ref q_p0_counts, .ref q_p0_then, .ref q_p0_table, .ref q_p0_product, .ref q_p0_turned, .ref q_p0_tape, .int v_p0_taped, .int v_p0_hasWhy, .ref q_p0_reasons, .int v_p0_hasImage, .int v_p0_imageN, .int v_p0_imageWay, .ref q_p0_imageLed])), (q_p0_led, .inl (cI, 8, .inl f_p0_led))] H → va_D A [(q_p0, .inr (7, [.int v_p0_n, .int v_p0_way, .ref q_p0_led, .int v_p0_deeds, .ref q_p0_were, .ref q_p0_paths, .ref q_p0_more, .ref q_p0_patterns, .int v_p0_patternMany, .ref q_p0_loop, .ref q_p0_ranks, .ref q_p0_counts, .ref q_p0_then, .ref q_p0_table, .ref q_p0_product, .ref q_p0_turned, .ref q_p0_tape, .int v_p0_taped, .int v_p0_hasWhy, .ref q_p0_reasons, .int v_p0_hasImage, .int v_p0_imageN, .int v_p0_imageWay, .ref q_p0_imageLed])), (q_p0_led, .inl (cI, 8, .inl f_p0_led))] → va_S A s.heap H locs → lv_has ls 4 [(0, .ref q_p0), (1, .int x1), (2, .int l2), (3, .int l3)] → W p l e { frames := 0, cells := 0, slots := 0, locals := 0 } s m args below meth c H locs 0 0 Q (F0 m 4 ls []) := by
    intro  n4
    induction n4 with
    | zero =>
      intro l2 l3 H locs ls h
      exact False.elim h
    | succ n4 ih4 =>
      intro l2 l3 H locs ls h hP hD hS hl
      have h : M_X9_canTurn_l4 x1 v_p0_n f_p0_led P  (LP2 (M_X9_canTurn_l4 x1 v_p0_n f_p0_led P ) n4) l2 l3 := h
      refine lv_iload_n hx hb dX9_canTurn_4 rfl (lv_at hl 3 rfl) ?_
      refine lv_aload_n hx hb dX9_canTurn_5 rfl (lv_at hl 0 rfl) ?_
      refine va_get (ci := 7) (C := RX9) (T := TX9) (N := 24) (v := .int v_p0_n) hx hb hts hinX9 hown hK hP 0 rfl rfl 0 (by decide) hw0 (fun _ h9 => h9) rfl dX9_canTurn_6 ?_
      refine lv_icmp_ge (tgt := 29) hx hb dX9_canTurn_9 (by decide) (fun c1 => ?_) (fun c1 => ?_)
      · have h := And.left h c1
        refine lv_iload_n hx hb dX9_canTurn_29 rfl (lv_at hl 1 rfl) ?_
        refine lv_iconst (v := (3 : Int32)) hx hb dX9_canTurn_30 (by decide) ?_
        refine lv_icmp_ne (tgt := 46) hx hb dX9_canTurn_31 (by decide) (fun c2 => ?_) (fun c2 => ?_)
        · have h := And.right h c2
          refine lv_iconst (v := (1 : Int32)) hx hb dX9_canTurn_46 (by decide) ?_
          refine lv_goto (tgt := 51) hx hb dX9_canTurn_47 (by decide) ?_
          exact z_iret hQ hx hb hr rfl hlocks hK () h hP hD hS dX9_canTurn_51
        · have h := And.left h c2
          refine lv_iload_n hx hb dX9_canTurn_34 rfl (lv_at hl 2 rfl) ?_
          refine lv_iconst (v := (1 : Int32)) hx hb dX9_canTurn_35 (by decide) ?_
          refine lv_aload_n hx hb dX9_canTurn_36 rfl (lv_at hl 0 rfl) ?_
          refine va_get (ci := 7) (C := RX9) (T := TX9) (N := 24) (v := .int v_p0_n) hx hb hts hinX9 hown hK hP 0 rfl rfl 0 (by decide) hw0 (fun _ h9 => h9) rfl dX9_canTurn_37 ?_
          refine lv_ishl hx hb dX9_canTurn_40 ?_
          refine lv_iconst (v := (1 : Int32)) hx hb dX9_canTurn_41 (by decide) ?_
          refine lv_isub hx hb dX9_canTurn_42 ?_
          refine lv_icmp_ne (tgt := 50) hx hb dX9_canTurn_43 (by decide) (fun c3 => ?_) (fun c3 => ?_)
          · have h := And.right h c3
            refine lv_iconst (v := (0 : Int32)) hx hb dX9_canTurn_50 (by decide) ?_
            exact z_iret hQ hx hb hr rfl hlocks hK () h hP hD hS dX9_canTurn_51
          · have h := And.left h c3
            refine lv_iconst (v := (1 : Int32)) hx hb dX9_canTurn_46 (by decide) ?_
            refine lv_goto (tgt := 51) hx hb dX9_canTurn_47 (by decide) ?_
            exact z_iret hQ hx hb hr rfl hlocks hK () h hP hD hS dX9_canTurn_51
      · have h := And.right h c1
        refine lv_iload_n hx hb dX9_canTurn_12 rfl (lv_at hl 2 rfl) ?_
        refine lv_iconst (v := (1 : Int32)) hx hb dX9_canTurn_13 (by decide) ?_
        refine lv_aload_n hx hb dX9_canTurn_14 rfl (lv_at hl 0 rfl) ?_
        refine va_get (ci := 7) (C := RX9) (T := TX9) (N := 24) (v := .ref q_p0_led) hx hb hts hinX9 hown hK hP 0 rfl rfl 2 (by decide) hw1 (fun _ h9 => h9) rfl dX9_canTurn_15 ?_
        refine lv_iload_n hx hb dX9_canTurn_18 rfl (lv_at hl 3 rfl) ?_
        obtain ⟨hi4, h⟩ := h
        refine va_iald hx hb hK hP 1 0 rfl rfl hi4 dX9_canTurn_19 ?_
        refine lv_ishl hx hb dX9_canTurn_20 ?_
        refine lv_ior hx hb dX9_canTurn_21 ?_
        refine lv_topi (fun y5 ey5 => ?_)
        have h := h y5 ey5
        refine lv_istore_n (lv' := [(2, .int y5), (0, .ref q_p0), (1, .int x1), (3, .int l3)]) hx hb dX9_canTurn_22 rfl hl (by decide) rfl (fun ls hl => ?_)
        refine lv_iinc (v := (l3 + 1)) (lv' := [(3, .int (l3 + 1)), (2, .int y5), (0, .ref q_p0), (1, .int x1)]) hx hb dX9_canTurn_23 hl (k := 3) rfl rfl (by decide) rfl (fun ls hl => ?_)
        refine lv_goto (tgt := 4) hx hb dX9_canTurn_26 (by decide) ?_
        exact ih4 y5 (l3 + 1) _ _ _ h hP hD hS (lv_sub hl [2, 3, 1, 0] rfl)
  obtain ⟨n4, h⟩ := h
  exact k4  n4 (0 : Int32) (0 : Int32) _ _ _ h hP hD hS (lv_sub hl [2, 3, 1, 0] rfl)
theorem hd_X9_turns : yX9_turns.cls = RX9 ∧ yX9_turns.cls ≠ "java/lang/invoke/MethodHandle" ∧ yX9_turns.cls ≠ "java/lang/invoke/VarHandle" ∧ (parseMethodDescriptor yX9_turns.desc).map (fun d => d.parameters.length) = some 2 := by decide +kernel
set_option maxHeartbeats 4000000 in
set_option maxRecDepth 100000 in
theorem c_X9_turns (l : Launch) (D : va_G) (cI cJ cB : ClassId) (tU tM tS : Nat) (q_p0 q_p0_led q_p0_were q_p0_paths q_p0_more q_p0_patterns q_p0_loop q_p0_ranks q_p0_counts q_p0_then q_p0_table q_p0_product q_p0_turned q_p0_tape q_p0_reasons q_p0_imageLed : Nat) (sz : Nat) (x1 : Int32) (x2 : Int32) (v_p0_n : Int32) (f_p0_turned : (Nat → Int32)) (f_p0_led : (Nat → Int32)) (v_p0_way : Int32) (v_p0_deeds : Int32) (v_p0_patternMany : Int32) (v_p0_taped : Int32) (v_p0_hasWhy : Int32) (v_p0_hasImage : Int32) (v_p0_imageN : Int32) (v_p0_imageWay : Int32) (P : (Nat → Int32) → (Nat → Int32) → Prop) (h : M_X9_turns x1 x2 v_p0_n f_p0_turned f_p0_led P) : Met l yX9_turns wsX9_turns ({ frames := 0, cells := 0, slots := 0, locals := 0 }) (va_Pc [.ref q_p0, .int x1, .int x2] (zPre D cI cJ cB tU tM tS [(q_p0, .inr (7, [.int v_p0_n, .int v_p0_way, .ref q_p0_led, .int v_p0_deeds, .ref q_p0_were, .ref q_p0_paths, .ref q_p0_more, .ref q_p0_patterns, .int v_p0_patternMany, .ref q_p0_loop, .ref q_p0_ranks, .ref q_p0_counts, .ref q_p0_then, .ref q_p0_table, .ref q_p0_product, .ref q_p0_turned, .ref q_p0_tape, .int v_p0_taped, .int v_p0_hasWhy, .ref q_p0_reasons, .int v_p0_hasImage, .int v_p0_imageN, .int v_p0_imageWay, .ref q_p0_imageLed])), (q_p0_turned, .inl (cI, 8, .inl f_p0_turned)), (q_p0_led, .inl (cI, 8, .inl f_p0_led))] sz)) (va_Qv (fun u : (Nat → Int32) × (Nat → Int32) => P u.1 u.2) (fun u t => zPost D cI cJ cB (va_A [(q_p0, .inr (7, [.int v_p0_n, .int v_p0_way, .ref q_p0_led, .int v_p0_deeds, .ref q_p0_were, .ref q_p0_paths, .ref q_p0_more, .ref q_p0_patterns, .int v_p0_patternMany, .ref q_p0_loop, .ref q_p0_ranks, .ref q_p0_counts, .ref q_p0_then, .ref q_p0_table, .ref q_p0_product, .ref q_p0_turned, .ref q_p0_tape, .int v_p0_taped, .int v_p0_hasWhy, .ref q_p0_reasons, .int v_p0_hasImage, .int v_p0_imageN, .int v_p0_imageWay, .ref q_p0_imageLed])), (q_p0_turned, .inl (cI, 8, .inl f_p0_turned)), (q_p0_led, .inl (cI, 8, .inl f_p0_led))] sz) [(q_p0, .inr (7, [.int v_p0_n, .int v_p0_way, .ref q_p0_led, .int v_p0_deeds, .ref q_p0_were, .ref q_p0_paths, .ref q_p0_more, .ref q_p0_patterns, .int v_p0_patternMany, .ref q_p0_loop, .ref q_p0_ranks, .ref q_p0_counts, .ref q_p0_then, .ref q_p0_table, .ref q_p0_product, .ref q_p0_turned, .ref q_p0_tape, .int v_p0_taped, .int v_p0_hasWhy, .ref q_p0_reasons, .int v_p0_hasImage, .int v_p0_imageN, .int v_p0_imageWay, .ref q_p0_imageLed])), (q_p0_turned, .inl (cI, 8, .inl u.2)), (q_p0_led, .inl (cI, 8, .inl u.1))] t) (va_A [(q_p0, .inr (7, [.int v_p0_n, .int v_p0_way, .ref q_p0_led, .int v_p0_deeds, .ref q_p0_were, .ref q_p0_paths, .ref q_p0_more, .ref q_p0_patterns, .int v_p0_patternMany, .ref q_p0_loop, .ref q_p0_ranks, .ref q_p0_counts, .ref q_p0_then, .ref q_p0_table, .ref q_p0_product, .ref q_p0_turned, .ref q_p0_tape, .int v_p0_taped, .int v_p0_hasWhy, .ref q_p0_reasons, .int v_p0_hasImage, .int v_p0_imageN, .int v_p0_imageWay, .ref q_p0_imageLed])), (q_p0_turned, .inl (cI, 8, .inl f_p0_turned)), (q_p0_led, .inl (cI, 8, .inl f_p0_led))] sz)) 0 0 (va_A [(q_p0, .inr (7, [.int v_p0_n, .int v_p0_way, .ref q_p0_led, .int v_p0_deeds, .ref q_p0_were, .ref q_p0_paths, .ref q_p0_more, .ref q_p0_patterns, .int v_p0_patternMany, .ref q_p0_loop, .ref q_p0_ranks, .ref q_p0_counts, .ref q_p0_then, .ref q_p0_table, .ref q_p0_product, .ref q_p0_turned, .ref q_p0_tape, .int v_p0_taped, .int v_p0_hasWhy, .ref q_p0_reasons, .int v_p0_hasImage, .int v_p0_imageN, .int v_p0_imageWay, .ref q_p0_imageLed])), (q_p0_turned, .inl (cI, 8, .inl f_p0_turned)), (q_p0_led, .inl (cI, 8, .inl f_p0_led))] sz) := by
  refine z_met (cc := cX9_turns) (maxL := 4) (ret := none) (Qc := fun A => va_Qv (fun u : (Nat → Int32) × (Nat → Int32) => P u.1 u.2) (fun u t => zPost D cI cJ cB A [(q_p0, .inr (7, [.int v_p0_n, .int v_p0_way, .ref q_p0_led, .int v_p0_deeds, .ref q_p0_were, .ref q_p0_paths, .ref q_p0_more, .ref q_p0_patterns, .int v_p0_patternMany, .ref q_p0_loop, .ref q_p0_ranks, .ref q_p0_counts, .ref q_p0_then, .ref q_p0_table, .ref q_p0_product, .ref q_p0_turned, .ref q_p0_tape, .int v_p0_taped, .int v_p0_hasWhy, .ref q_p0_reasons, .int v_p0_hasImage, .int v_p0_imageN, .int v_p0_imageWay, .ref q_p0_imageLed])), (q_p0_turned, .inl (cI, 8, .inl u.2)), (q_p0_led, .inl (cI, 8, .inl u.1))] t) A) (by decide) rfl [.ref q_p0, .int x1, .int x2] (Nat.le_of_ble_eq_true rfl) ?_
  intro p e s m args below meth c A hx hb hr hts hown hml hlocks hA hX hK H locs hP hD hS ls hl Q hQ
  have hown : s.vm.findClass RX9 = some m.cls := hown
  have hl : lv_has ls 4 [(0, .ref q_p0), (1, .int x1), (2, .int x2)] := hl
  have hw0 : (Cond.fieldLink RX9 9 "ForcedRingsModel" "n" "I").before args s = true := hts _ (List.mem_of_getElem? (i := 1) rfl)
  have hw1 : (Cond.fieldLink RX9 15 "ForcedRingsModel" "led" "[I").before args s = true := hts _ (List.mem_of_getElem? (i := 3) rfl)
  have hw2 : (Cond.fieldLink RX9 50 "ForcedRingsModel" "turned" "[I").before args s = true := hts _ (List.mem_of_getElem? (i := 2) rfl)
  have hinX9 : ∀ w ∈ wsX90, w ∈ wsX9_turns := fun _ h => List.mem_cons_of_mem _ (List.mem_append_right _ h)
  refine lv_iconst (v := (0 : Int32)) hx hb dX9_turns_0 (by decide) ?_
  refine lv_istore_n (lv' := [(3, .int (0 : Int32)), (0, .ref q_p0), (1, .int x1), (2, .int x2)]) hx hb dX9_turns_1 rfl hl (by decide) rfl (fun ls hl => ?_)
  have k2 : ∀ (f_p0_led : (Nat → Int32)) (n2 : Nat) (l3 : Int32) (f_p0_turned : (Nat → Int32)) (H : Heap) (locs : List Loc) (ls : Array Slot), LP2 (M_X9_turns_l2 x1 x2 v_p0_n P f_p0_led) n2 l3 f_p0_turned → va_P D vwCl [(q_p0, .inr (7, [.int v_p0_n, .int v_p0_way, .ref q_p0_led, .int v_p0_deeds, .ref q_p0_were, .ref q_p0_paths, .ref q_p0_more, .ref q_p0_patterns, .int v_p0_patternMany, .ref q_p0_loop, .ref q_p0_ranks, .ref q_p0_counts, .ref q_p0_then, .ref q_p0_table, .ref q_p0_product, .ref q_p0_turned, .ref q_p0_tape, .int v_p0_taped, .int v_p0_hasWhy, .ref q_p0_reasons, .int v_p0_hasImage, .int v_p0_imageN, .int v_p0_imageWay, .ref q_p0_imageLed])), (q_p0_turned, .inl (cI, 8, .inl f_p0_turned)), (q_p0_led, .inl (cI, 8, .inl f_p0_led))] H → va_D A [(q_p0, .inr (7, [.int v_p0_n, .int v_p0_way, .ref q_p0_led, .int v_p0_deeds, .ref q_p0_were, .ref q_p0_paths, .ref q_p0_more, .ref q_p0_patterns, .int v_p0_patternMany, .ref q_p0_loop, .ref q_p0_ranks, .ref q_p0_counts, .ref q_p0_then, .ref q_p0_table, .ref q_p0_product, .ref q_p0_turned, .ref q_p0_tape, .int v_p0_taped, .int v_p0_hasWhy, .ref q_p0_reasons, .int v_p0_hasImage, .int v_p0_imageN, .int v_p0_imageWay, .ref q_p0_imageLed])), (q_p0_turned, .inl (cI, 8, .inl f_p0_turned)), (q_p0_led, .inl (cI, 8, .inl f_p0_led))] → va_S A s.heap H locs → lv_has ls 4 [(0, .ref q_p0), (1, .int x1), (2, .int x2), (3, .int l3)] → W p l e { frames := 0, cells := 0, slots := 0, locals := 0 } s m args below meth c H locs 0 0 Q (F0 m 2 ls []) := by
    intro f_p0_led n2
    induction n2 with
    | zero =>
      intro l3 f_p0_turned H locs ls h
      exact False.elim h
    | succ n2 ih2 =>
      intro l3 f_p0_turned H locs ls h hP hD hS hl
      have h : M_X9_turns_l2 x1 x2 v_p0_n P f_p0_led (LP2 (M_X9_turns_l2 x1 x2 v_p0_n P f_p0_led) n2) l3 f_p0_turned := h
      refine lv_iload_n hx hb dX9_turns_2 rfl (lv_at hl 3 rfl) ?_
      refine lv_aload_n hx hb dX9_turns_3 rfl (lv_at hl 0 rfl) ?_
      refine va_get (ci := 7) (C := RX9) (T := TX9) (N := 24) (v := .int v_p0_n) hx hb hts hinX9 hown hK hP 0 rfl rfl 0 (by decide) hw0 (fun _ h9 => h9) rfl dX9_turns_4 ?_
      refine lv_icmp_ge (tgt := 158) hx hb dX9_turns_7 (by decide) (fun c1 => ?_) (fun c1 => ?_)
      · have h := And.left h c1
        refine lv_iconst (v := (0 : Int32)) hx hb dX9_turns_158 (by decide) ?_
        refine lv_istore_n (lv' := [(3, .int (0 : Int32)), (0, .ref q_p0), (1, .int x1), (2, .int x2)]) hx hb dX9_turns_159 rfl hl (by decide) rfl (fun ls hl => ?_)
        have k160 : ∀ (f_p0_turned : (Nat → Int32)) (n160 : Nat) (l3 : Int32) (f_p0_led : (Nat → Int32)) (H : Heap) (locs : List Loc) (ls : Array Slot), LP2 (M_X9_turns_l160 x1 x2 v_p0_n P f_p0_turned) n160 l3 f_p0_led → va_P D vwCl [(q_p0, .inr (7, [.int v_p0_n, .int v_p0_way, .ref q_p0_led, .int v_p0_deeds, .ref q_p0_were, .ref q_p0_paths, .ref q_p0_more, .ref q_p0_patterns, .int v_p0_patternMany, .ref q_p0_loop, .ref q_p0_ranks, .ref q_p0_counts, .ref q_p0_then, .ref q_p0_table, .ref q_p0_product, .ref q_p0_turned, .ref q_p0_tape, .int v_p0_taped, .int v_p0_hasWhy, .ref q_p0_reasons, .int v_p0_hasImage, .int v_p0_imageN, .int v_p0_imageWay, .ref q_p0_imageLed])), (q_p0_turned, .inl (cI, 8, .inl f_p0_turned)), (q_p0_led, .inl (cI, 8, .inl f_p0_led))] H → va_D A [(q_p0, .inr (7, [.int v_p0_n, .int v_p0_way, .ref q_p0_led, .int v_p0_deeds, .ref q_p0_were, .ref q_p0_paths, .ref q_p0_more, .ref q_p0_patterns, .int v_p0_patternMany, .ref q_p0_loop, .ref q_p0_ranks, .ref q_p0_counts, .ref q_p0_then, .ref q_p0_table, .ref q_p0_product, .ref q_p0_turned, .ref q_p0_tape, .int v_p0_taped, .int v_p0_hasWhy, .ref q_p0_reasons, .int v_p0_hasImage, .int v_p0_imageN, .int v_p0_imageWay, .ref q_p0_imageLed])), (q_p0_turned, .inl (cI, 8, .inl f_p0_turned)), (q_p0_led, .inl (cI, 8, .inl f_p0_led))] → va_S A s.heap H locs → lv_has ls 4 [(0, .ref q_p0), (3, .int l3)] → W p l e { frames := 0, cells := 0, slots := 0, locals := 0 } s m args below meth c H locs 0 0 Q (F0 m 160 ls []) := by
          intro f_p0_turned n160
          induction n160 with
          | zero =>
            intro l3 f_p0_led H locs ls h
            exact False.elim h
          | succ n160 ih160 =>
            intro l3 f_p0_led H locs ls h hP hD hS hl
            have h : M_X9_turns_l160 x1 x2 v_p0_n P f_p0_turned (LP2 (M_X9_turns_l160 x1 x2 v_p0_n P f_p0_turned) n160) l3 f_p0_led := h
            refine lv_iload_n hx hb dX9_turns_160 rfl (lv_at hl 1 rfl) ?_
            refine lv_aload_n hx hb dX9_turns_161 rfl (lv_at hl 0 rfl) ?_
            refine va_get (ci := 7) (C := RX9) (T := TX9) (N := 24) (v := .int v_p0_n) hx hb hts hinX9 hown hK hP 0 rfl rfl 0 (by decide) hw0 (fun _ h9 => h9) rfl dX9_turns_162 ?_
            refine lv_icmp_ge (tgt := 186) hx hb dX9_turns_165 (by decide) (fun c2 => ?_) (fun c2 => ?_)
            · have h := And.left h c2
              exact z_vret hQ hx hb hr hlocks hK (f_p0_led, f_p0_turned) h hP hD hS dX9_turns_186
            · have h := And.right h c2
              refine lv_aload_n hx hb dX9_turns_168 rfl (lv_at hl 0 rfl) ?_
              refine va_get (ci := 7) (C := RX9) (T := TX9) (N := 24) (v := .ref q_p0_led) hx hb hts hinX9 hown hK hP 0 rfl rfl 2 (by decide) hw1 (fun _ h9 => h9) rfl dX9_turns_169 ?_
              refine lv_iload_n hx hb dX9_turns_172 rfl (lv_at hl 1 rfl) ?_
              refine lv_aload_n hx hb dX9_turns_173 rfl (lv_at hl 0 rfl) ?_
              refine va_get (ci := 7) (C := RX9) (T := TX9) (N := 24) (v := .ref q_p0_turned) hx hb hts hinX9 hown hK hP 0 rfl rfl 15 (by decide) hw2 (fun _ h9 => h9) rfl dX9_turns_174 ?_
              refine lv_iload_n hx hb dX9_turns_177 rfl (lv_at hl 1 rfl) ?_
              obtain ⟨hi3, h⟩ := h
              refine va_iald hx hb hK hP 1 0 rfl rfl hi3 dX9_turns_178 ?_
              obtain ⟨hi4, h⟩ := h
              refine z_iast (wn := [(q_p0, .inr (7, [.int v_p0_n, .int v_p0_way, .ref q_p0_led, .int v_p0_deeds, .ref q_p0_were, .ref q_p0_paths, .ref q_p0_more, .ref q_p0_patterns, .int v_p0_patternMany, .ref q_p0_loop, .ref q_p0_ranks, .ref q_p0_counts, .ref q_p0_then, .ref q_p0_table, .ref q_p0_product, .ref q_p0_turned, .ref q_p0_tape, .int v_p0_taped, .int v_p0_hasWhy, .ref q_p0_reasons, .int v_p0_hasImage, .int v_p0_imageN, .int v_p0_imageWay, .ref q_p0_imageLed])), (q_p0_turned, .inl (cI, 8, .inl f_p0_turned)), (q_p0_led, .inl (cI, 8, .inl (upd f_p0_led l3.toNatClampNeg (f_p0_turned l3.toNatClampNeg))))]) hx hb hK hP hD hS 2 rfl hi4 dX9_turns_179 rfl (fun H locs hP hD hS => ?_)
              refine lv_iinc (v := (l3 + 1)) (lv' := [(3, .int (l3 + 1)), (0, .ref q_p0)]) hx hb dX9_turns_180 hl (k := 1) rfl rfl (by decide) rfl (fun ls hl => ?_)
              refine lv_goto (tgt := 160) hx hb dX9_turns_183 (by decide) ?_
              exact ih160 (l3 + 1) (upd f_p0_led l3.toNatClampNeg (f_p0_turned l3.toNatClampNeg)) _ _ _ h hP hD hS (lv_sub hl [1, 0] rfl)
        obtain ⟨n160, h⟩ := h
        exact k160 f_p0_turned n160 (0 : Int32) f_p0_led _ _ _ h hP hD hS (lv_sub hl [1, 0] rfl)
      · have h := And.right h c1
        refine lv_iload_n hx hb dX9_turns_10 rfl (lv_at hl 1 rfl) ?_
        by_cases e5_0 : x1 = (0 : Int32)
        · have h := And.left h e5_0
          have ez : x1.toInt = 0 := by rw [e5_0]; decide
          refine lv_tableIn (tgt := 40) hx hb dX9_turns_11 (by rw [ez]; decide) (by rw [ez]; decide) (by rw [ez] <;> rfl) (by decide) ?_
          refine lv_aload_n hx hb dX9_turns_40 rfl (lv_at hl 0 rfl) ?_
          refine va_get (ci := 7) (C := RX9) (T := TX9) (N := 24) (v := .ref q_p0_turned) hx hb hts hinX9 hown hK hP 0 rfl rfl 15 (by decide) hw2 (fun _ h9 => h9) rfl dX9_turns_41 ?_
          refine lv_aload_n hx hb dX9_turns_44 rfl (lv_at hl 0 rfl) ?_
          refine va_get (ci := 7) (C := RX9) (T := TX9) (N := 24) (v := .int v_p0_n) hx hb hts hinX9 hown hK hP 0 rfl rfl 0 (by decide) hw0 (fun _ h9 => h9) rfl dX9_turns_45 ?_
          refine lv_iconst (v := (1 : Int32)) hx hb dX9_turns_48 (by decide) ?_
          refine lv_isub hx hb dX9_turns_49 ?_
          refine lv_iload_n hx hb dX9_turns_50 rfl (lv_at hl 3 rfl) ?_
          refine lv_isub hx hb dX9_turns_51 ?_
          refine lv_aload_n hx hb dX9_turns_52 rfl (lv_at hl 0 rfl) ?_
          refine va_get (ci := 7) (C := RX9) (T := TX9) (N := 24) (v := .int v_p0_n) hx hb hts hinX9 hown hK hP 0 rfl rfl 0 (by decide) hw0 (fun _ h9 => h9) rfl dX9_turns_53 ?_
          refine lv_iconst (v := (1 : Int32)) hx hb dX9_turns_56 (by decide) ?_
          refine lv_isub hx hb dX9_turns_57 ?_
          refine lv_aload_n hx hb dX9_turns_58 rfl (lv_at hl 0 rfl) ?_
          refine va_get (ci := 7) (C := RX9) (T := TX9) (N := 24) (v := .ref q_p0_led) hx hb hts hinX9 hown hK hP 0 rfl rfl 2 (by decide) hw1 (fun _ h9 => h9) rfl dX9_turns_59 ?_
          refine lv_iload_n hx hb dX9_turns_62 rfl (lv_at hl 3 rfl) ?_
          obtain ⟨hi6, h⟩ := h
          refine va_iald hx hb hK hP 2 0 rfl rfl hi6 dX9_turns_63 ?_
          refine lv_isub hx hb dX9_turns_64 ?_
          obtain ⟨hi7, h⟩ := h
          refine z_iast (wn := [(q_p0, .inr (7, [.int v_p0_n, .int v_p0_way, .ref q_p0_led, .int v_p0_deeds, .ref q_p0_were, .ref q_p0_paths, .ref q_p0_more, .ref q_p0_patterns, .int v_p0_patternMany, .ref q_p0_loop, .ref q_p0_ranks, .ref q_p0_counts, .ref q_p0_then, .ref q_p0_table, .ref q_p0_product, .ref q_p0_turned, .ref q_p0_tape, .int v_p0_taped, .int v_p0_hasWhy, .ref q_p0_reasons, .int v_p0_hasImage, .int v_p0_imageN, .int v_p0_imageWay, .ref q_p0_imageLed])), (q_p0_turned, .inl (cI, 8, .inl (upd f_p0_turned ((v_p0_n - (1 : Int32)) - l3).toNatClampNeg ((v_p0_n - (1 : Int32)) - (f_p0_led l3.toNatClampNeg))))), (q_p0_led, .inl (cI, 8, .inl f_p0_led))]) hx hb hK hP hD hS 1 rfl hi7 dX9_turns_65 rfl (fun H locs hP hD hS => ?_)
          refine lv_goto (tgt := 152) hx hb dX9_turns_66 (by decide) ?_
          refine lv_iinc (v := (l3 + 1)) (lv' := [(3, .int (l3 + 1)), (0, .ref q_p0), (1, .int x1), (2, .int x2)]) hx hb dX9_turns_152 hl (k := 3) rfl rfl (by decide) rfl (fun ls hl => ?_)
          refine lv_goto (tgt := 2) hx hb dX9_turns_155 (by decide) ?_
          exact ih2 (l3 + 1) (upd f_p0_turned ((v_p0_n - (1 : Int32)) - l3).toNatClampNeg ((v_p0_n - (1 : Int32)) - (f_p0_led l3.toNatClampNeg))) _ _ _ h hP hD hS (lv_sub hl [1, 2, 3, 0] rfl)
        · have h := And.right h e5_0
          by_cases e5_1 : x1 = (1 : Int32)
          · have h := And.left h e5_1
            have ez : x1.toInt = 1 := by rw [e5_1]; decide
            refine lv_tableIn (tgt := 69) hx hb dX9_turns_11 (by rw [ez]; decide) (by rw [ez]; decide) (by rw [ez] <;> rfl) (by decide) ?_
            refine lv_aload_n hx hb dX9_turns_69 rfl (lv_at hl 0 rfl) ?_
            refine va_get (ci := 7) (C := RX9) (T := TX9) (N := 24) (v := .ref q_p0_turned) hx hb hts hinX9 hown hK hP 0 rfl rfl 15 (by decide) hw2 (fun _ h9 => h9) rfl dX9_turns_70 ?_
            refine lv_iload_n hx hb dX9_turns_73 rfl (lv_at hl 3 rfl) ?_
            refine lv_aload_n hx hb dX9_turns_74 rfl (lv_at hl 0 rfl) ?_
            refine va_get (ci := 7) (C := RX9) (T := TX9) (N := 24) (v := .ref q_p0_led) hx hb hts hinX9 hown hK hP 0 rfl rfl 2 (by decide) hw1 (fun _ h9 => h9) rfl dX9_turns_75 ?_
            refine lv_aload_n hx hb dX9_turns_78 rfl (lv_at hl 0 rfl) ?_
            refine va_get (ci := 7) (C := RX9) (T := TX9) (N := 24) (v := .ref q_p0_led) hx hb hts hinX9 hown hK hP 0 rfl rfl 2 (by decide) hw1 (fun _ h9 => h9) rfl dX9_turns_79 ?_
            refine lv_iload_n hx hb dX9_turns_82 rfl (lv_at hl 3 rfl) ?_
            obtain ⟨hi8, h⟩ := h
            refine va_iald hx hb hK hP 2 0 rfl rfl hi8 dX9_turns_83 ?_
            obtain ⟨hi9, h⟩ := h
            refine va_iald hx hb hK hP 2 0 rfl rfl hi9 dX9_turns_84 ?_
            obtain ⟨hi10, h⟩ := h
            refine z_iast (wn := [(q_p0, .inr (7, [.int v_p0_n, .int v_p0_way, .ref q_p0_led, .int v_p0_deeds, .ref q_p0_were, .ref q_p0_paths, .ref q_p0_more, .ref q_p0_patterns, .int v_p0_patternMany, .ref q_p0_loop, .ref q_p0_ranks, .ref q_p0_counts, .ref q_p0_then, .ref q_p0_table, .ref q_p0_product, .ref q_p0_turned, .ref q_p0_tape, .int v_p0_taped, .int v_p0_hasWhy, .ref q_p0_reasons, .int v_p0_hasImage, .int v_p0_imageN, .int v_p0_imageWay, .ref q_p0_imageLed])), (q_p0_turned, .inl (cI, 8, .inl (upd f_p0_turned l3.toNatClampNeg (f_p0_led (f_p0_led l3.toNatClampNeg).toNatClampNeg)))), (q_p0_led, .inl (cI, 8, .inl f_p0_led))]) hx hb hK hP hD hS 1 rfl hi10 dX9_turns_85 rfl (fun H locs hP hD hS => ?_)
            refine lv_goto (tgt := 152) hx hb dX9_turns_86 (by decide) ?_
            refine lv_iinc (v := (l3 + 1)) (lv' := [(3, .int (l3 + 1)), (0, .ref q_p0), (1, .int x1), (2, .int x2)]) hx hb dX9_turns_152 hl (k := 3) rfl rfl (by decide) rfl (fun ls hl => ?_)
            refine lv_goto (tgt := 2) hx hb dX9_turns_155 (by decide) ?_
            exact ih2 (l3 + 1) (upd f_p0_turned l3.toNatClampNeg (f_p0_led (f_p0_led l3.toNatClampNeg).toNatClampNeg)) _ _ _ h hP hD hS (lv_sub hl [1, 2, 3, 0] rfl)
          · have h := And.right h e5_1
            by_cases e5_2 : x1 = (2 : Int32)
            · have h := And.left h e5_2
              have ez : x1.toInt = 2 := by rw [e5_2]; decide
              refine lv_tableIn (tgt := 89) hx hb dX9_turns_11 (by rw [ez]; decide) (by rw [ez]; decide) (by rw [ez] <;> rfl) (by decide) ?_
              refine lv_aload_n hx hb dX9_turns_89 rfl (lv_at hl 0 rfl) ?_
              refine va_get (ci := 7) (C := RX9) (T := TX9) (N := 24) (v := .ref q_p0_turned) hx hb hts hinX9 hown hK hP 0 rfl rfl 15 (by decide) hw2 (fun _ h9 => h9) rfl dX9_turns_90 ?_
              refine lv_iload_n hx hb dX9_turns_93 rfl (lv_at hl 3 rfl) ?_
              refine lv_iconst (v := (1 : Int32)) hx hb dX9_turns_94 (by decide) ?_
              refine lv_iadd hx hb dX9_turns_95 ?_
              refine lv_aload_n hx hb dX9_turns_96 rfl (lv_at hl 0 rfl) ?_
              refine va_get (ci := 7) (C := RX9) (T := TX9) (N := 24) (v := .int v_p0_n) hx hb hts hinX9 hown hK hP 0 rfl rfl 0 (by decide) hw0 (fun _ h9 => h9) rfl dX9_turns_97 ?_
              obtain ⟨hn11, h⟩ := h
              refine lv_irem hx hb dX9_turns_100 hn11 ?_
              refine lv_aload_n hx hb dX9_turns_101 rfl (lv_at hl 0 rfl) ?_
              refine va_get (ci := 7) (C := RX9) (T := TX9) (N := 24) (v := .ref q_p0_led) hx hb hts hinX9 hown hK hP 0 rfl rfl 2 (by decide) hw1 (fun _ h9 => h9) rfl dX9_turns_102 ?_
              refine lv_iload_n hx hb dX9_turns_105 rfl (lv_at hl 3 rfl) ?_
              obtain ⟨hi12, h⟩ := h
              refine va_iald hx hb hK hP 2 0 rfl rfl hi12 dX9_turns_106 ?_
              refine lv_iconst (v := (1 : Int32)) hx hb dX9_turns_107 (by decide) ?_
              refine lv_iadd hx hb dX9_turns_108 ?_
              refine lv_aload_n hx hb dX9_turns_109 rfl (lv_at hl 0 rfl) ?_
              refine va_get (ci := 7) (C := RX9) (T := TX9) (N := 24) (v := .int v_p0_n) hx hb hts hinX9 hown hK hP 0 rfl rfl 0 (by decide) hw0 (fun _ h9 => h9) rfl dX9_turns_110 ?_
              obtain ⟨hn13, h⟩ := h
              refine lv_irem hx hb dX9_turns_113 hn13 ?_
              refine lv_topi (fun y14 ey14 => ?_)
              have h := h y14 ey14
              obtain ⟨hi15, h⟩ := h
              refine z_iast (wn := [(q_p0, .inr (7, [.int v_p0_n, .int v_p0_way, .ref q_p0_led, .int v_p0_deeds, .ref q_p0_were, .ref q_p0_paths, .ref q_p0_more, .ref q_p0_patterns, .int v_p0_patternMany, .ref q_p0_loop, .ref q_p0_ranks, .ref q_p0_counts, .ref q_p0_then, .ref q_p0_table, .ref q_p0_product, .ref q_p0_turned, .ref q_p0_tape, .int v_p0_taped, .int v_p0_hasWhy, .ref q_p0_reasons, .int v_p0_hasImage, .int v_p0_imageN, .int v_p0_imageWay, .ref q_p0_imageLed])), (q_p0_turned, .inl (cI, 8, .inl (upd f_p0_turned ((l3 + (1 : Int32)) - (l3 + (1 : Int32)) / v_p0_n * v_p0_n).toNatClampNeg y14))), (q_p0_led, .inl (cI, 8, .inl f_p0_led))]) hx hb hK hP hD hS 1 rfl hi15 dX9_turns_114 rfl (fun H locs hP hD hS => ?_)
              refine lv_goto (tgt := 152) hx hb dX9_turns_115 (by decide) ?_
              refine lv_iinc (v := (l3 + 1)) (lv' := [(3, .int (l3 + 1)), (0, .ref q_p0), (1, .int x1), (2, .int x2)]) hx hb dX9_turns_152 hl (k := 3) rfl rfl (by decide) rfl (fun ls hl => ?_)
              refine lv_goto (tgt := 2) hx hb dX9_turns_155 (by decide) ?_
              exact ih2 (l3 + 1) (upd f_p0_turned ((l3 + (1 : Int32)) - (l3 + (1 : Int32)) / v_p0_n * v_p0_n).toNatClampNeg y14) _ _ _ h hP hD hS (lv_sub hl [1, 2, 3, 0] rfl)
            · have h := And.right h e5_2
              by_cases e5_3 : x1 = (3 : Int32)
              · have h := And.left h e5_3
                have ez : x1.toInt = 3 := by rw [e5_3]; decide
                refine lv_tableIn (tgt := 118) hx hb dX9_turns_11 (by rw [ez]; decide) (by rw [ez]; decide) (by rw [ez] <;> rfl) (by decide) ?_
                refine lv_aload_n hx hb dX9_turns_118 rfl (lv_at hl 0 rfl) ?_
                refine va_get (ci := 7) (C := RX9) (T := TX9) (N := 24) (v := .ref q_p0_turned) hx hb hts hinX9 hown hK hP 0 rfl rfl 15 (by decide) hw2 (fun _ h9 => h9) rfl dX9_turns_119 ?_
                refine lv_aload_n hx hb dX9_turns_122 rfl (lv_at hl 0 rfl) ?_
                refine va_get (ci := 7) (C := RX9) (T := TX9) (N := 24) (v := .ref q_p0_led) hx hb hts hinX9 hown hK hP 0 rfl rfl 2 (by decide) hw1 (fun _ h9 => h9) rfl dX9_turns_123 ?_
                refine lv_iload_n hx hb dX9_turns_126 rfl (lv_at hl 3 rfl) ?_
                obtain ⟨hi16, h⟩ := h
                refine va_iald hx hb hK hP 2 0 rfl rfl hi16 dX9_turns_127 ?_
                refine lv_iload_n hx hb dX9_turns_128 rfl (lv_at hl 3 rfl) ?_
                obtain ⟨hi17, h⟩ := h
                refine z_iast (wn := [(q_p0, .inr (7, [.int v_p0_n, .int v_p0_way, .ref q_p0_led, .int v_p0_deeds, .ref q_p0_were, .ref q_p0_paths, .ref q_p0_more, .ref q_p0_patterns, .int v_p0_patternMany, .ref q_p0_loop, .ref q_p0_ranks, .ref q_p0_counts, .ref q_p0_then, .ref q_p0_table, .ref q_p0_product, .ref q_p0_turned, .ref q_p0_tape, .int v_p0_taped, .int v_p0_hasWhy, .ref q_p0_reasons, .int v_p0_hasImage, .int v_p0_imageN, .int v_p0_imageWay, .ref q_p0_imageLed])), (q_p0_turned, .inl (cI, 8, .inl (upd f_p0_turned (f_p0_led l3.toNatClampNeg).toNatClampNeg l3))), (q_p0_led, .inl (cI, 8, .inl f_p0_led))]) hx hb hK hP hD hS 1 rfl hi17 dX9_turns_129 rfl (fun H locs hP hD hS => ?_)
                refine lv_goto (tgt := 152) hx hb dX9_turns_130 (by decide) ?_
                refine lv_iinc (v := (l3 + 1)) (lv' := [(3, .int (l3 + 1)), (0, .ref q_p0), (1, .int x1), (2, .int x2)]) hx hb dX9_turns_152 hl (k := 3) rfl rfl (by decide) rfl (fun ls hl => ?_)
                refine lv_goto (tgt := 2) hx hb dX9_turns_155 (by decide) ?_
                exact ih2 (l3 + 1) (upd f_p0_turned (f_p0_led l3.toNatClampNeg).toNatClampNeg l3) _ _ _ h hP hD hS (lv_sub hl [1, 2, 3, 0] rfl)
              · have h := And.right h e5_3
                have z0 := z_ne (z := 0) e5_0 (by decide)
                have z1 := z_ne (z := 1) e5_1 (by decide)
                have z2 := z_ne (z := 2) e5_2 (by decide)
                have z3 := z_ne (z := 3) e5_3 (by decide)
                refine lv_tableOut (tgt := 133) hx hb dX9_turns_11 (by omega) (by decide) ?_
                refine lv_aload_n hx hb dX9_turns_133 rfl (lv_at hl 0 rfl) ?_
                refine va_get (ci := 7) (C := RX9) (T := TX9) (N := 24) (v := .ref q_p0_turned) hx hb hts hinX9 hown hK hP 0 rfl rfl 15 (by decide) hw2 (fun _ h9 => h9) rfl dX9_turns_134 ?_
                refine lv_iload_n hx hb dX9_turns_137 rfl (lv_at hl 3 rfl) ?_
                refine lv_aload_n hx hb dX9_turns_138 rfl (lv_at hl 0 rfl) ?_
                refine va_get (ci := 7) (C := RX9) (T := TX9) (N := 24) (v := .ref q_p0_led) hx hb hts hinX9 hown hK hP 0 rfl rfl 2 (by decide) hw1 (fun _ h9 => h9) rfl dX9_turns_139 ?_
                refine lv_iload_n hx hb dX9_turns_142 rfl (lv_at hl 3 rfl) ?_
                obtain ⟨hi18, h⟩ := h
                refine va_iald hx hb hK hP 2 0 rfl rfl hi18 dX9_turns_143 ?_
                refine lv_iload_n hx hb dX9_turns_144 rfl (lv_at hl 2 rfl) ?_
                refine lv_iadd hx hb dX9_turns_145 ?_
                refine lv_aload_n hx hb dX9_turns_146 rfl (lv_at hl 0 rfl) ?_
                refine va_get (ci := 7) (C := RX9) (T := TX9) (N := 24) (v := .int v_p0_n) hx hb hts hinX9 hown hK hP 0 rfl rfl 0 (by decide) hw0 (fun _ h9 => h9) rfl dX9_turns_147 ?_
                obtain ⟨hn19, h⟩ := h
                refine lv_irem hx hb dX9_turns_150 hn19 ?_
                refine lv_topi (fun y20 ey20 => ?_)
                have h := h y20 ey20
                obtain ⟨hi21, h⟩ := h
                refine z_iast (wn := [(q_p0, .inr (7, [.int v_p0_n, .int v_p0_way, .ref q_p0_led, .int v_p0_deeds, .ref q_p0_were, .ref q_p0_paths, .ref q_p0_more, .ref q_p0_patterns, .int v_p0_patternMany, .ref q_p0_loop, .ref q_p0_ranks, .ref q_p0_counts, .ref q_p0_then, .ref q_p0_table, .ref q_p0_product, .ref q_p0_turned, .ref q_p0_tape, .int v_p0_taped, .int v_p0_hasWhy, .ref q_p0_reasons, .int v_p0_hasImage, .int v_p0_imageN, .int v_p0_imageWay, .ref q_p0_imageLed])), (q_p0_turned, .inl (cI, 8, .inl (upd f_p0_turned l3.toNatClampNeg y20))), (q_p0_led, .inl (cI, 8, .inl f_p0_led))]) hx hb hK hP hD hS 1 rfl hi21 dX9_turns_151 rfl (fun H locs hP hD hS => ?_)
                refine lv_iinc (v := (l3 + 1)) (lv' := [(3, .int (l3 + 1)), (0, .ref q_p0), (1, .int x1), (2, .int x2)]) hx hb dX9_turns_152 hl (k := 3) rfl rfl (by decide) rfl (fun ls hl => ?_)
                refine lv_goto (tgt := 2) hx hb dX9_turns_155 (by decide) ?_
                exact ih2 (l3 + 1) (upd f_p0_turned l3.toNatClampNeg y20) _ _ _ h hP hD hS (lv_sub hl [1, 2, 3, 0] rfl)
  obtain ⟨n2, h⟩ := h
  exact k2 f_p0_led n2 (0 : Int32) f_p0_turned _ _ _ h hP hD hS (lv_sub hl [1, 2, 3, 0] rfl)
theorem hd_X9_turn : yX9_turn.cls = RX9 ∧ yX9_turn.cls ≠ "java/lang/invoke/MethodHandle" ∧ yX9_turn.cls ≠ "java/lang/invoke/VarHandle" ∧ (parseMethodDescriptor yX9_turn.desc).map (fun d => d.parameters.length) = some 3 := by decide +kernel
set_option maxHeartbeats 4000000 in
set_option maxRecDepth 100000 in
theorem c_X9_turn (l : Launch) (D : va_G) (cI cJ cB : ClassId) (tU tM tS : Nat) (q_p0 q_p0_led q_p0_were q_p0_paths q_p0_more q_p0_patterns q_p0_loop q_p0_ranks q_p0_counts q_p0_then q_p0_table q_p0_product q_p0_turned q_p0_tape q_p0_reasons q_p0_imageLed : Nat) (sz : Nat) (x1 : Int32) (x2 : Int32) (x3 : Int32) (v_p0_deeds : Int32) (f_p0_led : (Nat → Int32)) (f_p0_were : (Nat → Int32)) (v_p0_n : Int32) (f_p0_turned : (Nat → Int32)) (v_p0_way : Int32) (v_p0_patternMany : Int32) (v_p0_taped : Int32) (v_p0_hasWhy : Int32) (v_p0_hasImage : Int32) (v_p0_imageN : Int32) (v_p0_imageWay : Int32) (P : Int32 → Int32 → (Nat → Int32) → (Nat → Int32) → (Nat → Int32) → Prop) (h : M_X9_turn x1 x2 x3 v_p0_deeds f_p0_led f_p0_were v_p0_n f_p0_turned P) : Met l yX9_turn wsX9_turn ({ frames := 1, cells := 0, slots := 0, locals := 25 }) (va_Pc [.ref q_p0, .int x1, .int x2, .int x3] (zPre D cI cJ cB tU tM tS [(q_p0, .inr (7, [.int v_p0_n, .int v_p0_way, .ref q_p0_led, .int v_p0_deeds, .ref q_p0_were, .ref q_p0_paths, .ref q_p0_more, .ref q_p0_patterns, .int v_p0_patternMany, .ref q_p0_loop, .ref q_p0_ranks, .ref q_p0_counts, .ref q_p0_then, .ref q_p0_table, .ref q_p0_product, .ref q_p0_turned, .ref q_p0_tape, .int v_p0_taped, .int v_p0_hasWhy, .ref q_p0_reasons, .int v_p0_hasImage, .int v_p0_imageN, .int v_p0_imageWay, .ref q_p0_imageLed])), (q_p0_led, .inl (cI, 8, .inl f_p0_led)), (q_p0_were, .inl (cI, 80, .inl f_p0_were)), (q_p0_turned, .inl (cI, 8, .inl f_p0_turned))] sz)) (va_Qi (fun (r : Int32) (u : Int32 × (Nat → Int32) × (Nat → Int32) × (Nat → Int32)) => P r u.1 u.2.1 u.2.2.1 u.2.2.2) (fun u t => zPost D cI cJ cB (va_A [(q_p0, .inr (7, [.int v_p0_n, .int v_p0_way, .ref q_p0_led, .int v_p0_deeds, .ref q_p0_were, .ref q_p0_paths, .ref q_p0_more, .ref q_p0_patterns, .int v_p0_patternMany, .ref q_p0_loop, .ref q_p0_ranks, .ref q_p0_counts, .ref q_p0_then, .ref q_p0_table, .ref q_p0_product, .ref q_p0_turned, .ref q_p0_tape, .int v_p0_taped, .int v_p0_hasWhy, .ref q_p0_reasons, .int v_p0_hasImage, .int v_p0_imageN, .int v_p0_imageWay, .ref q_p0_imageLed])), (q_p0_led, .inl (cI, 8, .inl f_p0_led)), (q_p0_were, .inl (cI, 80, .inl f_p0_were)), (q_p0_turned, .inl (cI, 8, .inl f_p0_turned))] sz) [(q_p0, .inr (7, [.int v_p0_n, .int v_p0_way, .ref q_p0_led, .int u.1, .ref q_p0_were, .ref q_p0_paths, .ref q_p0_more, .ref q_p0_patterns, .int v_p0_patternMany, .ref q_p0_loop, .ref q_p0_ranks, .ref q_p0_counts, .ref q_p0_then, .ref q_p0_table, .ref q_p0_product, .ref q_p0_turned, .ref q_p0_tape, .int v_p0_taped, .int v_p0_hasWhy, .ref q_p0_reasons, .int v_p0_hasImage, .int v_p0_imageN, .int v_p0_imageWay, .ref q_p0_imageLed])), (q_p0_led, .inl (cI, 8, .inl u.2.2.1)), (q_p0_were, .inl (cI, 80, .inl u.2.1)), (q_p0_turned, .inl (cI, 8, .inl u.2.2.2))] t) (va_A [(q_p0, .inr (7, [.int v_p0_n, .int v_p0_way, .ref q_p0_led, .int v_p0_deeds, .ref q_p0_were, .ref q_p0_paths, .ref q_p0_more, .ref q_p0_patterns, .int v_p0_patternMany, .ref q_p0_loop, .ref q_p0_ranks, .ref q_p0_counts, .ref q_p0_then, .ref q_p0_table, .ref q_p0_product, .ref q_p0_turned, .ref q_p0_tape, .int v_p0_taped, .int v_p0_hasWhy, .ref q_p0_reasons, .int v_p0_hasImage, .int v_p0_imageN, .int v_p0_imageWay, .ref q_p0_imageLed])), (q_p0_led, .inl (cI, 8, .inl f_p0_led)), (q_p0_were, .inl (cI, 80, .inl f_p0_were)), (q_p0_turned, .inl (cI, 8, .inl f_p0_turned))] sz)) 0 0 (va_A [(q_p0, .inr (7, [.int v_p0_n, .int v_p0_way, .ref q_p0_led, .int v_p0_deeds, .ref q_p0_were, .ref q_p0_paths, .ref q_p0_more, .ref q_p0_patterns, .int v_p0_patternMany, .ref q_p0_loop, .ref q_p0_ranks, .ref q_p0_counts, .ref q_p0_then, .ref q_p0_table, .ref q_p0_product, .ref q_p0_turned, .ref q_p0_tape, .int v_p0_taped, .int v_p0_hasWhy, .ref q_p0_reasons, .int v_p0_hasImage, .int v_p0_imageN, .int v_p0_imageWay, .ref q_p0_imageLed])), (q_p0_led, .inl (cI, 8, .inl f_p0_led)), (q_p0_were, .inl (cI, 80, .inl f_p0_were)), (q_p0_turned, .inl (cI, 8, .inl f_p0_turned))] sz) := by
  refine z_met (cc := cX9_turn) (maxL := 10) (ret := (some .int)) (Qc := fun A => va_Qi (fun (r : Int32) (u : Int32 × (Nat → Int32) × (Nat → Int32) × (Nat → Int32)) => P r u.1 u.2.1 u.2.2.1 u.2.2.2) (fun u t => zPost D cI cJ cB A [(q_p0, .inr (7, [.int v_p0_n, .int v_p0_way, .ref q_p0_led, .int u.1, .ref q_p0_were, .ref q_p0_paths, .ref q_p0_more, .ref q_p0_patterns, .int v_p0_patternMany, .ref q_p0_loop, .ref q_p0_ranks, .ref q_p0_counts, .ref q_p0_then, .ref q_p0_table, .ref q_p0_product, .ref q_p0_turned, .ref q_p0_tape, .int v_p0_taped, .int v_p0_hasWhy, .ref q_p0_reasons, .int v_p0_hasImage, .int v_p0_imageN, .int v_p0_imageWay, .ref q_p0_imageLed])), (q_p0_led, .inl (cI, 8, .inl u.2.2.1)), (q_p0_were, .inl (cI, 80, .inl u.2.1)), (q_p0_turned, .inl (cI, 8, .inl u.2.2.2))] t) A) (by decide) rfl [.ref q_p0, .int x1, .int x2, .int x3] (Nat.le_of_ble_eq_true rfl) ?_
  intro p e s m args below meth c A hx hb hr hts hown hml hlocks hA hX hK H locs hP hD hS ls hl Q hQ
  have hown : s.vm.findClass RX9 = some m.cls := hown
  have hl : lv_has ls 10 [(0, .ref q_p0), (1, .int x1), (2, .int x2), (3, .int x3)] := hl
  have hw0 : (Cond.constantLong RX9 188 (6)).before args s = true := hts _ (List.mem_of_getElem? (i := 1) rfl)
  have hw1 : (Cond.constantLong RX9 202 (7)).before args s = true := hts _ (List.mem_of_getElem? (i := 2) rfl)
  refine lv_iload_n hx hb dX9_turn_0 rfl (lv_at hl 1 rfl) ?_
  refine lv_i2l (v := x1.toInt64) hx hb dX9_turn_1 rfl ?_
  refine lv_lconst (v := (1 : Int64)) hx hb dX9_turn_2 (by decide) ?_
  refine lv_ldc2 (v := (6 : Int64)) hx hb hown hw0 dX9_turn_3 ?_
  refine z_cSi (As := [.long x1.toInt64, .long (1 : Int64), .long (6 : Int64)]) (rest := []) (wr := [(q_p0, .inr (7, [.int v_p0_n, .int v_p0_way, .ref q_p0_led, .int v_p0_deeds, .ref q_p0_were, .ref q_p0_paths, .ref q_p0_more, .ref q_p0_patterns, .int v_p0_patternMany, .ref q_p0_loop, .ref q_p0_ranks, .ref q_p0_counts, .ref q_p0_then, .ref q_p0_table, .ref q_p0_product, .ref q_p0_turned, .ref q_p0_tape, .int v_p0_taped, .int v_p0_hasWhy, .ref q_p0_reasons, .int v_p0_hasImage, .int v_p0_imageN, .int v_p0_imageWay, .ref q_p0_imageLed])), (q_p0_led, .inl (cI, 8, .inl f_p0_led)), (q_p0_were, .inl (cI, 80, .inl f_p0_were)), (q_p0_turned, .inl (cI, 8, .inl f_p0_turned))]) (wn := fun u => [(q_p0, .inr (7, [.int v_p0_n, .int v_p0_way, .ref q_p0_led, .int v_p0_deeds, .ref q_p0_were, .ref q_p0_paths, .ref q_p0_more, .ref q_p0_patterns, .int v_p0_patternMany, .ref q_p0_loop, .ref q_p0_ranks, .ref q_p0_counts, .ref q_p0_then, .ref q_p0_table, .ref q_p0_product, .ref q_p0_turned, .ref q_p0_tape, .int v_p0_taped, .int v_p0_hasWhy, .ref q_p0_reasons, .int v_p0_hasImage, .int v_p0_imageN, .int v_p0_imageWay, .ref q_p0_imageLed])), (q_p0_led, .inl (cI, 8, .inl f_p0_led)), (q_p0_were, .inl (cI, 80, .inl f_p0_were)), (q_p0_turned, .inl (cI, 8, .inl f_p0_turned))]) (c_X9_in l D cI cJ cB tU tM tS  H.size x1.toInt64 (1 : Int64) (6 : Int64) _ h) ⟨hx, hb, hml, hown, hts⟩ (va_cwS 3 hts gX9_turn_X9_in rfl rfl rfl hd_X9_in.2 ⟨Nat.le_of_ble_eq_true rfl, Nat.le_of_ble_eq_true rfl⟩) hX hK hP hD hS hA [] [0, 1, 2, 3] [0, 1, 2, 3] rfl rfl rfl (by decide) (fun _ => rfl) rfl hl.1 rfl (Nat.le_of_ble_eq_true rfl) ⟨Nat.le_refl _, Nat.le_refl _⟩ dX9_turn_6 (fun r1 u1 H locs h hP hD hS => ?_)
  refine lv_if_eq (tgt := 28) hx hb dX9_turn_9 (by decide) (fun c2 => ?_) (fun c2 => ?_)
  · have h := And.left h c2
    refine lv_bipush (v := (-2 : Int32)) hx hb dX9_turn_28 (by decide) ?_
    exact z_iret hQ hx hb hr rfl hlocks hK (v_p0_deeds, f_p0_were, f_p0_led, f_p0_turned) h hP hD hS dX9_turn_30
  · have h := And.right h c2
    refine lv_iload_n hx hb dX9_turn_12 rfl (lv_at hl 2 rfl) ?_
    refine lv_if_lt (tgt := 28) hx hb dX9_turn_13 (by decide) (fun c3 => ?_) (fun c3 => ?_)
    · have h := And.left h c3
      refine lv_bipush (v := (-2 : Int32)) hx hb dX9_turn_28 (by decide) ?_
      exact z_iret hQ hx hb hr rfl hlocks hK (v_p0_deeds, f_p0_were, f_p0_led, f_p0_turned) h hP hD hS dX9_turn_30
    · have h := And.right h c3
      refine lv_iload_n hx hb dX9_turn_16 rfl (lv_at hl 3 rfl) ?_
      refine lv_i2l (v := x3.toInt64) hx hb dX9_turn_17 rfl ?_
      refine lv_lconst (v := (0 : Int64)) hx hb dX9_turn_18 (by decide) ?_
      refine lv_ldc2 (v := (7 : Int64)) hx hb hown hw1 dX9_turn_19 ?_
      refine z_cSi (As := [.long x3.toInt64, .long (0 : Int64), .long (7 : Int64)]) (rest := []) (wr := [(q_p0, .inr (7, [.int v_p0_n, .int v_p0_way, .ref q_p0_led, .int v_p0_deeds, .ref q_p0_were, .ref q_p0_paths, .ref q_p0_more, .ref q_p0_patterns, .int v_p0_patternMany, .ref q_p0_loop, .ref q_p0_ranks, .ref q_p0_counts, .ref q_p0_then, .ref q_p0_table, .ref q_p0_product, .ref q_p0_turned, .ref q_p0_tape, .int v_p0_taped, .int v_p0_hasWhy, .ref q_p0_reasons, .int v_p0_hasImage, .int v_p0_imageN, .int v_p0_imageWay, .ref q_p0_imageLed])), (q_p0_led, .inl (cI, 8, .inl f_p0_led)), (q_p0_were, .inl (cI, 80, .inl f_p0_were)), (q_p0_turned, .inl (cI, 8, .inl f_p0_turned))]) (wn := fun u => [(q_p0, .inr (7, [.int v_p0_n, .int v_p0_way, .ref q_p0_led, .int v_p0_deeds, .ref q_p0_were, .ref q_p0_paths, .ref q_p0_more, .ref q_p0_patterns, .int v_p0_patternMany, .ref q_p0_loop, .ref q_p0_ranks, .ref q_p0_counts, .ref q_p0_then, .ref q_p0_table, .ref q_p0_product, .ref q_p0_turned, .ref q_p0_tape, .int v_p0_taped, .int v_p0_hasWhy, .ref q_p0_reasons, .int v_p0_hasImage, .int v_p0_imageN, .int v_p0_imageWay, .ref q_p0_imageLed])), (q_p0_led, .inl (cI, 8, .inl f_p0_led)), (q_p0_were, .inl (cI, 80, .inl f_p0_were)), (q_p0_turned, .inl (cI, 8, .inl f_p0_turned))]) (c_X9_in l D cI cJ cB tU tM tS  H.size x3.toInt64 (0 : Int64) (7 : Int64) _ h) ⟨hx, hb, hml, hown, hts⟩ (va_cwS 3 hts gX9_turn_X9_in rfl rfl rfl hd_X9_in.2 ⟨Nat.le_of_ble_eq_true rfl, Nat.le_of_ble_eq_true rfl⟩) hX hK hP hD hS hA [] [0, 1, 2, 3] [0, 1, 2, 3] rfl rfl rfl (by decide) (fun _ => rfl) rfl hl.1 rfl (Nat.le_of_ble_eq_true rfl) ⟨Nat.le_refl _, Nat.le_refl _⟩ dX9_turn_22 (fun r4 u4 H locs h hP hD hS => ?_)
      refine lv_if_ne (tgt := 31) hx hb dX9_turn_25 (by decide) (fun c5 => ?_) (fun c5 => ?_)
      · have h := And.right h c5
        refine lv_iload_n hx hb dX9_turn_31 rfl (lv_at hl 2 rfl) ?_
        refine lv_istore (lv' := [(4, .int x2), (0, .ref q_p0), (1, .int x1), (2, .int x2), (3, .int x3)]) hx hb dX9_turn_32 hl (by decide) rfl (fun ls hl => ?_)
        refine lv_iconst (v := (1 : Int32)) hx hb dX9_turn_34 (by decide) ?_
        refine lv_istore (lv' := [(5, .int (1 : Int32)), (4, .int x2), (0, .ref q_p0), (1, .int x1), (2, .int x2), (3, .int x3)]) hx hb dX9_turn_35 hl (by decide) rfl (fun ls hl => ?_)
        refine lv_iconst (v := (1 : Int32)) hx hb dX9_turn_37 (by decide) ?_
        refine lv_istore (lv' := [(6, .int (1 : Int32)), (5, .int (1 : Int32)), (4, .int x2), (0, .ref q_p0), (1, .int x1), (2, .int x2), (3, .int x3)]) hx hb dX9_turn_38 hl (by decide) rfl (fun ls hl => ?_)
        refine lv_iconst (v := (0 : Int32)) hx hb dX9_turn_40 (by decide) ?_
        refine lv_istore (lv' := [(7, .int (0 : Int32)), (6, .int (1 : Int32)), (5, .int (1 : Int32)), (4, .int x2), (0, .ref q_p0), (1, .int x1), (2, .int x2), (3, .int x3)]) hx hb dX9_turn_41 hl (by decide) rfl (fun ls hl => ?_)
        have k43 : ∀ (v_p0_deeds : Int32) (f_p0_were : (Nat → Int32)) (f_p0_led : (Nat → Int32)) (f_p0_turned : (Nat → Int32)) (n43 : Nat) (l4 : Int32) (l5 : Int32) (l6 : Int32) (l7 : Int32) (H : Heap) (locs : List Loc) (ls : Array Slot), LP4 (M_X9_turn_l43 x1 x2 x3 v_p0_n P v_p0_deeds f_p0_were f_p0_led f_p0_turned) n43 l4 l5 l6 l7 → va_P D vwCl [(q_p0, .inr (7, [.int v_p0_n, .int v_p0_way, .ref q_p0_led, .int v_p0_deeds, .ref q_p0_were, .ref q_p0_paths, .ref q_p0_more, .ref q_p0_patterns, .int v_p0_patternMany, .ref q_p0_loop, .ref q_p0_ranks, .ref q_p0_counts, .ref q_p0_then, .ref q_p0_table, .ref q_p0_product, .ref q_p0_turned, .ref q_p0_tape, .int v_p0_taped, .int v_p0_hasWhy, .ref q_p0_reasons, .int v_p0_hasImage, .int v_p0_imageN, .int v_p0_imageWay, .ref q_p0_imageLed])), (q_p0_led, .inl (cI, 8, .inl f_p0_led)), (q_p0_were, .inl (cI, 80, .inl f_p0_were)), (q_p0_turned, .inl (cI, 8, .inl f_p0_turned))] H → va_D A [(q_p0, .inr (7, [.int v_p0_n, .int v_p0_way, .ref q_p0_led, .int v_p0_deeds, .ref q_p0_were, .ref q_p0_paths, .ref q_p0_more, .ref q_p0_patterns, .int v_p0_patternMany, .ref q_p0_loop, .ref q_p0_ranks, .ref q_p0_counts, .ref q_p0_then, .ref q_p0_table, .ref q_p0_product, .ref q_p0_turned, .ref q_p0_tape, .int v_p0_taped, .int v_p0_hasWhy, .ref q_p0_reasons, .int v_p0_hasImage, .int v_p0_imageN, .int v_p0_imageWay, .ref q_p0_imageLed])), (q_p0_led, .inl (cI, 8, .inl f_p0_led)), (q_p0_were, .inl (cI, 80, .inl f_p0_were)), (q_p0_turned, .inl (cI, 8, .inl f_p0_turned))] → va_S A s.heap H locs → lv_has ls 10 [(0, .ref q_p0), (1, .int x1), (2, .int x2), (3, .int x3), (4, .int l4), (5, .int l5), (6, .int l6), (7, .int l7)] → W p l e { frames := 1, cells := 0, slots := 0, locals := 25 } s m args below meth c H locs 0 0 Q (F0 m 43 ls []) := by
          intro v_p0_deeds f_p0_were f_p0_led f_p0_turned n43
          induction n43 with
          | zero =>
            intro l4 l5 l6 l7 H locs ls h
            exact False.elim h
          | succ n43 ih43 =>
            intro l4 l5 l6 l7 H locs ls h hP hD hS hl
            have h : M_X9_turn_l43 x1 x2 x3 v_p0_n P v_p0_deeds f_p0_were f_p0_led f_p0_turned (LP4 (M_X9_turn_l43 x1 x2 x3 v_p0_n P v_p0_deeds f_p0_were f_p0_led f_p0_turned) n43) l4 l5 l6 l7 := h
            refine lv_iload hx hb dX9_turn_43 (lv_at hl 7 rfl) ?_
            refine lv_iload_n hx hb dX9_turn_45 rfl (lv_at hl 1 rfl) ?_
            refine lv_icmp_ge (tgt := 88) hx hb dX9_turn_46 (by decide) (fun c6 => ?_) (fun c6 => ?_)
            · have h := And.left h c6
              refine lv_iload hx hb dX9_turn_88 (lv_at hl 6 rfl) ?_
              refine lv_if_eq (tgt := 98) hx hb dX9_turn_90 (by decide) (fun c7 => ?_) (fun c7 => ?_)
              · have h := And.left h c7
                refine lv_bipush (v := (-2 : Int32)) hx hb dX9_turn_98 (by decide) ?_
                exact z_iret hQ hx hb hr rfl hlocks hK (v_p0_deeds, f_p0_were, f_p0_led, f_p0_turned) h hP hD hS dX9_turn_100
              · have h := And.right h c7
                refine lv_iload hx hb dX9_turn_93 (lv_at hl 4 rfl) ?_
                refine lv_if_le (tgt := 101) hx hb dX9_turn_95 (by decide) (fun c8 => ?_) (fun c8 => ?_)
                · have h := And.left h c8
                  refine lv_aload_n hx hb dX9_turn_101 rfl (lv_at hl 0 rfl) ?_
                  refine z_cVv (As := []) (rest := []) (wr := [(q_p0_turned, .inl (cI, 8, .inl f_p0_turned))]) (wn := fun u => [(q_p0, .inr (7, [.int v_p0_n, .int v_p0_way, .ref q_p0_led, .int u.1, .ref q_p0_were, .ref q_p0_paths, .ref q_p0_more, .ref q_p0_patterns, .int v_p0_patternMany, .ref q_p0_loop, .ref q_p0_ranks, .ref q_p0_counts, .ref q_p0_then, .ref q_p0_table, .ref q_p0_product, .ref q_p0_turned, .ref q_p0_tape, .int v_p0_taped, .int v_p0_hasWhy, .ref q_p0_reasons, .int v_p0_hasImage, .int v_p0_imageN, .int v_p0_imageWay, .ref q_p0_imageLed])), (q_p0_led, .inl (cI, 8, .inl f_p0_led)), (q_p0_were, .inl (cI, 80, .inl u.2)), (q_p0_turned, .inl (cI, 8, .inl f_p0_turned))]) (c_X9_remembers l D cI cJ cB tU tM tS q_p0 q_p0_led q_p0_were q_p0_paths q_p0_more q_p0_patterns q_p0_loop q_p0_ranks q_p0_counts q_p0_then q_p0_table q_p0_product q_p0_turned q_p0_tape q_p0_reasons q_p0_imageLed H.size v_p0_deeds f_p0_led f_p0_were v_p0_n v_p0_way v_p0_patternMany v_p0_taped v_p0_hasWhy v_p0_hasImage v_p0_imageN v_p0_imageWay _ h) ⟨hx, hb, hml, hown, hts⟩ (cwV 0 hts gX9_turn_X9_remembers rfl rfl rfl hd_X9_remembers ⟨Nat.le_of_ble_eq_true rfl, Nat.le_of_ble_eq_true rfl⟩) hX hK hP hD hS hA [0, 1, 2] [3] [1, 2, 3, 0] rfl rfl rfl (by decide) (fun _ => rfl) (q0 := 0) (ci := 7) rfl rfl rfl hl.1 rfl (Nat.le_of_ble_eq_true rfl) ⟨Nat.le_refl _, Nat.le_refl _⟩ dX9_turn_102 (fun u9 H locs h hP hD hS => ?_)
                  obtain ⟨m9_0, m9_1⟩ := u9
                  refine lv_iconst (v := (0 : Int32)) hx hb dX9_turn_105 (by decide) ?_
                  refine lv_istore (lv' := [(7, .int (0 : Int32)), (0, .ref q_p0), (1, .int x1), (2, .int x2), (3, .int x3), (4, .int l4), (5, .int l5), (6, .int l6)]) hx hb dX9_turn_106 hl (by decide) rfl (fun ls hl => ?_)
                  refine lv_iconst (v := (0 : Int32)) hx hb dX9_turn_108 (by decide) ?_
                  refine lv_istore (lv' := [(8, .int (0 : Int32)), (7, .int (0 : Int32)), (0, .ref q_p0), (1, .int x1), (2, .int x2), (3, .int x3), (4, .int l4), (5, .int l5), (6, .int l6)]) hx hb dX9_turn_109 hl (by decide) rfl (fun ls hl => ?_)
                  have k111 : ∀ (v_p0_deeds : Int32) (f_p0_were : (Nat → Int32)) (n111 : Nat) (l5 : Int32) (l7 : Int32) (l8 : Int32) (f_p0_led : (Nat → Int32)) (f_p0_turned : (Nat → Int32)) (H : Heap) (locs : List Loc) (ls : Array Slot), LP5 (M_X9_turn_l111 x1 x2 x3 v_p0_n P v_p0_deeds f_p0_were) n111 l5 l7 l8 f_p0_led f_p0_turned → va_P D vwCl [(q_p0, .inr (7, [.int v_p0_n, .int v_p0_way, .ref q_p0_led, .int v_p0_deeds, .ref q_p0_were, .ref q_p0_paths, .ref q_p0_more, .ref q_p0_patterns, .int v_p0_patternMany, .ref q_p0_loop, .ref q_p0_ranks, .ref q_p0_counts, .ref q_p0_then, .ref q_p0_table, .ref q_p0_product, .ref q_p0_turned, .ref q_p0_tape, .int v_p0_taped, .int v_p0_hasWhy, .ref q_p0_reasons, .int v_p0_hasImage, .int v_p0_imageN, .int v_p0_imageWay, .ref q_p0_imageLed])), (q_p0_led, .inl (cI, 8, .inl f_p0_led)), (q_p0_were, .inl (cI, 80, .inl f_p0_were)), (q_p0_turned, .inl (cI, 8, .inl f_p0_turned))] H → va_D A [(q_p0, .inr (7, [.int v_p0_n, .int v_p0_way, .ref q_p0_led, .int v_p0_deeds, .ref q_p0_were, .ref q_p0_paths, .ref q_p0_more, .ref q_p0_patterns, .int v_p0_patternMany, .ref q_p0_loop, .ref q_p0_ranks, .ref q_p0_counts, .ref q_p0_then, .ref q_p0_table, .ref q_p0_product, .ref q_p0_turned, .ref q_p0_tape, .int v_p0_taped, .int v_p0_hasWhy, .ref q_p0_reasons, .int v_p0_hasImage, .int v_p0_imageN, .int v_p0_imageWay, .ref q_p0_imageLed])), (q_p0_led, .inl (cI, 8, .inl f_p0_led)), (q_p0_were, .inl (cI, 80, .inl f_p0_were)), (q_p0_turned, .inl (cI, 8, .inl f_p0_turned))] → va_S A s.heap H locs → lv_has ls 10 [(0, .ref q_p0), (1, .int x1), (2, .int x2), (3, .int x3), (5, .int l5), (7, .int l7), (8, .int l8)] → W p l e { frames := 1, cells := 0, slots := 0, locals := 25 } s m args below meth c H locs 0 0 Q (F0 m 111 ls []) := by
                    intro v_p0_deeds f_p0_were n111
                    induction n111 with
                    | zero =>
                      intro l5 l7 l8 f_p0_led f_p0_turned H locs ls h
                      exact False.elim h
                    | succ n111 ih111 =>
                      intro l5 l7 l8 f_p0_led f_p0_turned H locs ls h hP hD hS hl
                      have h : M_X9_turn_l111 x1 x2 x3 v_p0_n P v_p0_deeds f_p0_were (LP5 (M_X9_turn_l111 x1 x2 x3 v_p0_n P v_p0_deeds f_p0_were) n111) l5 l7 l8 f_p0_led f_p0_turned := h
                      refine lv_iload hx hb dX9_turn_111 (lv_at hl 6 rfl) ?_
                      refine lv_iload_n hx hb dX9_turn_113 rfl (lv_at hl 1 rfl) ?_
                      refine lv_icmp_ge (tgt := 158) hx hb dX9_turn_114 (by decide) (fun c10 => ?_) (fun c10 => ?_)
                      · have h := And.left h c10
                        refine lv_iload hx hb dX9_turn_158 (lv_at hl 5 rfl) ?_
                        exact z_iret hQ hx hb hr rfl hlocks hK (v_p0_deeds, f_p0_were, f_p0_led, f_p0_turned) h hP hD hS dX9_turn_160
                      · have h := And.right h c10
                        refine lv_iload hx hb dX9_turn_117 (lv_at hl 4 rfl) ?_
                        refine lv_bipush (v := (10 : Int32)) hx hb dX9_turn_119 (by decide) ?_
                        refine lv_idiv hx hb dX9_turn_121 (by decide) ?_
                        refine lv_istore (lv' := [(5, .int (l5 / (10 : Int32))), (0, .ref q_p0), (1, .int x1), (2, .int x2), (3, .int x3), (7, .int l7), (8, .int l8)]) hx hb dX9_turn_122 hl (by decide) rfl (fun ls hl => ?_)
                        refine lv_iload_n hx hb dX9_turn_124 rfl (lv_at hl 3 rfl) ?_
                        refine lv_iload hx hb dX9_turn_125 (lv_at hl 0 rfl) ?_
                        obtain ⟨hn11, h⟩ := h
                        refine lv_idiv hx hb dX9_turn_127 hn11 ?_
                        refine lv_bipush (v := (10 : Int32)) hx hb dX9_turn_128 (by decide) ?_
                        refine lv_irem hx hb dX9_turn_130 (by decide) ?_
                        refine lv_topi (fun y12 ey12 => ?_)
                        have h := h y12 ey12
                        refine lv_istore (lv' := [(9, .int y12), (5, .int (l5 / (10 : Int32))), (0, .ref q_p0), (1, .int x1), (2, .int x2), (3, .int x3), (7, .int l7), (8, .int l8)]) hx hb dX9_turn_131 hl (by decide) rfl (fun ls hl => ?_)
                        refine lv_aload_n hx hb dX9_turn_133 rfl (lv_at hl 2 rfl) ?_
                        refine lv_iload hx hb dX9_turn_134 (lv_at hl 0 rfl) ?_
                        refine z_cVi (As := [.int y12]) (rest := []) (wr := [(q_p0_were, .inl (cI, 80, .inl f_p0_were)), (q_p0_turned, .inl (cI, 8, .inl f_p0_turned))]) (wn := fun u => [(q_p0, .inr (7, [.int v_p0_n, .int v_p0_way, .ref q_p0_led, .int v_p0_deeds, .ref q_p0_were, .ref q_p0_paths, .ref q_p0_more, .ref q_p0_patterns, .int v_p0_patternMany, .ref q_p0_loop, .ref q_p0_ranks, .ref q_p0_counts, .ref q_p0_then, .ref q_p0_table, .ref q_p0_product, .ref q_p0_turned, .ref q_p0_tape, .int v_p0_taped, .int v_p0_hasWhy, .ref q_p0_reasons, .int v_p0_hasImage, .int v_p0_imageN, .int v_p0_imageWay, .ref q_p0_imageLed])), (q_p0_led, .inl (cI, 8, .inl f_p0_led)), (q_p0_were, .inl (cI, 80, .inl f_p0_were)), (q_p0_turned, .inl (cI, 8, .inl f_p0_turned))]) (c_X9_canTurn l D cI cJ cB tU tM tS q_p0 q_p0_led q_p0_were q_p0_paths q_p0_more q_p0_patterns q_p0_loop q_p0_ranks q_p0_counts q_p0_then q_p0_table q_p0_product q_p0_turned q_p0_tape q_p0_reasons q_p0_imageLed H.size y12 v_p0_n f_p0_led v_p0_way v_p0_deeds v_p0_patternMany v_p0_taped v_p0_hasWhy v_p0_hasImage v_p0_imageN v_p0_imageWay _ h) ⟨hx, hb, hml, hown, hts⟩ (cwV 1 hts gX9_turn_X9_canTurn rfl rfl rfl hd_X9_canTurn ⟨Nat.le_of_ble_eq_true rfl, Nat.le_of_ble_eq_true rfl⟩) hX hK hP hD hS hA [0, 1] [2, 3] [2, 3, 0, 1] rfl rfl rfl (by decide) (fun _ => rfl) (q0 := 0) (ci := 7) rfl rfl rfl hl.1 rfl (Nat.le_of_ble_eq_true rfl) ⟨Nat.le_refl _, Nat.le_refl _⟩ dX9_turn_136 (fun r13 u13 H locs h hP hD hS => ?_)
                        refine lv_if_eq (tgt := 152) hx hb dX9_turn_139 (by decide) (fun c14 => ?_) (fun c14 => ?_)
                        · have h := And.left h c14
                          refine lv_iinc (v := (l8 + 1)) (lv' := [(8, .int (l8 + 1)), (9, .int y12), (5, .int (l5 / (10 : Int32))), (0, .ref q_p0), (1, .int x1), (2, .int x2), (3, .int x3), (7, .int l7)]) hx hb dX9_turn_152 hl (k := 7) rfl rfl (by decide) rfl (fun ls hl => ?_)
                          refine lv_goto (tgt := 111) hx hb dX9_turn_155 (by decide) ?_
                          exact ih111 (l5 / (10 : Int32)) l7 (l8 + 1) f_p0_led f_p0_turned _ _ _ h hP hD hS (lv_sub hl [3, 4, 5, 6, 2, 7, 0] rfl)
                        · have h := And.right h c14
                          refine lv_aload_n hx hb dX9_turn_142 rfl (lv_at hl 2 rfl) ?_
                          refine lv_iload hx hb dX9_turn_143 (lv_at hl 0 rfl) ?_
                          refine lv_iload_n hx hb dX9_turn_145 rfl (lv_at hl 5 rfl) ?_
                          refine z_cVv (As := [.int y12, .int x3]) (rest := []) (wr := [(q_p0_were, .inl (cI, 80, .inl f_p0_were))]) (wn := fun u => [(q_p0, .inr (7, [.int v_p0_n, .int v_p0_way, .ref q_p0_led, .int v_p0_deeds, .ref q_p0_were, .ref q_p0_paths, .ref q_p0_more, .ref q_p0_patterns, .int v_p0_patternMany, .ref q_p0_loop, .ref q_p0_ranks, .ref q_p0_counts, .ref q_p0_then, .ref q_p0_table, .ref q_p0_product, .ref q_p0_turned, .ref q_p0_tape, .int v_p0_taped, .int v_p0_hasWhy, .ref q_p0_reasons, .int v_p0_hasImage, .int v_p0_imageN, .int v_p0_imageWay, .ref q_p0_imageLed])), (q_p0_led, .inl (cI, 8, .inl u.1)), (q_p0_were, .inl (cI, 80, .inl f_p0_were)), (q_p0_turned, .inl (cI, 8, .inl u.2))]) (c_X9_turns l D cI cJ cB tU tM tS q_p0 q_p0_led q_p0_were q_p0_paths q_p0_more q_p0_patterns q_p0_loop q_p0_ranks q_p0_counts q_p0_then q_p0_table q_p0_product q_p0_turned q_p0_tape q_p0_reasons q_p0_imageLed H.size y12 x3 v_p0_n f_p0_turned f_p0_led v_p0_way v_p0_deeds v_p0_patternMany v_p0_taped v_p0_hasWhy v_p0_hasImage v_p0_imageN v_p0_imageWay _ h) ⟨hx, hb, hml, hown, hts⟩ (cwV 2 hts gX9_turn_X9_turns rfl rfl rfl hd_X9_turns ⟨Nat.le_of_ble_eq_true rfl, Nat.le_of_ble_eq_true rfl⟩) hX hK hP hD hS hA [0, 3, 1] [2] [1, 3, 0, 2] rfl rfl rfl (by decide) (fun _ => rfl) (q0 := 0) (ci := 7) rfl rfl rfl hl.1 rfl (Nat.le_of_ble_eq_true rfl) ⟨Nat.le_refl _, Nat.le_refl _⟩ dX9_turn_146 (fun u15 H locs h hP hD hS => ?_)
                          obtain ⟨m15_0, m15_1⟩ := u15
                          refine lv_iinc (v := (l7 + 1)) (lv' := [(7, .int (l7 + 1)), (9, .int y12), (5, .int (l5 / (10 : Int32))), (0, .ref q_p0), (1, .int x1), (2, .int x2), (3, .int x3), (8, .int l8)]) hx hb dX9_turn_149 hl (k := 6) rfl rfl (by decide) rfl (fun ls hl => ?_)
                          refine lv_iinc (v := (l8 + 1)) (lv' := [(8, .int (l8 + 1)), (7, .int (l7 + 1)), (9, .int y12), (5, .int (l5 / (10 : Int32))), (0, .ref q_p0), (1, .int x1), (2, .int x2), (3, .int x3)]) hx hb dX9_turn_152 hl (k := 7) rfl rfl (by decide) rfl (fun ls hl => ?_)
                          refine lv_goto (tgt := 111) hx hb dX9_turn_155 (by decide) ?_
                          exact ih111 (l5 / (10 : Int32)) (l7 + 1) (l8 + 1) m15_0 m15_1 _ _ _ h hP hD hS (lv_sub hl [4, 5, 6, 7, 3, 1, 0] rfl)
                  obtain ⟨n111, h⟩ := h
                  exact k111 m9_0 m9_1 n111 l5 (0 : Int32) (0 : Int32) f_p0_led f_p0_turned _ _ _ h hP hD hS (lv_sub hl [2, 3, 4, 5, 7, 1, 0] rfl)
                · have h := And.right h c8
                  refine lv_bipush (v := (-2 : Int32)) hx hb dX9_turn_98 (by decide) ?_
                  exact z_iret hQ hx hb hr rfl hlocks hK (v_p0_deeds, f_p0_were, f_p0_led, f_p0_turned) h hP hD hS dX9_turn_100
            · have h := And.right h c6
              refine lv_iload hx hb dX9_turn_49 (lv_at hl 6 rfl) ?_
              refine lv_iload hx hb dX9_turn_51 (lv_at hl 4 rfl) ?_
              refine lv_bipush (v := (10 : Int32)) hx hb dX9_turn_53 (by decide) ?_
              refine lv_irem hx hb dX9_turn_55 (by decide) ?_
              refine lv_iconst (v := (4 : Int32)) hx hb dX9_turn_56 (by decide) ?_
              refine lv_icmp_gt (tgt := 64) hx hb dX9_turn_57 (by decide) (fun c16 => ?_) (fun c16 => ?_)
              · have h := And.left h c16
                refine lv_iconst (v := (0 : Int32)) hx hb dX9_turn_64 (by decide) ?_
                refine lv_iand hx hb dX9_turn_65 ?_
                refine lv_istore (lv' := [(6, .int (l6 &&& (0 : Int32))), (0, .ref q_p0), (1, .int x1), (2, .int x2), (3, .int x3), (4, .int l4), (5, .int l5), (7, .int l7)]) hx hb dX9_turn_66 hl (by decide) rfl (fun ls hl => ?_)
                refine lv_iload hx hb dX9_turn_68 (lv_at hl 5 rfl) ?_
                refine lv_bipush (v := (10 : Int32)) hx hb dX9_turn_70 (by decide) ?_
                refine lv_idiv hx hb dX9_turn_72 (by decide) ?_
                refine lv_istore (lv' := [(4, .int (l4 / (10 : Int32))), (6, .int (l6 &&& (0 : Int32))), (0, .ref q_p0), (1, .int x1), (2, .int x2), (3, .int x3), (5, .int l5), (7, .int l7)]) hx hb dX9_turn_73 hl (by decide) rfl (fun ls hl => ?_)
                refine lv_iload hx hb dX9_turn_75 (lv_at hl 6 rfl) ?_
                refine lv_bipush (v := (10 : Int32)) hx hb dX9_turn_77 (by decide) ?_
                refine lv_imul hx hb dX9_turn_79 ?_
                refine lv_istore (lv' := [(5, .int (l5 * (10 : Int32))), (4, .int (l4 / (10 : Int32))), (6, .int (l6 &&& (0 : Int32))), (0, .ref q_p0), (1, .int x1), (2, .int x2), (3, .int x3), (7, .int l7)]) hx hb dX9_turn_80 hl (by decide) rfl (fun ls hl => ?_)
                refine lv_iinc (v := (l7 + 1)) (lv' := [(7, .int (l7 + 1)), (5, .int (l5 * (10 : Int32))), (4, .int (l4 / (10 : Int32))), (6, .int (l6 &&& (0 : Int32))), (0, .ref q_p0), (1, .int x1), (2, .int x2), (3, .int x3)]) hx hb dX9_turn_82 hl (k := 7) rfl rfl (by decide) rfl (fun ls hl => ?_)
                refine lv_goto (tgt := 43) hx hb dX9_turn_85 (by decide) ?_
                exact ih43 (l4 / (10 : Int32)) (l5 * (10 : Int32)) (l6 &&& (0 : Int32)) (l7 + 1) _ _ _ h hP hD hS (lv_sub hl [4, 5, 6, 7, 2, 1, 3, 0] rfl)
              · have h := And.right h c16
                refine lv_iconst (v := (1 : Int32)) hx hb dX9_turn_60 (by decide) ?_
                refine lv_goto (tgt := 65) hx hb dX9_turn_61 (by decide) ?_
                refine lv_iand hx hb dX9_turn_65 ?_
                refine lv_istore (lv' := [(6, .int (l6 &&& (1 : Int32))), (0, .ref q_p0), (1, .int x1), (2, .int x2), (3, .int x3), (4, .int l4), (5, .int l5), (7, .int l7)]) hx hb dX9_turn_66 hl (by decide) rfl (fun ls hl => ?_)
                refine lv_iload hx hb dX9_turn_68 (lv_at hl 5 rfl) ?_
                refine lv_bipush (v := (10 : Int32)) hx hb dX9_turn_70 (by decide) ?_
                refine lv_idiv hx hb dX9_turn_72 (by decide) ?_
                refine lv_istore (lv' := [(4, .int (l4 / (10 : Int32))), (6, .int (l6 &&& (1 : Int32))), (0, .ref q_p0), (1, .int x1), (2, .int x2), (3, .int x3), (5, .int l5), (7, .int l7)]) hx hb dX9_turn_73 hl (by decide) rfl (fun ls hl => ?_)
                refine lv_iload hx hb dX9_turn_75 (lv_at hl 6 rfl) ?_
                refine lv_bipush (v := (10 : Int32)) hx hb dX9_turn_77 (by decide) ?_
                refine lv_imul hx hb dX9_turn_79 ?_
                refine lv_istore (lv' := [(5, .int (l5 * (10 : Int32))), (4, .int (l4 / (10 : Int32))), (6, .int (l6 &&& (1 : Int32))), (0, .ref q_p0), (1, .int x1), (2, .int x2), (3, .int x3), (7, .int l7)]) hx hb dX9_turn_80 hl (by decide) rfl (fun ls hl => ?_)
                refine lv_iinc (v := (l7 + 1)) (lv' := [(7, .int (l7 + 1)), (5, .int (l5 * (10 : Int32))), (4, .int (l4 / (10 : Int32))), (6, .int (l6 &&& (1 : Int32))), (0, .ref q_p0), (1, .int x1), (2, .int x2), (3, .int x3)]) hx hb dX9_turn_82 hl (k := 7) rfl rfl (by decide) rfl (fun ls hl => ?_)
                refine lv_goto (tgt := 43) hx hb dX9_turn_85 (by decide) ?_
                exact ih43 (l4 / (10 : Int32)) (l5 * (10 : Int32)) (l6 &&& (1 : Int32)) (l7 + 1) _ _ _ h hP hD hS (lv_sub hl [4, 5, 6, 7, 2, 1, 3, 0] rfl)
        obtain ⟨n43, h⟩ := h
        exact k43 v_p0_deeds f_p0_were f_p0_led f_p0_turned n43 x2 (1 : Int32) (1 : Int32) (0 : Int32) _ _ _ h hP hD hS (lv_sub hl [4, 5, 6, 7, 3, 2, 1, 0] rfl)
      · have h := And.left h c5
        refine lv_bipush (v := (-2 : Int32)) hx hb dX9_turn_28 (by decide) ?_
        exact z_iret hQ hx hb hr rfl hlocks hK (v_p0_deeds, f_p0_were, f_p0_led, f_p0_turned) h hP hD hS dX9_turn_30
theorem hd_X9_feed : yX9_feed.cls = RX9 ∧ yX9_feed.cls ≠ "java/lang/invoke/MethodHandle" ∧ yX9_feed.cls ≠ "java/lang/invoke/VarHandle" ∧ (parseMethodDescriptor yX9_feed.desc).map (fun d => d.parameters.length) = some 1 := by decide +kernel
set_option maxHeartbeats 4000000 in
set_option maxRecDepth 100000 in
theorem c_X9_feed (l : Launch) (D : va_G) (cI cJ cB : ClassId) (tU tM tS : Nat) (q_p0 q_p0_led q_p0_were q_p0_paths q_p0_more q_p0_patterns q_p0_loop q_p0_ranks q_p0_counts q_p0_then q_p0_table q_p0_product q_p0_turned q_p0_tape q_p0_reasons q_p0_imageLed : Nat) (sz : Nat) (x1 : Int32) (v_p0_taped : Int32) (f_p0_tape : (Nat → Int32)) (v_p0_n : Int32) (v_p0_way : Int32) (v_p0_deeds : Int32) (v_p0_patternMany : Int32) (v_p0_hasWhy : Int32) (v_p0_hasImage : Int32) (v_p0_imageN : Int32) (v_p0_imageWay : Int32) (P : Int32 → (Nat → Int32) → Int32 → Prop) (h : M_X9_feed x1 v_p0_taped f_p0_tape P) : Met l yX9_feed wsX9_feed ({ frames := 1, cells := 0, slots := 0, locals := 25 }) (va_Pc [.ref q_p0, .int x1] (zPre D cI cJ cB tU tM tS [(q_p0, .inr (7, [.int v_p0_n, .int v_p0_way, .ref q_p0_led, .int v_p0_deeds, .ref q_p0_were, .ref q_p0_paths, .ref q_p0_more, .ref q_p0_patterns, .int v_p0_patternMany, .ref q_p0_loop, .ref q_p0_ranks, .ref q_p0_counts, .ref q_p0_then, .ref q_p0_table, .ref q_p0_product, .ref q_p0_turned, .ref q_p0_tape, .int v_p0_taped, .int v_p0_hasWhy, .ref q_p0_reasons, .int v_p0_hasImage, .int v_p0_imageN, .int v_p0_imageWay, .ref q_p0_imageLed])), (q_p0_tape, .inl (cI, 60, .inl f_p0_tape))] sz)) (va_Qi (fun (r : Int32) (u : (Nat → Int32) × Int32) => P r u.1 u.2) (fun u t => zPost D cI cJ cB (va_A [(q_p0, .inr (7, [.int v_p0_n, .int v_p0_way, .ref q_p0_led, .int v_p0_deeds, .ref q_p0_were, .ref q_p0_paths, .ref q_p0_more, .ref q_p0_patterns, .int v_p0_patternMany, .ref q_p0_loop, .ref q_p0_ranks, .ref q_p0_counts, .ref q_p0_then, .ref q_p0_table, .ref q_p0_product, .ref q_p0_turned, .ref q_p0_tape, .int v_p0_taped, .int v_p0_hasWhy, .ref q_p0_reasons, .int v_p0_hasImage, .int v_p0_imageN, .int v_p0_imageWay, .ref q_p0_imageLed])), (q_p0_tape, .inl (cI, 60, .inl f_p0_tape))] sz) [(q_p0, .inr (7, [.int v_p0_n, .int v_p0_way, .ref q_p0_led, .int v_p0_deeds, .ref q_p0_were, .ref q_p0_paths, .ref q_p0_more, .ref q_p0_patterns, .int v_p0_patternMany, .ref q_p0_loop, .ref q_p0_ranks, .ref q_p0_counts, .ref q_p0_then, .ref q_p0_table, .ref q_p0_product, .ref q_p0_turned, .ref q_p0_tape, .int u.2, .int v_p0_hasWhy, .ref q_p0_reasons, .int v_p0_hasImage, .int v_p0_imageN, .int v_p0_imageWay, .ref q_p0_imageLed])), (q_p0_tape, .inl (cI, 60, .inl u.1))] t) (va_A [(q_p0, .inr (7, [.int v_p0_n, .int v_p0_way, .ref q_p0_led, .int v_p0_deeds, .ref q_p0_were, .ref q_p0_paths, .ref q_p0_more, .ref q_p0_patterns, .int v_p0_patternMany, .ref q_p0_loop, .ref q_p0_ranks, .ref q_p0_counts, .ref q_p0_then, .ref q_p0_table, .ref q_p0_product, .ref q_p0_turned, .ref q_p0_tape, .int v_p0_taped, .int v_p0_hasWhy, .ref q_p0_reasons, .int v_p0_hasImage, .int v_p0_imageN, .int v_p0_imageWay, .ref q_p0_imageLed])), (q_p0_tape, .inl (cI, 60, .inl f_p0_tape))] sz)) 0 0 (va_A [(q_p0, .inr (7, [.int v_p0_n, .int v_p0_way, .ref q_p0_led, .int v_p0_deeds, .ref q_p0_were, .ref q_p0_paths, .ref q_p0_more, .ref q_p0_patterns, .int v_p0_patternMany, .ref q_p0_loop, .ref q_p0_ranks, .ref q_p0_counts, .ref q_p0_then, .ref q_p0_table, .ref q_p0_product, .ref q_p0_turned, .ref q_p0_tape, .int v_p0_taped, .int v_p0_hasWhy, .ref q_p0_reasons, .int v_p0_hasImage, .int v_p0_imageN, .int v_p0_imageWay, .ref q_p0_imageLed])), (q_p0_tape, .inl (cI, 60, .inl f_p0_tape))] sz) := by
  refine z_met (cc := cX9_feed) (maxL := 2) (ret := (some .int)) (Qc := fun A => va_Qi (fun (r : Int32) (u : (Nat → Int32) × Int32) => P r u.1 u.2) (fun u t => zPost D cI cJ cB A [(q_p0, .inr (7, [.int v_p0_n, .int v_p0_way, .ref q_p0_led, .int v_p0_deeds, .ref q_p0_were, .ref q_p0_paths, .ref q_p0_more, .ref q_p0_patterns, .int v_p0_patternMany, .ref q_p0_loop, .ref q_p0_ranks, .ref q_p0_counts, .ref q_p0_then, .ref q_p0_table, .ref q_p0_product, .ref q_p0_turned, .ref q_p0_tape, .int u.2, .int v_p0_hasWhy, .ref q_p0_reasons, .int v_p0_hasImage, .int v_p0_imageN, .int v_p0_imageWay, .ref q_p0_imageLed])), (q_p0_tape, .inl (cI, 60, .inl u.1))] t) A) (by decide) rfl [.ref q_p0, .int x1] (Nat.le_of_ble_eq_true rfl) ?_
  intro p e s m args below meth c A hx hb hr hts hown hml hlocks hA hX hK H locs hP hD hS ls hl Q hQ
  have hown : s.vm.findClass RX9 = some m.cls := hown
  have hl : lv_has ls 2 [(0, .ref q_p0), (1, .int x1)] := hl
  have hw0 : (Cond.constantLong RX9 210 (127)).before args s = true := hts _ (List.mem_of_getElem? (i := 1) rfl)
  have hw1 : (Cond.fieldLink RX9 212 "ForcedRingsModel" "taped" "I").before args s = true := hts _ (List.mem_of_getElem? (i := 2) rfl)
  have hw2 : (Cond.fieldLink RX9 53 "ForcedRingsModel" "tape" "[I").before args s = true := hts _ (List.mem_of_getElem? (i := 3) rfl)
  have hinX9 : ∀ w ∈ wsX90, w ∈ wsX9_feed := fun _ h => List.mem_cons_of_mem _ (List.mem_append_right _ h)
  refine lv_iload_n hx hb dX9_feed_0 rfl (lv_at hl 1 rfl) ?_
  refine lv_i2l (v := x1.toInt64) hx hb dX9_feed_1 rfl ?_
  refine lv_lconst (v := (0 : Int64)) hx hb dX9_feed_2 (by decide) ?_
  refine lv_ldc2 (v := (127 : Int64)) hx hb hown hw0 dX9_feed_3 ?_
  refine z_cSi (As := [.long x1.toInt64, .long (0 : Int64), .long (127 : Int64)]) (rest := []) (wr := [(q_p0, .inr (7, [.int v_p0_n, .int v_p0_way, .ref q_p0_led, .int v_p0_deeds, .ref q_p0_were, .ref q_p0_paths, .ref q_p0_more, .ref q_p0_patterns, .int v_p0_patternMany, .ref q_p0_loop, .ref q_p0_ranks, .ref q_p0_counts, .ref q_p0_then, .ref q_p0_table, .ref q_p0_product, .ref q_p0_turned, .ref q_p0_tape, .int v_p0_taped, .int v_p0_hasWhy, .ref q_p0_reasons, .int v_p0_hasImage, .int v_p0_imageN, .int v_p0_imageWay, .ref q_p0_imageLed])), (q_p0_tape, .inl (cI, 60, .inl f_p0_tape))]) (wn := fun u => [(q_p0, .inr (7, [.int v_p0_n, .int v_p0_way, .ref q_p0_led, .int v_p0_deeds, .ref q_p0_were, .ref q_p0_paths, .ref q_p0_more, .ref q_p0_patterns, .int v_p0_patternMany, .ref q_p0_loop, .ref q_p0_ranks, .ref q_p0_counts, .ref q_p0_then, .ref q_p0_table, .ref q_p0_product, .ref q_p0_turned, .ref q_p0_tape, .int v_p0_taped, .int v_p0_hasWhy, .ref q_p0_reasons, .int v_p0_hasImage, .int v_p0_imageN, .int v_p0_imageWay, .ref q_p0_imageLed])), (q_p0_tape, .inl (cI, 60, .inl f_p0_tape))]) (c_X9_in l D cI cJ cB tU tM tS  H.size x1.toInt64 (0 : Int64) (127 : Int64) _ h) ⟨hx, hb, hml, hown, hts⟩ (va_cwS 3 hts gX9_feed_X9_in rfl rfl rfl hd_X9_in.2 ⟨Nat.le_of_ble_eq_true rfl, Nat.le_of_ble_eq_true rfl⟩) hX hK hP hD hS hA [] [0, 1] [0, 1] rfl rfl rfl (by decide) (fun _ => rfl) rfl hl.1 rfl (Nat.le_of_ble_eq_true rfl) ⟨Nat.le_refl _, Nat.le_refl _⟩ dX9_feed_6 (fun r1 u1 H locs h hP hD hS => ?_)
  refine lv_if_ne (tgt := 15) hx hb dX9_feed_9 (by decide) (fun c2 => ?_) (fun c2 => ?_)
  · have h := And.right h c2
    refine lv_aload_n hx hb dX9_feed_15 rfl (lv_at hl 0 rfl) ?_
    refine va_get (ci := 7) (C := RX9) (T := TX9) (N := 24) (v := .int v_p0_taped) hx hb hts hinX9 hown hK hP 0 rfl rfl 17 (by decide) hw1 (fun _ h9 => h9) rfl dX9_feed_16 ?_
    refine lv_bipush (v := (60 : Int32)) hx hb dX9_feed_19 (by decide) ?_
    refine lv_icmp_ne (tgt := 27) hx hb dX9_feed_21 (by decide) (fun c3 => ?_) (fun c3 => ?_)
    · have h := And.right h c3
      refine lv_aload_n hx hb dX9_feed_27 rfl (lv_at hl 0 rfl) ?_
      refine va_get (ci := 7) (C := RX9) (T := TX9) (N := 24) (v := .ref q_p0_tape) hx hb hts hinX9 hown hK hP 0 rfl rfl 16 (by decide) hw2 (fun _ h9 => h9) rfl dX9_feed_28 ?_
      refine lv_aload_n hx hb dX9_feed_31 rfl (lv_at hl 0 rfl) ?_
      refine va_get (ci := 7) (C := RX9) (T := TX9) (N := 24) (v := .int v_p0_taped) hx hb hts hinX9 hown hK hP 0 rfl rfl 17 (by decide) hw1 (fun _ h9 => h9) rfl dX9_feed_32 ?_
      refine lv_iload_n hx hb dX9_feed_35 rfl (lv_at hl 1 rfl) ?_
      obtain ⟨hi4, h⟩ := h
      refine z_iast (wn := [(q_p0, .inr (7, [.int v_p0_n, .int v_p0_way, .ref q_p0_led, .int v_p0_deeds, .ref q_p0_were, .ref q_p0_paths, .ref q_p0_more, .ref q_p0_patterns, .int v_p0_patternMany, .ref q_p0_loop, .ref q_p0_ranks, .ref q_p0_counts, .ref q_p0_then, .ref q_p0_table, .ref q_p0_product, .ref q_p0_turned, .ref q_p0_tape, .int v_p0_taped, .int v_p0_hasWhy, .ref q_p0_reasons, .int v_p0_hasImage, .int v_p0_imageN, .int v_p0_imageWay, .ref q_p0_imageLed])), (q_p0_tape, .inl (cI, 60, .inl (upd f_p0_tape v_p0_taped.toNatClampNeg x1)))]) hx hb hK hP hD hS 1 rfl hi4 dX9_feed_36 rfl (fun H locs hP hD hS => ?_)
      refine lv_aload_n hx hb dX9_feed_37 rfl (lv_at hl 0 rfl) ?_
      refine lv_dup hx hb dX9_feed_38 rfl ?_
      refine va_get (ci := 7) (C := RX9) (T := TX9) (N := 24) (v := .int v_p0_taped) hx hb hts hinX9 hown hK hP 0 rfl rfl 17 (by decide) hw1 (fun _ h9 => h9) rfl dX9_feed_39 ?_
      refine lv_iconst (v := (1 : Int32)) hx hb dX9_feed_42 (by decide) ?_
      refine lv_iadd hx hb dX9_feed_43 ?_
      refine z_put (ci := 7) (C := RX9) (T := TX9) (N := 24) (ty := .int) (wn := [(q_p0, .inr (7, [.int v_p0_n, .int v_p0_way, .ref q_p0_led, .int v_p0_deeds, .ref q_p0_were, .ref q_p0_paths, .ref q_p0_more, .ref q_p0_patterns, .int v_p0_patternMany, .ref q_p0_loop, .ref q_p0_ranks, .ref q_p0_counts, .ref q_p0_then, .ref q_p0_table, .ref q_p0_product, .ref q_p0_turned, .ref q_p0_tape, .int (v_p0_taped + (1 : Int32)), .int v_p0_hasWhy, .ref q_p0_reasons, .int v_p0_hasImage, .int v_p0_imageN, .int v_p0_imageWay, .ref q_p0_imageLed])), (q_p0_tape, .inl (cI, 60, .inl (upd f_p0_tape v_p0_taped.toNatClampNeg x1)))]) hx hb hts hinX9 tyX9 tyX9_ok nmX9 hown hK hP hD hS 0 rfl rfl 17 (by decide) hw1 (fun _ h9 => h9) rfl (by decide +kernel) rfl rfl (Nat.le_of_ble_eq_true rfl) dX9_feed_44 rfl (fun H locs hP hD hS => ?_)
      refine lv_aload_n hx hb dX9_feed_47 rfl (lv_at hl 0 rfl) ?_
      refine va_get (ci := 7) (C := RX9) (T := TX9) (N := 24) (v := .int (v_p0_taped + (1 : Int32))) hx hb hts hinX9 hown hK hP 0 rfl rfl 17 (by decide) hw1 (fun _ h9 => h9) rfl dX9_feed_48 ?_
      exact z_iret hQ hx hb hr rfl hlocks hK ((upd f_p0_tape v_p0_taped.toNatClampNeg x1), (v_p0_taped + (1 : Int32))) h hP hD hS dX9_feed_51
    · have h := And.left h c3
      refine lv_bipush (v := (-4 : Int32)) hx hb dX9_feed_24 (by decide) ?_
      exact z_iret hQ hx hb hr rfl hlocks hK (f_p0_tape, v_p0_taped) h hP hD hS dX9_feed_26
  · have h := And.left h c2
    refine lv_bipush (v := (-2 : Int32)) hx hb dX9_feed_12 (by decide) ?_
    exact z_iret hQ hx hb hr rfl hlocks hK (f_p0_tape, v_p0_taped) h hP hD hS dX9_feed_14
theorem hd_X9_byteAt : yX9_byteAt.cls = RX9 ∧ yX9_byteAt.cls ≠ "java/lang/invoke/MethodHandle" ∧ yX9_byteAt.cls ≠ "java/lang/invoke/VarHandle" ∧ (parseMethodDescriptor yX9_byteAt.desc).map (fun d => d.parameters.length) = some 1 := by decide +kernel
set_option maxHeartbeats 4000000 in
set_option maxRecDepth 100000 in
theorem c_X9_byteAt (l : Launch) (D : va_G) (cI cJ cB : ClassId) (tU tM tS : Nat) (q_p0 q_p0_led q_p0_were q_p0_paths q_p0_more q_p0_patterns q_p0_loop q_p0_ranks q_p0_counts q_p0_then q_p0_table q_p0_product q_p0_turned q_p0_tape q_p0_reasons q_p0_imageLed : Nat) (sz : Nat) (x1 : Int32) (v_p0_taped : Int32) (f_p0_tape : (Nat → Int32)) (v_p0_n : Int32) (v_p0_way : Int32) (v_p0_deeds : Int32) (v_p0_patternMany : Int32) (v_p0_hasWhy : Int32) (v_p0_hasImage : Int32) (v_p0_imageN : Int32) (v_p0_imageWay : Int32) (P : Int32 → Prop) (h : M_X9_byteAt x1 v_p0_taped f_p0_tape P) : Met l yX9_byteAt wsX9_byteAt ({ frames := 0, cells := 0, slots := 0, locals := 0 }) (va_Pc [.ref q_p0, .int x1] (zPre D cI cJ cB tU tM tS [(q_p0, .inr (7, [.int v_p0_n, .int v_p0_way, .ref q_p0_led, .int v_p0_deeds, .ref q_p0_were, .ref q_p0_paths, .ref q_p0_more, .ref q_p0_patterns, .int v_p0_patternMany, .ref q_p0_loop, .ref q_p0_ranks, .ref q_p0_counts, .ref q_p0_then, .ref q_p0_table, .ref q_p0_product, .ref q_p0_turned, .ref q_p0_tape, .int v_p0_taped, .int v_p0_hasWhy, .ref q_p0_reasons, .int v_p0_hasImage, .int v_p0_imageN, .int v_p0_imageWay, .ref q_p0_imageLed])), (q_p0_tape, .inl (cI, 60, .inl f_p0_tape))] sz)) (va_Qi (fun (r : Int32) (u : Unit) => P r ) (fun u t => zPost D cI cJ cB (va_A [(q_p0, .inr (7, [.int v_p0_n, .int v_p0_way, .ref q_p0_led, .int v_p0_deeds, .ref q_p0_were, .ref q_p0_paths, .ref q_p0_more, .ref q_p0_patterns, .int v_p0_patternMany, .ref q_p0_loop, .ref q_p0_ranks, .ref q_p0_counts, .ref q_p0_then, .ref q_p0_table, .ref q_p0_product, .ref q_p0_turned, .ref q_p0_tape, .int v_p0_taped, .int v_p0_hasWhy, .ref q_p0_reasons, .int v_p0_hasImage, .int v_p0_imageN, .int v_p0_imageWay, .ref q_p0_imageLed])), (q_p0_tape, .inl (cI, 60, .inl f_p0_tape))] sz) [(q_p0, .inr (7, [.int v_p0_n, .int v_p0_way, .ref q_p0_led, .int v_p0_deeds, .ref q_p0_were, .ref q_p0_paths, .ref q_p0_more, .ref q_p0_patterns, .int v_p0_patternMany, .ref q_p0_loop, .ref q_p0_ranks, .ref q_p0_counts, .ref q_p0_then, .ref q_p0_table, .ref q_p0_product, .ref q_p0_turned, .ref q_p0_tape, .int v_p0_taped, .int v_p0_hasWhy, .ref q_p0_reasons, .int v_p0_hasImage, .int v_p0_imageN, .int v_p0_imageWay, .ref q_p0_imageLed])), (q_p0_tape, .inl (cI, 60, .inl f_p0_tape))] t) (va_A [(q_p0, .inr (7, [.int v_p0_n, .int v_p0_way, .ref q_p0_led, .int v_p0_deeds, .ref q_p0_were, .ref q_p0_paths, .ref q_p0_more, .ref q_p0_patterns, .int v_p0_patternMany, .ref q_p0_loop, .ref q_p0_ranks, .ref q_p0_counts, .ref q_p0_then, .ref q_p0_table, .ref q_p0_product, .ref q_p0_turned, .ref q_p0_tape, .int v_p0_taped, .int v_p0_hasWhy, .ref q_p0_reasons, .int v_p0_hasImage, .int v_p0_imageN, .int v_p0_imageWay, .ref q_p0_imageLed])), (q_p0_tape, .inl (cI, 60, .inl f_p0_tape))] sz)) 0 0 (va_A [(q_p0, .inr (7, [.int v_p0_n, .int v_p0_way, .ref q_p0_led, .int v_p0_deeds, .ref q_p0_were, .ref q_p0_paths, .ref q_p0_more, .ref q_p0_patterns, .int v_p0_patternMany, .ref q_p0_loop, .ref q_p0_ranks, .ref q_p0_counts, .ref q_p0_then, .ref q_p0_table, .ref q_p0_product, .ref q_p0_turned, .ref q_p0_tape, .int v_p0_taped, .int v_p0_hasWhy, .ref q_p0_reasons, .int v_p0_hasImage, .int v_p0_imageN, .int v_p0_imageWay, .ref q_p0_imageLed])), (q_p0_tape, .inl (cI, 60, .inl f_p0_tape))] sz) := by
  refine z_met (cc := cX9_byteAt) (maxL := 2) (ret := (some .int)) (Qc := fun A => va_Qi (fun (r : Int32) (u : Unit) => P r ) (fun u t => zPost D cI cJ cB A [(q_p0, .inr (7, [.int v_p0_n, .int v_p0_way, .ref q_p0_led, .int v_p0_deeds, .ref q_p0_were, .ref q_p0_paths, .ref q_p0_more, .ref q_p0_patterns, .int v_p0_patternMany, .ref q_p0_loop, .ref q_p0_ranks, .ref q_p0_counts, .ref q_p0_then, .ref q_p0_table, .ref q_p0_product, .ref q_p0_turned, .ref q_p0_tape, .int v_p0_taped, .int v_p0_hasWhy, .ref q_p0_reasons, .int v_p0_hasImage, .int v_p0_imageN, .int v_p0_imageWay, .ref q_p0_imageLed])), (q_p0_tape, .inl (cI, 60, .inl f_p0_tape))] t) A) (by decide) rfl [.ref q_p0, .int x1] (Nat.le_of_ble_eq_true rfl) ?_
  intro p e s m args below meth c A hx hb hr hts hown hml hlocks hA hX hK H locs hP hD hS ls hl Q hQ
  have hown : s.vm.findClass RX9 = some m.cls := hown
  have hl : lv_has ls 2 [(0, .ref q_p0), (1, .int x1)] := hl
  have hw0 : (Cond.fieldLink RX9 212 "ForcedRingsModel" "taped" "I").before args s = true := hts _ (List.mem_of_getElem? (i := 1) rfl)
  have hw1 : (Cond.fieldLink RX9 53 "ForcedRingsModel" "tape" "[I").before args s = true := hts _ (List.mem_of_getElem? (i := 2) rfl)
  have hinX9 : ∀ w ∈ wsX90, w ∈ wsX9_byteAt := fun _ h => List.mem_cons_of_mem _ (List.mem_append_right _ h)
  refine lv_iload_n hx hb dX9_byteAt_0 rfl (lv_at hl 1 rfl) ?_
  refine lv_aload_n hx hb dX9_byteAt_1 rfl (lv_at hl 0 rfl) ?_
  refine va_get (ci := 7) (C := RX9) (T := TX9) (N := 24) (v := .int v_p0_taped) hx hb hts hinX9 hown hK hP 0 rfl rfl 17 (by decide) hw0 (fun _ h9 => h9) rfl dX9_byteAt_2 ?_
  refine lv_icmp_ge (tgt := 17) hx hb dX9_byteAt_5 (by decide) (fun c1 => ?_) (fun c1 => ?_)
  · have h := And.left h c1
    refine lv_iconst (v := (-1 : Int32)) hx hb dX9_byteAt_17 (by decide) ?_
    exact z_iret hQ hx hb hr rfl hlocks hK () h hP hD hS dX9_byteAt_18
  · have h := And.right h c1
    refine lv_aload_n hx hb dX9_byteAt_8 rfl (lv_at hl 0 rfl) ?_
    refine va_get (ci := 7) (C := RX9) (T := TX9) (N := 24) (v := .ref q_p0_tape) hx hb hts hinX9 hown hK hP 0 rfl rfl 16 (by decide) hw1 (fun _ h9 => h9) rfl dX9_byteAt_9 ?_
    refine lv_iload_n hx hb dX9_byteAt_12 rfl (lv_at hl 1 rfl) ?_
    obtain ⟨hi2, h⟩ := h
    refine va_iald hx hb hK hP 1 0 rfl rfl hi2 dX9_byteAt_13 ?_
    refine lv_goto (tgt := 18) hx hb dX9_byteAt_14 (by decide) ?_
    exact z_iret hQ hx hb hr rfl hlocks hK () h hP hD hS dX9_byteAt_18
theorem hd_X9_read : yX9_read.cls = RX9 ∧ yX9_read.cls ≠ "java/lang/invoke/MethodHandle" ∧ yX9_read.cls ≠ "java/lang/invoke/VarHandle" ∧ (parseMethodDescriptor yX9_read.desc).map (fun d => d.parameters.length) = some 0 := by decide +kernel
set_option maxHeartbeats 4000000 in
set_option maxRecDepth 100000 in
theorem c_X9_read (l : Launch) (D : va_G) (cI cJ cB : ClassId) (tU tM tS : Nat) (q_p0 q_p0_led q_p0_were q_p0_paths q_p0_more q_p0_patterns q_p0_loop q_p0_ranks q_p0_counts q_p0_then q_p0_table q_p0_product q_p0_turned q_p0_tape q_p0_reasons q_p0_imageLed : Nat) (sz : Nat) (v_p0_taped : Int32) (v_p0_deeds : Int32) (f_p0_led : (Nat → Int32)) (f_p0_were : (Nat → Int32)) (v_p0_n : Int32) (f_p0_turned : (Nat → Int32)) (v_p0_hasWhy : Int32) (f_p0_reasons : (Nat → Int32)) (f_p0_tape : (Nat → Int32)) (v_p0_way : Int32) (v_p0_patternMany : Int32) (v_p0_hasImage : Int32) (v_p0_imageN : Int32) (v_p0_imageWay : Int32) (P : Int32 → Int32 → Int32 → (Nat → Int32) → (Nat → Int32) → Int32 → (Nat → Int32) → (Nat → Int32) → Prop) (h : M_X9_read v_p0_taped v_p0_deeds f_p0_led f_p0_were v_p0_n f_p0_turned v_p0_hasWhy f_p0_reasons f_p0_tape P) : Met l yX9_read wsX9_read ({ frames := 1, cells := 0, slots := 0, locals := 25 }) (va_Pc [.ref q_p0] (zPre D cI cJ cB tU tM tS [(q_p0, .inr (7, [.int v_p0_n, .int v_p0_way, .ref q_p0_led, .int v_p0_deeds, .ref q_p0_were, .ref q_p0_paths, .ref q_p0_more, .ref q_p0_patterns, .int v_p0_patternMany, .ref q_p0_loop, .ref q_p0_ranks, .ref q_p0_counts, .ref q_p0_then, .ref q_p0_table, .ref q_p0_product, .ref q_p0_turned, .ref q_p0_tape, .int v_p0_taped, .int v_p0_hasWhy, .ref q_p0_reasons, .int v_p0_hasImage, .int v_p0_imageN, .int v_p0_imageWay, .ref q_p0_imageLed])), (q_p0_led, .inl (cI, 8, .inl f_p0_led)), (q_p0_were, .inl (cI, 80, .inl f_p0_were)), (q_p0_turned, .inl (cI, 8, .inl f_p0_turned)), (q_p0_reasons, .inl (cI, 3, .inl f_p0_reasons)), (q_p0_tape, .inl (cI, 60, .inl f_p0_tape))] sz)) (va_Qi (fun (r : Int32) (u : Int32 × Int32 × (Nat → Int32) × (Nat → Int32) × Int32 × (Nat → Int32) × (Nat → Int32)) => P r u.1 u.2.1 u.2.2.1 u.2.2.2.1 u.2.2.2.2.1 u.2.2.2.2.2.1 u.2.2.2.2.2.2) (fun u t => zPost D cI cJ cB (va_A [(q_p0, .inr (7, [.int v_p0_n, .int v_p0_way, .ref q_p0_led, .int v_p0_deeds, .ref q_p0_were, .ref q_p0_paths, .ref q_p0_more, .ref q_p0_patterns, .int v_p0_patternMany, .ref q_p0_loop, .ref q_p0_ranks, .ref q_p0_counts, .ref q_p0_then, .ref q_p0_table, .ref q_p0_product, .ref q_p0_turned, .ref q_p0_tape, .int v_p0_taped, .int v_p0_hasWhy, .ref q_p0_reasons, .int v_p0_hasImage, .int v_p0_imageN, .int v_p0_imageWay, .ref q_p0_imageLed])), (q_p0_led, .inl (cI, 8, .inl f_p0_led)), (q_p0_were, .inl (cI, 80, .inl f_p0_were)), (q_p0_turned, .inl (cI, 8, .inl f_p0_turned)), (q_p0_reasons, .inl (cI, 3, .inl f_p0_reasons)), (q_p0_tape, .inl (cI, 60, .inl f_p0_tape))] sz) [(q_p0, .inr (7, [.int v_p0_n, .int v_p0_way, .ref q_p0_led, .int u.2.1, .ref q_p0_were, .ref q_p0_paths, .ref q_p0_more, .ref q_p0_patterns, .int v_p0_patternMany, .ref q_p0_loop, .ref q_p0_ranks, .ref q_p0_counts, .ref q_p0_then, .ref q_p0_table, .ref q_p0_product, .ref q_p0_turned, .ref q_p0_tape, .int u.1, .int u.2.2.2.2.1, .ref q_p0_reasons, .int v_p0_hasImage, .int v_p0_imageN, .int v_p0_imageWay, .ref q_p0_imageLed])), (q_p0_led, .inl (cI, 8, .inl u.2.2.2.1)), (q_p0_were, .inl (cI, 80, .inl u.2.2.1)), (q_p0_turned, .inl (cI, 8, .inl u.2.2.2.2.2.2)), (q_p0_reasons, .inl (cI, 3, .inl u.2.2.2.2.2.1)), (q_p0_tape, .inl (cI, 60, .inl f_p0_tape))] t) (va_A [(q_p0, .inr (7, [.int v_p0_n, .int v_p0_way, .ref q_p0_led, .int v_p0_deeds, .ref q_p0_were, .ref q_p0_paths, .ref q_p0_more, .ref q_p0_patterns, .int v_p0_patternMany, .ref q_p0_loop, .ref q_p0_ranks, .ref q_p0_counts, .ref q_p0_then, .ref q_p0_table, .ref q_p0_product, .ref q_p0_turned, .ref q_p0_tape, .int v_p0_taped, .int v_p0_hasWhy, .ref q_p0_reasons, .int v_p0_hasImage, .int v_p0_imageN, .int v_p0_imageWay, .ref q_p0_imageLed])), (q_p0_led, .inl (cI, 8, .inl f_p0_led)), (q_p0_were, .inl (cI, 80, .inl f_p0_were)), (q_p0_turned, .inl (cI, 8, .inl f_p0_turned)), (q_p0_reasons, .inl (cI, 3, .inl f_p0_reasons)), (q_p0_tape, .inl (cI, 60, .inl f_p0_tape))] sz)) 0 0 (va_A [(q_p0, .inr (7, [.int v_p0_n, .int v_p0_way, .ref q_p0_led, .int v_p0_deeds, .ref q_p0_were, .ref q_p0_paths, .ref q_p0_more, .ref q_p0_patterns, .int v_p0_patternMany, .ref q_p0_loop, .ref q_p0_ranks, .ref q_p0_counts, .ref q_p0_then, .ref q_p0_table, .ref q_p0_product, .ref q_p0_turned, .ref q_p0_tape, .int v_p0_taped, .int v_p0_hasWhy, .ref q_p0_reasons, .int v_p0_hasImage, .int v_p0_imageN, .int v_p0_imageWay, .ref q_p0_imageLed])), (q_p0_led, .inl (cI, 8, .inl f_p0_led)), (q_p0_were, .inl (cI, 80, .inl f_p0_were)), (q_p0_turned, .inl (cI, 8, .inl f_p0_turned)), (q_p0_reasons, .inl (cI, 3, .inl f_p0_reasons)), (q_p0_tape, .inl (cI, 60, .inl f_p0_tape))] sz) := by
  refine z_met (cc := cX9_read) (maxL := 10) (ret := (some .int)) (Qc := fun A => va_Qi (fun (r : Int32) (u : Int32 × Int32 × (Nat → Int32) × (Nat → Int32) × Int32 × (Nat → Int32) × (Nat → Int32)) => P r u.1 u.2.1 u.2.2.1 u.2.2.2.1 u.2.2.2.2.1 u.2.2.2.2.2.1 u.2.2.2.2.2.2) (fun u t => zPost D cI cJ cB A [(q_p0, .inr (7, [.int v_p0_n, .int v_p0_way, .ref q_p0_led, .int u.2.1, .ref q_p0_were, .ref q_p0_paths, .ref q_p0_more, .ref q_p0_patterns, .int v_p0_patternMany, .ref q_p0_loop, .ref q_p0_ranks, .ref q_p0_counts, .ref q_p0_then, .ref q_p0_table, .ref q_p0_product, .ref q_p0_turned, .ref q_p0_tape, .int u.1, .int u.2.2.2.2.1, .ref q_p0_reasons, .int v_p0_hasImage, .int v_p0_imageN, .int v_p0_imageWay, .ref q_p0_imageLed])), (q_p0_led, .inl (cI, 8, .inl u.2.2.2.1)), (q_p0_were, .inl (cI, 80, .inl u.2.2.1)), (q_p0_turned, .inl (cI, 8, .inl u.2.2.2.2.2.2)), (q_p0_reasons, .inl (cI, 3, .inl u.2.2.2.2.2.1)), (q_p0_tape, .inl (cI, 60, .inl f_p0_tape))] t) A) (by decide) rfl [.ref q_p0] (Nat.le_of_ble_eq_true rfl) ?_
  intro p e s m args below meth c A hx hb hr hts hown hml hlocks hA hX hK H locs hP hD hS ls hl Q hQ
  have hown : s.vm.findClass RX9 = some m.cls := hown
  have hl : lv_has ls 10 [(0, .ref q_p0)] := hl
  have hw0 : (Cond.fieldLink RX9 212 "ForcedRingsModel" "taped" "I").before args s = true := hts _ (List.mem_of_getElem? (i := 2) rfl)
  have hw1 : (Cond.fieldLink RX9 9 "ForcedRingsModel" "n" "I").before args s = true := hts _ (List.mem_of_getElem? (i := 3) rfl)
  have hw2 : (Cond.fieldLink RX9 15 "ForcedRingsModel" "led" "[I").before args s = true := hts _ (List.mem_of_getElem? (i := 6) rfl)
  have hw3 : (Cond.fieldLink RX9 50 "ForcedRingsModel" "turned" "[I").before args s = true := hts _ (List.mem_of_getElem? (i := 1) rfl)
  have hw4 : (Cond.fieldLink RX9 218 "ForcedRingsModel" "hasWhy" "Z").before args s = true := hts _ (List.mem_of_getElem? (i := 4) rfl)
  have hw5 : (Cond.fieldLink RX9 56 "ForcedRingsModel" "reasons" "[I").before args s = true := hts _ (List.mem_of_getElem? (i := 5) rfl)
  have hinX9 : ∀ w ∈ wsX90, w ∈ wsX9_read := fun _ h => List.mem_cons_of_mem _ (List.mem_append_right _ h)
  refine lv_iconst (v := (0 : Int32)) hx hb dX9_read_0 (by decide) ?_
  refine lv_istore_n (lv' := [(1, .int (0 : Int32)), (0, .ref q_p0)]) hx hb dX9_read_1 rfl hl (by decide) rfl (fun ls hl => ?_)
  refine lv_iconst (v := (0 : Int32)) hx hb dX9_read_2 (by decide) ?_
  refine lv_istore_n (lv' := [(2, .int (0 : Int32)), (1, .int (0 : Int32)), (0, .ref q_p0)]) hx hb dX9_read_3 rfl hl (by decide) rfl (fun ls hl => ?_)
  refine lv_iconst (v := (0 : Int32)) hx hb dX9_read_4 (by decide) ?_
  refine lv_istore_n (lv' := [(3, .int (0 : Int32)), (2, .int (0 : Int32)), (1, .int (0 : Int32)), (0, .ref q_p0)]) hx hb dX9_read_5 rfl hl (by decide) rfl (fun ls hl => ?_)
  refine lv_iconst (v := (0 : Int32)) hx hb dX9_read_6 (by decide) ?_
  refine lv_istore (lv' := [(4, .int (0 : Int32)), (3, .int (0 : Int32)), (2, .int (0 : Int32)), (1, .int (0 : Int32)), (0, .ref q_p0)]) hx hb dX9_read_7 hl (by decide) rfl (fun ls hl => ?_)
  refine lv_iconst (v := (0 : Int32)) hx hb dX9_read_9 (by decide) ?_
  refine lv_istore (lv' := [(5, .int (0 : Int32)), (4, .int (0 : Int32)), (3, .int (0 : Int32)), (2, .int (0 : Int32)), (1, .int (0 : Int32)), (0, .ref q_p0)]) hx hb dX9_read_10 hl (by decide) rfl (fun ls hl => ?_)
  refine lv_iconst (v := (0 : Int32)) hx hb dX9_read_12 (by decide) ?_
  refine lv_istore (lv' := [(6, .int (0 : Int32)), (5, .int (0 : Int32)), (4, .int (0 : Int32)), (3, .int (0 : Int32)), (2, .int (0 : Int32)), (1, .int (0 : Int32)), (0, .ref q_p0)]) hx hb dX9_read_13 hl (by decide) rfl (fun ls hl => ?_)
  refine lv_iconst (v := (1 : Int32)) hx hb dX9_read_15 (by decide) ?_
  refine lv_istore (lv' := [(7, .int (1 : Int32)), (6, .int (0 : Int32)), (5, .int (0 : Int32)), (4, .int (0 : Int32)), (3, .int (0 : Int32)), (2, .int (0 : Int32)), (1, .int (0 : Int32)), (0, .ref q_p0)]) hx hb dX9_read_16 hl (by decide) rfl (fun ls hl => ?_)
  refine lv_iconst (v := (0 : Int32)) hx hb dX9_read_18 (by decide) ?_
  refine lv_istore (lv' := [(8, .int (0 : Int32)), (7, .int (1 : Int32)), (6, .int (0 : Int32)), (5, .int (0 : Int32)), (4, .int (0 : Int32)), (3, .int (0 : Int32)), (2, .int (0 : Int32)), (1, .int (0 : Int32)), (0, .ref q_p0)]) hx hb dX9_read_19 hl (by decide) rfl (fun ls hl => ?_)
  have k21 : ∀ (l1 : Int32) (l2 : Int32) (l3 : Int32) (l4 : Int32) (l5 : Int32) (l6 : Int32) (l7 : Int32) (v_p0_taped : Int32) (v_p0_deeds : Int32) (f_p0_were : (Nat → Int32)) (f_p0_led : (Nat → Int32)) (v_p0_hasWhy : Int32) (f_p0_reasons : (Nat → Int32)) (n21 : Nat) (l8 : Int32) (f_p0_turned : (Nat → Int32)) (H : Heap) (locs : List Loc) (ls : Array Slot), LP2 (M_X9_read_l21 v_p0_n f_p0_tape P l1 l2 l3 l4 l5 l6 l7 v_p0_taped v_p0_deeds f_p0_were f_p0_led v_p0_hasWhy f_p0_reasons) n21 l8 f_p0_turned → va_P D vwCl [(q_p0, .inr (7, [.int v_p0_n, .int v_p0_way, .ref q_p0_led, .int v_p0_deeds, .ref q_p0_were, .ref q_p0_paths, .ref q_p0_more, .ref q_p0_patterns, .int v_p0_patternMany, .ref q_p0_loop, .ref q_p0_ranks, .ref q_p0_counts, .ref q_p0_then, .ref q_p0_table, .ref q_p0_product, .ref q_p0_turned, .ref q_p0_tape, .int v_p0_taped, .int v_p0_hasWhy, .ref q_p0_reasons, .int v_p0_hasImage, .int v_p0_imageN, .int v_p0_imageWay, .ref q_p0_imageLed])), (q_p0_led, .inl (cI, 8, .inl f_p0_led)), (q_p0_were, .inl (cI, 80, .inl f_p0_were)), (q_p0_turned, .inl (cI, 8, .inl f_p0_turned)), (q_p0_reasons, .inl (cI, 3, .inl f_p0_reasons)), (q_p0_tape, .inl (cI, 60, .inl f_p0_tape))] H → va_D A [(q_p0, .inr (7, [.int v_p0_n, .int v_p0_way, .ref q_p0_led, .int v_p0_deeds, .ref q_p0_were, .ref q_p0_paths, .ref q_p0_more, .ref q_p0_patterns, .int v_p0_patternMany, .ref q_p0_loop, .ref q_p0_ranks, .ref q_p0_counts, .ref q_p0_then, .ref q_p0_table, .ref q_p0_product, .ref q_p0_turned, .ref q_p0_tape, .int v_p0_taped, .int v_p0_hasWhy, .ref q_p0_reasons, .int v_p0_hasImage, .int v_p0_imageN, .int v_p0_imageWay, .ref q_p0_imageLed])), (q_p0_led, .inl (cI, 8, .inl f_p0_led)), (q_p0_were, .inl (cI, 80, .inl f_p0_were)), (q_p0_turned, .inl (cI, 8, .inl f_p0_turned)), (q_p0_reasons, .inl (cI, 3, .inl f_p0_reasons)), (q_p0_tape, .inl (cI, 60, .inl f_p0_tape))] → va_S A s.heap H locs → lv_has ls 10 [(0, .ref q_p0), (1, .int l1), (2, .int l2), (3, .int l3), (4, .int l4), (5, .int l5), (6, .int l6), (7, .int l7), (8, .int l8)] → W p l e { frames := 1, cells := 0, slots := 0, locals := 25 } s m args below meth c H locs 0 0 Q (F0 m 21 ls []) := by
    intro l1 l2 l3 l4 l5 l6 l7 v_p0_taped v_p0_deeds f_p0_were f_p0_led v_p0_hasWhy f_p0_reasons n21
    induction n21 with
    | zero =>
      intro l8 f_p0_turned H locs ls h
      exact False.elim h
    | succ n21 ih21 =>
      intro l8 f_p0_turned H locs ls h hP hD hS hl
      have h : M_X9_read_l21 v_p0_n f_p0_tape P l1 l2 l3 l4 l5 l6 l7 v_p0_taped v_p0_deeds f_p0_were f_p0_led v_p0_hasWhy f_p0_reasons (LP2 (M_X9_read_l21 v_p0_n f_p0_tape P l1 l2 l3 l4 l5 l6 l7 v_p0_taped v_p0_deeds f_p0_were f_p0_led v_p0_hasWhy f_p0_reasons) n21) l8 f_p0_turned := h
      refine lv_iload hx hb dX9_read_21 (lv_at hl 8 rfl) ?_
      refine lv_bipush (v := (8 : Int32)) hx hb dX9_read_23 (by decide) ?_
      refine lv_icmp_ge (tgt := 43) hx hb dX9_read_25 (by decide) (fun c1 => ?_) (fun c1 => ?_)
      · have h := And.left h c1
        have k43 : ∀ (v_p0_taped : Int32) (v_p0_deeds : Int32) (f_p0_were : (Nat → Int32)) (f_p0_led : (Nat → Int32)) (v_p0_hasWhy : Int32) (f_p0_reasons : (Nat → Int32)) (n43 : Nat) (l1 : Int32) (l2 : Int32) (l3 : Int32) (l4 : Int32) (l5 : Int32) (l6 : Int32) (l7 : Int32) (f_p0_turned : (Nat → Int32)) (H : Heap) (locs : List Loc) (ls : Array Slot), LP8 (M_X9_read_l43 v_p0_n f_p0_tape P v_p0_taped v_p0_deeds f_p0_were f_p0_led v_p0_hasWhy f_p0_reasons) n43 l1 l2 l3 l4 l5 l6 l7 f_p0_turned → va_P D vwCl [(q_p0, .inr (7, [.int v_p0_n, .int v_p0_way, .ref q_p0_led, .int v_p0_deeds, .ref q_p0_were, .ref q_p0_paths, .ref q_p0_more, .ref q_p0_patterns, .int v_p0_patternMany, .ref q_p0_loop, .ref q_p0_ranks, .ref q_p0_counts, .ref q_p0_then, .ref q_p0_table, .ref q_p0_product, .ref q_p0_turned, .ref q_p0_tape, .int v_p0_taped, .int v_p0_hasWhy, .ref q_p0_reasons, .int v_p0_hasImage, .int v_p0_imageN, .int v_p0_imageWay, .ref q_p0_imageLed])), (q_p0_led, .inl (cI, 8, .inl f_p0_led)), (q_p0_were, .inl (cI, 80, .inl f_p0_were)), (q_p0_turned, .inl (cI, 8, .inl f_p0_turned)), (q_p0_reasons, .inl (cI, 3, .inl f_p0_reasons)), (q_p0_tape, .inl (cI, 60, .inl f_p0_tape))] H → va_D A [(q_p0, .inr (7, [.int v_p0_n, .int v_p0_way, .ref q_p0_led, .int v_p0_deeds, .ref q_p0_were, .ref q_p0_paths, .ref q_p0_more, .ref q_p0_patterns, .int v_p0_patternMany, .ref q_p0_loop, .ref q_p0_ranks, .ref q_p0_counts, .ref q_p0_then, .ref q_p0_table, .ref q_p0_product, .ref q_p0_turned, .ref q_p0_tape, .int v_p0_taped, .int v_p0_hasWhy, .ref q_p0_reasons, .int v_p0_hasImage, .int v_p0_imageN, .int v_p0_imageWay, .ref q_p0_imageLed])), (q_p0_led, .inl (cI, 8, .inl f_p0_led)), (q_p0_were, .inl (cI, 80, .inl f_p0_were)), (q_p0_turned, .inl (cI, 8, .inl f_p0_turned)), (q_p0_reasons, .inl (cI, 3, .inl f_p0_reasons)), (q_p0_tape, .inl (cI, 60, .inl f_p0_tape))] → va_S A s.heap H locs → lv_has ls 10 [(0, .ref q_p0), (1, .int l1), (2, .int l2), (3, .int l3), (4, .int l4), (5, .int l5), (6, .int l6), (7, .int l7)] → W p l e { frames := 1, cells := 0, slots := 0, locals := 25 } s m args below meth c H locs 0 0 Q (F0 m 43 ls []) := by
          intro v_p0_taped v_p0_deeds f_p0_were f_p0_led v_p0_hasWhy f_p0_reasons n43
          induction n43 with
          | zero =>
            intro l1 l2 l3 l4 l5 l6 l7 f_p0_turned H locs ls h
            exact False.elim h
          | succ n43 ih43 =>
            intro l1 l2 l3 l4 l5 l6 l7 f_p0_turned H locs ls h hP hD hS hl
            have h : M_X9_read_l43 v_p0_n f_p0_tape P v_p0_taped v_p0_deeds f_p0_were f_p0_led v_p0_hasWhy f_p0_reasons (LP8 (M_X9_read_l43 v_p0_n f_p0_tape P v_p0_taped v_p0_deeds f_p0_were f_p0_led v_p0_hasWhy f_p0_reasons) n43) l1 l2 l3 l4 l5 l6 l7 f_p0_turned := h
            refine lv_iload hx hb dX9_read_43 (lv_at hl 7 rfl) ?_
            have k262 : ∀ (l1 : Int32) (l2 : Int32) (l3 : Int32) (l6 : Int32) (l7 : Int32) (v_p0_taped : Int32) (v_p0_deeds : Int32) (f_p0_were : (Nat → Int32)) (f_p0_led : (Nat → Int32)) (v_p0_hasWhy : Int32) (f_p0_reasons : (Nat → Int32)) (f_p0_turned : (Nat → Int32)) (H : Heap) (locs : List Loc) (ls : Array Slot), M_X9_read_b262 v_p0_n f_p0_tape P l1 l2 l3 l6 l7 v_p0_taped v_p0_deeds f_p0_were f_p0_led v_p0_hasWhy f_p0_reasons f_p0_turned → va_P D vwCl [(q_p0, .inr (7, [.int v_p0_n, .int v_p0_way, .ref q_p0_led, .int v_p0_deeds, .ref q_p0_were, .ref q_p0_paths, .ref q_p0_more, .ref q_p0_patterns, .int v_p0_patternMany, .ref q_p0_loop, .ref q_p0_ranks, .ref q_p0_counts, .ref q_p0_then, .ref q_p0_table, .ref q_p0_product, .ref q_p0_turned, .ref q_p0_tape, .int v_p0_taped, .int v_p0_hasWhy, .ref q_p0_reasons, .int v_p0_hasImage, .int v_p0_imageN, .int v_p0_imageWay, .ref q_p0_imageLed])), (q_p0_led, .inl (cI, 8, .inl f_p0_led)), (q_p0_were, .inl (cI, 80, .inl f_p0_were)), (q_p0_turned, .inl (cI, 8, .inl f_p0_turned)), (q_p0_reasons, .inl (cI, 3, .inl f_p0_reasons)), (q_p0_tape, .inl (cI, 60, .inl f_p0_tape))] H → va_D A [(q_p0, .inr (7, [.int v_p0_n, .int v_p0_way, .ref q_p0_led, .int v_p0_deeds, .ref q_p0_were, .ref q_p0_paths, .ref q_p0_more, .ref q_p0_patterns, .int v_p0_patternMany, .ref q_p0_loop, .ref q_p0_ranks, .ref q_p0_counts, .ref q_p0_then, .ref q_p0_table, .ref q_p0_product, .ref q_p0_turned, .ref q_p0_tape, .int v_p0_taped, .int v_p0_hasWhy, .ref q_p0_reasons, .int v_p0_hasImage, .int v_p0_imageN, .int v_p0_imageWay, .ref q_p0_imageLed])), (q_p0_led, .inl (cI, 8, .inl f_p0_led)), (q_p0_were, .inl (cI, 80, .inl f_p0_were)), (q_p0_turned, .inl (cI, 8, .inl f_p0_turned)), (q_p0_reasons, .inl (cI, 3, .inl f_p0_reasons)), (q_p0_tape, .inl (cI, 60, .inl f_p0_tape))] → va_S A s.heap H locs → lv_has ls 10 [(0, .ref q_p0), (1, .int l1), (2, .int l2), (3, .int l3), (6, .int l6), (7, .int l7)] → W p l e { frames := 1, cells := 0, slots := 0, locals := 25 } s m args below meth c H locs 0 0 Q (F0 m 262 ls []) := by
              intro l1 l2 l3 l6 l7 v_p0_taped v_p0_deeds f_p0_were f_p0_led v_p0_hasWhy f_p0_reasons f_p0_turned H locs ls h hP hD hS hl
              refine lv_iload hx hb dX9_read_262 (lv_at hl 5 rfl) ?_
              refine lv_iload hx hb dX9_read_264 (lv_at hl 4 rfl) ?_
              have k278 : ∀ (l1 : Int32) (l2 : Int32) (l3 : Int32) (s0 : Int32) (s1 : Int32) (v_p0_taped : Int32) (v_p0_deeds : Int32) (f_p0_were : (Nat → Int32)) (f_p0_led : (Nat → Int32)) (v_p0_hasWhy : Int32) (f_p0_reasons : (Nat → Int32)) (f_p0_turned : (Nat → Int32)) (H : Heap) (locs : List Loc) (ls : Array Slot), M_X9_read_b278 v_p0_n f_p0_tape P l1 l2 l3 s0 s1 v_p0_taped v_p0_deeds f_p0_were f_p0_led v_p0_hasWhy f_p0_reasons f_p0_turned → va_P D vwCl [(q_p0, .inr (7, [.int v_p0_n, .int v_p0_way, .ref q_p0_led, .int v_p0_deeds, .ref q_p0_were, .ref q_p0_paths, .ref q_p0_more, .ref q_p0_patterns, .int v_p0_patternMany, .ref q_p0_loop, .ref q_p0_ranks, .ref q_p0_counts, .ref q_p0_then, .ref q_p0_table, .ref q_p0_product, .ref q_p0_turned, .ref q_p0_tape, .int v_p0_taped, .int v_p0_hasWhy, .ref q_p0_reasons, .int v_p0_hasImage, .int v_p0_imageN, .int v_p0_imageWay, .ref q_p0_imageLed])), (q_p0_led, .inl (cI, 8, .inl f_p0_led)), (q_p0_were, .inl (cI, 80, .inl f_p0_were)), (q_p0_turned, .inl (cI, 8, .inl f_p0_turned)), (q_p0_reasons, .inl (cI, 3, .inl f_p0_reasons)), (q_p0_tape, .inl (cI, 60, .inl f_p0_tape))] H → va_D A [(q_p0, .inr (7, [.int v_p0_n, .int v_p0_way, .ref q_p0_led, .int v_p0_deeds, .ref q_p0_were, .ref q_p0_paths, .ref q_p0_more, .ref q_p0_patterns, .int v_p0_patternMany, .ref q_p0_loop, .ref q_p0_ranks, .ref q_p0_counts, .ref q_p0_then, .ref q_p0_table, .ref q_p0_product, .ref q_p0_turned, .ref q_p0_tape, .int v_p0_taped, .int v_p0_hasWhy, .ref q_p0_reasons, .int v_p0_hasImage, .int v_p0_imageN, .int v_p0_imageWay, .ref q_p0_imageLed])), (q_p0_led, .inl (cI, 8, .inl f_p0_led)), (q_p0_were, .inl (cI, 80, .inl f_p0_were)), (q_p0_turned, .inl (cI, 8, .inl f_p0_turned)), (q_p0_reasons, .inl (cI, 3, .inl f_p0_reasons)), (q_p0_tape, .inl (cI, 60, .inl f_p0_tape))] → va_S A s.heap H locs → lv_has ls 10 [(0, .ref q_p0), (1, .int l1), (2, .int l2), (3, .int l3)] → W p l e { frames := 1, cells := 0, slots := 0, locals := 25 } s m args below meth c H locs 0 0 Q (F0 m 278 ls [.int s1, .int s0]) := by
                intro l1 l2 l3 s0 s1 v_p0_taped v_p0_deeds f_p0_were f_p0_led v_p0_hasWhy f_p0_reasons f_p0_turned H locs ls h hP hD hS hl
                refine lv_iand hx hb dX9_read_278 ?_
                refine lv_istore (lv' := [(7, .int (s0 &&& s1)), (0, .ref q_p0), (1, .int l1), (2, .int l2), (3, .int l3)]) hx hb dX9_read_279 hl (by decide) rfl (fun ls hl => ?_)
                refine lv_aload_n hx hb dX9_read_281 rfl (lv_at hl 1 rfl) ?_
                refine lv_iconst (v := (0 : Int32)) hx hb dX9_read_282 (by decide) ?_
                refine z_put (ci := 7) (C := RX9) (T := TX9) (N := 24) (ty := .int) (wn := [(q_p0, .inr (7, [.int v_p0_n, .int v_p0_way, .ref q_p0_led, .int v_p0_deeds, .ref q_p0_were, .ref q_p0_paths, .ref q_p0_more, .ref q_p0_patterns, .int v_p0_patternMany, .ref q_p0_loop, .ref q_p0_ranks, .ref q_p0_counts, .ref q_p0_then, .ref q_p0_table, .ref q_p0_product, .ref q_p0_turned, .ref q_p0_tape, .int (0 : Int32), .int v_p0_hasWhy, .ref q_p0_reasons, .int v_p0_hasImage, .int v_p0_imageN, .int v_p0_imageWay, .ref q_p0_imageLed])), (q_p0_led, .inl (cI, 8, .inl f_p0_led)), (q_p0_were, .inl (cI, 80, .inl f_p0_were)), (q_p0_turned, .inl (cI, 8, .inl f_p0_turned)), (q_p0_reasons, .inl (cI, 3, .inl f_p0_reasons)), (q_p0_tape, .inl (cI, 60, .inl f_p0_tape))]) hx hb hts hinX9 tyX9 tyX9_ok nmX9 hown hK hP hD hS 0 rfl rfl 17 (by decide) hw0 (fun _ h9 => h9) rfl (by decide +kernel) rfl rfl (Nat.le_of_ble_eq_true rfl) dX9_read_283 rfl (fun H locs hP hD hS => ?_)
                refine lv_iload hx hb dX9_read_286 (lv_at hl 0 rfl) ?_
                refine lv_if_ne (tgt := 325) hx hb dX9_read_288 (by decide) (fun c2 => ?_) (fun c2 => ?_)
                · have h := And.right h c2
                  refine lv_aload_n hx hb dX9_read_325 rfl (lv_at hl 1 rfl) ?_
                  refine z_cVv (As := []) (rest := []) (wr := [(q_p0_turned, .inl (cI, 8, .inl f_p0_turned)), (q_p0_reasons, .inl (cI, 3, .inl f_p0_reasons)), (q_p0_tape, .inl (cI, 60, .inl f_p0_tape))]) (wn := fun u => [(q_p0, .inr (7, [.int v_p0_n, .int v_p0_way, .ref q_p0_led, .int u.1, .ref q_p0_were, .ref q_p0_paths, .ref q_p0_more, .ref q_p0_patterns, .int v_p0_patternMany, .ref q_p0_loop, .ref q_p0_ranks, .ref q_p0_counts, .ref q_p0_then, .ref q_p0_table, .ref q_p0_product, .ref q_p0_turned, .ref q_p0_tape, .int (0 : Int32), .int v_p0_hasWhy, .ref q_p0_reasons, .int v_p0_hasImage, .int v_p0_imageN, .int v_p0_imageWay, .ref q_p0_imageLed])), (q_p0_led, .inl (cI, 8, .inl f_p0_led)), (q_p0_were, .inl (cI, 80, .inl u.2)), (q_p0_turned, .inl (cI, 8, .inl f_p0_turned)), (q_p0_reasons, .inl (cI, 3, .inl f_p0_reasons)), (q_p0_tape, .inl (cI, 60, .inl f_p0_tape))]) (c_X9_remembers l D cI cJ cB tU tM tS q_p0 q_p0_led q_p0_were q_p0_paths q_p0_more q_p0_patterns q_p0_loop q_p0_ranks q_p0_counts q_p0_then q_p0_table q_p0_product q_p0_turned q_p0_tape q_p0_reasons q_p0_imageLed H.size v_p0_deeds f_p0_led f_p0_were v_p0_n v_p0_way v_p0_patternMany (0 : Int32) v_p0_hasWhy v_p0_hasImage v_p0_imageN v_p0_imageWay _ h) ⟨hx, hb, hml, hown, hts⟩ (cwV 0 hts gX9_read_X9_remembers rfl rfl rfl hd_X9_remembers ⟨Nat.le_of_ble_eq_true rfl, Nat.le_of_ble_eq_true rfl⟩) hX hK hP hD hS hA [0, 1, 2] [3, 4, 5] [3, 4, 5, 0, 1, 2] rfl rfl rfl (by decide) (fun _ => rfl) (q0 := 0) (ci := 7) rfl rfl rfl hl.1 rfl (Nat.le_of_ble_eq_true rfl) ⟨Nat.le_refl _, Nat.le_refl _⟩ dX9_read_326 (fun u3 H locs h hP hD hS => ?_)
                  obtain ⟨m3_0, m3_1⟩ := u3
                  refine lv_iconst (v := (0 : Int32)) hx hb dX9_read_329 (by decide) ?_
                  refine lv_istore (lv' := [(8, .int (0 : Int32)), (7, .int (s0 &&& s1)), (0, .ref q_p0), (1, .int l1), (2, .int l2), (3, .int l3)]) hx hb dX9_read_330 hl (by decide) rfl (fun ls hl => ?_)
                  have k332 : ∀ (l2 : Int32) (v_p0_taped : Int32) (v_p0_deeds : Int32) (f_p0_were : (Nat → Int32)) (v_p0_hasWhy : Int32) (f_p0_reasons : (Nat → Int32)) (f_p0_turned : (Nat → Int32)) (n332 : Nat) (l8 : Int32) (f_p0_led : (Nat → Int32)) (H : Heap) (locs : List Loc) (ls : Array Slot), LP2 (M_X9_read_l332 v_p0_n f_p0_tape P l2 v_p0_taped v_p0_deeds f_p0_were v_p0_hasWhy f_p0_reasons f_p0_turned) n332 l8 f_p0_led → va_P D vwCl [(q_p0, .inr (7, [.int v_p0_n, .int v_p0_way, .ref q_p0_led, .int v_p0_deeds, .ref q_p0_were, .ref q_p0_paths, .ref q_p0_more, .ref q_p0_patterns, .int v_p0_patternMany, .ref q_p0_loop, .ref q_p0_ranks, .ref q_p0_counts, .ref q_p0_then, .ref q_p0_table, .ref q_p0_product, .ref q_p0_turned, .ref q_p0_tape, .int v_p0_taped, .int v_p0_hasWhy, .ref q_p0_reasons, .int v_p0_hasImage, .int v_p0_imageN, .int v_p0_imageWay, .ref q_p0_imageLed])), (q_p0_led, .inl (cI, 8, .inl f_p0_led)), (q_p0_were, .inl (cI, 80, .inl f_p0_were)), (q_p0_turned, .inl (cI, 8, .inl f_p0_turned)), (q_p0_reasons, .inl (cI, 3, .inl f_p0_reasons)), (q_p0_tape, .inl (cI, 60, .inl f_p0_tape))] H → va_D A [(q_p0, .inr (7, [.int v_p0_n, .int v_p0_way, .ref q_p0_led, .int v_p0_deeds, .ref q_p0_were, .ref q_p0_paths, .ref q_p0_more, .ref q_p0_patterns, .int v_p0_patternMany, .ref q_p0_loop, .ref q_p0_ranks, .ref q_p0_counts, .ref q_p0_then, .ref q_p0_table, .ref q_p0_product, .ref q_p0_turned, .ref q_p0_tape, .int v_p0_taped, .int v_p0_hasWhy, .ref q_p0_reasons, .int v_p0_hasImage, .int v_p0_imageN, .int v_p0_imageWay, .ref q_p0_imageLed])), (q_p0_led, .inl (cI, 8, .inl f_p0_led)), (q_p0_were, .inl (cI, 80, .inl f_p0_were)), (q_p0_turned, .inl (cI, 8, .inl f_p0_turned)), (q_p0_reasons, .inl (cI, 3, .inl f_p0_reasons)), (q_p0_tape, .inl (cI, 60, .inl f_p0_tape))] → va_S A s.heap H locs → lv_has ls 10 [(0, .ref q_p0), (2, .int l2), (8, .int l8)] → W p l e { frames := 1, cells := 0, slots := 0, locals := 25 } s m args below meth c H locs 0 0 Q (F0 m 332 ls []) := by
                    intro l2 v_p0_taped v_p0_deeds f_p0_were v_p0_hasWhy f_p0_reasons f_p0_turned n332
                    induction n332 with
                    | zero =>
                      intro l8 f_p0_led H locs ls h
                      exact False.elim h
                    | succ n332 ih332 =>
                      intro l8 f_p0_led H locs ls h hP hD hS hl
                      have h : M_X9_read_l332 v_p0_n f_p0_tape P l2 v_p0_taped v_p0_deeds f_p0_were v_p0_hasWhy f_p0_reasons f_p0_turned (LP2 (M_X9_read_l332 v_p0_n f_p0_tape P l2 v_p0_taped v_p0_deeds f_p0_were v_p0_hasWhy f_p0_reasons f_p0_turned) n332) l8 f_p0_led := h
                      refine lv_iload hx hb dX9_read_332 (lv_at hl 2 rfl) ?_
                      refine lv_aload_n hx hb dX9_read_334 rfl (lv_at hl 0 rfl) ?_
                      refine va_get (ci := 7) (C := RX9) (T := TX9) (N := 24) (v := .int v_p0_n) hx hb hts hinX9 hown hK hP 0 rfl rfl 0 (by decide) hw1 (fun _ h9 => h9) rfl dX9_read_335 ?_
                      refine lv_icmp_ge (tgt := 361) hx hb dX9_read_338 (by decide) (fun c4 => ?_) (fun c4 => ?_)
                      · have h := And.left h c4
                        refine lv_iload_n hx hb dX9_read_361 rfl (lv_at hl 1 rfl) ?_
                        exact z_iret hQ hx hb hr rfl hlocks hK (v_p0_taped, v_p0_deeds, f_p0_were, f_p0_led, v_p0_hasWhy, f_p0_reasons, f_p0_turned) h hP hD hS dX9_read_362
                      · have h := And.right h c4
                        refine lv_aload_n hx hb dX9_read_341 rfl (lv_at hl 0 rfl) ?_
                        refine va_get (ci := 7) (C := RX9) (T := TX9) (N := 24) (v := .ref q_p0_led) hx hb hts hinX9 hown hK hP 0 rfl rfl 2 (by decide) hw2 (fun _ h9 => h9) rfl dX9_read_342 ?_
                        refine lv_iload hx hb dX9_read_345 (lv_at hl 2 rfl) ?_
                        refine lv_aload_n hx hb dX9_read_347 rfl (lv_at hl 0 rfl) ?_
                        refine va_get (ci := 7) (C := RX9) (T := TX9) (N := 24) (v := .ref q_p0_turned) hx hb hts hinX9 hown hK hP 0 rfl rfl 15 (by decide) hw3 (fun _ h9 => h9) rfl dX9_read_348 ?_
                        refine lv_iload hx hb dX9_read_351 (lv_at hl 2 rfl) ?_
                        obtain ⟨hi5, h⟩ := h
                        refine va_iald hx hb hK hP 3 0 rfl rfl hi5 dX9_read_353 ?_
                        obtain ⟨hi6, h⟩ := h
                        refine z_iast (wn := [(q_p0, .inr (7, [.int v_p0_n, .int v_p0_way, .ref q_p0_led, .int v_p0_deeds, .ref q_p0_were, .ref q_p0_paths, .ref q_p0_more, .ref q_p0_patterns, .int v_p0_patternMany, .ref q_p0_loop, .ref q_p0_ranks, .ref q_p0_counts, .ref q_p0_then, .ref q_p0_table, .ref q_p0_product, .ref q_p0_turned, .ref q_p0_tape, .int v_p0_taped, .int v_p0_hasWhy, .ref q_p0_reasons, .int v_p0_hasImage, .int v_p0_imageN, .int v_p0_imageWay, .ref q_p0_imageLed])), (q_p0_led, .inl (cI, 8, .inl (upd f_p0_led l8.toNatClampNeg (f_p0_turned l8.toNatClampNeg)))), (q_p0_were, .inl (cI, 80, .inl f_p0_were)), (q_p0_turned, .inl (cI, 8, .inl f_p0_turned)), (q_p0_reasons, .inl (cI, 3, .inl f_p0_reasons)), (q_p0_tape, .inl (cI, 60, .inl f_p0_tape))]) hx hb hK hP hD hS 1 rfl hi6 dX9_read_354 rfl (fun H locs hP hD hS => ?_)
                        refine lv_iinc (v := (l8 + 1)) (lv' := [(8, .int (l8 + 1)), (0, .ref q_p0), (2, .int l2)]) hx hb dX9_read_355 hl (k := 2) rfl rfl (by decide) rfl (fun ls hl => ?_)
                        refine lv_goto (tgt := 332) hx hb dX9_read_358 (by decide) ?_
                        exact ih332 (l8 + 1) (upd f_p0_led l8.toNatClampNeg (f_p0_turned l8.toNatClampNeg)) _ _ _ h hP hD hS (lv_sub hl [1, 2, 0] rfl)
                  obtain ⟨n332, h⟩ := h
                  exact k332 l2 (0 : Int32) m3_0 m3_1 v_p0_hasWhy f_p0_reasons f_p0_turned n332 (0 : Int32) f_p0_led _ _ _ h hP hD hS (lv_sub hl [2, 4, 0] rfl)
                · have h := And.left h c2
                  refine lv_aload_n hx hb dX9_read_291 rfl (lv_at hl 1 rfl) ?_
                  refine lv_iconst (v := (1 : Int32)) hx hb dX9_read_292 (by decide) ?_
                  refine z_put (ci := 7) (C := RX9) (T := TX9) (N := 24) (ty := .boolean) (wn := [(q_p0, .inr (7, [.int v_p0_n, .int v_p0_way, .ref q_p0_led, .int v_p0_deeds, .ref q_p0_were, .ref q_p0_paths, .ref q_p0_more, .ref q_p0_patterns, .int v_p0_patternMany, .ref q_p0_loop, .ref q_p0_ranks, .ref q_p0_counts, .ref q_p0_then, .ref q_p0_table, .ref q_p0_product, .ref q_p0_turned, .ref q_p0_tape, .int (0 : Int32), .int (1 : Int32), .ref q_p0_reasons, .int v_p0_hasImage, .int v_p0_imageN, .int v_p0_imageWay, .ref q_p0_imageLed])), (q_p0_led, .inl (cI, 8, .inl f_p0_led)), (q_p0_were, .inl (cI, 80, .inl f_p0_were)), (q_p0_turned, .inl (cI, 8, .inl f_p0_turned)), (q_p0_reasons, .inl (cI, 3, .inl f_p0_reasons)), (q_p0_tape, .inl (cI, 60, .inl f_p0_tape))]) hx hb hts hinX9 tyX9 tyX9_ok nmX9 hown hK hP hD hS 0 rfl rfl 18 (by decide) hw4 (fun _ h9 => h9) rfl (by decide +kernel) rfl rfl (Nat.le_of_ble_eq_true rfl) dX9_read_293 rfl (fun H locs hP hD hS => ?_)
                  refine lv_aload_n hx hb dX9_read_296 rfl (lv_at hl 1 rfl) ?_
                  refine va_get (ci := 7) (C := RX9) (T := TX9) (N := 24) (v := .ref q_p0_reasons) hx hb hts hinX9 hown hK hP 0 rfl rfl 19 (by decide) hw5 (fun _ h9 => h9) rfl dX9_read_297 ?_
                  refine lv_iconst (v := (0 : Int32)) hx hb dX9_read_300 (by decide) ?_
                  refine lv_iload_n hx hb dX9_read_301 rfl (lv_at hl 3 rfl) ?_
                  obtain ⟨hi7, h⟩ := h
                  refine z_iast (wn := [(q_p0, .inr (7, [.int v_p0_n, .int v_p0_way, .ref q_p0_led, .int v_p0_deeds, .ref q_p0_were, .ref q_p0_paths, .ref q_p0_more, .ref q_p0_patterns, .int v_p0_patternMany, .ref q_p0_loop, .ref q_p0_ranks, .ref q_p0_counts, .ref q_p0_then, .ref q_p0_table, .ref q_p0_product, .ref q_p0_turned, .ref q_p0_tape, .int (0 : Int32), .int (1 : Int32), .ref q_p0_reasons, .int v_p0_hasImage, .int v_p0_imageN, .int v_p0_imageWay, .ref q_p0_imageLed])), (q_p0_led, .inl (cI, 8, .inl f_p0_led)), (q_p0_were, .inl (cI, 80, .inl f_p0_were)), (q_p0_turned, .inl (cI, 8, .inl f_p0_turned)), (q_p0_reasons, .inl (cI, 3, .inl (upd f_p0_reasons (0 : Int32).toNatClampNeg l2))), (q_p0_tape, .inl (cI, 60, .inl f_p0_tape))]) hx hb hK hP hD hS 4 rfl hi7 dX9_read_302 rfl (fun H locs hP hD hS => ?_)
                  refine lv_aload_n hx hb dX9_read_303 rfl (lv_at hl 1 rfl) ?_
                  refine va_get (ci := 7) (C := RX9) (T := TX9) (N := 24) (v := .ref q_p0_reasons) hx hb hts hinX9 hown hK hP 0 rfl rfl 19 (by decide) hw5 (fun _ h9 => h9) rfl dX9_read_304 ?_
                  refine lv_iconst (v := (1 : Int32)) hx hb dX9_read_307 (by decide) ?_
                  refine lv_iload_n hx hb dX9_read_308 rfl (lv_at hl 2 rfl) ?_
                  refine z_cSi (As := [.int l1]) (rest := [.int (1 : Int32), .ref q_p0_reasons]) (wr := [(q_p0, .inr (7, [.int v_p0_n, .int v_p0_way, .ref q_p0_led, .int v_p0_deeds, .ref q_p0_were, .ref q_p0_paths, .ref q_p0_more, .ref q_p0_patterns, .int v_p0_patternMany, .ref q_p0_loop, .ref q_p0_ranks, .ref q_p0_counts, .ref q_p0_then, .ref q_p0_table, .ref q_p0_product, .ref q_p0_turned, .ref q_p0_tape, .int (0 : Int32), .int (1 : Int32), .ref q_p0_reasons, .int v_p0_hasImage, .int v_p0_imageN, .int v_p0_imageWay, .ref q_p0_imageLed])), (q_p0_led, .inl (cI, 8, .inl f_p0_led)), (q_p0_were, .inl (cI, 80, .inl f_p0_were)), (q_p0_turned, .inl (cI, 8, .inl f_p0_turned)), (q_p0_reasons, .inl (cI, 3, .inl (upd f_p0_reasons (0 : Int32).toNatClampNeg l2))), (q_p0_tape, .inl (cI, 60, .inl f_p0_tape))]) (wn := fun u => [(q_p0, .inr (7, [.int v_p0_n, .int v_p0_way, .ref q_p0_led, .int v_p0_deeds, .ref q_p0_were, .ref q_p0_paths, .ref q_p0_more, .ref q_p0_patterns, .int v_p0_patternMany, .ref q_p0_loop, .ref q_p0_ranks, .ref q_p0_counts, .ref q_p0_then, .ref q_p0_table, .ref q_p0_product, .ref q_p0_turned, .ref q_p0_tape, .int (0 : Int32), .int (1 : Int32), .ref q_p0_reasons, .int v_p0_hasImage, .int v_p0_imageN, .int v_p0_imageWay, .ref q_p0_imageLed])), (q_p0_led, .inl (cI, 8, .inl f_p0_led)), (q_p0_were, .inl (cI, 80, .inl f_p0_were)), (q_p0_turned, .inl (cI, 8, .inl f_p0_turned)), (q_p0_reasons, .inl (cI, 3, .inl (upd f_p0_reasons (0 : Int32).toNatClampNeg l2))), (q_p0_tape, .inl (cI, 60, .inl f_p0_tape))]) (c_J6_bitCount_0f7a4 l D cI cJ cB tU tM tS  H.size l1 _ h) ⟨hx, hb, hml, hown, hts⟩ (va_cwS 1 hts gX9_read_J6_bitCount_0f7a4 rfl rfl rfl hd_J6_bitCount_0f7a4.2 ⟨Nat.le_of_ble_eq_true rfl, Nat.le_of_ble_eq_true rfl⟩) hX hK hP hD hS hA [] [0, 1, 2, 3, 4, 5] [0, 1, 2, 3, 4, 5] rfl rfl rfl (by decide) (fun _ => rfl) rfl hl.1 rfl (Nat.le_of_ble_eq_true rfl) ⟨Nat.le_refl _, Nat.le_refl _⟩ dX9_read_309 (fun r8 u8 H locs h hP hD hS => ?_)
                  obtain ⟨hi9, h⟩ := h
                  refine z_iast (wn := [(q_p0, .inr (7, [.int v_p0_n, .int v_p0_way, .ref q_p0_led, .int v_p0_deeds, .ref q_p0_were, .ref q_p0_paths, .ref q_p0_more, .ref q_p0_patterns, .int v_p0_patternMany, .ref q_p0_loop, .ref q_p0_ranks, .ref q_p0_counts, .ref q_p0_then, .ref q_p0_table, .ref q_p0_product, .ref q_p0_turned, .ref q_p0_tape, .int (0 : Int32), .int (1 : Int32), .ref q_p0_reasons, .int v_p0_hasImage, .int v_p0_imageN, .int v_p0_imageWay, .ref q_p0_imageLed])), (q_p0_led, .inl (cI, 8, .inl f_p0_led)), (q_p0_were, .inl (cI, 80, .inl f_p0_were)), (q_p0_turned, .inl (cI, 8, .inl f_p0_turned)), (q_p0_reasons, .inl (cI, 3, .inl (upd (upd f_p0_reasons (0 : Int32).toNatClampNeg l2) (1 : Int32).toNatClampNeg r8))), (q_p0_tape, .inl (cI, 60, .inl f_p0_tape))]) hx hb hK hP hD hS 4 rfl hi9 dX9_read_312 rfl (fun H locs hP hD hS => ?_)
                  refine lv_aload_n hx hb dX9_read_313 rfl (lv_at hl 1 rfl) ?_
                  refine va_get (ci := 7) (C := RX9) (T := TX9) (N := 24) (v := .ref q_p0_reasons) hx hb hts hinX9 hown hK hP 0 rfl rfl 19 (by decide) hw5 (fun _ h9 => h9) rfl dX9_read_314 ?_
                  refine lv_iconst (v := (2 : Int32)) hx hb dX9_read_317 (by decide) ?_
                  refine lv_iload_n hx hb dX9_read_318 rfl (lv_at hl 4 rfl) ?_
                  obtain ⟨hi10, h⟩ := h
                  refine z_iast (wn := [(q_p0, .inr (7, [.int v_p0_n, .int v_p0_way, .ref q_p0_led, .int v_p0_deeds, .ref q_p0_were, .ref q_p0_paths, .ref q_p0_more, .ref q_p0_patterns, .int v_p0_patternMany, .ref q_p0_loop, .ref q_p0_ranks, .ref q_p0_counts, .ref q_p0_then, .ref q_p0_table, .ref q_p0_product, .ref q_p0_turned, .ref q_p0_tape, .int (0 : Int32), .int (1 : Int32), .ref q_p0_reasons, .int v_p0_hasImage, .int v_p0_imageN, .int v_p0_imageWay, .ref q_p0_imageLed])), (q_p0_led, .inl (cI, 8, .inl f_p0_led)), (q_p0_were, .inl (cI, 80, .inl f_p0_were)), (q_p0_turned, .inl (cI, 8, .inl f_p0_turned)), (q_p0_reasons, .inl (cI, 3, .inl (upd (upd (upd f_p0_reasons (0 : Int32).toNatClampNeg l2) (1 : Int32).toNatClampNeg r8) (2 : Int32).toNatClampNeg l3))), (q_p0_tape, .inl (cI, 60, .inl f_p0_tape))]) hx hb hK hP hD hS 4 rfl hi10 dX9_read_319 rfl (fun H locs hP hD hS => ?_)
                  refine lv_bipush (v := (-100 : Int32)) hx hb dX9_read_320 (by decide) ?_
                  refine lv_iload_n hx hb dX9_read_322 rfl (lv_at hl 4 rfl) ?_
                  refine lv_isub hx hb dX9_read_323 ?_
                  exact z_iret hQ hx hb hr rfl hlocks hK ((0 : Int32), v_p0_deeds, f_p0_were, f_p0_led, (1 : Int32), (upd (upd (upd f_p0_reasons (0 : Int32).toNatClampNeg l2) (1 : Int32).toNatClampNeg r8) (2 : Int32).toNatClampNeg l3), f_p0_turned) h hP hD hS dX9_read_324
              refine lv_if_ne (tgt := 277) hx hb dX9_read_266 (by decide) (fun c11 => ?_) (fun c11 => ?_)
              · have h := And.right h c11
                refine lv_iconst (v := (0 : Int32)) hx hb dX9_read_277 (by decide) ?_
                exact k278 l1 l2 l3 l7 (0 : Int32) v_p0_taped v_p0_deeds f_p0_were f_p0_led v_p0_hasWhy f_p0_reasons f_p0_turned _ _ _ h hP hD hS (lv_sub hl [0, 1, 2, 3] rfl)
              · have h := And.left h c11
                refine lv_iload_n hx hb dX9_read_269 rfl (lv_at hl 2 rfl) ?_
                refine lv_if_le (tgt := 277) hx hb dX9_read_270 (by decide) (fun c12 => ?_) (fun c12 => ?_)
                · have h := And.left h c12
                  refine lv_iconst (v := (0 : Int32)) hx hb dX9_read_277 (by decide) ?_
                  exact k278 l1 l2 l3 l7 (0 : Int32) v_p0_taped v_p0_deeds f_p0_were f_p0_led v_p0_hasWhy f_p0_reasons f_p0_turned _ _ _ h hP hD hS (lv_sub hl [0, 1, 2, 3] rfl)
                · have h := And.right h c12
                  refine lv_iconst (v := (1 : Int32)) hx hb dX9_read_273 (by decide) ?_
                  refine lv_goto (tgt := 278) hx hb dX9_read_274 (by decide) ?_
                  exact k278 l1 l2 l3 l7 (1 : Int32) v_p0_taped v_p0_deeds f_p0_were f_p0_led v_p0_hasWhy f_p0_reasons f_p0_turned _ _ _ h hP hD hS (lv_sub hl [0, 1, 2, 3] rfl)
            refine lv_if_eq (tgt := 262) hx hb dX9_read_45 (by decide) (fun c13 => ?_) (fun c13 => ?_)
            · have h := And.left h c13
              exact k262 l1 l2 l3 l6 l7 v_p0_taped v_p0_deeds f_p0_were f_p0_led v_p0_hasWhy f_p0_reasons f_p0_turned _ _ _ h hP hD hS (lv_sub hl [0, 1, 2, 3, 6, 7] rfl)
            · have h := And.right h c13
              refine lv_iload_n hx hb dX9_read_48 rfl (lv_at hl 3 rfl) ?_
              refine lv_aload_n hx hb dX9_read_49 rfl (lv_at hl 0 rfl) ?_
              refine va_get (ci := 7) (C := RX9) (T := TX9) (N := 24) (v := .int v_p0_taped) hx hb hts hinX9 hown hK hP 0 rfl rfl 17 (by decide) hw0 (fun _ h9 => h9) rfl dX9_read_50 ?_
              refine lv_icmp_ge (tgt := 262) hx hb dX9_read_53 (by decide) (fun c14 => ?_) (fun c14 => ?_)
              · have h := And.left h c14
                exact k262 l1 l2 l3 l6 l7 v_p0_taped v_p0_deeds f_p0_were f_p0_led v_p0_hasWhy f_p0_reasons f_p0_turned _ _ _ h hP hD hS (lv_sub hl [0, 1, 2, 3, 6, 7] rfl)
              · have h := And.right h c14
                refine lv_aload_n hx hb dX9_read_56 rfl (lv_at hl 0 rfl) ?_
                refine lv_iload_n hx hb dX9_read_57 rfl (lv_at hl 3 rfl) ?_
                refine z_cVi (As := [.int l3]) (rest := []) (wr := [(q_p0_led, .inl (cI, 8, .inl f_p0_led)), (q_p0_were, .inl (cI, 80, .inl f_p0_were)), (q_p0_turned, .inl (cI, 8, .inl f_p0_turned)), (q_p0_reasons, .inl (cI, 3, .inl f_p0_reasons))]) (wn := fun u => [(q_p0, .inr (7, [.int v_p0_n, .int v_p0_way, .ref q_p0_led, .int v_p0_deeds, .ref q_p0_were, .ref q_p0_paths, .ref q_p0_more, .ref q_p0_patterns, .int v_p0_patternMany, .ref q_p0_loop, .ref q_p0_ranks, .ref q_p0_counts, .ref q_p0_then, .ref q_p0_table, .ref q_p0_product, .ref q_p0_turned, .ref q_p0_tape, .int v_p0_taped, .int v_p0_hasWhy, .ref q_p0_reasons, .int v_p0_hasImage, .int v_p0_imageN, .int v_p0_imageWay, .ref q_p0_imageLed])), (q_p0_led, .inl (cI, 8, .inl f_p0_led)), (q_p0_were, .inl (cI, 80, .inl f_p0_were)), (q_p0_turned, .inl (cI, 8, .inl f_p0_turned)), (q_p0_reasons, .inl (cI, 3, .inl f_p0_reasons)), (q_p0_tape, .inl (cI, 60, .inl f_p0_tape))]) (c_X9_byteAt l D cI cJ cB tU tM tS q_p0 q_p0_led q_p0_were q_p0_paths q_p0_more q_p0_patterns q_p0_loop q_p0_ranks q_p0_counts q_p0_then q_p0_table q_p0_product q_p0_turned q_p0_tape q_p0_reasons q_p0_imageLed H.size l3 v_p0_taped f_p0_tape v_p0_n v_p0_way v_p0_deeds v_p0_patternMany v_p0_hasWhy v_p0_hasImage v_p0_imageN v_p0_imageWay _ h) ⟨hx, hb, hml, hown, hts⟩ (cwV 1 hts gX9_read_X9_byteAt rfl rfl rfl hd_X9_byteAt ⟨Nat.le_of_ble_eq_true rfl, Nat.le_of_ble_eq_true rfl⟩) hX hK hP hD hS hA [0, 5] [1, 2, 3, 4] [4, 0, 1, 2, 3, 5] rfl rfl rfl (by decide) (fun _ => rfl) (q0 := 0) (ci := 7) rfl rfl rfl hl.1 rfl (Nat.le_of_ble_eq_true rfl) ⟨Nat.le_refl _, Nat.le_refl _⟩ dX9_read_58 (fun r15 u15 H locs h hP hD hS => ?_)
                refine lv_istore (lv' := [(8, .int r15), (0, .ref q_p0), (1, .int l1), (2, .int l2), (3, .int l3), (4, .int l4), (5, .int l5), (6, .int l6), (7, .int l7)]) hx hb dX9_read_61 hl (by decide) rfl (fun ls hl => ?_)
                refine lv_iload hx hb dX9_read_63 (lv_at hl 7 rfl) ?_
                have k246 : ∀ (l1 : Int32) (l2 : Int32) (l3 : Int32) (l4 : Int32) (l5 : Int32) (l6 : Int32) (l7 : Int32) (f_p0_turned : (Nat → Int32)) (H : Heap) (locs : List Loc) (ls : Array Slot), M_X9_read_b246 v_p0_n f_p0_tape (LP8 (M_X9_read_l43 v_p0_n f_p0_tape P v_p0_taped v_p0_deeds f_p0_were f_p0_led v_p0_hasWhy f_p0_reasons) n43) P l1 l2 l3 l4 l5 l6 l7 v_p0_taped v_p0_deeds f_p0_were f_p0_led v_p0_hasWhy f_p0_reasons f_p0_turned → va_P D vwCl [(q_p0, .inr (7, [.int v_p0_n, .int v_p0_way, .ref q_p0_led, .int v_p0_deeds, .ref q_p0_were, .ref q_p0_paths, .ref q_p0_more, .ref q_p0_patterns, .int v_p0_patternMany, .ref q_p0_loop, .ref q_p0_ranks, .ref q_p0_counts, .ref q_p0_then, .ref q_p0_table, .ref q_p0_product, .ref q_p0_turned, .ref q_p0_tape, .int v_p0_taped, .int v_p0_hasWhy, .ref q_p0_reasons, .int v_p0_hasImage, .int v_p0_imageN, .int v_p0_imageWay, .ref q_p0_imageLed])), (q_p0_led, .inl (cI, 8, .inl f_p0_led)), (q_p0_were, .inl (cI, 80, .inl f_p0_were)), (q_p0_turned, .inl (cI, 8, .inl f_p0_turned)), (q_p0_reasons, .inl (cI, 3, .inl f_p0_reasons)), (q_p0_tape, .inl (cI, 60, .inl f_p0_tape))] H → va_D A [(q_p0, .inr (7, [.int v_p0_n, .int v_p0_way, .ref q_p0_led, .int v_p0_deeds, .ref q_p0_were, .ref q_p0_paths, .ref q_p0_more, .ref q_p0_patterns, .int v_p0_patternMany, .ref q_p0_loop, .ref q_p0_ranks, .ref q_p0_counts, .ref q_p0_then, .ref q_p0_table, .ref q_p0_product, .ref q_p0_turned, .ref q_p0_tape, .int v_p0_taped, .int v_p0_hasWhy, .ref q_p0_reasons, .int v_p0_hasImage, .int v_p0_imageN, .int v_p0_imageWay, .ref q_p0_imageLed])), (q_p0_led, .inl (cI, 8, .inl f_p0_led)), (q_p0_were, .inl (cI, 80, .inl f_p0_were)), (q_p0_turned, .inl (cI, 8, .inl f_p0_turned)), (q_p0_reasons, .inl (cI, 3, .inl f_p0_reasons)), (q_p0_tape, .inl (cI, 60, .inl f_p0_tape))] → va_S A s.heap H locs → lv_has ls 10 [(0, .ref q_p0), (1, .int l1), (2, .int l2), (3, .int l3), (4, .int l4), (5, .int l5), (6, .int l6), (7, .int l7)] → W p l e { frames := 1, cells := 0, slots := 0, locals := 25 } s m args below meth c H locs 0 0 Q (F0 m 246 ls []) := by
                  intro l1 l2 l3 l4 l5 l6 l7 f_p0_turned H locs ls h hP hD hS hl
                  refine lv_iload_n hx hb dX9_read_246 rfl (lv_at hl 3 rfl) ?_
                  refine lv_iload hx hb dX9_read_247 (lv_at hl 7 rfl) ?_
                  refine lv_if_eq (tgt := 256) hx hb dX9_read_249 (by decide) (fun c16 => ?_) (fun c16 => ?_)
                  · have h := And.left h c16
                    refine lv_iconst (v := (0 : Int32)) hx hb dX9_read_256 (by decide) ?_
                    refine lv_iadd hx hb dX9_read_257 ?_
                    refine lv_istore_n (lv' := [(3, .int (l3 + (0 : Int32))), (0, .ref q_p0), (1, .int l1), (2, .int l2), (4, .int l4), (5, .int l5), (6, .int l6), (7, .int l7)]) hx hb dX9_read_258 rfl hl (by decide) rfl (fun ls hl => ?_)
                    refine lv_goto (tgt := 43) hx hb dX9_read_259 (by decide) ?_
                    exact ih43 l1 l2 (l3 + (0 : Int32)) l4 l5 l6 l7 f_p0_turned _ _ _ h hP hD hS (lv_sub hl [1, 2, 3, 0, 4, 5, 6, 7] rfl)
                  · have h := And.right h c16
                    refine lv_iconst (v := (1 : Int32)) hx hb dX9_read_252 (by decide) ?_
                    refine lv_goto (tgt := 257) hx hb dX9_read_253 (by decide) ?_
                    refine lv_iadd hx hb dX9_read_257 ?_
                    refine lv_istore_n (lv' := [(3, .int (l3 + (1 : Int32))), (0, .ref q_p0), (1, .int l1), (2, .int l2), (4, .int l4), (5, .int l5), (6, .int l6), (7, .int l7)]) hx hb dX9_read_258 rfl hl (by decide) rfl (fun ls hl => ?_)
                    refine lv_goto (tgt := 43) hx hb dX9_read_259 (by decide) ?_
                    exact ih43 l1 l2 (l3 + (1 : Int32)) l4 l5 l6 l7 f_p0_turned _ _ _ h hP hD hS (lv_sub hl [1, 2, 3, 0, 4, 5, 6, 7] rfl)
                refine lv_if_ne (tgt := 91) hx hb dX9_read_65 (by decide) (fun c17 => ?_) (fun c17 => ?_)
                · have h := And.right h c17
                  refine lv_iload hx hb dX9_read_91 (lv_at hl 7 rfl) ?_
                  refine lv_iconst (v := (1 : Int32)) hx hb dX9_read_93 (by decide) ?_
                  refine lv_icmp_ne (tgt := 192) hx hb dX9_read_94 (by decide) (fun c18 => ?_) (fun c18 => ?_)
                  · have h := And.right h c18
                    refine lv_iload hx hb dX9_read_192 (lv_at hl 0 rfl) ?_
                    refine lv_bipush (v := (32 : Int32)) hx hb dX9_read_194 (by decide) ?_
                    have k211 : ∀ (l1 : Int32) (l2 : Int32) (l3 : Int32) (l4 : Int32) (l5 : Int32) (l8 : Int32) (s0 : Int32) (f_p0_turned : (Nat → Int32)) (H : Heap) (locs : List Loc) (ls : Array Slot), M_X9_read_b211 v_p0_n f_p0_tape (LP8 (M_X9_read_l43 v_p0_n f_p0_tape P v_p0_taped v_p0_deeds f_p0_were f_p0_led v_p0_hasWhy f_p0_reasons) n43) P l1 l2 l3 l4 l5 l8 s0 v_p0_taped v_p0_deeds f_p0_were f_p0_led v_p0_hasWhy f_p0_reasons f_p0_turned → va_P D vwCl [(q_p0, .inr (7, [.int v_p0_n, .int v_p0_way, .ref q_p0_led, .int v_p0_deeds, .ref q_p0_were, .ref q_p0_paths, .ref q_p0_more, .ref q_p0_patterns, .int v_p0_patternMany, .ref q_p0_loop, .ref q_p0_ranks, .ref q_p0_counts, .ref q_p0_then, .ref q_p0_table, .ref q_p0_product, .ref q_p0_turned, .ref q_p0_tape, .int v_p0_taped, .int v_p0_hasWhy, .ref q_p0_reasons, .int v_p0_hasImage, .int v_p0_imageN, .int v_p0_imageWay, .ref q_p0_imageLed])), (q_p0_led, .inl (cI, 8, .inl f_p0_led)), (q_p0_were, .inl (cI, 80, .inl f_p0_were)), (q_p0_turned, .inl (cI, 8, .inl f_p0_turned)), (q_p0_reasons, .inl (cI, 3, .inl f_p0_reasons)), (q_p0_tape, .inl (cI, 60, .inl f_p0_tape))] H → va_D A [(q_p0, .inr (7, [.int v_p0_n, .int v_p0_way, .ref q_p0_led, .int v_p0_deeds, .ref q_p0_were, .ref q_p0_paths, .ref q_p0_more, .ref q_p0_patterns, .int v_p0_patternMany, .ref q_p0_loop, .ref q_p0_ranks, .ref q_p0_counts, .ref q_p0_then, .ref q_p0_table, .ref q_p0_product, .ref q_p0_turned, .ref q_p0_tape, .int v_p0_taped, .int v_p0_hasWhy, .ref q_p0_reasons, .int v_p0_hasImage, .int v_p0_imageN, .int v_p0_imageWay, .ref q_p0_imageLed])), (q_p0_led, .inl (cI, 8, .inl f_p0_led)), (q_p0_were, .inl (cI, 80, .inl f_p0_were)), (q_p0_turned, .inl (cI, 8, .inl f_p0_turned)), (q_p0_reasons, .inl (cI, 3, .inl f_p0_reasons)), (q_p0_tape, .inl (cI, 60, .inl f_p0_tape))] → va_S A s.heap H locs → lv_has ls 10 [(0, .ref q_p0), (1, .int l1), (2, .int l2), (3, .int l3), (4, .int l4), (5, .int l5), (8, .int l8)] → W p l e { frames := 1, cells := 0, slots := 0, locals := 25 } s m args below meth c H locs 0 0 Q (F0 m 211 ls [.int s0]) := by
                      intro l1 l2 l3 l4 l5 l8 s0 f_p0_turned H locs ls h hP hD hS hl
                      refine lv_istore (lv' := [(7, .int s0), (0, .ref q_p0), (1, .int l1), (2, .int l2), (3, .int l3), (4, .int l4), (5, .int l5), (8, .int l8)]) hx hb dX9_read_211 hl (by decide) rfl (fun ls hl => ?_)
                      refine lv_iload hx hb dX9_read_213 (lv_at hl 7 rfl) ?_
                      refine lv_bipush (v := (41 : Int32)) hx hb dX9_read_215 (by decide) ?_
                      have k232 : ∀ (l1 : Int32) (l2 : Int32) (l3 : Int32) (l4 : Int32) (l5 : Int32) (l7 : Int32) (l8 : Int32) (f_p0_turned : (Nat → Int32)) (H : Heap) (locs : List Loc) (ls : Array Slot), M_X9_read_b232 v_p0_n f_p0_tape (LP8 (M_X9_read_l43 v_p0_n f_p0_tape P v_p0_taped v_p0_deeds f_p0_were f_p0_led v_p0_hasWhy f_p0_reasons) n43) P l1 l2 l3 l4 l5 l7 l8 v_p0_taped v_p0_deeds f_p0_were f_p0_led v_p0_hasWhy f_p0_reasons f_p0_turned → va_P D vwCl [(q_p0, .inr (7, [.int v_p0_n, .int v_p0_way, .ref q_p0_led, .int v_p0_deeds, .ref q_p0_were, .ref q_p0_paths, .ref q_p0_more, .ref q_p0_patterns, .int v_p0_patternMany, .ref q_p0_loop, .ref q_p0_ranks, .ref q_p0_counts, .ref q_p0_then, .ref q_p0_table, .ref q_p0_product, .ref q_p0_turned, .ref q_p0_tape, .int v_p0_taped, .int v_p0_hasWhy, .ref q_p0_reasons, .int v_p0_hasImage, .int v_p0_imageN, .int v_p0_imageWay, .ref q_p0_imageLed])), (q_p0_led, .inl (cI, 8, .inl f_p0_led)), (q_p0_were, .inl (cI, 80, .inl f_p0_were)), (q_p0_turned, .inl (cI, 8, .inl f_p0_turned)), (q_p0_reasons, .inl (cI, 3, .inl f_p0_reasons)), (q_p0_tape, .inl (cI, 60, .inl f_p0_tape))] H → va_D A [(q_p0, .inr (7, [.int v_p0_n, .int v_p0_way, .ref q_p0_led, .int v_p0_deeds, .ref q_p0_were, .ref q_p0_paths, .ref q_p0_more, .ref q_p0_patterns, .int v_p0_patternMany, .ref q_p0_loop, .ref q_p0_ranks, .ref q_p0_counts, .ref q_p0_then, .ref q_p0_table, .ref q_p0_product, .ref q_p0_turned, .ref q_p0_tape, .int v_p0_taped, .int v_p0_hasWhy, .ref q_p0_reasons, .int v_p0_hasImage, .int v_p0_imageN, .int v_p0_imageWay, .ref q_p0_imageLed])), (q_p0_led, .inl (cI, 8, .inl f_p0_led)), (q_p0_were, .inl (cI, 80, .inl f_p0_were)), (q_p0_turned, .inl (cI, 8, .inl f_p0_turned)), (q_p0_reasons, .inl (cI, 3, .inl f_p0_reasons)), (q_p0_tape, .inl (cI, 60, .inl f_p0_tape))] → va_S A s.heap H locs → lv_has ls 10 [(0, .ref q_p0), (1, .int l1), (2, .int l2), (3, .int l3), (4, .int l4), (5, .int l5), (7, .int l7), (8, .int l8)] → W p l e { frames := 1, cells := 0, slots := 0, locals := 25 } s m args below meth c H locs 0 0 Q (F0 m 232 ls []) := by
                        intro l1 l2 l3 l4 l5 l7 l8 f_p0_turned H locs ls h hP hD hS hl
                        refine lv_iload hx hb dX9_read_232 (lv_at hl 7 rfl) ?_
                        refine lv_bipush (v := (41 : Int32)) hx hb dX9_read_234 (by decide) ?_
                        refine lv_icmp_ne (tgt := 243) hx hb dX9_read_236 (by decide) (fun c19 => ?_) (fun c19 => ?_)
                        · have h := And.right h c19
                          refine lv_iconst (v := (1 : Int32)) hx hb dX9_read_243 (by decide) ?_
                          refine lv_istore (lv' := [(6, .int (1 : Int32)), (0, .ref q_p0), (1, .int l1), (2, .int l2), (3, .int l3), (4, .int l4), (5, .int l5), (7, .int l7), (8, .int l8)]) hx hb dX9_read_244 hl (by decide) rfl (fun ls hl => ?_)
                          exact k246 l1 l2 l3 l4 l5 (1 : Int32) l7 f_p0_turned _ _ _ h hP hD hS (lv_sub hl [1, 2, 3, 4, 5, 6, 0, 7] rfl)
                        · have h := And.left h c19
                          refine lv_iconst (v := (0 : Int32)) hx hb dX9_read_239 (by decide) ?_
                          refine lv_goto (tgt := 244) hx hb dX9_read_240 (by decide) ?_
                          refine lv_istore (lv' := [(6, .int (0 : Int32)), (0, .ref q_p0), (1, .int l1), (2, .int l2), (3, .int l3), (4, .int l4), (5, .int l5), (7, .int l7), (8, .int l8)]) hx hb dX9_read_244 hl (by decide) rfl (fun ls hl => ?_)
                          exact k246 l1 l2 l3 l4 l5 (0 : Int32) l7 f_p0_turned _ _ _ h hP hD hS (lv_sub hl [1, 2, 3, 4, 5, 6, 0, 7] rfl)
                      refine lv_icmp_ne (tgt := 232) hx hb dX9_read_217 (by decide) (fun c20 => ?_) (fun c20 => ?_)
                      · have h := And.right h c20
                        exact k232 l1 l2 l3 l4 l5 s0 l8 f_p0_turned _ _ _ h hP hD hS (lv_sub hl [1, 2, 3, 4, 5, 6, 0, 7] rfl)
                      · have h := And.left h c20
                        refine lv_aload_n hx hb dX9_read_220 rfl (lv_at hl 1 rfl) ?_
                        refine va_get (ci := 7) (C := RX9) (T := TX9) (N := 24) (v := .ref q_p0_turned) hx hb hts hinX9 hown hK hP 0 rfl rfl 15 (by decide) hw3 (fun _ h9 => h9) rfl dX9_read_221 ?_
                        refine lv_iload hx hb dX9_read_224 (lv_at hl 6 rfl) ?_
                        refine lv_iload hx hb dX9_read_226 (lv_at hl 5 rfl) ?_
                        obtain ⟨hi21, h⟩ := h
                        refine z_iast (wn := [(q_p0, .inr (7, [.int v_p0_n, .int v_p0_way, .ref q_p0_led, .int v_p0_deeds, .ref q_p0_were, .ref q_p0_paths, .ref q_p0_more, .ref q_p0_patterns, .int v_p0_patternMany, .ref q_p0_loop, .ref q_p0_ranks, .ref q_p0_counts, .ref q_p0_then, .ref q_p0_table, .ref q_p0_product, .ref q_p0_turned, .ref q_p0_tape, .int v_p0_taped, .int v_p0_hasWhy, .ref q_p0_reasons, .int v_p0_hasImage, .int v_p0_imageN, .int v_p0_imageWay, .ref q_p0_imageLed])), (q_p0_led, .inl (cI, 8, .inl f_p0_led)), (q_p0_were, .inl (cI, 80, .inl f_p0_were)), (q_p0_turned, .inl (cI, 8, .inl (upd f_p0_turned l5.toNatClampNeg l4))), (q_p0_reasons, .inl (cI, 3, .inl f_p0_reasons)), (q_p0_tape, .inl (cI, 60, .inl f_p0_tape))]) hx hb hK hP hD hS 3 rfl hi21 dX9_read_228 rfl (fun H locs hP hD hS => ?_)
                        refine lv_iinc (v := (l2 + 1)) (lv' := [(2, .int (l2 + 1)), (7, .int s0), (0, .ref q_p0), (1, .int l1), (3, .int l3), (4, .int l4), (5, .int l5), (8, .int l8)]) hx hb dX9_read_229 hl (k := 3) rfl rfl (by decide) rfl (fun ls hl => ?_)
                        exact k232 l1 (l2 + 1) l3 l4 l5 s0 l8 (upd f_p0_turned l5.toNatClampNeg l4) _ _ _ h hP hD hS (lv_sub hl [2, 3, 0, 4, 5, 6, 1, 7] rfl)
                    refine lv_icmp_eq (tgt := 206) hx hb dX9_read_196 (by decide) (fun c22 => ?_) (fun c22 => ?_)
                    · have h := And.left h c22
                      refine lv_iconst (v := (1 : Int32)) hx hb dX9_read_206 (by decide) ?_
                      refine lv_goto (tgt := 211) hx hb dX9_read_207 (by decide) ?_
                      exact k211 l1 l2 l3 l4 l5 r15 (1 : Int32) f_p0_turned _ _ _ h hP hD hS (lv_sub hl [1, 2, 3, 4, 5, 6, 0] rfl)
                    · have h := And.right h c22
                      refine lv_iload hx hb dX9_read_199 (lv_at hl 0 rfl) ?_
                      refine lv_bipush (v := (41 : Int32)) hx hb dX9_read_201 (by decide) ?_
                      refine lv_icmp_ne (tgt := 210) hx hb dX9_read_203 (by decide) (fun c23 => ?_) (fun c23 => ?_)
                      · have h := And.right h c23
                        refine lv_iconst (v := (0 : Int32)) hx hb dX9_read_210 (by decide) ?_
                        exact k211 l1 l2 l3 l4 l5 r15 (0 : Int32) f_p0_turned _ _ _ h hP hD hS (lv_sub hl [1, 2, 3, 4, 5, 6, 0] rfl)
                      · have h := And.left h c23
                        refine lv_iconst (v := (1 : Int32)) hx hb dX9_read_206 (by decide) ?_
                        refine lv_goto (tgt := 211) hx hb dX9_read_207 (by decide) ?_
                        exact k211 l1 l2 l3 l4 l5 r15 (1 : Int32) f_p0_turned _ _ _ h hP hD hS (lv_sub hl [1, 2, 3, 4, 5, 6, 0] rfl)
                  · have h := And.left h c18
                    refine lv_iload hx hb dX9_read_97 (lv_at hl 0 rfl) ?_
                    refine lv_bipush (v := (48 : Int32)) hx hb dX9_read_99 (by decide) ?_
                    refine lv_isub hx hb dX9_read_101 ?_
                    refine lv_istore (lv' := [(9, .int (r15 - (48 : Int32))), (8, .int r15), (0, .ref q_p0), (1, .int l1), (2, .int l2), (3, .int l3), (4, .int l4), (5, .int l5), (6, .int l6), (7, .int l7)]) hx hb dX9_read_102 hl (by decide) rfl (fun ls hl => ?_)
                    refine lv_iload hx hb dX9_read_104 (lv_at hl 0 rfl) ?_
                    refine lv_i2l (v := (r15 - (48 : Int32)).toInt64) hx hb dX9_read_106 rfl ?_
                    refine lv_lconst (v := (0 : Int64)) hx hb dX9_read_107 (by decide) ?_
                    refine lv_aload_n hx hb dX9_read_108 rfl (lv_at hl 2 rfl) ?_
                    refine va_get (ci := 7) (C := RX9) (T := TX9) (N := 24) (v := .int v_p0_n) hx hb hts hinX9 hown hK hP 0 rfl rfl 0 (by decide) hw1 (fun _ h9 => h9) rfl dX9_read_109 ?_
                    refine lv_iconst (v := (1 : Int32)) hx hb dX9_read_112 (by decide) ?_
                    refine lv_isub hx hb dX9_read_113 ?_
                    refine lv_i2l (v := (v_p0_n - (1 : Int32)).toInt64) hx hb dX9_read_114 rfl ?_
                    refine z_cSi (As := [.long ((r15 - (48 : Int32)).toInt64), .long (0 : Int64), .long ((v_p0_n - (1 : Int32)).toInt64)]) (rest := []) (wr := [(q_p0, .inr (7, [.int v_p0_n, .int v_p0_way, .ref q_p0_led, .int v_p0_deeds, .ref q_p0_were, .ref q_p0_paths, .ref q_p0_more, .ref q_p0_patterns, .int v_p0_patternMany, .ref q_p0_loop, .ref q_p0_ranks, .ref q_p0_counts, .ref q_p0_then, .ref q_p0_table, .ref q_p0_product, .ref q_p0_turned, .ref q_p0_tape, .int v_p0_taped, .int v_p0_hasWhy, .ref q_p0_reasons, .int v_p0_hasImage, .int v_p0_imageN, .int v_p0_imageWay, .ref q_p0_imageLed])), (q_p0_led, .inl (cI, 8, .inl f_p0_led)), (q_p0_were, .inl (cI, 80, .inl f_p0_were)), (q_p0_turned, .inl (cI, 8, .inl f_p0_turned)), (q_p0_reasons, .inl (cI, 3, .inl f_p0_reasons)), (q_p0_tape, .inl (cI, 60, .inl f_p0_tape))]) (wn := fun u => [(q_p0, .inr (7, [.int v_p0_n, .int v_p0_way, .ref q_p0_led, .int v_p0_deeds, .ref q_p0_were, .ref q_p0_paths, .ref q_p0_more, .ref q_p0_patterns, .int v_p0_patternMany, .ref q_p0_loop, .ref q_p0_ranks, .ref q_p0_counts, .ref q_p0_then, .ref q_p0_table, .ref q_p0_product, .ref q_p0_turned, .ref q_p0_tape, .int v_p0_taped, .int v_p0_hasWhy, .ref q_p0_reasons, .int v_p0_hasImage, .int v_p0_imageN, .int v_p0_imageWay, .ref q_p0_imageLed])), (q_p0_led, .inl (cI, 8, .inl f_p0_led)), (q_p0_were, .inl (cI, 80, .inl f_p0_were)), (q_p0_turned, .inl (cI, 8, .inl f_p0_turned)), (q_p0_reasons, .inl (cI, 3, .inl f_p0_reasons)), (q_p0_tape, .inl (cI, 60, .inl f_p0_tape))]) (c_X9_in l D cI cJ cB tU tM tS  H.size ((r15 - (48 : Int32)).toInt64) (0 : Int64) ((v_p0_n - (1 : Int32)).toInt64) _ h) ⟨hx, hb, hml, hown, hts⟩ (va_cwS 3 hts gX9_read_X9_in rfl rfl rfl hd_X9_in.2 ⟨Nat.le_of_ble_eq_true rfl, Nat.le_of_ble_eq_true rfl⟩) hX hK hP hD hS hA [] [0, 1, 2, 3, 4, 5] [0, 1, 2, 3, 4, 5] rfl rfl rfl (by decide) (fun _ => rfl) rfl hl.1 rfl (Nat.le_of_ble_eq_true rfl) ⟨Nat.le_refl _, Nat.le_refl _⟩ dX9_read_115 (fun r24 u24 H locs h hP hD hS => ?_)
                    have k135 : ∀ (l1 : Int32) (l2 : Int32) (l3 : Int32) (l4 : Int32) (l5 : Int32) (l9 : Int32) (s0 : Int32) (f_p0_turned : (Nat → Int32)) (H : Heap) (locs : List Loc) (ls : Array Slot), M_X9_read_b135 v_p0_n f_p0_tape (LP8 (M_X9_read_l43 v_p0_n f_p0_tape P v_p0_taped v_p0_deeds f_p0_were f_p0_led v_p0_hasWhy f_p0_reasons) n43) P l1 l2 l3 l4 l5 l9 s0 v_p0_taped v_p0_deeds f_p0_were f_p0_led v_p0_hasWhy f_p0_reasons f_p0_turned → va_P D vwCl [(q_p0, .inr (7, [.int v_p0_n, .int v_p0_way, .ref q_p0_led, .int v_p0_deeds, .ref q_p0_were, .ref q_p0_paths, .ref q_p0_more, .ref q_p0_patterns, .int v_p0_patternMany, .ref q_p0_loop, .ref q_p0_ranks, .ref q_p0_counts, .ref q_p0_then, .ref q_p0_table, .ref q_p0_product, .ref q_p0_turned, .ref q_p0_tape, .int v_p0_taped, .int v_p0_hasWhy, .ref q_p0_reasons, .int v_p0_hasImage, .int v_p0_imageN, .int v_p0_imageWay, .ref q_p0_imageLed])), (q_p0_led, .inl (cI, 8, .inl f_p0_led)), (q_p0_were, .inl (cI, 80, .inl f_p0_were)), (q_p0_turned, .inl (cI, 8, .inl f_p0_turned)), (q_p0_reasons, .inl (cI, 3, .inl f_p0_reasons)), (q_p0_tape, .inl (cI, 60, .inl f_p0_tape))] H → va_D A [(q_p0, .inr (7, [.int v_p0_n, .int v_p0_way, .ref q_p0_led, .int v_p0_deeds, .ref q_p0_were, .ref q_p0_paths, .ref q_p0_more, .ref q_p0_patterns, .int v_p0_patternMany, .ref q_p0_loop, .ref q_p0_ranks, .ref q_p0_counts, .ref q_p0_then, .ref q_p0_table, .ref q_p0_product, .ref q_p0_turned, .ref q_p0_tape, .int v_p0_taped, .int v_p0_hasWhy, .ref q_p0_reasons, .int v_p0_hasImage, .int v_p0_imageN, .int v_p0_imageWay, .ref q_p0_imageLed])), (q_p0_led, .inl (cI, 8, .inl f_p0_led)), (q_p0_were, .inl (cI, 80, .inl f_p0_were)), (q_p0_turned, .inl (cI, 8, .inl f_p0_turned)), (q_p0_reasons, .inl (cI, 3, .inl f_p0_reasons)), (q_p0_tape, .inl (cI, 60, .inl f_p0_tape))] → va_S A s.heap H locs → lv_has ls 10 [(0, .ref q_p0), (1, .int l1), (2, .int l2), (3, .int l3), (4, .int l4), (5, .int l5), (9, .int l9)] → W p l e { frames := 1, cells := 0, slots := 0, locals := 25 } s m args below meth c H locs 0 0 Q (F0 m 135 ls [.int s0]) := by
                      intro l1 l2 l3 l4 l5 l9 s0 f_p0_turned H locs ls h hP hD hS hl
                      refine lv_istore (lv' := [(7, .int s0), (0, .ref q_p0), (1, .int l1), (2, .int l2), (3, .int l3), (4, .int l4), (5, .int l5), (9, .int l9)]) hx hb dX9_read_135 hl (by decide) rfl (fun ls hl => ?_)
                      refine lv_iload hx hb dX9_read_137 (lv_at hl 0 rfl) ?_
                      refine lv_if_eq (tgt := 186) hx hb dX9_read_139 (by decide) (fun c25 => ?_) (fun c25 => ?_)
                      · have h := And.left h c25
                        refine lv_iconst (v := (2 : Int32)) hx hb dX9_read_186 (by decide) ?_
                        refine lv_istore (lv' := [(6, .int (2 : Int32)), (7, .int s0), (0, .ref q_p0), (1, .int l1), (2, .int l2), (3, .int l3), (4, .int l4), (5, .int l5), (9, .int l9)]) hx hb dX9_read_187 hl (by decide) rfl (fun ls hl => ?_)
                        refine lv_goto (tgt := 246) hx hb dX9_read_189 (by decide) ?_
                        exact k246 l1 l2 l3 l4 l5 (2 : Int32) s0 f_p0_turned _ _ _ h hP hD hS (lv_sub hl [2, 3, 4, 5, 6, 7, 0, 1] rfl)
                      · have h := And.right h c25
                        refine lv_iload_n hx hb dX9_read_142 rfl (lv_at hl 2 rfl) ?_
                        refine lv_iconst (v := (1 : Int32)) hx hb dX9_read_143 (by decide) ?_
                        refine lv_iload hx hb dX9_read_144 (lv_at hl 7 rfl) ?_
                        refine lv_ishl hx hb dX9_read_146 ?_
                        refine lv_ior hx hb dX9_read_147 ?_
                        refine lv_istore_n (lv' := [(1, .int (l1 ||| ((1 : Int32) <<< (l9 &&& 31)))), (7, .int s0), (0, .ref q_p0), (2, .int l2), (3, .int l3), (4, .int l4), (5, .int l5), (9, .int l9)]) hx hb dX9_read_148 rfl hl (by decide) rfl (fun ls hl => ?_)
                        refine lv_aload_n hx hb dX9_read_149 rfl (lv_at hl 2 rfl) ?_
                        refine va_get (ci := 7) (C := RX9) (T := TX9) (N := 24) (v := .ref q_p0_turned) hx hb hts hinX9 hown hK hP 0 rfl rfl 15 (by decide) hw3 (fun _ h9 => h9) rfl dX9_read_150 ?_
                        refine lv_iload hx hb dX9_read_153 (lv_at hl 5 rfl) ?_
                        have k165 : ∀ (l1 : Int32) (l2 : Int32) (l3 : Int32) (l4 : Int32) (l7 : Int32) (l9 : Int32) (s1 : Int32) (f_p0_turned : (Nat → Int32)) (H : Heap) (locs : List Loc) (ls : Array Slot), M_X9_read_b165 v_p0_n f_p0_tape (LP8 (M_X9_read_l43 v_p0_n f_p0_tape P v_p0_taped v_p0_deeds f_p0_were f_p0_led v_p0_hasWhy f_p0_reasons) n43) P l1 l2 l3 l4 l7 l9 s1 v_p0_taped v_p0_deeds f_p0_were f_p0_led v_p0_hasWhy f_p0_reasons f_p0_turned → va_P D vwCl [(q_p0, .inr (7, [.int v_p0_n, .int v_p0_way, .ref q_p0_led, .int v_p0_deeds, .ref q_p0_were, .ref q_p0_paths, .ref q_p0_more, .ref q_p0_patterns, .int v_p0_patternMany, .ref q_p0_loop, .ref q_p0_ranks, .ref q_p0_counts, .ref q_p0_then, .ref q_p0_table, .ref q_p0_product, .ref q_p0_turned, .ref q_p0_tape, .int v_p0_taped, .int v_p0_hasWhy, .ref q_p0_reasons, .int v_p0_hasImage, .int v_p0_imageN, .int v_p0_imageWay, .ref q_p0_imageLed])), (q_p0_led, .inl (cI, 8, .inl f_p0_led)), (q_p0_were, .inl (cI, 80, .inl f_p0_were)), (q_p0_turned, .inl (cI, 8, .inl f_p0_turned)), (q_p0_reasons, .inl (cI, 3, .inl f_p0_reasons)), (q_p0_tape, .inl (cI, 60, .inl f_p0_tape))] H → va_D A [(q_p0, .inr (7, [.int v_p0_n, .int v_p0_way, .ref q_p0_led, .int v_p0_deeds, .ref q_p0_were, .ref q_p0_paths, .ref q_p0_more, .ref q_p0_patterns, .int v_p0_patternMany, .ref q_p0_loop, .ref q_p0_ranks, .ref q_p0_counts, .ref q_p0_then, .ref q_p0_table, .ref q_p0_product, .ref q_p0_turned, .ref q_p0_tape, .int v_p0_taped, .int v_p0_hasWhy, .ref q_p0_reasons, .int v_p0_hasImage, .int v_p0_imageN, .int v_p0_imageWay, .ref q_p0_imageLed])), (q_p0_led, .inl (cI, 8, .inl f_p0_led)), (q_p0_were, .inl (cI, 80, .inl f_p0_were)), (q_p0_turned, .inl (cI, 8, .inl f_p0_turned)), (q_p0_reasons, .inl (cI, 3, .inl f_p0_reasons)), (q_p0_tape, .inl (cI, 60, .inl f_p0_tape))] → va_S A s.heap H locs → lv_has ls 10 [(0, .ref q_p0), (1, .int l1), (2, .int l2), (3, .int l3), (4, .int l4), (7, .int l7), (9, .int l9)] → W p l e { frames := 1, cells := 0, slots := 0, locals := 25 } s m args below meth c H locs 0 0 Q (F0 m 165 ls [.int s1, .ref q_p0_turned]) := by
                          intro l1 l2 l3 l4 l7 l9 s1 f_p0_turned H locs ls h hP hD hS hl
                          refine lv_iload hx hb dX9_read_165 (lv_at hl 6 rfl) ?_
                          obtain ⟨hi26, h⟩ := h
                          refine z_iast (wn := [(q_p0, .inr (7, [.int v_p0_n, .int v_p0_way, .ref q_p0_led, .int v_p0_deeds, .ref q_p0_were, .ref q_p0_paths, .ref q_p0_more, .ref q_p0_patterns, .int v_p0_patternMany, .ref q_p0_loop, .ref q_p0_ranks, .ref q_p0_counts, .ref q_p0_then, .ref q_p0_table, .ref q_p0_product, .ref q_p0_turned, .ref q_p0_tape, .int v_p0_taped, .int v_p0_hasWhy, .ref q_p0_reasons, .int v_p0_hasImage, .int v_p0_imageN, .int v_p0_imageWay, .ref q_p0_imageLed])), (q_p0_led, .inl (cI, 8, .inl f_p0_led)), (q_p0_were, .inl (cI, 80, .inl f_p0_were)), (q_p0_turned, .inl (cI, 8, .inl (upd f_p0_turned s1.toNatClampNeg l9))), (q_p0_reasons, .inl (cI, 3, .inl f_p0_reasons)), (q_p0_tape, .inl (cI, 60, .inl f_p0_tape))]) hx hb hK hP hD hS 3 rfl hi26 dX9_read_167 rfl (fun H locs hP hD hS => ?_)
                          refine lv_iload hx hb dX9_read_168 (lv_at hl 4 rfl) ?_
                          refine lv_if_ge (tgt := 178) hx hb dX9_read_170 (by decide) (fun c27 => ?_) (fun c27 => ?_)
                          · have h := And.left h c27
                            refine lv_iload hx hb dX9_read_178 (lv_at hl 4 rfl) ?_
                            refine lv_istore (lv' := [(4, .int l4), (0, .ref q_p0), (1, .int l1), (2, .int l2), (3, .int l3), (7, .int l7), (9, .int l9)]) hx hb dX9_read_180 hl (by decide) rfl (fun ls hl => ?_)
                            refine lv_iload hx hb dX9_read_182 (lv_at hl 6 rfl) ?_
                            refine lv_istore (lv' := [(5, .int l9), (4, .int l4), (0, .ref q_p0), (1, .int l1), (2, .int l2), (3, .int l3), (7, .int l7), (9, .int l9)]) hx hb dX9_read_184 hl (by decide) rfl (fun ls hl => ?_)
                            refine lv_iconst (v := (2 : Int32)) hx hb dX9_read_186 (by decide) ?_
                            refine lv_istore (lv' := [(6, .int (2 : Int32)), (5, .int l9), (4, .int l4), (0, .ref q_p0), (1, .int l1), (2, .int l2), (3, .int l3), (7, .int l7), (9, .int l9)]) hx hb dX9_read_187 hl (by decide) rfl (fun ls hl => ?_)
                            refine lv_goto (tgt := 246) hx hb dX9_read_189 (by decide) ?_
                            exact k246 l1 l2 l3 l4 l9 (2 : Int32) l7 (upd f_p0_turned s1.toNatClampNeg l9) _ _ _ h hP hD hS (lv_sub hl [3, 4, 5, 6, 2, 1, 0, 7] rfl)
                          · have h := And.right h c27
                            refine lv_iload hx hb dX9_read_173 (lv_at hl 6 rfl) ?_
                            refine lv_goto (tgt := 180) hx hb dX9_read_175 (by decide) ?_
                            refine lv_istore (lv' := [(4, .int l9), (0, .ref q_p0), (1, .int l1), (2, .int l2), (3, .int l3), (7, .int l7), (9, .int l9)]) hx hb dX9_read_180 hl (by decide) rfl (fun ls hl => ?_)
                            refine lv_iload hx hb dX9_read_182 (lv_at hl 6 rfl) ?_
                            refine lv_istore (lv' := [(5, .int l9), (4, .int l9), (0, .ref q_p0), (1, .int l1), (2, .int l2), (3, .int l3), (7, .int l7), (9, .int l9)]) hx hb dX9_read_184 hl (by decide) rfl (fun ls hl => ?_)
                            refine lv_iconst (v := (2 : Int32)) hx hb dX9_read_186 (by decide) ?_
                            refine lv_istore (lv' := [(6, .int (2 : Int32)), (5, .int l9), (4, .int l9), (0, .ref q_p0), (1, .int l1), (2, .int l2), (3, .int l3), (7, .int l7), (9, .int l9)]) hx hb dX9_read_187 hl (by decide) rfl (fun ls hl => ?_)
                            refine lv_goto (tgt := 246) hx hb dX9_read_189 (by decide) ?_
                            exact k246 l1 l2 l3 l9 l9 (2 : Int32) l7 (upd f_p0_turned s1.toNatClampNeg l9) _ _ _ h hP hD hS (lv_sub hl [3, 4, 5, 6, 2, 1, 0, 7] rfl)
                        refine lv_if_ge (tgt := 163) hx hb dX9_read_155 (by decide) (fun c28 => ?_) (fun c28 => ?_)
                        · have h := And.left h c28
                          refine lv_iload hx hb dX9_read_163 (lv_at hl 6 rfl) ?_
                          exact k165 (l1 ||| ((1 : Int32) <<< (l9 &&& 31))) l2 l3 l4 s0 l9 l5 f_p0_turned _ _ _ h hP hD hS (lv_sub hl [2, 0, 3, 4, 5, 1, 7] rfl)
                        · have h := And.right h c28
                          refine lv_iload hx hb dX9_read_158 (lv_at hl 7 rfl) ?_
                          refine lv_goto (tgt := 165) hx hb dX9_read_160 (by decide) ?_
                          exact k165 (l1 ||| ((1 : Int32) <<< (l9 &&& 31))) l2 l3 l4 s0 l9 l9 f_p0_turned _ _ _ h hP hD hS (lv_sub hl [2, 0, 3, 4, 5, 1, 7] rfl)
                    refine lv_if_eq (tgt := 134) hx hb dX9_read_118 (by decide) (fun c29 => ?_) (fun c29 => ?_)
                    · have h := And.left h c29
                      refine lv_iconst (v := (0 : Int32)) hx hb dX9_read_134 (by decide) ?_
                      exact k135 l1 l2 l3 l4 l5 (r15 - (48 : Int32)) (0 : Int32) f_p0_turned _ _ _ h hP hD hS (lv_sub hl [2, 3, 4, 5, 6, 7, 0] rfl)
                    · have h := And.right h c29
                      refine lv_iload_n hx hb dX9_read_121 rfl (lv_at hl 3 rfl) ?_
                      refine lv_iload hx hb dX9_read_122 (lv_at hl 0 rfl) ?_
                      refine lv_ishr hx hb dX9_read_124 ?_
                      refine lv_iconst (v := (1 : Int32)) hx hb dX9_read_125 (by decide) ?_
                      refine lv_iand hx hb dX9_read_126 ?_
                      refine lv_if_ne (tgt := 134) hx hb dX9_read_127 (by decide) (fun c30 => ?_) (fun c30 => ?_)
                      · have h := And.right h c30
                        refine lv_iconst (v := (0 : Int32)) hx hb dX9_read_134 (by decide) ?_
                        exact k135 l1 l2 l3 l4 l5 (r15 - (48 : Int32)) (0 : Int32) f_p0_turned _ _ _ h hP hD hS (lv_sub hl [2, 3, 4, 5, 6, 7, 0] rfl)
                      · have h := And.left h c30
                        refine lv_iconst (v := (1 : Int32)) hx hb dX9_read_130 (by decide) ?_
                        refine lv_goto (tgt := 135) hx hb dX9_read_131 (by decide) ?_
                        exact k135 l1 l2 l3 l4 l5 (r15 - (48 : Int32)) (1 : Int32) f_p0_turned _ _ _ h hP hD hS (lv_sub hl [2, 3, 4, 5, 6, 7, 0] rfl)
                · have h := And.left h c17
                  refine lv_iload hx hb dX9_read_68 (lv_at hl 0 rfl) ?_
                  refine lv_bipush (v := (40 : Int32)) hx hb dX9_read_70 (by decide) ?_
                  refine lv_icmp_ne (tgt := 79) hx hb dX9_read_72 (by decide) (fun c31 => ?_) (fun c31 => ?_)
                  · have h := And.right h c31
                    refine lv_iconst (v := (0 : Int32)) hx hb dX9_read_79 (by decide) ?_
                    refine lv_istore (lv' := [(7, .int (0 : Int32)), (8, .int r15), (0, .ref q_p0), (1, .int l1), (2, .int l2), (3, .int l3), (4, .int l4), (5, .int l5), (6, .int l6)]) hx hb dX9_read_80 hl (by decide) rfl (fun ls hl => ?_)
                    refine lv_iconst (v := (1 : Int32)) hx hb dX9_read_82 (by decide) ?_
                    refine lv_istore (lv' := [(6, .int (1 : Int32)), (7, .int (0 : Int32)), (8, .int r15), (0, .ref q_p0), (1, .int l1), (2, .int l2), (3, .int l3), (4, .int l4), (5, .int l5)]) hx hb dX9_read_83 hl (by decide) rfl (fun ls hl => ?_)
                    refine lv_iconst (v := (-1 : Int32)) hx hb dX9_read_85 (by decide) ?_
                    refine lv_istore (lv' := [(4, .int (-1 : Int32)), (6, .int (1 : Int32)), (7, .int (0 : Int32)), (8, .int r15), (0, .ref q_p0), (1, .int l1), (2, .int l2), (3, .int l3), (5, .int l5)]) hx hb dX9_read_86 hl (by decide) rfl (fun ls hl => ?_)
                    refine lv_goto (tgt := 246) hx hb dX9_read_88 (by decide) ?_
                    exact k246 l1 l2 l3 (-1 : Int32) l5 (1 : Int32) (0 : Int32) f_p0_turned _ _ _ h hP hD hS (lv_sub hl [4, 5, 6, 7, 0, 8, 1, 2] rfl)
                  · have h := And.left h c31
                    refine lv_iconst (v := (1 : Int32)) hx hb dX9_read_75 (by decide) ?_
                    refine lv_goto (tgt := 80) hx hb dX9_read_76 (by decide) ?_
                    refine lv_istore (lv' := [(7, .int (1 : Int32)), (8, .int r15), (0, .ref q_p0), (1, .int l1), (2, .int l2), (3, .int l3), (4, .int l4), (5, .int l5), (6, .int l6)]) hx hb dX9_read_80 hl (by decide) rfl (fun ls hl => ?_)
                    refine lv_iconst (v := (1 : Int32)) hx hb dX9_read_82 (by decide) ?_
                    refine lv_istore (lv' := [(6, .int (1 : Int32)), (7, .int (1 : Int32)), (8, .int r15), (0, .ref q_p0), (1, .int l1), (2, .int l2), (3, .int l3), (4, .int l4), (5, .int l5)]) hx hb dX9_read_83 hl (by decide) rfl (fun ls hl => ?_)
                    refine lv_iconst (v := (-1 : Int32)) hx hb dX9_read_85 (by decide) ?_
                    refine lv_istore (lv' := [(4, .int (-1 : Int32)), (6, .int (1 : Int32)), (7, .int (1 : Int32)), (8, .int r15), (0, .ref q_p0), (1, .int l1), (2, .int l2), (3, .int l3), (5, .int l5)]) hx hb dX9_read_86 hl (by decide) rfl (fun ls hl => ?_)
                    refine lv_goto (tgt := 246) hx hb dX9_read_88 (by decide) ?_
                    exact k246 l1 l2 l3 (-1 : Int32) l5 (1 : Int32) (1 : Int32) f_p0_turned _ _ _ h hP hD hS (lv_sub hl [4, 5, 6, 7, 0, 8, 1, 2] rfl)
        obtain ⟨n43, h⟩ := h
        exact k43 v_p0_taped v_p0_deeds f_p0_were f_p0_led v_p0_hasWhy f_p0_reasons n43 l1 l2 l3 l4 l5 l6 l7 f_p0_turned _ _ _ h hP hD hS (lv_sub hl [0, 1, 2, 3, 4, 5, 6, 7] rfl)
      · have h := And.right h c1
        refine lv_aload_n hx hb dX9_read_28 rfl (lv_at hl 0 rfl) ?_
        refine va_get (ci := 7) (C := RX9) (T := TX9) (N := 24) (v := .ref q_p0_turned) hx hb hts hinX9 hown hK hP 0 rfl rfl 15 (by decide) hw3 (fun _ h9 => h9) rfl dX9_read_29 ?_
        refine lv_iload hx hb dX9_read_32 (lv_at hl 8 rfl) ?_
        refine lv_iload hx hb dX9_read_34 (lv_at hl 8 rfl) ?_
        obtain ⟨hi32, h⟩ := h
        refine z_iast (wn := [(q_p0, .inr (7, [.int v_p0_n, .int v_p0_way, .ref q_p0_led, .int v_p0_deeds, .ref q_p0_were, .ref q_p0_paths, .ref q_p0_more, .ref q_p0_patterns, .int v_p0_patternMany, .ref q_p0_loop, .ref q_p0_ranks, .ref q_p0_counts, .ref q_p0_then, .ref q_p0_table, .ref q_p0_product, .ref q_p0_turned, .ref q_p0_tape, .int v_p0_taped, .int v_p0_hasWhy, .ref q_p0_reasons, .int v_p0_hasImage, .int v_p0_imageN, .int v_p0_imageWay, .ref q_p0_imageLed])), (q_p0_led, .inl (cI, 8, .inl f_p0_led)), (q_p0_were, .inl (cI, 80, .inl f_p0_were)), (q_p0_turned, .inl (cI, 8, .inl (upd f_p0_turned l8.toNatClampNeg l8))), (q_p0_reasons, .inl (cI, 3, .inl f_p0_reasons)), (q_p0_tape, .inl (cI, 60, .inl f_p0_tape))]) hx hb hK hP hD hS 3 rfl hi32 dX9_read_36 rfl (fun H locs hP hD hS => ?_)
        refine lv_iinc (v := (l8 + 1)) (lv' := [(8, .int (l8 + 1)), (0, .ref q_p0), (1, .int l1), (2, .int l2), (3, .int l3), (4, .int l4), (5, .int l5), (6, .int l6), (7, .int l7)]) hx hb dX9_read_37 hl (k := 8) rfl rfl (by decide) rfl (fun ls hl => ?_)
        refine lv_goto (tgt := 21) hx hb dX9_read_40 (by decide) ?_
        exact ih21 (l8 + 1) (upd f_p0_turned l8.toNatClampNeg l8) _ _ _ h hP hD hS (lv_sub hl [1, 2, 3, 4, 5, 6, 7, 8, 0] rfl)
  obtain ⟨n21, h⟩ := h
  exact k21 (0 : Int32) (0 : Int32) (0 : Int32) (0 : Int32) (0 : Int32) (0 : Int32) (1 : Int32) v_p0_taped v_p0_deeds f_p0_were f_p0_led v_p0_hasWhy f_p0_reasons n21 (0 : Int32) f_p0_turned _ _ _ h hP hD hS (lv_sub hl [8, 7, 6, 5, 4, 3, 2, 1, 0] rfl)
theorem hd_X9_why : yX9_why.cls = RX9 ∧ yX9_why.cls ≠ "java/lang/invoke/MethodHandle" ∧ yX9_why.cls ≠ "java/lang/invoke/VarHandle" ∧ (parseMethodDescriptor yX9_why.desc).map (fun d => d.parameters.length) = some 1 := by decide +kernel
set_option maxHeartbeats 4000000 in
set_option maxRecDepth 100000 in
theorem c_X9_why (l : Launch) (D : va_G) (cI cJ cB : ClassId) (tU tM tS : Nat) (q_p0 q_p0_led q_p0_were q_p0_paths q_p0_more q_p0_patterns q_p0_loop q_p0_ranks q_p0_counts q_p0_then q_p0_table q_p0_product q_p0_turned q_p0_tape q_p0_reasons q_p0_imageLed : Nat) (sz : Nat) (x1 : Int32) (v_p0_hasWhy : Int32) (f_p0_reasons : (Nat → Int32)) (v_p0_n : Int32) (v_p0_way : Int32) (v_p0_deeds : Int32) (v_p0_patternMany : Int32) (v_p0_taped : Int32) (v_p0_hasImage : Int32) (v_p0_imageN : Int32) (v_p0_imageWay : Int32) (P : Int64 → Prop) (h : M_X9_why x1 v_p0_hasWhy f_p0_reasons P) : Met l yX9_why wsX9_why ({ frames := 1, cells := 0, slots := 0, locals := 25 }) (va_Pc [.ref q_p0, .int x1] (zPre D cI cJ cB tU tM tS [(q_p0, .inr (7, [.int v_p0_n, .int v_p0_way, .ref q_p0_led, .int v_p0_deeds, .ref q_p0_were, .ref q_p0_paths, .ref q_p0_more, .ref q_p0_patterns, .int v_p0_patternMany, .ref q_p0_loop, .ref q_p0_ranks, .ref q_p0_counts, .ref q_p0_then, .ref q_p0_table, .ref q_p0_product, .ref q_p0_turned, .ref q_p0_tape, .int v_p0_taped, .int v_p0_hasWhy, .ref q_p0_reasons, .int v_p0_hasImage, .int v_p0_imageN, .int v_p0_imageWay, .ref q_p0_imageLed])), (q_p0_reasons, .inl (cI, 3, .inl f_p0_reasons))] sz)) (va_Ql (fun (r : Int64) (u : Unit) => P r ) (fun u t => zPost D cI cJ cB (va_A [(q_p0, .inr (7, [.int v_p0_n, .int v_p0_way, .ref q_p0_led, .int v_p0_deeds, .ref q_p0_were, .ref q_p0_paths, .ref q_p0_more, .ref q_p0_patterns, .int v_p0_patternMany, .ref q_p0_loop, .ref q_p0_ranks, .ref q_p0_counts, .ref q_p0_then, .ref q_p0_table, .ref q_p0_product, .ref q_p0_turned, .ref q_p0_tape, .int v_p0_taped, .int v_p0_hasWhy, .ref q_p0_reasons, .int v_p0_hasImage, .int v_p0_imageN, .int v_p0_imageWay, .ref q_p0_imageLed])), (q_p0_reasons, .inl (cI, 3, .inl f_p0_reasons))] sz) [(q_p0, .inr (7, [.int v_p0_n, .int v_p0_way, .ref q_p0_led, .int v_p0_deeds, .ref q_p0_were, .ref q_p0_paths, .ref q_p0_more, .ref q_p0_patterns, .int v_p0_patternMany, .ref q_p0_loop, .ref q_p0_ranks, .ref q_p0_counts, .ref q_p0_then, .ref q_p0_table, .ref q_p0_product, .ref q_p0_turned, .ref q_p0_tape, .int v_p0_taped, .int v_p0_hasWhy, .ref q_p0_reasons, .int v_p0_hasImage, .int v_p0_imageN, .int v_p0_imageWay, .ref q_p0_imageLed])), (q_p0_reasons, .inl (cI, 3, .inl f_p0_reasons))] t) (va_A [(q_p0, .inr (7, [.int v_p0_n, .int v_p0_way, .ref q_p0_led, .int v_p0_deeds, .ref q_p0_were, .ref q_p0_paths, .ref q_p0_more, .ref q_p0_patterns, .int v_p0_patternMany, .ref q_p0_loop, .ref q_p0_ranks, .ref q_p0_counts, .ref q_p0_then, .ref q_p0_table, .ref q_p0_product, .ref q_p0_turned, .ref q_p0_tape, .int v_p0_taped, .int v_p0_hasWhy, .ref q_p0_reasons, .int v_p0_hasImage, .int v_p0_imageN, .int v_p0_imageWay, .ref q_p0_imageLed])), (q_p0_reasons, .inl (cI, 3, .inl f_p0_reasons))] sz)) 0 0 (va_A [(q_p0, .inr (7, [.int v_p0_n, .int v_p0_way, .ref q_p0_led, .int v_p0_deeds, .ref q_p0_were, .ref q_p0_paths, .ref q_p0_more, .ref q_p0_patterns, .int v_p0_patternMany, .ref q_p0_loop, .ref q_p0_ranks, .ref q_p0_counts, .ref q_p0_then, .ref q_p0_table, .ref q_p0_product, .ref q_p0_turned, .ref q_p0_tape, .int v_p0_taped, .int v_p0_hasWhy, .ref q_p0_reasons, .int v_p0_hasImage, .int v_p0_imageN, .int v_p0_imageWay, .ref q_p0_imageLed])), (q_p0_reasons, .inl (cI, 3, .inl f_p0_reasons))] sz) := by
  refine z_met (cc := cX9_why) (maxL := 2) (ret := (some .long)) (Qc := fun A => va_Ql (fun (r : Int64) (u : Unit) => P r ) (fun u t => zPost D cI cJ cB A [(q_p0, .inr (7, [.int v_p0_n, .int v_p0_way, .ref q_p0_led, .int v_p0_deeds, .ref q_p0_were, .ref q_p0_paths, .ref q_p0_more, .ref q_p0_patterns, .int v_p0_patternMany, .ref q_p0_loop, .ref q_p0_ranks, .ref q_p0_counts, .ref q_p0_then, .ref q_p0_table, .ref q_p0_product, .ref q_p0_turned, .ref q_p0_tape, .int v_p0_taped, .int v_p0_hasWhy, .ref q_p0_reasons, .int v_p0_hasImage, .int v_p0_imageN, .int v_p0_imageWay, .ref q_p0_imageLed])), (q_p0_reasons, .inl (cI, 3, .inl f_p0_reasons))] t) A) (by decide) rfl [.ref q_p0, .int x1] (Nat.le_of_ble_eq_true rfl) ?_
  intro p e s m args below meth c A hx hb hr hts hown hml hlocks hA hX hK H locs hP hD hS ls hl Q hQ
  have hown : s.vm.findClass RX9 = some m.cls := hown
  have hl : lv_has ls 2 [(0, .ref q_p0), (1, .int x1)] := hl
  have hw0 : (Cond.fieldLink RX9 218 "ForcedRingsModel" "hasWhy" "Z").before args s = true := hts _ (List.mem_of_getElem? (i := 1) rfl)
  have hw1 : (Cond.constantLong RX9 141 (-9223372036854775808)).before args s = true := hts _ (List.mem_of_getElem? (i := 4) rfl)
  have hw2 : (Cond.constantLong RX9 69 (2)).before args s = true := hts _ (List.mem_of_getElem? (i := 2) rfl)
  have hw3 : (Cond.fieldLink RX9 56 "ForcedRingsModel" "reasons" "[I").before args s = true := hts _ (List.mem_of_getElem? (i := 3) rfl)
  have hinX9 : ∀ w ∈ wsX90, w ∈ wsX9_why := fun _ h => List.mem_cons_of_mem _ (List.mem_append_right _ h)
  refine lv_aload_n hx hb dX9_why_0 rfl (lv_at hl 0 rfl) ?_
  refine va_get (ci := 7) (C := RX9) (T := TX9) (N := 24) (v := .int v_p0_hasWhy) hx hb hts hinX9 hown hK hP 0 rfl rfl 18 (by decide) hw0 (fun _ h9 => h9) rfl dX9_why_1 ?_
  refine lv_if_eq (tgt := 29) hx hb dX9_why_4 (by decide) (fun c1 => ?_) (fun c1 => ?_)
  · have h := And.left h c1
    refine lv_ldc2 (v := (-9223372036854775808 : Int64)) hx hb hown hw1 dX9_why_29 ?_
    exact z_lret hQ hx hb hr hlocks hK () h hP hD hS dX9_why_32
  · have h := And.right h c1
    refine lv_iload_n hx hb dX9_why_7 rfl (lv_at hl 1 rfl) ?_
    refine lv_i2l (v := x1.toInt64) hx hb dX9_why_8 rfl ?_
    refine lv_lconst (v := (0 : Int64)) hx hb dX9_why_9 (by decide) ?_
    refine lv_ldc2 (v := (2 : Int64)) hx hb hown hw2 dX9_why_10 ?_
    refine z_cSi (As := [.long x1.toInt64, .long (0 : Int64), .long (2 : Int64)]) (rest := []) (wr := [(q_p0, .inr (7, [.int v_p0_n, .int v_p0_way, .ref q_p0_led, .int v_p0_deeds, .ref q_p0_were, .ref q_p0_paths, .ref q_p0_more, .ref q_p0_patterns, .int v_p0_patternMany, .ref q_p0_loop, .ref q_p0_ranks, .ref q_p0_counts, .ref q_p0_then, .ref q_p0_table, .ref q_p0_product, .ref q_p0_turned, .ref q_p0_tape, .int v_p0_taped, .int v_p0_hasWhy, .ref q_p0_reasons, .int v_p0_hasImage, .int v_p0_imageN, .int v_p0_imageWay, .ref q_p0_imageLed])), (q_p0_reasons, .inl (cI, 3, .inl f_p0_reasons))]) (wn := fun u => [(q_p0, .inr (7, [.int v_p0_n, .int v_p0_way, .ref q_p0_led, .int v_p0_deeds, .ref q_p0_were, .ref q_p0_paths, .ref q_p0_more, .ref q_p0_patterns, .int v_p0_patternMany, .ref q_p0_loop, .ref q_p0_ranks, .ref q_p0_counts, .ref q_p0_then, .ref q_p0_table, .ref q_p0_product, .ref q_p0_turned, .ref q_p0_tape, .int v_p0_taped, .int v_p0_hasWhy, .ref q_p0_reasons, .int v_p0_hasImage, .int v_p0_imageN, .int v_p0_imageWay, .ref q_p0_imageLed])), (q_p0_reasons, .inl (cI, 3, .inl f_p0_reasons))]) (c_X9_in l D cI cJ cB tU tM tS  H.size x1.toInt64 (0 : Int64) (2 : Int64) _ h) ⟨hx, hb, hml, hown, hts⟩ (va_cwS 3 hts gX9_why_X9_in rfl rfl rfl hd_X9_in.2 ⟨Nat.le_of_ble_eq_true rfl, Nat.le_of_ble_eq_true rfl⟩) hX hK hP hD hS hA [] [0, 1] [0, 1] rfl rfl rfl (by decide) (fun _ => rfl) rfl hl.1 rfl (Nat.le_of_ble_eq_true rfl) ⟨Nat.le_refl _, Nat.le_refl _⟩ dX9_why_13 (fun r2 u2 H locs h hP hD hS => ?_)
    refine lv_if_eq (tgt := 29) hx hb dX9_why_16 (by decide) (fun c3 => ?_) (fun c3 => ?_)
    · have h := And.left h c3
      refine lv_ldc2 (v := (-9223372036854775808 : Int64)) hx hb hown hw1 dX9_why_29 ?_
      exact z_lret hQ hx hb hr hlocks hK () h hP hD hS dX9_why_32
    · have h := And.right h c3
      refine lv_aload_n hx hb dX9_why_19 rfl (lv_at hl 0 rfl) ?_
      refine va_get (ci := 7) (C := RX9) (T := TX9) (N := 24) (v := .ref q_p0_reasons) hx hb hts hinX9 hown hK hP 0 rfl rfl 19 (by decide) hw3 (fun _ h9 => h9) rfl dX9_why_20 ?_
      refine lv_iload_n hx hb dX9_why_23 rfl (lv_at hl 1 rfl) ?_
      obtain ⟨hi4, h⟩ := h
      refine va_iald hx hb hK hP 1 0 rfl rfl hi4 dX9_why_24 ?_
      refine lv_i2l (v := (f_p0_reasons x1.toNatClampNeg).toInt64) hx hb dX9_why_25 rfl ?_
      refine lv_goto (tgt := 32) hx hb dX9_why_26 (by decide) ?_
      exact z_lret hQ hx hb hr hlocks hK () h hP hD hS dX9_why_32
theorem hd_X9_image : yX9_image.cls = RX9 ∧ yX9_image.cls ≠ "java/lang/invoke/MethodHandle" ∧ yX9_image.cls ≠ "java/lang/invoke/VarHandle" ∧ (parseMethodDescriptor yX9_image.desc).map (fun d => d.parameters.length) = some 0 := by decide +kernel
set_option maxHeartbeats 4000000 in
set_option maxRecDepth 100000 in
theorem c_X9_image (l : Launch) (D : va_G) (cI cJ cB : ClassId) (tU tM tS : Nat) (q_p0 q_p0_led q_p0_were q_p0_paths q_p0_more q_p0_patterns q_p0_loop q_p0_ranks q_p0_counts q_p0_then q_p0_table q_p0_product q_p0_turned q_p0_tape q_p0_reasons q_p0_imageLed : Nat) (sz : Nat) (v_p0_hasImage : Int32) (v_p0_n : Int32) (v_p0_imageN : Int32) (v_p0_way : Int32) (v_p0_imageWay : Int32) (f_p0_led : (Nat → Int32)) (f_p0_imageLed : (Nat → Int32)) (v_p0_deeds : Int32) (v_p0_patternMany : Int32) (v_p0_taped : Int32) (v_p0_hasWhy : Int32) (P : Int32 → Int32 → Int32 → Int32 → (Nat → Int32) → Prop) (h : M_X9_image v_p0_hasImage v_p0_n v_p0_imageN v_p0_way v_p0_imageWay f_p0_led f_p0_imageLed P) : Met l yX9_image wsX9_image ({ frames := 0, cells := 0, slots := 0, locals := 0 }) (va_Pc [.ref q_p0] (zPre D cI cJ cB tU tM tS [(q_p0, .inr (7, [.int v_p0_n, .int v_p0_way, .ref q_p0_led, .int v_p0_deeds, .ref q_p0_were, .ref q_p0_paths, .ref q_p0_more, .ref q_p0_patterns, .int v_p0_patternMany, .ref q_p0_loop, .ref q_p0_ranks, .ref q_p0_counts, .ref q_p0_then, .ref q_p0_table, .ref q_p0_product, .ref q_p0_turned, .ref q_p0_tape, .int v_p0_taped, .int v_p0_hasWhy, .ref q_p0_reasons, .int v_p0_hasImage, .int v_p0_imageN, .int v_p0_imageWay, .ref q_p0_imageLed])), (q_p0_led, .inl (cI, 8, .inl f_p0_led)), (q_p0_imageLed, .inl (cI, 8, .inl f_p0_imageLed))] sz)) (va_Qi (fun (r : Int32) (u : Int32 × Int32 × Int32 × (Nat → Int32)) => P r u.1 u.2.1 u.2.2.1 u.2.2.2) (fun u t => zPost D cI cJ cB (va_A [(q_p0, .inr (7, [.int v_p0_n, .int v_p0_way, .ref q_p0_led, .int v_p0_deeds, .ref q_p0_were, .ref q_p0_paths, .ref q_p0_more, .ref q_p0_patterns, .int v_p0_patternMany, .ref q_p0_loop, .ref q_p0_ranks, .ref q_p0_counts, .ref q_p0_then, .ref q_p0_table, .ref q_p0_product, .ref q_p0_turned, .ref q_p0_tape, .int v_p0_taped, .int v_p0_hasWhy, .ref q_p0_reasons, .int v_p0_hasImage, .int v_p0_imageN, .int v_p0_imageWay, .ref q_p0_imageLed])), (q_p0_led, .inl (cI, 8, .inl f_p0_led)), (q_p0_imageLed, .inl (cI, 8, .inl f_p0_imageLed))] sz) [(q_p0, .inr (7, [.int v_p0_n, .int v_p0_way, .ref q_p0_led, .int v_p0_deeds, .ref q_p0_were, .ref q_p0_paths, .ref q_p0_more, .ref q_p0_patterns, .int v_p0_patternMany, .ref q_p0_loop, .ref q_p0_ranks, .ref q_p0_counts, .ref q_p0_then, .ref q_p0_table, .ref q_p0_product, .ref q_p0_turned, .ref q_p0_tape, .int v_p0_taped, .int v_p0_hasWhy, .ref q_p0_reasons, .int u.1, .int u.2.1, .int u.2.2.1, .ref q_p0_imageLed])), (q_p0_led, .inl (cI, 8, .inl f_p0_led)), (q_p0_imageLed, .inl (cI, 8, .inl u.2.2.2))] t) (va_A [(q_p0, .inr (7, [.int v_p0_n, .int v_p0_way, .ref q_p0_led, .int v_p0_deeds, .ref q_p0_were, .ref q_p0_paths, .ref q_p0_more, .ref q_p0_patterns, .int v_p0_patternMany, .ref q_p0_loop, .ref q_p0_ranks, .ref q_p0_counts, .ref q_p0_then, .ref q_p0_table, .ref q_p0_product, .ref q_p0_turned, .ref q_p0_tape, .int v_p0_taped, .int v_p0_hasWhy, .ref q_p0_reasons, .int v_p0_hasImage, .int v_p0_imageN, .int v_p0_imageWay, .ref q_p0_imageLed])), (q_p0_led, .inl (cI, 8, .inl f_p0_led)), (q_p0_imageLed, .inl (cI, 8, .inl f_p0_imageLed))] sz)) 0 0 (va_A [(q_p0, .inr (7, [.int v_p0_n, .int v_p0_way, .ref q_p0_led, .int v_p0_deeds, .ref q_p0_were, .ref q_p0_paths, .ref q_p0_more, .ref q_p0_patterns, .int v_p0_patternMany, .ref q_p0_loop, .ref q_p0_ranks, .ref q_p0_counts, .ref q_p0_then, .ref q_p0_table, .ref q_p0_product, .ref q_p0_turned, .ref q_p0_tape, .int v_p0_taped, .int v_p0_hasWhy, .ref q_p0_reasons, .int v_p0_hasImage, .int v_p0_imageN, .int v_p0_imageWay, .ref q_p0_imageLed])), (q_p0_led, .inl (cI, 8, .inl f_p0_led)), (q_p0_imageLed, .inl (cI, 8, .inl f_p0_imageLed))] sz) := by
  refine z_met (cc := cX9_image) (maxL := 2) (ret := (some .int)) (Qc := fun A => va_Qi (fun (r : Int32) (u : Int32 × Int32 × Int32 × (Nat → Int32)) => P r u.1 u.2.1 u.2.2.1 u.2.2.2) (fun u t => zPost D cI cJ cB A [(q_p0, .inr (7, [.int v_p0_n, .int v_p0_way, .ref q_p0_led, .int v_p0_deeds, .ref q_p0_were, .ref q_p0_paths, .ref q_p0_more, .ref q_p0_patterns, .int v_p0_patternMany, .ref q_p0_loop, .ref q_p0_ranks, .ref q_p0_counts, .ref q_p0_then, .ref q_p0_table, .ref q_p0_product, .ref q_p0_turned, .ref q_p0_tape, .int v_p0_taped, .int v_p0_hasWhy, .ref q_p0_reasons, .int u.1, .int u.2.1, .int u.2.2.1, .ref q_p0_imageLed])), (q_p0_led, .inl (cI, 8, .inl f_p0_led)), (q_p0_imageLed, .inl (cI, 8, .inl u.2.2.2))] t) A) (by decide) rfl [.ref q_p0] (Nat.le_of_ble_eq_true rfl) ?_
  intro p e s m args below meth c A hx hb hr hts hown hml hlocks hA hX hK H locs hP hD hS ls hl Q hQ
  have hown : s.vm.findClass RX9 = some m.cls := hown
  have hl : lv_has ls 2 [(0, .ref q_p0)] := hl
  have hw0 : (Cond.fieldLink RX9 222 "ForcedRingsModel" "hasImage" "Z").before args s = true := hts _ (List.mem_of_getElem? (i := 1) rfl)
  have hw1 : (Cond.fieldLink RX9 9 "ForcedRingsModel" "n" "I").before args s = true := hts _ (List.mem_of_getElem? (i := 2) rfl)
  have hw2 : (Cond.fieldLink RX9 225 "ForcedRingsModel" "imageN" "I").before args s = true := hts _ (List.mem_of_getElem? (i := 3) rfl)
  have hw3 : (Cond.fieldLink RX9 73 "ForcedRingsModel" "way" "I").before args s = true := hts _ (List.mem_of_getElem? (i := 4) rfl)
  have hw4 : (Cond.fieldLink RX9 228 "ForcedRingsModel" "imageWay" "I").before args s = true := hts _ (List.mem_of_getElem? (i := 5) rfl)
  have hw5 : (Cond.fieldLink RX9 59 "ForcedRingsModel" "imageLed" "[I").before args s = true := hts _ (List.mem_of_getElem? (i := 6) rfl)
  have hw6 : (Cond.fieldLink RX9 15 "ForcedRingsModel" "led" "[I").before args s = true := hts _ (List.mem_of_getElem? (i := 7) rfl)
  have hinX9 : ∀ w ∈ wsX90, w ∈ wsX9_image := fun _ h => List.mem_cons_of_mem _ (List.mem_append_right _ h)
  refine lv_aload_n hx hb dX9_image_0 rfl (lv_at hl 0 rfl) ?_
  refine lv_iconst (v := (1 : Int32)) hx hb dX9_image_1 (by decide) ?_
  refine z_put (ci := 7) (C := RX9) (T := TX9) (N := 24) (ty := .boolean) (wn := [(q_p0, .inr (7, [.int v_p0_n, .int v_p0_way, .ref q_p0_led, .int v_p0_deeds, .ref q_p0_were, .ref q_p0_paths, .ref q_p0_more, .ref q_p0_patterns, .int v_p0_patternMany, .ref q_p0_loop, .ref q_p0_ranks, .ref q_p0_counts, .ref q_p0_then, .ref q_p0_table, .ref q_p0_product, .ref q_p0_turned, .ref q_p0_tape, .int v_p0_taped, .int v_p0_hasWhy, .ref q_p0_reasons, .int (1 : Int32), .int v_p0_imageN, .int v_p0_imageWay, .ref q_p0_imageLed])), (q_p0_led, .inl (cI, 8, .inl f_p0_led)), (q_p0_imageLed, .inl (cI, 8, .inl f_p0_imageLed))]) hx hb hts hinX9 tyX9 tyX9_ok nmX9 hown hK hP hD hS 0 rfl rfl 20 (by decide) hw0 (fun _ h9 => h9) rfl (by decide +kernel) rfl rfl (Nat.le_of_ble_eq_true rfl) dX9_image_2 rfl (fun H locs hP hD hS => ?_)
  refine lv_aload_n hx hb dX9_image_5 rfl (lv_at hl 0 rfl) ?_
  refine lv_aload_n hx hb dX9_image_6 rfl (lv_at hl 0 rfl) ?_
  refine va_get (ci := 7) (C := RX9) (T := TX9) (N := 24) (v := .int v_p0_n) hx hb hts hinX9 hown hK hP 0 rfl rfl 0 (by decide) hw1 (fun _ h9 => h9) rfl dX9_image_7 ?_
  refine z_put (ci := 7) (C := RX9) (T := TX9) (N := 24) (ty := .int) (wn := [(q_p0, .inr (7, [.int v_p0_n, .int v_p0_way, .ref q_p0_led, .int v_p0_deeds, .ref q_p0_were, .ref q_p0_paths, .ref q_p0_more, .ref q_p0_patterns, .int v_p0_patternMany, .ref q_p0_loop, .ref q_p0_ranks, .ref q_p0_counts, .ref q_p0_then, .ref q_p0_table, .ref q_p0_product, .ref q_p0_turned, .ref q_p0_tape, .int v_p0_taped, .int v_p0_hasWhy, .ref q_p0_reasons, .int (1 : Int32), .int v_p0_n, .int v_p0_imageWay, .ref q_p0_imageLed])), (q_p0_led, .inl (cI, 8, .inl f_p0_led)), (q_p0_imageLed, .inl (cI, 8, .inl f_p0_imageLed))]) hx hb hts hinX9 tyX9 tyX9_ok nmX9 hown hK hP hD hS 0 rfl rfl 21 (by decide) hw2 (fun _ h9 => h9) rfl (by decide +kernel) rfl rfl (Nat.le_of_ble_eq_true rfl) dX9_image_10 rfl (fun H locs hP hD hS => ?_)
  refine lv_aload_n hx hb dX9_image_13 rfl (lv_at hl 0 rfl) ?_
  refine lv_aload_n hx hb dX9_image_14 rfl (lv_at hl 0 rfl) ?_
  refine va_get (ci := 7) (C := RX9) (T := TX9) (N := 24) (v := .int v_p0_way) hx hb hts hinX9 hown hK hP 0 rfl rfl 1 (by decide) hw3 (fun _ h9 => h9) rfl dX9_image_15 ?_
  refine z_put (ci := 7) (C := RX9) (T := TX9) (N := 24) (ty := .int) (wn := [(q_p0, .inr (7, [.int v_p0_n, .int v_p0_way, .ref q_p0_led, .int v_p0_deeds, .ref q_p0_were, .ref q_p0_paths, .ref q_p0_more, .ref q_p0_patterns, .int v_p0_patternMany, .ref q_p0_loop, .ref q_p0_ranks, .ref q_p0_counts, .ref q_p0_then, .ref q_p0_table, .ref q_p0_product, .ref q_p0_turned, .ref q_p0_tape, .int v_p0_taped, .int v_p0_hasWhy, .ref q_p0_reasons, .int (1 : Int32), .int v_p0_n, .int v_p0_way, .ref q_p0_imageLed])), (q_p0_led, .inl (cI, 8, .inl f_p0_led)), (q_p0_imageLed, .inl (cI, 8, .inl f_p0_imageLed))]) hx hb hts hinX9 tyX9 tyX9_ok nmX9 hown hK hP hD hS 0 rfl rfl 22 (by decide) hw4 (fun _ h9 => h9) rfl (by decide +kernel) rfl rfl (Nat.le_of_ble_eq_true rfl) dX9_image_18 rfl (fun H locs hP hD hS => ?_)
  refine lv_iconst (v := (0 : Int32)) hx hb dX9_image_21 (by decide) ?_
  refine lv_istore_n (lv' := [(1, .int (0 : Int32)), (0, .ref q_p0)]) hx hb dX9_image_22 rfl hl (by decide) rfl (fun ls hl => ?_)
  have k23 : ∀ (v_p0_hasImage : Int32) (v_p0_imageN : Int32) (v_p0_imageWay : Int32) (n23 : Nat) (l1 : Int32) (f_p0_imageLed : (Nat → Int32)) (H : Heap) (locs : List Loc) (ls : Array Slot), LP2 (M_X9_image_l23 v_p0_n v_p0_way f_p0_led P v_p0_hasImage v_p0_imageN v_p0_imageWay) n23 l1 f_p0_imageLed → va_P D vwCl [(q_p0, .inr (7, [.int v_p0_n, .int v_p0_way, .ref q_p0_led, .int v_p0_deeds, .ref q_p0_were, .ref q_p0_paths, .ref q_p0_more, .ref q_p0_patterns, .int v_p0_patternMany, .ref q_p0_loop, .ref q_p0_ranks, .ref q_p0_counts, .ref q_p0_then, .ref q_p0_table, .ref q_p0_product, .ref q_p0_turned, .ref q_p0_tape, .int v_p0_taped, .int v_p0_hasWhy, .ref q_p0_reasons, .int v_p0_hasImage, .int v_p0_imageN, .int v_p0_imageWay, .ref q_p0_imageLed])), (q_p0_led, .inl (cI, 8, .inl f_p0_led)), (q_p0_imageLed, .inl (cI, 8, .inl f_p0_imageLed))] H → va_D A [(q_p0, .inr (7, [.int v_p0_n, .int v_p0_way, .ref q_p0_led, .int v_p0_deeds, .ref q_p0_were, .ref q_p0_paths, .ref q_p0_more, .ref q_p0_patterns, .int v_p0_patternMany, .ref q_p0_loop, .ref q_p0_ranks, .ref q_p0_counts, .ref q_p0_then, .ref q_p0_table, .ref q_p0_product, .ref q_p0_turned, .ref q_p0_tape, .int v_p0_taped, .int v_p0_hasWhy, .ref q_p0_reasons, .int v_p0_hasImage, .int v_p0_imageN, .int v_p0_imageWay, .ref q_p0_imageLed])), (q_p0_led, .inl (cI, 8, .inl f_p0_led)), (q_p0_imageLed, .inl (cI, 8, .inl f_p0_imageLed))] → va_S A s.heap H locs → lv_has ls 2 [(0, .ref q_p0), (1, .int l1)] → W p l e { frames := 0, cells := 0, slots := 0, locals := 0 } s m args below meth c H locs 0 0 Q (F0 m 23 ls []) := by
    intro v_p0_hasImage v_p0_imageN v_p0_imageWay n23
    induction n23 with
    | zero =>
      intro l1 f_p0_imageLed H locs ls h
      exact False.elim h
    | succ n23 ih23 =>
      intro l1 f_p0_imageLed H locs ls h hP hD hS hl
      have h : M_X9_image_l23 v_p0_n v_p0_way f_p0_led P v_p0_hasImage v_p0_imageN v_p0_imageWay (LP2 (M_X9_image_l23 v_p0_n v_p0_way f_p0_led P v_p0_hasImage v_p0_imageN v_p0_imageWay) n23) l1 f_p0_imageLed := h
      refine lv_iload_n hx hb dX9_image_23 rfl (lv_at hl 1 rfl) ?_
      refine lv_bipush (v := (8 : Int32)) hx hb dX9_image_24 (by decide) ?_
      refine lv_icmp_ge (tgt := 47) hx hb dX9_image_26 (by decide) (fun c1 => ?_) (fun c1 => ?_)
      · have h := And.left h c1
        refine lv_aload_n hx hb dX9_image_47 rfl (lv_at hl 0 rfl) ?_
        refine va_get (ci := 7) (C := RX9) (T := TX9) (N := 24) (v := .int v_p0_n) hx hb hts hinX9 hown hK hP 0 rfl rfl 0 (by decide) hw1 (fun _ h9 => h9) rfl dX9_image_48 ?_
        exact z_iret hQ hx hb hr rfl hlocks hK (v_p0_hasImage, v_p0_imageN, v_p0_imageWay, f_p0_imageLed) h hP hD hS dX9_image_51
      · have h := And.right h c1
        refine lv_aload_n hx hb dX9_image_29 rfl (lv_at hl 0 rfl) ?_
        refine va_get (ci := 7) (C := RX9) (T := TX9) (N := 24) (v := .ref q_p0_imageLed) hx hb hts hinX9 hown hK hP 0 rfl rfl 23 (by decide) hw5 (fun _ h9 => h9) rfl dX9_image_30 ?_
        refine lv_iload_n hx hb dX9_image_33 rfl (lv_at hl 1 rfl) ?_
        refine lv_aload_n hx hb dX9_image_34 rfl (lv_at hl 0 rfl) ?_
        refine va_get (ci := 7) (C := RX9) (T := TX9) (N := 24) (v := .ref q_p0_led) hx hb hts hinX9 hown hK hP 0 rfl rfl 2 (by decide) hw6 (fun _ h9 => h9) rfl dX9_image_35 ?_
        refine lv_iload_n hx hb dX9_image_38 rfl (lv_at hl 1 rfl) ?_
        obtain ⟨hi2, h⟩ := h
        refine va_iald hx hb hK hP 1 0 rfl rfl hi2 dX9_image_39 ?_
        obtain ⟨hi3, h⟩ := h
        refine z_iast (wn := [(q_p0, .inr (7, [.int v_p0_n, .int v_p0_way, .ref q_p0_led, .int v_p0_deeds, .ref q_p0_were, .ref q_p0_paths, .ref q_p0_more, .ref q_p0_patterns, .int v_p0_patternMany, .ref q_p0_loop, .ref q_p0_ranks, .ref q_p0_counts, .ref q_p0_then, .ref q_p0_table, .ref q_p0_product, .ref q_p0_turned, .ref q_p0_tape, .int v_p0_taped, .int v_p0_hasWhy, .ref q_p0_reasons, .int v_p0_hasImage, .int v_p0_imageN, .int v_p0_imageWay, .ref q_p0_imageLed])), (q_p0_led, .inl (cI, 8, .inl f_p0_led)), (q_p0_imageLed, .inl (cI, 8, .inl (upd f_p0_imageLed l1.toNatClampNeg (f_p0_led l1.toNatClampNeg))))]) hx hb hK hP hD hS 2 rfl hi3 dX9_image_40 rfl (fun H locs hP hD hS => ?_)
        refine lv_iinc (v := (l1 + 1)) (lv' := [(1, .int (l1 + 1)), (0, .ref q_p0)]) hx hb dX9_image_41 hl (k := 1) rfl rfl (by decide) rfl (fun ls hl => ?_)
        refine lv_goto (tgt := 23) hx hb dX9_image_44 (by decide) ?_
        exact ih23 (l1 + 1) (upd f_p0_imageLed l1.toNatClampNeg (f_p0_led l1.toNatClampNeg)) _ _ _ h hP hD hS (lv_sub hl [1, 0] rfl)
  obtain ⟨n23, h⟩ := h
  exact k23 (1 : Int32) v_p0_n v_p0_way n23 (0 : Int32) f_p0_imageLed _ _ _ h hP hD hS (lv_sub hl [1, 0] rfl)
theorem hd_X9_undo : yX9_undo.cls = RX9 ∧ yX9_undo.cls ≠ "java/lang/invoke/MethodHandle" ∧ yX9_undo.cls ≠ "java/lang/invoke/VarHandle" ∧ (parseMethodDescriptor yX9_undo.desc).map (fun d => d.parameters.length) = some 0 := by decide +kernel
set_option maxHeartbeats 4000000 in
set_option maxRecDepth 100000 in
theorem c_X9_undo (l : Launch) (D : va_G) (cI cJ cB : ClassId) (tU tM tS : Nat) (q_p0 q_p0_led q_p0_were q_p0_paths q_p0_more q_p0_patterns q_p0_loop q_p0_ranks q_p0_counts q_p0_then q_p0_table q_p0_product q_p0_turned q_p0_tape q_p0_reasons q_p0_imageLed : Nat) (sz : Nat) (v_p0_hasImage : Int32) (v_p0_imageN : Int32) (v_p0_n : Int32) (v_p0_imageWay : Int32) (v_p0_way : Int32) (v_p0_deeds : Int32) (f_p0_imageLed : (Nat → Int32)) (f_p0_led : (Nat → Int32)) (v_p0_patternMany : Int32) (v_p0_taped : Int32) (v_p0_hasWhy : Int32) (P : Int32 → Int32 → Int32 → Int32 → (Nat → Int32) → Prop) (h : M_X9_undo v_p0_hasImage v_p0_imageN v_p0_n v_p0_imageWay v_p0_way v_p0_deeds f_p0_imageLed f_p0_led P) : Met l yX9_undo wsX9_undo ({ frames := 0, cells := 0, slots := 0, locals := 0 }) (va_Pc [.ref q_p0] (zPre D cI cJ cB tU tM tS [(q_p0, .inr (7, [.int v_p0_n, .int v_p0_way, .ref q_p0_led, .int v_p0_deeds, .ref q_p0_were, .ref q_p0_paths, .ref q_p0_more, .ref q_p0_patterns, .int v_p0_patternMany, .ref q_p0_loop, .ref q_p0_ranks, .ref q_p0_counts, .ref q_p0_then, .ref q_p0_table, .ref q_p0_product, .ref q_p0_turned, .ref q_p0_tape, .int v_p0_taped, .int v_p0_hasWhy, .ref q_p0_reasons, .int v_p0_hasImage, .int v_p0_imageN, .int v_p0_imageWay, .ref q_p0_imageLed])), (q_p0_imageLed, .inl (cI, 8, .inl f_p0_imageLed)), (q_p0_led, .inl (cI, 8, .inl f_p0_led))] sz)) (va_Qi (fun (r : Int32) (u : Int32 × Int32 × Int32 × (Nat → Int32)) => P r u.1 u.2.1 u.2.2.1 u.2.2.2) (fun u t => zPost D cI cJ cB (va_A [(q_p0, .inr (7, [.int v_p0_n, .int v_p0_way, .ref q_p0_led, .int v_p0_deeds, .ref q_p0_were, .ref q_p0_paths, .ref q_p0_more, .ref q_p0_patterns, .int v_p0_patternMany, .ref q_p0_loop, .ref q_p0_ranks, .ref q_p0_counts, .ref q_p0_then, .ref q_p0_table, .ref q_p0_product, .ref q_p0_turned, .ref q_p0_tape, .int v_p0_taped, .int v_p0_hasWhy, .ref q_p0_reasons, .int v_p0_hasImage, .int v_p0_imageN, .int v_p0_imageWay, .ref q_p0_imageLed])), (q_p0_imageLed, .inl (cI, 8, .inl f_p0_imageLed)), (q_p0_led, .inl (cI, 8, .inl f_p0_led))] sz) [(q_p0, .inr (7, [.int u.1, .int u.2.1, .ref q_p0_led, .int u.2.2.1, .ref q_p0_were, .ref q_p0_paths, .ref q_p0_more, .ref q_p0_patterns, .int v_p0_patternMany, .ref q_p0_loop, .ref q_p0_ranks, .ref q_p0_counts, .ref q_p0_then, .ref q_p0_table, .ref q_p0_product, .ref q_p0_turned, .ref q_p0_tape, .int v_p0_taped, .int v_p0_hasWhy, .ref q_p0_reasons, .int v_p0_hasImage, .int v_p0_imageN, .int v_p0_imageWay, .ref q_p0_imageLed])), (q_p0_imageLed, .inl (cI, 8, .inl f_p0_imageLed)), (q_p0_led, .inl (cI, 8, .inl u.2.2.2))] t) (va_A [(q_p0, .inr (7, [.int v_p0_n, .int v_p0_way, .ref q_p0_led, .int v_p0_deeds, .ref q_p0_were, .ref q_p0_paths, .ref q_p0_more, .ref q_p0_patterns, .int v_p0_patternMany, .ref q_p0_loop, .ref q_p0_ranks, .ref q_p0_counts, .ref q_p0_then, .ref q_p0_table, .ref q_p0_product, .ref q_p0_turned, .ref q_p0_tape, .int v_p0_taped, .int v_p0_hasWhy, .ref q_p0_reasons, .int v_p0_hasImage, .int v_p0_imageN, .int v_p0_imageWay, .ref q_p0_imageLed])), (q_p0_imageLed, .inl (cI, 8, .inl f_p0_imageLed)), (q_p0_led, .inl (cI, 8, .inl f_p0_led))] sz)) 0 0 (va_A [(q_p0, .inr (7, [.int v_p0_n, .int v_p0_way, .ref q_p0_led, .int v_p0_deeds, .ref q_p0_were, .ref q_p0_paths, .ref q_p0_more, .ref q_p0_patterns, .int v_p0_patternMany, .ref q_p0_loop, .ref q_p0_ranks, .ref q_p0_counts, .ref q_p0_then, .ref q_p0_table, .ref q_p0_product, .ref q_p0_turned, .ref q_p0_tape, .int v_p0_taped, .int v_p0_hasWhy, .ref q_p0_reasons, .int v_p0_hasImage, .int v_p0_imageN, .int v_p0_imageWay, .ref q_p0_imageLed])), (q_p0_imageLed, .inl (cI, 8, .inl f_p0_imageLed)), (q_p0_led, .inl (cI, 8, .inl f_p0_led))] sz) := by
  refine z_met (cc := cX9_undo) (maxL := 2) (ret := (some .int)) (Qc := fun A => va_Qi (fun (r : Int32) (u : Int32 × Int32 × Int32 × (Nat → Int32)) => P r u.1 u.2.1 u.2.2.1 u.2.2.2) (fun u t => zPost D cI cJ cB A [(q_p0, .inr (7, [.int u.1, .int u.2.1, .ref q_p0_led, .int u.2.2.1, .ref q_p0_were, .ref q_p0_paths, .ref q_p0_more, .ref q_p0_patterns, .int v_p0_patternMany, .ref q_p0_loop, .ref q_p0_ranks, .ref q_p0_counts, .ref q_p0_then, .ref q_p0_table, .ref q_p0_product, .ref q_p0_turned, .ref q_p0_tape, .int v_p0_taped, .int v_p0_hasWhy, .ref q_p0_reasons, .int v_p0_hasImage, .int v_p0_imageN, .int v_p0_imageWay, .ref q_p0_imageLed])), (q_p0_imageLed, .inl (cI, 8, .inl f_p0_imageLed)), (q_p0_led, .inl (cI, 8, .inl u.2.2.2))] t) A) (by decide) rfl [.ref q_p0] (Nat.le_of_ble_eq_true rfl) ?_
  intro p e s m args below meth c A hx hb hr hts hown hml hlocks hA hX hK H locs hP hD hS ls hl Q hQ
  have hown : s.vm.findClass RX9 = some m.cls := hown
  have hl : lv_has ls 2 [(0, .ref q_p0)] := hl
  have hw0 : (Cond.fieldLink RX9 222 "ForcedRingsModel" "hasImage" "Z").before args s = true := hts _ (List.mem_of_getElem? (i := 1) rfl)
  have hw1 : (Cond.fieldLink RX9 225 "ForcedRingsModel" "imageN" "I").before args s = true := hts _ (List.mem_of_getElem? (i := 2) rfl)
  have hw2 : (Cond.fieldLink RX9 9 "ForcedRingsModel" "n" "I").before args s = true := hts _ (List.mem_of_getElem? (i := 3) rfl)
  have hw3 : (Cond.fieldLink RX9 228 "ForcedRingsModel" "imageWay" "I").before args s = true := hts _ (List.mem_of_getElem? (i := 4) rfl)
  have hw4 : (Cond.fieldLink RX9 73 "ForcedRingsModel" "way" "I").before args s = true := hts _ (List.mem_of_getElem? (i := 5) rfl)
  have hw5 : (Cond.fieldLink RX9 66 "ForcedRingsModel" "deeds" "I").before args s = true := hts _ (List.mem_of_getElem? (i := 8) rfl)
  have hw6 : (Cond.fieldLink RX9 15 "ForcedRingsModel" "led" "[I").before args s = true := hts _ (List.mem_of_getElem? (i := 6) rfl)
  have hw7 : (Cond.fieldLink RX9 59 "ForcedRingsModel" "imageLed" "[I").before args s = true := hts _ (List.mem_of_getElem? (i := 7) rfl)
  have hinX9 : ∀ w ∈ wsX90, w ∈ wsX9_undo := fun _ h => List.mem_cons_of_mem _ (List.mem_append_right _ h)
  refine lv_aload_n hx hb dX9_undo_0 rfl (lv_at hl 0 rfl) ?_
  refine va_get (ci := 7) (C := RX9) (T := TX9) (N := 24) (v := .int v_p0_hasImage) hx hb hts hinX9 hown hK hP 0 rfl rfl 20 (by decide) hw0 (fun _ h9 => h9) rfl dX9_undo_1 ?_
  refine lv_if_ne (tgt := 10) hx hb dX9_undo_4 (by decide) (fun c1 => ?_) (fun c1 => ?_)
  · have h := And.right h c1
    refine lv_aload_n hx hb dX9_undo_10 rfl (lv_at hl 0 rfl) ?_
    refine lv_aload_n hx hb dX9_undo_11 rfl (lv_at hl 0 rfl) ?_
    refine va_get (ci := 7) (C := RX9) (T := TX9) (N := 24) (v := .int v_p0_imageN) hx hb hts hinX9 hown hK hP 0 rfl rfl 21 (by decide) hw1 (fun _ h9 => h9) rfl dX9_undo_12 ?_
    refine z_put (ci := 7) (C := RX9) (T := TX9) (N := 24) (ty := .int) (wn := [(q_p0, .inr (7, [.int v_p0_imageN, .int v_p0_way, .ref q_p0_led, .int v_p0_deeds, .ref q_p0_were, .ref q_p0_paths, .ref q_p0_more, .ref q_p0_patterns, .int v_p0_patternMany, .ref q_p0_loop, .ref q_p0_ranks, .ref q_p0_counts, .ref q_p0_then, .ref q_p0_table, .ref q_p0_product, .ref q_p0_turned, .ref q_p0_tape, .int v_p0_taped, .int v_p0_hasWhy, .ref q_p0_reasons, .int v_p0_hasImage, .int v_p0_imageN, .int v_p0_imageWay, .ref q_p0_imageLed])), (q_p0_imageLed, .inl (cI, 8, .inl f_p0_imageLed)), (q_p0_led, .inl (cI, 8, .inl f_p0_led))]) hx hb hts hinX9 tyX9 tyX9_ok nmX9 hown hK hP hD hS 0 rfl rfl 0 (by decide) hw2 (fun _ h9 => h9) rfl (by decide +kernel) rfl rfl (Nat.le_of_ble_eq_true rfl) dX9_undo_15 rfl (fun H locs hP hD hS => ?_)
    refine lv_aload_n hx hb dX9_undo_18 rfl (lv_at hl 0 rfl) ?_
    refine lv_aload_n hx hb dX9_undo_19 rfl (lv_at hl 0 rfl) ?_
    refine va_get (ci := 7) (C := RX9) (T := TX9) (N := 24) (v := .int v_p0_imageWay) hx hb hts hinX9 hown hK hP 0 rfl rfl 22 (by decide) hw3 (fun _ h9 => h9) rfl dX9_undo_20 ?_
    refine z_put (ci := 7) (C := RX9) (T := TX9) (N := 24) (ty := .int) (wn := [(q_p0, .inr (7, [.int v_p0_imageN, .int v_p0_imageWay, .ref q_p0_led, .int v_p0_deeds, .ref q_p0_were, .ref q_p0_paths, .ref q_p0_more, .ref q_p0_patterns, .int v_p0_patternMany, .ref q_p0_loop, .ref q_p0_ranks, .ref q_p0_counts, .ref q_p0_then, .ref q_p0_table, .ref q_p0_product, .ref q_p0_turned, .ref q_p0_tape, .int v_p0_taped, .int v_p0_hasWhy, .ref q_p0_reasons, .int v_p0_hasImage, .int v_p0_imageN, .int v_p0_imageWay, .ref q_p0_imageLed])), (q_p0_imageLed, .inl (cI, 8, .inl f_p0_imageLed)), (q_p0_led, .inl (cI, 8, .inl f_p0_led))]) hx hb hts hinX9 tyX9 tyX9_ok nmX9 hown hK hP hD hS 0 rfl rfl 1 (by decide) hw4 (fun _ h9 => h9) rfl (by decide +kernel) rfl rfl (Nat.le_of_ble_eq_true rfl) dX9_undo_23 rfl (fun H locs hP hD hS => ?_)
    refine lv_iconst (v := (0 : Int32)) hx hb dX9_undo_26 (by decide) ?_
    refine lv_istore_n (lv' := [(1, .int (0 : Int32)), (0, .ref q_p0)]) hx hb dX9_undo_27 rfl hl (by decide) rfl (fun ls hl => ?_)
    have k28 : ∀ (v_p0_n : Int32) (v_p0_way : Int32) (v_p0_deeds : Int32) (n28 : Nat) (l1 : Int32) (f_p0_led : (Nat → Int32)) (H : Heap) (locs : List Loc) (ls : Array Slot), LP2 (M_X9_undo_l28 v_p0_hasImage v_p0_imageN v_p0_imageWay f_p0_imageLed P v_p0_n v_p0_way v_p0_deeds) n28 l1 f_p0_led → va_P D vwCl [(q_p0, .inr (7, [.int v_p0_n, .int v_p0_way, .ref q_p0_led, .int v_p0_deeds, .ref q_p0_were, .ref q_p0_paths, .ref q_p0_more, .ref q_p0_patterns, .int v_p0_patternMany, .ref q_p0_loop, .ref q_p0_ranks, .ref q_p0_counts, .ref q_p0_then, .ref q_p0_table, .ref q_p0_product, .ref q_p0_turned, .ref q_p0_tape, .int v_p0_taped, .int v_p0_hasWhy, .ref q_p0_reasons, .int v_p0_hasImage, .int v_p0_imageN, .int v_p0_imageWay, .ref q_p0_imageLed])), (q_p0_imageLed, .inl (cI, 8, .inl f_p0_imageLed)), (q_p0_led, .inl (cI, 8, .inl f_p0_led))] H → va_D A [(q_p0, .inr (7, [.int v_p0_n, .int v_p0_way, .ref q_p0_led, .int v_p0_deeds, .ref q_p0_were, .ref q_p0_paths, .ref q_p0_more, .ref q_p0_patterns, .int v_p0_patternMany, .ref q_p0_loop, .ref q_p0_ranks, .ref q_p0_counts, .ref q_p0_then, .ref q_p0_table, .ref q_p0_product, .ref q_p0_turned, .ref q_p0_tape, .int v_p0_taped, .int v_p0_hasWhy, .ref q_p0_reasons, .int v_p0_hasImage, .int v_p0_imageN, .int v_p0_imageWay, .ref q_p0_imageLed])), (q_p0_imageLed, .inl (cI, 8, .inl f_p0_imageLed)), (q_p0_led, .inl (cI, 8, .inl f_p0_led))] → va_S A s.heap H locs → lv_has ls 2 [(0, .ref q_p0), (1, .int l1)] → W p l e { frames := 0, cells := 0, slots := 0, locals := 0 } s m args below meth c H locs 0 0 Q (F0 m 28 ls []) := by
      intro v_p0_n v_p0_way v_p0_deeds n28
      induction n28 with
      | zero =>
        intro l1 f_p0_led H locs ls h
        exact False.elim h
      | succ n28 ih28 =>
        intro l1 f_p0_led H locs ls h hP hD hS hl
        have h : M_X9_undo_l28 v_p0_hasImage v_p0_imageN v_p0_imageWay f_p0_imageLed P v_p0_n v_p0_way v_p0_deeds (LP2 (M_X9_undo_l28 v_p0_hasImage v_p0_imageN v_p0_imageWay f_p0_imageLed P v_p0_n v_p0_way v_p0_deeds) n28) l1 f_p0_led := h
        refine lv_iload_n hx hb dX9_undo_28 rfl (lv_at hl 1 rfl) ?_
        refine lv_bipush (v := (8 : Int32)) hx hb dX9_undo_29 (by decide) ?_
        refine lv_icmp_ge (tgt := 52) hx hb dX9_undo_31 (by decide) (fun c2 => ?_) (fun c2 => ?_)
        · have h := And.left h c2
          refine lv_aload_n hx hb dX9_undo_52 rfl (lv_at hl 0 rfl) ?_
          refine lv_iconst (v := (0 : Int32)) hx hb dX9_undo_53 (by decide) ?_
          refine z_put (ci := 7) (C := RX9) (T := TX9) (N := 24) (ty := .int) (wn := [(q_p0, .inr (7, [.int v_p0_n, .int v_p0_way, .ref q_p0_led, .int (0 : Int32), .ref q_p0_were, .ref q_p0_paths, .ref q_p0_more, .ref q_p0_patterns, .int v_p0_patternMany, .ref q_p0_loop, .ref q_p0_ranks, .ref q_p0_counts, .ref q_p0_then, .ref q_p0_table, .ref q_p0_product, .ref q_p0_turned, .ref q_p0_tape, .int v_p0_taped, .int v_p0_hasWhy, .ref q_p0_reasons, .int v_p0_hasImage, .int v_p0_imageN, .int v_p0_imageWay, .ref q_p0_imageLed])), (q_p0_imageLed, .inl (cI, 8, .inl f_p0_imageLed)), (q_p0_led, .inl (cI, 8, .inl f_p0_led))]) hx hb hts hinX9 tyX9 tyX9_ok nmX9 hown hK hP hD hS 0 rfl rfl 3 (by decide) hw5 (fun _ h9 => h9) rfl (by decide +kernel) rfl rfl (Nat.le_of_ble_eq_true rfl) dX9_undo_54 rfl (fun H locs hP hD hS => ?_)
          refine lv_aload_n hx hb dX9_undo_57 rfl (lv_at hl 0 rfl) ?_
          refine va_get (ci := 7) (C := RX9) (T := TX9) (N := 24) (v := .int v_p0_n) hx hb hts hinX9 hown hK hP 0 rfl rfl 0 (by decide) hw2 (fun _ h9 => h9) rfl dX9_undo_58 ?_
          exact z_iret hQ hx hb hr rfl hlocks hK (v_p0_n, v_p0_way, (0 : Int32), f_p0_led) h hP hD hS dX9_undo_61
        · have h := And.right h c2
          refine lv_aload_n hx hb dX9_undo_34 rfl (lv_at hl 0 rfl) ?_
          refine va_get (ci := 7) (C := RX9) (T := TX9) (N := 24) (v := .ref q_p0_led) hx hb hts hinX9 hown hK hP 0 rfl rfl 2 (by decide) hw6 (fun _ h9 => h9) rfl dX9_undo_35 ?_
          refine lv_iload_n hx hb dX9_undo_38 rfl (lv_at hl 1 rfl) ?_
          refine lv_aload_n hx hb dX9_undo_39 rfl (lv_at hl 0 rfl) ?_
          refine va_get (ci := 7) (C := RX9) (T := TX9) (N := 24) (v := .ref q_p0_imageLed) hx hb hts hinX9 hown hK hP 0 rfl rfl 23 (by decide) hw7 (fun _ h9 => h9) rfl dX9_undo_40 ?_
          refine lv_iload_n hx hb dX9_undo_43 rfl (lv_at hl 1 rfl) ?_
          obtain ⟨hi3, h⟩ := h
          refine va_iald hx hb hK hP 1 0 rfl rfl hi3 dX9_undo_44 ?_
          obtain ⟨hi4, h⟩ := h
          refine z_iast (wn := [(q_p0, .inr (7, [.int v_p0_n, .int v_p0_way, .ref q_p0_led, .int v_p0_deeds, .ref q_p0_were, .ref q_p0_paths, .ref q_p0_more, .ref q_p0_patterns, .int v_p0_patternMany, .ref q_p0_loop, .ref q_p0_ranks, .ref q_p0_counts, .ref q_p0_then, .ref q_p0_table, .ref q_p0_product, .ref q_p0_turned, .ref q_p0_tape, .int v_p0_taped, .int v_p0_hasWhy, .ref q_p0_reasons, .int v_p0_hasImage, .int v_p0_imageN, .int v_p0_imageWay, .ref q_p0_imageLed])), (q_p0_imageLed, .inl (cI, 8, .inl f_p0_imageLed)), (q_p0_led, .inl (cI, 8, .inl (upd f_p0_led l1.toNatClampNeg (f_p0_imageLed l1.toNatClampNeg))))]) hx hb hK hP hD hS 2 rfl hi4 dX9_undo_45 rfl (fun H locs hP hD hS => ?_)
          refine lv_iinc (v := (l1 + 1)) (lv' := [(1, .int (l1 + 1)), (0, .ref q_p0)]) hx hb dX9_undo_46 hl (k := 1) rfl rfl (by decide) rfl (fun ls hl => ?_)
          refine lv_goto (tgt := 28) hx hb dX9_undo_49 (by decide) ?_
          exact ih28 (l1 + 1) (upd f_p0_led l1.toNatClampNeg (f_p0_imageLed l1.toNatClampNeg)) _ _ _ h hP hD hS (lv_sub hl [1, 0] rfl)
    obtain ⟨n28, h⟩ := h
    exact k28 v_p0_imageN v_p0_imageWay v_p0_deeds n28 (0 : Int32) f_p0_led _ _ _ h hP hD hS (lv_sub hl [1, 0] rfl)
  · have h := And.left h c1
    refine lv_bipush (v := (-3 : Int32)) hx hb dX9_undo_7 (by decide) ?_
    exact z_iret hQ hx hb hr rfl hlocks hK (v_p0_n, v_p0_way, v_p0_deeds, f_p0_led) h hP hD hS dX9_undo_9
theorem hd_X9_count : yX9_count.cls = RX9 ∧ yX9_count.cls ≠ "java/lang/invoke/MethodHandle" ∧ yX9_count.cls ≠ "java/lang/invoke/VarHandle" ∧ (parseMethodDescriptor yX9_count.desc).map (fun d => d.parameters.length) = some 1 := by decide +kernel
set_option maxHeartbeats 4000000 in
set_option maxRecDepth 100000 in
theorem c_X9_count (l : Launch) (D : va_G) (cI cJ cB : ClassId) (tU tM tS : Nat) (q_p0 q_p0_led q_p0_were q_p0_paths q_p0_more q_p0_patterns q_p0_loop q_p0_ranks q_p0_counts q_p0_then q_p0_table q_p0_product q_p0_turned q_p0_tape q_p0_reasons q_p0_imageLed : Nat) (sz : Nat) (x1 : Int32) (v_p0_n : Int32) (v_p0_way : Int32) (v_p0_deeds : Int32) (v_p0_taped : Int32) (v_p0_patternMany : Int32) (v_p0_hasWhy : Int32) (v_p0_hasImage : Int32) (v_p0_imageN : Int32) (v_p0_imageWay : Int32) (P : Int32 → Prop) (h : M_X9_count x1 v_p0_n v_p0_way v_p0_deeds v_p0_taped P) : Met l yX9_count wsX9_count ({ frames := 1, cells := 0, slots := 0, locals := 20 }) (va_Pc [.ref q_p0, .int x1] (zPre D cI cJ cB tU tM tS [(q_p0, .inr (7, [.int v_p0_n, .int v_p0_way, .ref q_p0_led, .int v_p0_deeds, .ref q_p0_were, .ref q_p0_paths, .ref q_p0_more, .ref q_p0_patterns, .int v_p0_patternMany, .ref q_p0_loop, .ref q_p0_ranks, .ref q_p0_counts, .ref q_p0_then, .ref q_p0_table, .ref q_p0_product, .ref q_p0_turned, .ref q_p0_tape, .int v_p0_taped, .int v_p0_hasWhy, .ref q_p0_reasons, .int v_p0_hasImage, .int v_p0_imageN, .int v_p0_imageWay, .ref q_p0_imageLed]))] sz)) (va_Qi (fun (r : Int32) (u : Unit) => P r ) (fun u t => zPost D cI cJ cB (va_A [(q_p0, .inr (7, [.int v_p0_n, .int v_p0_way, .ref q_p0_led, .int v_p0_deeds, .ref q_p0_were, .ref q_p0_paths, .ref q_p0_more, .ref q_p0_patterns, .int v_p0_patternMany, .ref q_p0_loop, .ref q_p0_ranks, .ref q_p0_counts, .ref q_p0_then, .ref q_p0_table, .ref q_p0_product, .ref q_p0_turned, .ref q_p0_tape, .int v_p0_taped, .int v_p0_hasWhy, .ref q_p0_reasons, .int v_p0_hasImage, .int v_p0_imageN, .int v_p0_imageWay, .ref q_p0_imageLed]))] sz) [(q_p0, .inr (7, [.int v_p0_n, .int v_p0_way, .ref q_p0_led, .int v_p0_deeds, .ref q_p0_were, .ref q_p0_paths, .ref q_p0_more, .ref q_p0_patterns, .int v_p0_patternMany, .ref q_p0_loop, .ref q_p0_ranks, .ref q_p0_counts, .ref q_p0_then, .ref q_p0_table, .ref q_p0_product, .ref q_p0_turned, .ref q_p0_tape, .int v_p0_taped, .int v_p0_hasWhy, .ref q_p0_reasons, .int v_p0_hasImage, .int v_p0_imageN, .int v_p0_imageWay, .ref q_p0_imageLed]))] t) (va_A [(q_p0, .inr (7, [.int v_p0_n, .int v_p0_way, .ref q_p0_led, .int v_p0_deeds, .ref q_p0_were, .ref q_p0_paths, .ref q_p0_more, .ref q_p0_patterns, .int v_p0_patternMany, .ref q_p0_loop, .ref q_p0_ranks, .ref q_p0_counts, .ref q_p0_then, .ref q_p0_table, .ref q_p0_product, .ref q_p0_turned, .ref q_p0_tape, .int v_p0_taped, .int v_p0_hasWhy, .ref q_p0_reasons, .int v_p0_hasImage, .int v_p0_imageN, .int v_p0_imageWay, .ref q_p0_imageLed]))] sz)) 0 0 (va_A [(q_p0, .inr (7, [.int v_p0_n, .int v_p0_way, .ref q_p0_led, .int v_p0_deeds, .ref q_p0_were, .ref q_p0_paths, .ref q_p0_more, .ref q_p0_patterns, .int v_p0_patternMany, .ref q_p0_loop, .ref q_p0_ranks, .ref q_p0_counts, .ref q_p0_then, .ref q_p0_table, .ref q_p0_product, .ref q_p0_turned, .ref q_p0_tape, .int v_p0_taped, .int v_p0_hasWhy, .ref q_p0_reasons, .int v_p0_hasImage, .int v_p0_imageN, .int v_p0_imageWay, .ref q_p0_imageLed]))] sz) := by
  refine z_met (cc := cX9_count) (maxL := 2) (ret := (some .int)) (Qc := fun A => va_Qi (fun (r : Int32) (u : Unit) => P r ) (fun u t => zPost D cI cJ cB A [(q_p0, .inr (7, [.int v_p0_n, .int v_p0_way, .ref q_p0_led, .int v_p0_deeds, .ref q_p0_were, .ref q_p0_paths, .ref q_p0_more, .ref q_p0_patterns, .int v_p0_patternMany, .ref q_p0_loop, .ref q_p0_ranks, .ref q_p0_counts, .ref q_p0_then, .ref q_p0_table, .ref q_p0_product, .ref q_p0_turned, .ref q_p0_tape, .int v_p0_taped, .int v_p0_hasWhy, .ref q_p0_reasons, .int v_p0_hasImage, .int v_p0_imageN, .int v_p0_imageWay, .ref q_p0_imageLed]))] t) A) (by decide) rfl [.ref q_p0, .int x1] (Nat.le_of_ble_eq_true rfl) ?_
  intro p e s m args below meth c A hx hb hr hts hown hml hlocks hA hX hK H locs hP hD hS ls hl Q hQ
  have hown : s.vm.findClass RX9 = some m.cls := hown
  have hl : lv_has ls 2 [(0, .ref q_p0), (1, .int x1)] := hl
  have hw0 : (Cond.fieldLink RX9 9 "ForcedRingsModel" "n" "I").before args s = true := hts _ (List.mem_of_getElem? (i := 1) rfl)
  have hw1 : (Cond.fieldLink RX9 73 "ForcedRingsModel" "way" "I").before args s = true := hts _ (List.mem_of_getElem? (i := 2) rfl)
  have hw2 : (Cond.fieldLink RX9 66 "ForcedRingsModel" "deeds" "I").before args s = true := hts _ (List.mem_of_getElem? (i := 3) rfl)
  have hw3 : (Cond.fieldLink RX9 212 "ForcedRingsModel" "taped" "I").before args s = true := hts _ (List.mem_of_getElem? (i := 4) rfl)
  have hinX9 : ∀ w ∈ wsX90, w ∈ wsX9_count := fun _ h => List.mem_cons_of_mem _ (List.mem_append_right _ h)
  refine lv_iload_n hx hb dX9_count_0 rfl (lv_at hl 1 rfl) ?_
  by_cases e1_0 : x1 = (0 : Int32)
  · have h := And.left h e1_0
    have ez : x1.toInt = 0 := by rw [e1_0]; decide
    refine lv_tableIn (tgt := 40) hx hb dX9_count_1 (by rw [ez]; decide) (by rw [ez]; decide) (by rw [ez] <;> rfl) (by decide) ?_
    refine lv_aload_n hx hb dX9_count_40 rfl (lv_at hl 0 rfl) ?_
    refine va_get (ci := 7) (C := RX9) (T := TX9) (N := 24) (v := .int v_p0_n) hx hb hts hinX9 hown hK hP 0 rfl rfl 0 (by decide) hw0 (fun _ h9 => h9) rfl dX9_count_41 ?_
    exact z_iret hQ hx hb hr rfl hlocks hK () h hP hD hS dX9_count_44
  · have h := And.right h e1_0
    by_cases e1_1 : x1 = (1 : Int32)
    · have h := And.left h e1_1
      have ez : x1.toInt = 1 := by rw [e1_1]; decide
      refine lv_tableIn (tgt := 45) hx hb dX9_count_1 (by rw [ez]; decide) (by rw [ez]; decide) (by rw [ez] <;> rfl) (by decide) ?_
      refine lv_aload_n hx hb dX9_count_45 rfl (lv_at hl 0 rfl) ?_
      refine va_get (ci := 7) (C := RX9) (T := TX9) (N := 24) (v := .int v_p0_way) hx hb hts hinX9 hown hK hP 0 rfl rfl 1 (by decide) hw1 (fun _ h9 => h9) rfl dX9_count_46 ?_
      exact z_iret hQ hx hb hr rfl hlocks hK () h hP hD hS dX9_count_49
    · have h := And.right h e1_1
      by_cases e1_2 : x1 = (2 : Int32)
      · have h := And.left h e1_2
        have ez : x1.toInt = 2 := by rw [e1_2]; decide
        refine lv_tableIn (tgt := 50) hx hb dX9_count_1 (by rw [ez]; decide) (by rw [ez]; decide) (by rw [ez] <;> rfl) (by decide) ?_
        refine lv_aload_n hx hb dX9_count_50 rfl (lv_at hl 0 rfl) ?_
        refine z_cVi (As := []) (rest := []) (wr := []) (wn := fun u => [(q_p0, .inr (7, [.int v_p0_n, .int v_p0_way, .ref q_p0_led, .int v_p0_deeds, .ref q_p0_were, .ref q_p0_paths, .ref q_p0_more, .ref q_p0_patterns, .int v_p0_patternMany, .ref q_p0_loop, .ref q_p0_ranks, .ref q_p0_counts, .ref q_p0_then, .ref q_p0_table, .ref q_p0_product, .ref q_p0_turned, .ref q_p0_tape, .int v_p0_taped, .int v_p0_hasWhy, .ref q_p0_reasons, .int v_p0_hasImage, .int v_p0_imageN, .int v_p0_imageWay, .ref q_p0_imageLed]))]) (c_X9_pieces l D cI cJ cB tU tM tS q_p0 q_p0_led q_p0_were q_p0_paths q_p0_more q_p0_patterns q_p0_loop q_p0_ranks q_p0_counts q_p0_then q_p0_table q_p0_product q_p0_turned q_p0_tape q_p0_reasons q_p0_imageLed H.size v_p0_way v_p0_n v_p0_deeds v_p0_patternMany v_p0_taped v_p0_hasWhy v_p0_hasImage v_p0_imageN v_p0_imageWay _ h) ⟨hx, hb, hml, hown, hts⟩ (cwV 0 hts gX9_count_X9_pieces rfl rfl rfl hd_X9_pieces ⟨Nat.le_of_ble_eq_true rfl, Nat.le_of_ble_eq_true rfl⟩) hX hK hP hD hS hA [0] [] [0] rfl rfl rfl (by decide) (fun _ => rfl) (q0 := 0) (ci := 7) rfl rfl rfl hl.1 rfl (Nat.le_of_ble_eq_true rfl) ⟨Nat.le_refl _, Nat.le_refl _⟩ dX9_count_51 (fun r2 u2 H locs h hP hD hS => ?_)
        exact z_iret hQ hx hb hr rfl hlocks hK () h hP hD hS dX9_count_54
      · have h := And.right h e1_2
        by_cases e1_3 : x1 = (3 : Int32)
        · have h := And.left h e1_3
          have ez : x1.toInt = 3 := by rw [e1_3]; decide
          refine lv_tableIn (tgt := 55) hx hb dX9_count_1 (by rw [ez]; decide) (by rw [ez]; decide) (by rw [ez] <;> rfl) (by decide) ?_
          refine lv_aload_n hx hb dX9_count_55 rfl (lv_at hl 0 rfl) ?_
          refine va_get (ci := 7) (C := RX9) (T := TX9) (N := 24) (v := .int v_p0_deeds) hx hb hts hinX9 hown hK hP 0 rfl rfl 3 (by decide) hw2 (fun _ h9 => h9) rfl dX9_count_56 ?_
          exact z_iret hQ hx hb hr rfl hlocks hK () h hP hD hS dX9_count_59
        · have h := And.right h e1_3
          by_cases e1_4 : x1 = (4 : Int32)
          · have h := And.left h e1_4
            have ez : x1.toInt = 4 := by rw [e1_4]; decide
            refine lv_tableIn (tgt := 60) hx hb dX9_count_1 (by rw [ez]; decide) (by rw [ez]; decide) (by rw [ez] <;> rfl) (by decide) ?_
            refine lv_aload_n hx hb dX9_count_60 rfl (lv_at hl 0 rfl) ?_
            refine va_get (ci := 7) (C := RX9) (T := TX9) (N := 24) (v := .int v_p0_taped) hx hb hts hinX9 hown hK hP 0 rfl rfl 17 (by decide) hw3 (fun _ h9 => h9) rfl dX9_count_61 ?_
            exact z_iret hQ hx hb hr rfl hlocks hK () h hP hD hS dX9_count_64
          · have h := And.right h e1_4
            by_cases e1_5 : x1 = (5 : Int32)
            · have h := And.left h e1_5
              have ez : x1.toInt = 5 := by rw [e1_5]; decide
              refine lv_tableIn (tgt := 65) hx hb dX9_count_1 (by rw [ez]; decide) (by rw [ez]; decide) (by rw [ez] <;> rfl) (by decide) ?_
              refine lv_sipush (v := (1123 : Int32)) hx hb dX9_count_65 (by decide) ?_
              exact z_iret hQ hx hb hr rfl hlocks hK () h hP hD hS dX9_count_68
            · have h := And.right h e1_5
              have z0 := z_ne (z := 0) e1_0 (by decide)
              have z1 := z_ne (z := 1) e1_1 (by decide)
              have z2 := z_ne (z := 2) e1_2 (by decide)
              have z3 := z_ne (z := 3) e1_3 (by decide)
              have z4 := z_ne (z := 4) e1_4 (by decide)
              have z5 := z_ne (z := 5) e1_5 (by decide)
              refine lv_tableOut (tgt := 69) hx hb dX9_count_1 (by omega) (by decide) ?_
              refine lv_bipush (v := (-2 : Int32)) hx hb dX9_count_69 (by decide) ?_
              exact z_iret hQ hx hb hr rfl hlocks hK () h hP hD hS dX9_count_71
