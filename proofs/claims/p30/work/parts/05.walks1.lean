theorem hd_X0_turned : yX0_turned.cls = RX0 ∧ yX0_turned.cls ≠ "java/lang/invoke/MethodHandle" ∧ yX0_turned.cls ≠ "java/lang/invoke/VarHandle" ∧ (parseMethodDescriptor yX0_turned.desc).map (fun d => d.parameters.length) = some 2 := by decide +kernel
set_option maxHeartbeats 4000000 in
set_option maxRecDepth 100000 in
theorem c_X0_turned (l : Launch) (D : va_G) (cI cJ cB : ClassId) (tU tM : Nat) (tS : tsT) (q_p0 q_p0_led q_p0_turnedLed : Nat) (sz : Nat) (x1 : Int32) (x2 : Int32) (v_p0_size : Int32) (f_p0_led : (Nat → Int32)) (f_p0_turnedLed : (Nat → Int32)) (v_p0_way : Int32) (P : Int32 → (Nat → Int32) → (Nat → Int32) → Prop) (h : M_X0_turned x1 x2 v_p0_size f_p0_led f_p0_turnedLed P) : Met l yX0_turned wsX0_turned ({ frames := 2, cells := 0, slots := 0, locals := 43 }) (va_Pc [.ref q_p0, .int x1, .int x2] (zPre D cI cJ cB tU tM tS [(q_p0, .inr (0, [.int v_p0_size, .int v_p0_way, .ref q_p0_led, .ref q_p0_turnedLed])), (q_p0_led, .inl (cI, 8, .inl f_p0_led)), (q_p0_turnedLed, .inl (cI, 8, .inl f_p0_turnedLed))] sz)) (va_Qi (fun (r : Int32) (u : (Nat → Int32) × (Nat → Int32)) => P r u.1 u.2) (fun u t => zPost D cI cJ cB (va_A [(q_p0, .inr (0, [.int v_p0_size, .int v_p0_way, .ref q_p0_led, .ref q_p0_turnedLed])), (q_p0_led, .inl (cI, 8, .inl f_p0_led)), (q_p0_turnedLed, .inl (cI, 8, .inl f_p0_turnedLed))] sz) [(q_p0, .inr (0, [.int v_p0_size, .int v_p0_way, .ref q_p0_led, .ref q_p0_turnedLed])), (q_p0_led, .inl (cI, 8, .inl u.2)), (q_p0_turnedLed, .inl (cI, 8, .inl u.1))] t) (va_A [(q_p0, .inr (0, [.int v_p0_size, .int v_p0_way, .ref q_p0_led, .ref q_p0_turnedLed])), (q_p0_led, .inl (cI, 8, .inl f_p0_led)), (q_p0_turnedLed, .inl (cI, 8, .inl f_p0_turnedLed))] sz)) 0 0 (va_A [(q_p0, .inr (0, [.int v_p0_size, .int v_p0_way, .ref q_p0_led, .ref q_p0_turnedLed])), (q_p0_led, .inl (cI, 8, .inl f_p0_led)), (q_p0_turnedLed, .inl (cI, 8, .inl f_p0_turnedLed))] sz) := by
  refine z_met (cc := cX0_turned) (maxL := 3) (ret := (some .boolean)) (Qc := fun A => va_Qi (fun (r : Int32) (u : (Nat → Int32) × (Nat → Int32)) => P r u.1 u.2) (fun u t => zPost D cI cJ cB A [(q_p0, .inr (0, [.int v_p0_size, .int v_p0_way, .ref q_p0_led, .ref q_p0_turnedLed])), (q_p0_led, .inl (cI, 8, .inl u.2)), (q_p0_turnedLed, .inl (cI, 8, .inl u.1))] t) A) (by decide) rfl [.ref q_p0, .int x1, .int x2] (Nat.le_of_ble_eq_true rfl) ?_
  intro p e s m args below meth c A hx hb hr hts hown hml hlocks hA hX hK H locs hP hD hS ls hl Q hQ
  have hown : s.vm.findClass RX0 = some m.cls := hown
  have hl : lv_has ls 3 [(0, .ref q_p0), (1, .int x1), (2, .int x2)] := hl
  have hw0 : (Cond.fieldLink RX0 22 "ForcedRings$Chart" "turnedLed" "[I").before args s = true := hts _ (List.mem_of_getElem? (i := 1) rfl)
  have hw1 : (Cond.fieldLink RX0 18 "ForcedRings$Chart" "led" "[I").before args s = true := hts _ (List.mem_of_getElem? (i := 2) rfl)
  have hw2 : (Cond.fieldLink RX0 9 "ForcedRings$Chart" "size" "I").before args s = true := hts _ (List.mem_of_getElem? (i := 3) rfl)
  have hw3 : (Cond.methodLink RX0 29 arraycopyName).before args s = true := hts _ (List.mem_of_getElem? (i := 4) rfl)
  have hw4 : (Cond.native arraycopyName).before args s = true := hts _ (List.mem_of_getElem? (i := 5) rfl)
  have hw5 : (Cond.static arraycopyName).before args s = true := hts _ (List.mem_of_getElem? (i := 6) rfl)
  have hw6 : (Cond.initialized "java/lang/System").before args s = true := hts _ (List.mem_of_getElem? (i := 7) rfl)
  have hinX0 : ∀ w ∈ wsX00, w ∈ wsX0_turned := fun _ h => List.mem_cons_of_mem _ (List.mem_append_right _ h)
  refine lv_iload_n hx hb dX0_turned_0 rfl (lv_at hl 1 rfl) ?_
  have k76 : ∀ (f_p0_turnedLed : (Nat → Int32)) (f_p0_led : (Nat → Int32)) (H : Heap) (locs : List Loc) (ls : Array Slot), M_X0_turned_b76 x1 x2 v_p0_size P f_p0_turnedLed f_p0_led → va_P D vwCl [(q_p0, .inr (0, [.int v_p0_size, .int v_p0_way, .ref q_p0_led, .ref q_p0_turnedLed])), (q_p0_led, .inl (cI, 8, .inl f_p0_led)), (q_p0_turnedLed, .inl (cI, 8, .inl f_p0_turnedLed))] H → va_D A [(q_p0, .inr (0, [.int v_p0_size, .int v_p0_way, .ref q_p0_led, .ref q_p0_turnedLed])), (q_p0_led, .inl (cI, 8, .inl f_p0_led)), (q_p0_turnedLed, .inl (cI, 8, .inl f_p0_turnedLed))] → va_S A s.heap H locs → lv_has ls 3 [(0, .ref q_p0)] → W p l e { frames := 2, cells := 0, slots := 0, locals := 43 } s m args below meth c H locs 0 0 Q (F0 m 76 ls []) := by
    intro f_p0_turnedLed f_p0_led H locs ls h hP hD hS hl
    refine lv_aload_n hx hb dX0_turned_76 rfl (lv_at hl 0 rfl) ?_
    refine va_get (ci := 0) (C := RX0) (T := TX0) (N := 4) (v := .ref q_p0_turnedLed) hx hb hts hinX0 hown hK hP 0 rfl rfl 3 (by decide) hw0 (fun _ h9 => h9) rfl dX0_turned_77 ?_
    refine lv_iconst (v := (0 : Int32)) hx hb dX0_turned_80 (by decide) ?_
    refine lv_aload_n hx hb dX0_turned_81 rfl (lv_at hl 0 rfl) ?_
    refine va_get (ci := 0) (C := RX0) (T := TX0) (N := 4) (v := .ref q_p0_led) hx hb hts hinX0 hown hK hP 0 rfl rfl 2 (by decide) hw1 (fun _ h9 => h9) rfl dX0_turned_82 ?_
    refine lv_iconst (v := (0 : Int32)) hx hb dX0_turned_85 (by decide) ?_
    refine lv_aload_n hx hb dX0_turned_86 rfl (lv_at hl 0 rfl) ?_
    refine va_get (ci := 0) (C := RX0) (T := TX0) (N := 4) (v := .int v_p0_size) hx hb hts hinX0 hown hK hP 0 rfl rfl 0 (by decide) hw2 (fun _ h9 => h9) rfl dX0_turned_87 ?_
    obtain ⟨⟨ha1, hb1, hc1, hd1, he1⟩, h⟩ := h
    refine z_copyi (wn := [(q_p0, .inr (0, [.int v_p0_size, .int v_p0_way, .ref q_p0_led, .ref q_p0_turnedLed])), (q_p0_led, .inl (cI, 8, .inl (va_cpy f_p0_turnedLed f_p0_led (0 : Int32).toNatClampNeg (0 : Int32).toNatClampNeg v_p0_size.toNatClampNeg))), (q_p0_turnedLed, .inl (cI, 8, .inl f_p0_turnedLed))]) hx hb (hml.trans hl.1.symm) hown hw3 hw4 hw5 hw6 hK hP hD hS 2 1 rfl rfl ha1 hb1 hc1 hd1 he1 (Nat.le_of_ble_eq_true rfl) (Nat.le_of_ble_eq_true rfl) dX0_turned_90 rfl (fun H locs hP hD hS => ?_)
    refine lv_iconst (v := (1 : Int32)) hx hb dX0_turned_93 (by decide) ?_
    exact z_iret hQ hx hb hr rfl hlocks hK (f_p0_turnedLed, (va_cpy f_p0_turnedLed f_p0_led (0 : Int32).toNatClampNeg (0 : Int32).toNatClampNeg v_p0_size.toNatClampNeg)) h hP hD hS dX0_turned_94
  by_cases e2_0 : x1 = (0 : Int32)
  · have h := And.left h e2_0
    have ez : x1.toInt = 0 := by rw [e2_0]; decide
    refine lv_tableIn (tgt := 36) hx hb dX0_turned_1 (by rw [ez]; decide) (by rw [ez]; decide) (by rw [ez] <;> rfl) (by decide) ?_
    refine lv_aload_n hx hb dX0_turned_36 rfl (lv_at hl 0 rfl) ?_
    refine z_cVv (As := []) (rest := []) (wr := []) (wn := fun u => [(q_p0, .inr (0, [.int v_p0_size, .int v_p0_way, .ref q_p0_led, .ref q_p0_turnedLed])), (q_p0_led, .inl (cI, 8, .inl f_p0_led)), (q_p0_turnedLed, .inl (cI, 8, .inl u))]) (c_X0_mirror l D cI cJ cB tU tM tS q_p0 q_p0_led q_p0_turnedLed H.size v_p0_size f_p0_led f_p0_turnedLed v_p0_way _ h) ⟨hx, hb, hml, hown, hts⟩ (cwV 0 hts gX0_turned_X0_mirror rfl rfl rfl hd_X0_mirror ⟨Nat.le_of_ble_eq_true rfl, Nat.le_of_ble_eq_true rfl⟩) hX hK hP hD hS hA [0, 1, 2] [] [0, 1, 2] rfl rfl rfl (by decide) (fun _ => rfl) (q0 := 0) (ci := 0) rfl rfl rfl hl.1 rfl (Nat.le_of_ble_eq_true rfl) ⟨Nat.le_refl _, Nat.le_refl _⟩ dX0_turned_37 (fun m3_0 H locs h hP hD hS => ?_)
    refine lv_goto (tgt := 76) hx hb dX0_turned_40 (by decide) ?_
    exact k76 m3_0 f_p0_led _ _ _ h hP hD hS (lv_sub hl [0] rfl)
  · have h := And.right h e2_0
    by_cases e2_1 : x1 = (1 : Int32)
    · have h := And.left h e2_1
      have ez : x1.toInt = 1 := by rw [e2_1]; decide
      refine lv_tableIn (tgt := 43) hx hb dX0_turned_1 (by rw [ez]; decide) (by rw [ez]; decide) (by rw [ez] <;> rfl) (by decide) ?_
      refine lv_aload_n hx hb dX0_turned_43 rfl (lv_at hl 0 rfl) ?_
      refine z_cVv (As := []) (rest := []) (wr := []) (wn := fun u => [(q_p0, .inr (0, [.int v_p0_size, .int v_p0_way, .ref q_p0_led, .ref q_p0_turnedLed])), (q_p0_led, .inl (cI, 8, .inl f_p0_led)), (q_p0_turnedLed, .inl (cI, 8, .inl u))]) (c_X0_leadTwice l D cI cJ cB tU tM tS q_p0 q_p0_led q_p0_turnedLed H.size v_p0_size f_p0_led f_p0_turnedLed v_p0_way _ h) ⟨hx, hb, hml, hown, hts⟩ (cwV 0 hts gX0_turned_X0_leadTwice rfl rfl rfl hd_X0_leadTwice ⟨Nat.le_of_ble_eq_true rfl, Nat.le_of_ble_eq_true rfl⟩) hX hK hP hD hS hA [0, 1, 2] [] [0, 1, 2] rfl rfl rfl (by decide) (fun _ => rfl) (q0 := 0) (ci := 0) rfl rfl rfl hl.1 rfl (Nat.le_of_ble_eq_true rfl) ⟨Nat.le_refl _, Nat.le_refl _⟩ dX0_turned_44 (fun m4_0 H locs h hP hD hS => ?_)
      refine lv_goto (tgt := 76) hx hb dX0_turned_47 (by decide) ?_
      exact k76 m4_0 f_p0_led _ _ _ h hP hD hS (lv_sub hl [0] rfl)
    · have h := And.right h e2_1
      by_cases e2_2 : x1 = (2 : Int32)
      · have h := And.left h e2_2
        have ez : x1.toInt = 2 := by rw [e2_2]; decide
        refine lv_tableIn (tgt := 50) hx hb dX0_turned_1 (by rw [ez]; decide) (by rw [ez]; decide) (by rw [ez] <;> rfl) (by decide) ?_
        refine lv_aload_n hx hb dX0_turned_50 rfl (lv_at hl 0 rfl) ?_
        refine z_cVv (As := []) (rest := []) (wr := []) (wn := fun u => [(q_p0, .inr (0, [.int v_p0_size, .int v_p0_way, .ref q_p0_led, .ref q_p0_turnedLed])), (q_p0_led, .inl (cI, 8, .inl f_p0_led)), (q_p0_turnedLed, .inl (cI, 8, .inl u))]) (c_X0_move l D cI cJ cB tU tM tS q_p0 q_p0_led q_p0_turnedLed H.size v_p0_size f_p0_led f_p0_turnedLed v_p0_way _ h) ⟨hx, hb, hml, hown, hts⟩ (cwV 0 hts gX0_turned_X0_move rfl rfl rfl hd_X0_move ⟨Nat.le_of_ble_eq_true rfl, Nat.le_of_ble_eq_true rfl⟩) hX hK hP hD hS hA [0, 1, 2] [] [0, 1, 2] rfl rfl rfl (by decide) (fun _ => rfl) (q0 := 0) (ci := 0) rfl rfl rfl hl.1 rfl (Nat.le_of_ble_eq_true rfl) ⟨Nat.le_refl _, Nat.le_refl _⟩ dX0_turned_51 (fun m5_0 H locs h hP hD hS => ?_)
        refine lv_goto (tgt := 76) hx hb dX0_turned_54 (by decide) ?_
        exact k76 m5_0 f_p0_led _ _ _ h hP hD hS (lv_sub hl [0] rfl)
      · have h := And.right h e2_2
        by_cases e2_3 : x1 = (3 : Int32)
        · have h := And.left h e2_3
          have ez : x1.toInt = 3 := by rw [e2_3]; decide
          refine lv_tableIn (tgt := 57) hx hb dX0_turned_1 (by rw [ez]; decide) (by rw [ez]; decide) (by rw [ez] <;> rfl) (by decide) ?_
          refine lv_aload_n hx hb dX0_turned_57 rfl (lv_at hl 0 rfl) ?_
          refine z_cVi (As := []) (rest := []) (wr := []) (wn := fun u => [(q_p0, .inr (0, [.int v_p0_size, .int v_p0_way, .ref q_p0_led, .ref q_p0_turnedLed])), (q_p0_led, .inl (cI, 8, .inl f_p0_led)), (q_p0_turnedLed, .inl (cI, 8, .inl u))]) (c_X0_turnRound l D cI cJ cB tU tM tS q_p0 q_p0_led q_p0_turnedLed H.size v_p0_size f_p0_led f_p0_turnedLed v_p0_way _ h) ⟨hx, hb, hml, hown, hts⟩ (cwV 0 hts gX0_turned_X0_turnRound rfl rfl rfl hd_X0_turnRound ⟨Nat.le_of_ble_eq_true rfl, Nat.le_of_ble_eq_true rfl⟩) hX hK hP hD hS hA [0, 1, 2] [] [0, 1, 2] rfl rfl rfl (by decide) (fun _ => rfl) (q0 := 0) (ci := 0) rfl rfl rfl hl.1 rfl (Nat.le_of_ble_eq_true rfl) ⟨Nat.le_refl _, Nat.le_refl _⟩ dX0_turned_58 (fun r6 m6_0 H locs h hP hD hS => ?_)
          refine lv_if_ne (tgt := 76) hx hb dX0_turned_61 (by decide) (fun c7 => ?_) (fun c7 => ?_)
          · have h := And.right h c7
            exact k76 m6_0 f_p0_led _ _ _ h hP hD hS (lv_sub hl [0] rfl)
          · have h := And.left h c7
            refine lv_iconst (v := (0 : Int32)) hx hb dX0_turned_64 (by decide) ?_
            exact z_iret hQ hx hb hr rfl hlocks hK (m6_0, f_p0_led) h hP hD hS dX0_turned_65
        · have h := And.right h e2_3
          by_cases e2_4 : x1 = (4 : Int32)
          · have h := And.left h e2_4
            have ez : x1.toInt = 4 := by rw [e2_4]; decide
            refine lv_tableIn (tgt := 66) hx hb dX0_turned_1 (by rw [ez]; decide) (by rw [ez]; decide) (by rw [ez] <;> rfl) (by decide) ?_
            refine lv_aload_n hx hb dX0_turned_66 rfl (lv_at hl 0 rfl) ?_
            refine lv_iload_n hx hb dX0_turned_67 rfl (lv_at hl 2 rfl) ?_
            refine z_cVv (As := [.int x2]) (rest := []) (wr := []) (wn := fun u => [(q_p0, .inr (0, [.int v_p0_size, .int v_p0_way, .ref q_p0_led, .ref q_p0_turnedLed])), (q_p0_led, .inl (cI, 8, .inl f_p0_led)), (q_p0_turnedLed, .inl (cI, 8, .inl u))]) (c_X0_leadFurther l D cI cJ cB tU tM tS q_p0 q_p0_led q_p0_turnedLed H.size x2 v_p0_size f_p0_led f_p0_turnedLed v_p0_way _ h) ⟨hx, hb, hml, hown, hts⟩ (cwV 1 hts gX0_turned_X0_leadFurther rfl rfl rfl hd_X0_leadFurther ⟨Nat.le_of_ble_eq_true rfl, Nat.le_of_ble_eq_true rfl⟩) hX hK hP hD hS hA [0, 1, 2] [] [0, 1, 2] rfl rfl rfl (by decide) (fun _ => rfl) (q0 := 0) (ci := 0) rfl rfl rfl hl.1 rfl (Nat.le_of_ble_eq_true rfl) ⟨Nat.le_refl _, Nat.le_refl _⟩ dX0_turned_68 (fun m8_0 H locs h hP hD hS => ?_)
            refine lv_goto (tgt := 76) hx hb dX0_turned_71 (by decide) ?_
            exact k76 m8_0 f_p0_led _ _ _ h hP hD hS (lv_sub hl [0] rfl)
          · have h := And.right h e2_4
            have z0 := z_ne (z := 0) e2_0 (by decide)
            have z1 := z_ne (z := 1) e2_1 (by decide)
            have z2 := z_ne (z := 2) e2_2 (by decide)
            have z3 := z_ne (z := 3) e2_3 (by decide)
            have z4 := z_ne (z := 4) e2_4 (by decide)
            refine lv_tableOut (tgt := 74) hx hb dX0_turned_1 (by omega) (by decide) ?_
            refine lv_iconst (v := (0 : Int32)) hx hb dX0_turned_74 (by decide) ?_
            exact z_iret hQ hx hb hr rfl hlocks hK (f_p0_turnedLed, f_p0_led) h hP hD hS dX0_turned_75
theorem hd_X1_forget : yX1_forget.cls = RX1 ∧ yX1_forget.cls ≠ "java/lang/invoke/MethodHandle" ∧ yX1_forget.cls ≠ "java/lang/invoke/VarHandle" ∧ (parseMethodDescriptor yX1_forget.desc).map (fun d => d.parameters.length) = some 0 := by decide +kernel
set_option maxHeartbeats 4000000 in
set_option maxRecDepth 100000 in
theorem c_X1_forget (l : Launch) (D : va_G) (cI cJ cB : ClassId) (tU tM : Nat) (tS : tsT) (q_p0 q_p0_maps : Nat) (sz : Nat) (v_p0_amount : Int32)  (P : Int32 → Prop) (h : M_X1_forget v_p0_amount P) : Met l yX1_forget wsX1_forget ({ frames := 0, cells := 0, slots := 0, locals := 0 }) (va_Pc [.ref q_p0] (zPre D cI cJ cB tU tM tS [(q_p0, .inr (1, [.int v_p0_amount, .ref q_p0_maps]))] sz)) (va_Qv (fun u : Int32 => P u) (fun u t => zPost D cI cJ cB (va_A [(q_p0, .inr (1, [.int v_p0_amount, .ref q_p0_maps]))] sz) [(q_p0, .inr (1, [.int u, .ref q_p0_maps]))] t) (va_A [(q_p0, .inr (1, [.int v_p0_amount, .ref q_p0_maps]))] sz)) 0 0 (va_A [(q_p0, .inr (1, [.int v_p0_amount, .ref q_p0_maps]))] sz) := by
  refine z_met (cc := cX1_forget) (maxL := 1) (ret := none) (Qc := fun A => va_Qv (fun u : Int32 => P u) (fun u t => zPost D cI cJ cB A [(q_p0, .inr (1, [.int u, .ref q_p0_maps]))] t) A) (by decide) rfl [.ref q_p0] (Nat.le_of_ble_eq_true rfl) ?_
  intro p e s m args below meth c A hx hb hr hts hown hml hlocks hA hX hK H locs hP hD hS ls hl Q hQ
  have hown : s.vm.findClass RX1 = some m.cls := hown
  have hl : lv_has ls 1 [(0, .ref q_p0)] := hl
  have hw0 : (Cond.fieldLink RX1 13 "ForcedRings$Deeds" "amount" "I").before args s = true := hts _ (List.mem_of_getElem? (i := 1) rfl)
  have hinX1 : ∀ w ∈ wsX10, w ∈ wsX1_forget := fun _ h => List.mem_cons_of_mem _ (List.mem_append_right _ h)
  refine lv_aload_n hx hb dX1_forget_0 rfl (lv_at hl 0 rfl) ?_
  refine lv_iconst (v := (0 : Int32)) hx hb dX1_forget_1 (by decide) ?_
  refine z_put (ci := 1) (C := RX1) (T := TX1) (N := 2) (ty := .int) (wn := [(q_p0, .inr (1, [.int (0 : Int32), .ref q_p0_maps]))]) hx hb hts hinX1 tyX1 tyX1_ok nmX1 hown hK hP hD hS 0 rfl rfl 0 (by decide) hw0 (fun _ h9 => h9) rfl (by decide +kernel) rfl rfl (Nat.le_of_ble_eq_true rfl) dX1_forget_2 rfl (fun H locs hP hD hS => ?_)
  exact z_vret hQ hx hb hr hlocks hK (0 : Int32) h hP hD hS dX1_forget_5
theorem hd_X1_forgetOldest : yX1_forgetOldest.cls = RX1 ∧ yX1_forgetOldest.cls ≠ "java/lang/invoke/MethodHandle" ∧ yX1_forgetOldest.cls ≠ "java/lang/invoke/VarHandle" ∧ (parseMethodDescriptor yX1_forgetOldest.desc).map (fun d => d.parameters.length) = some 0 := by decide +kernel
set_option maxHeartbeats 4000000 in
set_option maxRecDepth 100000 in
theorem c_X1_forgetOldest (l : Launch) (D : va_G) (cI cJ cB : ClassId) (tU tM : Nat) (tS : tsT) (q_p0 q_p0_maps : Nat) (sz : Nat) (v_p0_amount : Int32) (f_p0_maps : (Nat → Int32))  (P : Int32 → (Nat → Int32) → Prop) (h : M_X1_forgetOldest v_p0_amount f_p0_maps P) : Met l yX1_forgetOldest wsX1_forgetOldest ({ frames := 0, cells := 0, slots := 0, locals := 0 }) (va_Pc [.ref q_p0] (zPre D cI cJ cB tU tM tS [(q_p0, .inr (1, [.int v_p0_amount, .ref q_p0_maps])), (q_p0_maps, .inl (cI, 10, .inl f_p0_maps))] sz)) (va_Qv (fun u : Int32 × (Nat → Int32) => P u.1 u.2) (fun u t => zPost D cI cJ cB (va_A [(q_p0, .inr (1, [.int v_p0_amount, .ref q_p0_maps])), (q_p0_maps, .inl (cI, 10, .inl f_p0_maps))] sz) [(q_p0, .inr (1, [.int u.1, .ref q_p0_maps])), (q_p0_maps, .inl (cI, 10, .inl u.2))] t) (va_A [(q_p0, .inr (1, [.int v_p0_amount, .ref q_p0_maps])), (q_p0_maps, .inl (cI, 10, .inl f_p0_maps))] sz)) 0 0 (va_A [(q_p0, .inr (1, [.int v_p0_amount, .ref q_p0_maps])), (q_p0_maps, .inl (cI, 10, .inl f_p0_maps))] sz) := by
  refine z_met (cc := cX1_forgetOldest) (maxL := 2) (ret := none) (Qc := fun A => va_Qv (fun u : Int32 × (Nat → Int32) => P u.1 u.2) (fun u t => zPost D cI cJ cB A [(q_p0, .inr (1, [.int u.1, .ref q_p0_maps])), (q_p0_maps, .inl (cI, 10, .inl u.2))] t) A) (by decide) rfl [.ref q_p0] (Nat.le_of_ble_eq_true rfl) ?_
  intro p e s m args below meth c A hx hb hr hts hown hml hlocks hA hX hK H locs hP hD hS ls hl Q hQ
  have hown : s.vm.findClass RX1 = some m.cls := hown
  have hl : lv_has ls 2 [(0, .ref q_p0)] := hl
  have hw0 : (Cond.fieldLink RX1 13 "ForcedRings$Deeds" "amount" "I").before args s = true := hts _ (List.mem_of_getElem? (i := 2) rfl)
  have hw1 : (Cond.fieldLink RX1 9 "ForcedRings$Deeds" "maps" "[I").before args s = true := hts _ (List.mem_of_getElem? (i := 1) rfl)
  have hinX1 : ∀ w ∈ wsX10, w ∈ wsX1_forgetOldest := fun _ h => List.mem_cons_of_mem _ (List.mem_append_right _ h)
  refine lv_iconst (v := (1 : Int32)) hx hb dX1_forgetOldest_0 (by decide) ?_
  refine lv_istore_n (lv' := [(1, .int (1 : Int32)), (0, .ref q_p0)]) hx hb dX1_forgetOldest_1 rfl hl (by decide) rfl (fun ls hl => ?_)
  have k2 : ∀ (v_p0_amount : Int32) (n2 : Nat) (l1 : Int32) (f_p0_maps : (Nat → Int32)) (H : Heap) (locs : List Loc) (ls : Array Slot), LP2 (M_X1_forgetOldest_l2 P v_p0_amount) n2 l1 f_p0_maps → va_P D vwCl [(q_p0, .inr (1, [.int v_p0_amount, .ref q_p0_maps])), (q_p0_maps, .inl (cI, 10, .inl f_p0_maps))] H → va_D A [(q_p0, .inr (1, [.int v_p0_amount, .ref q_p0_maps])), (q_p0_maps, .inl (cI, 10, .inl f_p0_maps))] → va_S A s.heap H locs → lv_has ls 2 [(0, .ref q_p0), (1, .int l1)] → W p l e { frames := 0, cells := 0, slots := 0, locals := 0 } s m args below meth c H locs 0 0 Q (F0 m 2 ls []) := by
    intro v_p0_amount n2
    induction n2 with
    | zero =>
      intro l1 f_p0_maps H locs ls h
      exact False.elim h
    | succ n2 ih2 =>
      intro l1 f_p0_maps H locs ls h hP hD hS hl
      have h : M_X1_forgetOldest_l2 P v_p0_amount (LP2 (M_X1_forgetOldest_l2 P v_p0_amount) n2) l1 f_p0_maps := h
      refine lv_iload_n hx hb dX1_forgetOldest_2 rfl (lv_at hl 1 rfl) ?_
      refine lv_bipush (v := (10 : Int32)) hx hb dX1_forgetOldest_3 (by decide) ?_
      refine lv_icmp_ge (tgt := 28) hx hb dX1_forgetOldest_5 (by decide) (fun c1 => ?_) (fun c1 => ?_)
      · have h := And.left h c1
        refine lv_aload_n hx hb dX1_forgetOldest_28 rfl (lv_at hl 0 rfl) ?_
        refine lv_dup hx hb dX1_forgetOldest_29 rfl ?_
        refine va_get (ci := 1) (C := RX1) (T := TX1) (N := 2) (v := .int v_p0_amount) hx hb hts hinX1 hown hK hP 0 rfl rfl 0 (by decide) hw0 (fun _ h9 => h9) rfl dX1_forgetOldest_30 ?_
        refine lv_iconst (v := (1 : Int32)) hx hb dX1_forgetOldest_33 (by decide) ?_
        refine lv_isub hx hb dX1_forgetOldest_34 ?_
        refine z_put (ci := 1) (C := RX1) (T := TX1) (N := 2) (ty := .int) (wn := [(q_p0, .inr (1, [.int (v_p0_amount - (1 : Int32)), .ref q_p0_maps])), (q_p0_maps, .inl (cI, 10, .inl f_p0_maps))]) hx hb hts hinX1 tyX1 tyX1_ok nmX1 hown hK hP hD hS 0 rfl rfl 0 (by decide) hw0 (fun _ h9 => h9) rfl (by decide +kernel) rfl rfl (Nat.le_of_ble_eq_true rfl) dX1_forgetOldest_35 rfl (fun H locs hP hD hS => ?_)
        exact z_vret hQ hx hb hr hlocks hK ((v_p0_amount - (1 : Int32)), f_p0_maps) h hP hD hS dX1_forgetOldest_38
      · have h := And.right h c1
        refine lv_aload_n hx hb dX1_forgetOldest_8 rfl (lv_at hl 0 rfl) ?_
        refine va_get (ci := 1) (C := RX1) (T := TX1) (N := 2) (v := .ref q_p0_maps) hx hb hts hinX1 hown hK hP 0 rfl rfl 1 (by decide) hw1 (fun _ h9 => h9) rfl dX1_forgetOldest_9 ?_
        refine lv_iload_n hx hb dX1_forgetOldest_12 rfl (lv_at hl 1 rfl) ?_
        refine lv_iconst (v := (1 : Int32)) hx hb dX1_forgetOldest_13 (by decide) ?_
        refine lv_isub hx hb dX1_forgetOldest_14 ?_
        refine lv_aload_n hx hb dX1_forgetOldest_15 rfl (lv_at hl 0 rfl) ?_
        refine va_get (ci := 1) (C := RX1) (T := TX1) (N := 2) (v := .ref q_p0_maps) hx hb hts hinX1 hown hK hP 0 rfl rfl 1 (by decide) hw1 (fun _ h9 => h9) rfl dX1_forgetOldest_16 ?_
        refine lv_iload_n hx hb dX1_forgetOldest_19 rfl (lv_at hl 1 rfl) ?_
        obtain ⟨hi2, h⟩ := h
        refine va_iald hx hb hK hP 1 0 rfl rfl hi2 dX1_forgetOldest_20 ?_
        obtain ⟨hi3, h⟩ := h
        refine z_iast (wn := [(q_p0, .inr (1, [.int v_p0_amount, .ref q_p0_maps])), (q_p0_maps, .inl (cI, 10, .inl (upd f_p0_maps (l1 - (1 : Int32)).toNatClampNeg (f_p0_maps l1.toNatClampNeg))))]) hx hb hK hP hD hS 1 rfl hi3 dX1_forgetOldest_21 rfl (fun H locs hP hD hS => ?_)
        refine lv_iinc (v := (l1 + 1)) (lv' := [(1, .int (l1 + 1)), (0, .ref q_p0)]) hx hb dX1_forgetOldest_22 hl (k := 1) rfl rfl (by decide) rfl (fun ls hl => ?_)
        refine lv_goto (tgt := 2) hx hb dX1_forgetOldest_25 (by decide) ?_
        exact ih2 (l1 + 1) (upd f_p0_maps (l1 - (1 : Int32)).toNatClampNeg (f_p0_maps l1.toNatClampNeg)) _ _ _ h hP hD hS (lv_sub hl [1, 0] rfl)
  obtain ⟨n2, h⟩ := h
  exact k2 v_p0_amount n2 (1 : Int32) f_p0_maps _ _ _ h hP hD hS (lv_sub hl [1, 0] rfl)
theorem hd_X1_keep : yX1_keep.cls = RX1 ∧ yX1_keep.cls ≠ "java/lang/invoke/MethodHandle" ∧ yX1_keep.cls ≠ "java/lang/invoke/VarHandle" ∧ (parseMethodDescriptor yX1_keep.desc).map (fun d => d.parameters.length) = some 1 := by decide +kernel
set_option maxHeartbeats 4000000 in
set_option maxRecDepth 100000 in
theorem c_X1_keep (l : Launch) (D : va_G) (cI cJ cB : ClassId) (tU tM : Nat) (tS : tsT) (q_p0 q_p0_maps : Nat) (sz : Nat) (x1 : Int32) (v_p0_amount : Int32) (f_p0_maps : (Nat → Int32))  (P : (Nat → Int32) → Int32 → Prop) (h : M_X1_keep x1 v_p0_amount f_p0_maps P) : Met l yX1_keep wsX1_keep ({ frames := 1, cells := 0, slots := 0, locals := 21 }) (va_Pc [.ref q_p0, .int x1] (zPre D cI cJ cB tU tM tS [(q_p0, .inr (1, [.int v_p0_amount, .ref q_p0_maps])), (q_p0_maps, .inl (cI, 10, .inl f_p0_maps))] sz)) (va_Qv (fun u : (Nat → Int32) × Int32 => P u.1 u.2) (fun u t => zPost D cI cJ cB (va_A [(q_p0, .inr (1, [.int v_p0_amount, .ref q_p0_maps])), (q_p0_maps, .inl (cI, 10, .inl f_p0_maps))] sz) [(q_p0, .inr (1, [.int u.2, .ref q_p0_maps])), (q_p0_maps, .inl (cI, 10, .inl u.1))] t) (va_A [(q_p0, .inr (1, [.int v_p0_amount, .ref q_p0_maps])), (q_p0_maps, .inl (cI, 10, .inl f_p0_maps))] sz)) 0 0 (va_A [(q_p0, .inr (1, [.int v_p0_amount, .ref q_p0_maps])), (q_p0_maps, .inl (cI, 10, .inl f_p0_maps))] sz) := by
  refine z_met (cc := cX1_keep) (maxL := 2) (ret := none) (Qc := fun A => va_Qv (fun u : (Nat → Int32) × Int32 => P u.1 u.2) (fun u t => zPost D cI cJ cB A [(q_p0, .inr (1, [.int u.2, .ref q_p0_maps])), (q_p0_maps, .inl (cI, 10, .inl u.1))] t) A) (by decide) rfl [.ref q_p0, .int x1] (Nat.le_of_ble_eq_true rfl) ?_
  intro p e s m args below meth c A hx hb hr hts hown hml hlocks hA hX hK H locs hP hD hS ls hl Q hQ
  have hown : s.vm.findClass RX1 = some m.cls := hown
  have hl : lv_has ls 2 [(0, .ref q_p0), (1, .int x1)] := hl
  have hw0 : (Cond.fieldLink RX1 13 "ForcedRings$Deeds" "amount" "I").before args s = true := hts _ (List.mem_of_getElem? (i := 1) rfl)
  have hw1 : (Cond.fieldLink RX1 9 "ForcedRings$Deeds" "maps" "[I").before args s = true := hts _ (List.mem_of_getElem? (i := 2) rfl)
  have hinX1 : ∀ w ∈ wsX10, w ∈ wsX1_keep := fun _ h => List.mem_cons_of_mem _ (List.mem_append_right _ h)
  refine lv_aload_n hx hb dX1_keep_0 rfl (lv_at hl 0 rfl) ?_
  refine va_get (ci := 1) (C := RX1) (T := TX1) (N := 2) (v := .int v_p0_amount) hx hb hts hinX1 hown hK hP 0 rfl rfl 0 (by decide) hw0 (fun _ h9 => h9) rfl dX1_keep_1 ?_
  refine lv_bipush (v := (10 : Int32)) hx hb dX1_keep_4 (by decide) ?_
  refine lv_icmp_ne (tgt := 13) hx hb dX1_keep_6 (by decide) (fun c1 => ?_) (fun c1 => ?_)
  · have h := And.right h c1
    refine lv_aload_n hx hb dX1_keep_13 rfl (lv_at hl 0 rfl) ?_
    refine va_get (ci := 1) (C := RX1) (T := TX1) (N := 2) (v := .ref q_p0_maps) hx hb hts hinX1 hown hK hP 0 rfl rfl 1 (by decide) hw1 (fun _ h9 => h9) rfl dX1_keep_14 ?_
    refine lv_aload_n hx hb dX1_keep_17 rfl (lv_at hl 0 rfl) ?_
    refine va_get (ci := 1) (C := RX1) (T := TX1) (N := 2) (v := .int v_p0_amount) hx hb hts hinX1 hown hK hP 0 rfl rfl 0 (by decide) hw0 (fun _ h9 => h9) rfl dX1_keep_18 ?_
    refine lv_iload_n hx hb dX1_keep_21 rfl (lv_at hl 1 rfl) ?_
    obtain ⟨hi2, h⟩ := h
    refine z_iast (wn := [(q_p0, .inr (1, [.int v_p0_amount, .ref q_p0_maps])), (q_p0_maps, .inl (cI, 10, .inl (upd f_p0_maps v_p0_amount.toNatClampNeg x1)))]) hx hb hK hP hD hS 1 rfl hi2 dX1_keep_22 rfl (fun H locs hP hD hS => ?_)
    refine lv_aload_n hx hb dX1_keep_23 rfl (lv_at hl 0 rfl) ?_
    refine lv_dup hx hb dX1_keep_24 rfl ?_
    refine va_get (ci := 1) (C := RX1) (T := TX1) (N := 2) (v := .int v_p0_amount) hx hb hts hinX1 hown hK hP 0 rfl rfl 0 (by decide) hw0 (fun _ h9 => h9) rfl dX1_keep_25 ?_
    refine lv_iconst (v := (1 : Int32)) hx hb dX1_keep_28 (by decide) ?_
    refine lv_iadd hx hb dX1_keep_29 ?_
    refine z_put (ci := 1) (C := RX1) (T := TX1) (N := 2) (ty := .int) (wn := [(q_p0, .inr (1, [.int (v_p0_amount + (1 : Int32)), .ref q_p0_maps])), (q_p0_maps, .inl (cI, 10, .inl (upd f_p0_maps v_p0_amount.toNatClampNeg x1)))]) hx hb hts hinX1 tyX1 tyX1_ok nmX1 hown hK hP hD hS 0 rfl rfl 0 (by decide) hw0 (fun _ h9 => h9) rfl (by decide +kernel) rfl rfl (Nat.le_of_ble_eq_true rfl) dX1_keep_30 rfl (fun H locs hP hD hS => ?_)
    exact z_vret hQ hx hb hr hlocks hK ((upd f_p0_maps v_p0_amount.toNatClampNeg x1), (v_p0_amount + (1 : Int32))) h hP hD hS dX1_keep_33
  · have h := And.left h c1
    refine lv_aload_n hx hb dX1_keep_9 rfl (lv_at hl 0 rfl) ?_
    refine z_cVv (As := []) (rest := []) (wr := []) (wn := fun u => [(q_p0, .inr (1, [.int u.1, .ref q_p0_maps])), (q_p0_maps, .inl (cI, 10, .inl u.2))]) (c_X1_forgetOldest l D cI cJ cB tU tM tS q_p0 q_p0_maps H.size v_p0_amount f_p0_maps _ h) ⟨hx, hb, hml, hown, hts⟩ (cwV 0 hts gX1_keep_X1_forgetOldest rfl rfl rfl hd_X1_forgetOldest ⟨Nat.le_of_ble_eq_true rfl, Nat.le_of_ble_eq_true rfl⟩) hX hK hP hD hS hA [0, 1] [] [0, 1] rfl rfl rfl (by decide) (fun _ => rfl) (q0 := 0) (ci := 1) rfl rfl rfl hl.1 rfl (Nat.le_of_ble_eq_true rfl) ⟨Nat.le_refl _, Nat.le_refl _⟩ dX1_keep_10 (fun u3 H locs h hP hD hS => ?_)
    obtain ⟨m3_0, m3_1⟩ := u3
    refine lv_aload_n hx hb dX1_keep_13 rfl (lv_at hl 0 rfl) ?_
    refine va_get (ci := 1) (C := RX1) (T := TX1) (N := 2) (v := .ref q_p0_maps) hx hb hts hinX1 hown hK hP 0 rfl rfl 1 (by decide) hw1 (fun _ h9 => h9) rfl dX1_keep_14 ?_
    refine lv_aload_n hx hb dX1_keep_17 rfl (lv_at hl 0 rfl) ?_
    refine va_get (ci := 1) (C := RX1) (T := TX1) (N := 2) (v := .int m3_0) hx hb hts hinX1 hown hK hP 0 rfl rfl 0 (by decide) hw0 (fun _ h9 => h9) rfl dX1_keep_18 ?_
    refine lv_iload_n hx hb dX1_keep_21 rfl (lv_at hl 1 rfl) ?_
    obtain ⟨hi4, h⟩ := h
    refine z_iast (wn := [(q_p0, .inr (1, [.int m3_0, .ref q_p0_maps])), (q_p0_maps, .inl (cI, 10, .inl (upd m3_1 m3_0.toNatClampNeg x1)))]) hx hb hK hP hD hS 1 rfl hi4 dX1_keep_22 rfl (fun H locs hP hD hS => ?_)
    refine lv_aload_n hx hb dX1_keep_23 rfl (lv_at hl 0 rfl) ?_
    refine lv_dup hx hb dX1_keep_24 rfl ?_
    refine va_get (ci := 1) (C := RX1) (T := TX1) (N := 2) (v := .int m3_0) hx hb hts hinX1 hown hK hP 0 rfl rfl 0 (by decide) hw0 (fun _ h9 => h9) rfl dX1_keep_25 ?_
    refine lv_iconst (v := (1 : Int32)) hx hb dX1_keep_28 (by decide) ?_
    refine lv_iadd hx hb dX1_keep_29 ?_
    refine z_put (ci := 1) (C := RX1) (T := TX1) (N := 2) (ty := .int) (wn := [(q_p0, .inr (1, [.int (m3_0 + (1 : Int32)), .ref q_p0_maps])), (q_p0_maps, .inl (cI, 10, .inl (upd m3_1 m3_0.toNatClampNeg x1)))]) hx hb hts hinX1 tyX1 tyX1_ok nmX1 hown hK hP hD hS 0 rfl rfl 0 (by decide) hw0 (fun _ h9 => h9) rfl (by decide +kernel) rfl rfl (Nat.le_of_ble_eq_true rfl) dX1_keep_30 rfl (fun H locs hP hD hS => ?_)
    exact z_vret hQ hx hb hr hlocks hK ((upd m3_1 m3_0.toNatClampNeg x1), (m3_0 + (1 : Int32))) h hP hD hS dX1_keep_33
theorem hd_X1_takeLatest : yX1_takeLatest.cls = RX1 ∧ yX1_takeLatest.cls ≠ "java/lang/invoke/MethodHandle" ∧ yX1_takeLatest.cls ≠ "java/lang/invoke/VarHandle" ∧ (parseMethodDescriptor yX1_takeLatest.desc).map (fun d => d.parameters.length) = some 0 := by decide +kernel
set_option maxHeartbeats 4000000 in
set_option maxRecDepth 100000 in
theorem c_X1_takeLatest (l : Launch) (D : va_G) (cI cJ cB : ClassId) (tU tM : Nat) (tS : tsT) (q_p0 q_p0_maps : Nat) (sz : Nat) (v_p0_amount : Int32) (f_p0_maps : (Nat → Int32))  (P : Int32 → Int32 → Prop) (h : M_X1_takeLatest v_p0_amount f_p0_maps P) : Met l yX1_takeLatest wsX1_takeLatest ({ frames := 0, cells := 0, slots := 0, locals := 0 }) (va_Pc [.ref q_p0] (zPre D cI cJ cB tU tM tS [(q_p0, .inr (1, [.int v_p0_amount, .ref q_p0_maps])), (q_p0_maps, .inl (cI, 10, .inl f_p0_maps))] sz)) (va_Qi (fun (r : Int32) (u : Int32) => P r u) (fun u t => zPost D cI cJ cB (va_A [(q_p0, .inr (1, [.int v_p0_amount, .ref q_p0_maps])), (q_p0_maps, .inl (cI, 10, .inl f_p0_maps))] sz) [(q_p0, .inr (1, [.int u, .ref q_p0_maps])), (q_p0_maps, .inl (cI, 10, .inl f_p0_maps))] t) (va_A [(q_p0, .inr (1, [.int v_p0_amount, .ref q_p0_maps])), (q_p0_maps, .inl (cI, 10, .inl f_p0_maps))] sz)) 0 0 (va_A [(q_p0, .inr (1, [.int v_p0_amount, .ref q_p0_maps])), (q_p0_maps, .inl (cI, 10, .inl f_p0_maps))] sz) := by
  refine z_met (cc := cX1_takeLatest) (maxL := 1) (ret := (some .int)) (Qc := fun A => va_Qi (fun (r : Int32) (u : Int32) => P r u) (fun u t => zPost D cI cJ cB A [(q_p0, .inr (1, [.int u, .ref q_p0_maps])), (q_p0_maps, .inl (cI, 10, .inl f_p0_maps))] t) A) (by decide) rfl [.ref q_p0] (Nat.le_of_ble_eq_true rfl) ?_
  intro p e s m args below meth c A hx hb hr hts hown hml hlocks hA hX hK H locs hP hD hS ls hl Q hQ
  have hown : s.vm.findClass RX1 = some m.cls := hown
  have hl : lv_has ls 1 [(0, .ref q_p0)] := hl
  have hw0 : (Cond.fieldLink RX1 13 "ForcedRings$Deeds" "amount" "I").before args s = true := hts _ (List.mem_of_getElem? (i := 1) rfl)
  have hw1 : (Cond.fieldLink RX1 9 "ForcedRings$Deeds" "maps" "[I").before args s = true := hts _ (List.mem_of_getElem? (i := 2) rfl)
  have hinX1 : ∀ w ∈ wsX10, w ∈ wsX1_takeLatest := fun _ h => List.mem_cons_of_mem _ (List.mem_append_right _ h)
  refine lv_aload_n hx hb dX1_takeLatest_0 rfl (lv_at hl 0 rfl) ?_
  refine va_get (ci := 1) (C := RX1) (T := TX1) (N := 2) (v := .int v_p0_amount) hx hb hts hinX1 hown hK hP 0 rfl rfl 0 (by decide) hw0 (fun _ h9 => h9) rfl dX1_takeLatest_1 ?_
  refine lv_if_le (tgt := 17) hx hb dX1_takeLatest_4 (by decide) (fun c1 => ?_) (fun c1 => ?_)
  · have h := And.left h c1
    refine lv_aload_n hx hb dX1_takeLatest_17 rfl (lv_at hl 0 rfl) ?_
    refine va_get (ci := 1) (C := RX1) (T := TX1) (N := 2) (v := .ref q_p0_maps) hx hb hts hinX1 hown hK hP 0 rfl rfl 1 (by decide) hw1 (fun _ h9 => h9) rfl dX1_takeLatest_18 ?_
    refine lv_aload_n hx hb dX1_takeLatest_21 rfl (lv_at hl 0 rfl) ?_
    refine va_get (ci := 1) (C := RX1) (T := TX1) (N := 2) (v := .int v_p0_amount) hx hb hts hinX1 hown hK hP 0 rfl rfl 0 (by decide) hw0 (fun _ h9 => h9) rfl dX1_takeLatest_22 ?_
    obtain ⟨hi2, h⟩ := h
    refine va_iald hx hb hK hP 1 0 rfl rfl hi2 dX1_takeLatest_25 ?_
    exact z_iret hQ hx hb hr rfl hlocks hK v_p0_amount h hP hD hS dX1_takeLatest_26
  · have h := And.right h c1
    refine lv_aload_n hx hb dX1_takeLatest_7 rfl (lv_at hl 0 rfl) ?_
    refine lv_dup hx hb dX1_takeLatest_8 rfl ?_
    refine va_get (ci := 1) (C := RX1) (T := TX1) (N := 2) (v := .int v_p0_amount) hx hb hts hinX1 hown hK hP 0 rfl rfl 0 (by decide) hw0 (fun _ h9 => h9) rfl dX1_takeLatest_9 ?_
    refine lv_iconst (v := (1 : Int32)) hx hb dX1_takeLatest_12 (by decide) ?_
    refine lv_isub hx hb dX1_takeLatest_13 ?_
    refine z_put (ci := 1) (C := RX1) (T := TX1) (N := 2) (ty := .int) (wn := [(q_p0, .inr (1, [.int (v_p0_amount - (1 : Int32)), .ref q_p0_maps])), (q_p0_maps, .inl (cI, 10, .inl f_p0_maps))]) hx hb hts hinX1 tyX1 tyX1_ok nmX1 hown hK hP hD hS 0 rfl rfl 0 (by decide) hw0 (fun _ h9 => h9) rfl (by decide +kernel) rfl rfl (Nat.le_of_ble_eq_true rfl) dX1_takeLatest_14 rfl (fun H locs hP hD hS => ?_)
    refine lv_aload_n hx hb dX1_takeLatest_17 rfl (lv_at hl 0 rfl) ?_
    refine va_get (ci := 1) (C := RX1) (T := TX1) (N := 2) (v := .ref q_p0_maps) hx hb hts hinX1 hown hK hP 0 rfl rfl 1 (by decide) hw1 (fun _ h9 => h9) rfl dX1_takeLatest_18 ?_
    refine lv_aload_n hx hb dX1_takeLatest_21 rfl (lv_at hl 0 rfl) ?_
    refine va_get (ci := 1) (C := RX1) (T := TX1) (N := 2) (v := .int (v_p0_amount - (1 : Int32))) hx hb hts hinX1 hown hK hP 0 rfl rfl 0 (by decide) hw0 (fun _ h9 => h9) rfl dX1_takeLatest_22 ?_
    obtain ⟨hi3, h⟩ := h
    refine va_iald hx hb hK hP 1 0 rfl rfl hi3 dX1_takeLatest_25 ?_
    exact z_iret hQ hx hb hr rfl hlocks hK (v_p0_amount - (1 : Int32)) h hP hD hS dX1_takeLatest_26
theorem hd_X2_ofRing : yX2_ofRing.cls = RX2 ∧ yX2_ofRing.cls ≠ "java/lang/invoke/MethodHandle" ∧ yX2_ofRing.cls ≠ "java/lang/invoke/VarHandle" ∧ (parseMethodDescriptor yX2_ofRing.desc).map (fun d => d.parameters.length) = some 1 := by decide +kernel
set_option maxHeartbeats 4000000 in
set_option maxRecDepth 100000 in
theorem c_X2_ofRing (l : Launch) (D : va_G) (cI cJ cB : ClassId) (tU tM : Nat) (tS : tsT) (sz : Nat) (x0 : Int32)  (P : Int32 → Prop) (h : M_X2_ofRing x0 P) : Met l yX2_ofRing wsX2_ofRing ({ frames := 0, cells := 0, slots := 0, locals := 0 }) (va_Pc [.int x0] (zPre D cI cJ cB tU tM tS [] sz)) (va_Qi (fun (r : Int32) (u : Unit) => P r ) (fun u t => zPost D cI cJ cB (va_A [] sz) [] t) (va_A [] sz)) 0 0 (va_A [] sz) := by
  refine z_met (cc := cX2_ofRing) (maxL := 1) (ret := (some .int)) (Qc := fun A => va_Qi (fun (r : Int32) (u : Unit) => P r ) (fun u t => zPost D cI cJ cB A [] t) A) (by decide) rfl [.int x0] (Nat.le_of_ble_eq_true rfl) ?_
  intro p e s m args below meth c A hx hb hr hts hown hml hlocks hA hX hK H locs hP hD hS ls hl Q hQ
  have hown : s.vm.findClass RX2 = some m.cls := hown
  have hl : lv_has ls 1 [(0, .int x0)] := hl
  refine lv_iload_n hx hb dX2_ofRing_0 rfl (lv_at hl 0 rfl) ?_
  refine lv_iconst (v := (1 : Int32)) hx hb dX2_ofRing_1 (by decide) ?_
  refine lv_icmp_ne (tgt := 7) hx hb dX2_ofRing_2 (by decide) (fun c1 => ?_) (fun c1 => ?_)
  · have h := And.right h c1
    refine lv_iload_n hx hb dX2_ofRing_7 rfl (lv_at hl 0 rfl) ?_
    refine lv_iconst (v := (2 : Int32)) hx hb dX2_ofRing_8 (by decide) ?_
    refine lv_icmp_ne (tgt := 14) hx hb dX2_ofRing_9 (by decide) (fun c2 => ?_) (fun c2 => ?_)
    · have h := And.right h c2
      refine lv_iload_n hx hb dX2_ofRing_14 rfl (lv_at hl 0 rfl) ?_
      refine lv_iconst (v := (2 : Int32)) hx hb dX2_ofRing_15 (by decide) ?_
      refine lv_irem hx hb dX2_ofRing_16 (by decide) ?_
      refine lv_if_ne (tgt := 24) hx hb dX2_ofRing_17 (by decide) (fun c3 => ?_) (fun c3 => ?_)
      · have h := And.right h c3
        refine lv_iconst (v := (2 : Int32)) hx hb dX2_ofRing_24 (by decide) ?_
        exact z_iret hQ hx hb hr rfl hlocks hK () h hP hD hS dX2_ofRing_25
      · have h := And.left h c3
        refine lv_iconst (v := (1 : Int32)) hx hb dX2_ofRing_20 (by decide) ?_
        refine lv_goto (tgt := 25) hx hb dX2_ofRing_21 (by decide) ?_
        exact z_iret hQ hx hb hr rfl hlocks hK () h hP hD hS dX2_ofRing_25
    · have h := And.left h c2
      refine lv_iconst (v := (4 : Int32)) hx hb dX2_ofRing_12 (by decide) ?_
      exact z_iret hQ hx hb hr rfl hlocks hK () h hP hD hS dX2_ofRing_13
  · have h := And.left h c1
    refine lv_iconst (v := (3 : Int32)) hx hb dX2_ofRing_5 (by decide) ?_
    exact z_iret hQ hx hb hr rfl hlocks hK () h hP hD hS dX2_ofRing_6
theorem hd_X2_isUnder : yX2_isUnder.cls = RX2 ∧ yX2_isUnder.cls ≠ "java/lang/invoke/MethodHandle" ∧ yX2_isUnder.cls ≠ "java/lang/invoke/VarHandle" ∧ (parseMethodDescriptor yX2_isUnder.desc).map (fun d => d.parameters.length) = some 2 := by decide +kernel
set_option maxHeartbeats 4000000 in
set_option maxRecDepth 100000 in
theorem c_X2_isUnder (l : Launch) (D : va_G) (cI cJ cB : ClassId) (tU tM : Nat) (tS : tsT) (sz : Nat) (x0 : Int32) (x1 : Int32)  (P : Int32 → Prop) (h : M_X2_isUnder x0 x1 P) : Met l yX2_isUnder wsX2_isUnder ({ frames := 0, cells := 0, slots := 0, locals := 0 }) (va_Pc [.int x0, .int x1] (zPre D cI cJ cB tU tM tS [] sz)) (va_Qi (fun (r : Int32) (u : Unit) => P r ) (fun u t => zPost D cI cJ cB (va_A [] sz) [] t) (va_A [] sz)) 0 0 (va_A [] sz) := by
  refine z_met (cc := cX2_isUnder) (maxL := 4) (ret := (some .boolean)) (Qc := fun A => va_Qi (fun (r : Int32) (u : Unit) => P r ) (fun u t => zPost D cI cJ cB A [] t) A) (by decide) rfl [.int x0, .int x1] (Nat.le_of_ble_eq_true rfl) ?_
  intro p e s m args below meth c A hx hb hr hts hown hml hlocks hA hX hK H locs hP hD hS ls hl Q hQ
  have hown : s.vm.findClass RX2 = some m.cls := hown
  have hl : lv_has ls 4 [(0, .int x0), (1, .int x1)] := hl
  have hw0 : (Cond.fieldLink RX2 9 "ForcedRings$Kinds" "UPPER" "[I").before args s = true := hts _ (List.mem_of_getElem? (i := 1) rfl)
  refine lv_iload_n hx hb dX2_isUnder_0 rfl (lv_at hl 0 rfl) ?_
  refine lv_istore_n (lv' := [(2, .int x0), (0, .int x0), (1, .int x1)]) hx hb dX2_isUnder_1 rfl hl (by decide) rfl (fun ls hl => ?_)
  refine lv_iconst (v := (0 : Int32)) hx hb dX2_isUnder_2 (by decide) ?_
  refine lv_istore_n (lv' := [(3, .int (0 : Int32)), (2, .int x0), (0, .int x0), (1, .int x1)]) hx hb dX2_isUnder_3 rfl hl (by decide) rfl (fun ls hl => ?_)
  have k4 : ∀  (n4 : Nat) (l2 : Int32) (l3 : Int32) (H : Heap) (locs : List Loc) (ls : Array Slot), LP2 (M_X2_isUnder_l4 x0 x1 P ) n4 l2 l3 → va_P D vwCl [] H → va_D A [] → va_S A s.heap H locs → lv_has ls 4 [(1, .int x1), (2, .int l2), (3, .int l3)] → W p l e { frames := 0, cells := 0, slots := 0, locals := 0 } s m args below meth c H locs 0 0 Q (F0 m 4 ls []) := by
    intro  n4
    induction n4 with
    | zero =>
      intro l2 l3 H locs ls h
      exact False.elim h
    | succ n4 ih4 =>
      intro l2 l3 H locs ls h hP hD hS hl
      have h : M_X2_isUnder_l4 x0 x1 P  (LP2 (M_X2_isUnder_l4 x0 x1 P ) n4) l2 l3 := h
      refine lv_iload_n hx hb dX2_isUnder_4 rfl (lv_at hl 2 rfl) ?_
      refine lv_iconst (v := (4 : Int32)) hx hb dX2_isUnder_5 (by decide) ?_
      refine lv_icmp_gt (tgt := 37) hx hb dX2_isUnder_6 (by decide) (fun c1 => ?_) (fun c1 => ?_)
      · have h := And.left h c1
        refine lv_iconst (v := (0 : Int32)) hx hb dX2_isUnder_37 (by decide) ?_
        exact z_iret hQ hx hb hr rfl hlocks hK () h hP hD hS dX2_isUnder_38
      · have h := And.right h c1
        refine lv_iload_n hx hb dX2_isUnder_9 rfl (lv_at hl 1 rfl) ?_
        refine lv_if_lt (tgt := 37) hx hb dX2_isUnder_10 (by decide) (fun c2 => ?_) (fun c2 => ?_)
        · have h := And.left h c2
          refine lv_iconst (v := (0 : Int32)) hx hb dX2_isUnder_37 (by decide) ?_
          exact z_iret hQ hx hb hr rfl hlocks hK () h hP hD hS dX2_isUnder_38
        · have h := And.right h c2
          refine lv_iload_n hx hb dX2_isUnder_13 rfl (lv_at hl 1 rfl) ?_
          refine lv_iconst (v := (4 : Int32)) hx hb dX2_isUnder_14 (by decide) ?_
          refine lv_icmp_gt (tgt := 37) hx hb dX2_isUnder_15 (by decide) (fun c3 => ?_) (fun c3 => ?_)
          · have h := And.left h c3
            refine lv_iconst (v := (0 : Int32)) hx hb dX2_isUnder_37 (by decide) ?_
            exact z_iret hQ hx hb hr rfl hlocks hK () h hP hD hS dX2_isUnder_38
          · have h := And.right h c3
            refine lv_iload_n hx hb dX2_isUnder_18 rfl (lv_at hl 1 rfl) ?_
            refine lv_iload_n hx hb dX2_isUnder_19 rfl (lv_at hl 0 rfl) ?_
            refine lv_icmp_ne (tgt := 25) hx hb dX2_isUnder_20 (by decide) (fun c4 => ?_) (fun c4 => ?_)
            · have h := And.right h c4
              refine va_gets hx hb hX.1.1 hS hown hw0 (fun _ h9 => h9) dX2_isUnder_25 ?_
              refine lv_iload_n hx hb dX2_isUnder_28 rfl (lv_at hl 1 rfl) ?_
              obtain ⟨hi5, h⟩ := h
              refine va_ti (v := .int (kU l2.toNatClampNeg)) hx hb hX.1.2 hS hi5 rfl dX2_isUnder_29 ?_
              refine lv_istore_n (lv' := [(2, .int (kU l2.toNatClampNeg)), (1, .int x1), (3, .int l3)]) hx hb dX2_isUnder_30 rfl hl (by decide) rfl (fun ls hl => ?_)
              refine lv_iinc (v := (l3 + 1)) (lv' := [(3, .int (l3 + 1)), (2, .int (kU l2.toNatClampNeg)), (1, .int x1)]) hx hb dX2_isUnder_31 hl (k := 2) rfl rfl (by decide) rfl (fun ls hl => ?_)
              refine lv_goto (tgt := 4) hx hb dX2_isUnder_34 (by decide) ?_
              exact ih4 (kU l2.toNatClampNeg) (l3 + 1) _ _ _ h hP hD hS (lv_sub hl [2, 1, 0] rfl)
            · have h := And.left h c4
              refine lv_iconst (v := (1 : Int32)) hx hb dX2_isUnder_23 (by decide) ?_
              exact z_iret hQ hx hb hr rfl hlocks hK () h hP hD hS dX2_isUnder_24
  obtain ⟨n4, h⟩ := h
  exact k4  n4 x0 (0 : Int32) _ _ _ h hP hD hS (lv_sub hl [3, 1, 0] rfl)
theorem hd_X6_put : yX6_put.cls = RX6 ∧ yX6_put.cls ≠ "java/lang/invoke/MethodHandle" ∧ yX6_put.cls ≠ "java/lang/invoke/VarHandle" ∧ (parseMethodDescriptor yX6_put.desc).map (fun d => d.parameters.length) = some 1 := by decide +kernel
set_option maxHeartbeats 4000000 in
set_option maxRecDepth 100000 in
theorem c_X6_put (l : Launch) (D : va_G) (cI cJ cB : ClassId) (tU tM : Nat) (tS : tsT) (q_p0 q_p0_bytes : Nat) (sz : Nat) (x1 : Int32) (v_p0_length : Int32) (f_p0_bytes : (Nat → Int32))  (P : (Nat → Int32) → Int32 → Prop) (h : M_X6_put x1 v_p0_length f_p0_bytes P) : Met l yX6_put wsX6_put ({ frames := 0, cells := 0, slots := 0, locals := 0 }) (va_Pc [.ref q_p0, .int x1] (zPre D cI cJ cB tU tM tS [(q_p0, .inr (4, [.int v_p0_length, .ref q_p0_bytes])), (q_p0_bytes, .inl (cB, 60, .inl f_p0_bytes))] sz)) (va_Qv (fun u : (Nat → Int32) × Int32 => P u.1 u.2) (fun u t => zPost D cI cJ cB (va_A [(q_p0, .inr (4, [.int v_p0_length, .ref q_p0_bytes])), (q_p0_bytes, .inl (cB, 60, .inl f_p0_bytes))] sz) [(q_p0, .inr (4, [.int u.2, .ref q_p0_bytes])), (q_p0_bytes, .inl (cB, 60, .inl u.1))] t) (va_A [(q_p0, .inr (4, [.int v_p0_length, .ref q_p0_bytes])), (q_p0_bytes, .inl (cB, 60, .inl f_p0_bytes))] sz)) 0 0 (va_A [(q_p0, .inr (4, [.int v_p0_length, .ref q_p0_bytes])), (q_p0_bytes, .inl (cB, 60, .inl f_p0_bytes))] sz) := by
  refine z_met (cc := cX6_put) (maxL := 2) (ret := none) (Qc := fun A => va_Qv (fun u : (Nat → Int32) × Int32 => P u.1 u.2) (fun u t => zPost D cI cJ cB A [(q_p0, .inr (4, [.int u.2, .ref q_p0_bytes])), (q_p0_bytes, .inl (cB, 60, .inl u.1))] t) A) (by decide) rfl [.ref q_p0, .int x1] (Nat.le_of_ble_eq_true rfl) ?_
  intro p e s m args below meth c A hx hb hr hts hown hml hlocks hA hX hK H locs hP hD hS ls hl Q hQ
  have hown : s.vm.findClass RX6 = some m.cls := hown
  have hl : lv_has ls 2 [(0, .ref q_p0), (1, .int x1)] := hl
  have hw0 : (Cond.fieldLink RX6 13 "ForcedRings$Tape" "length" "I").before args s = true := hts _ (List.mem_of_getElem? (i := 1) rfl)
  have hw1 : (Cond.fieldLink RX6 9 "ForcedRings$Tape" "bytes" "[B").before args s = true := hts _ (List.mem_of_getElem? (i := 2) rfl)
  have hinX6 : ∀ w ∈ wsX60, w ∈ wsX6_put := fun _ h => List.mem_cons_of_mem _ (List.mem_append_right _ h)
  refine lv_aload_n hx hb dX6_put_0 rfl (lv_at hl 0 rfl) ?_
  refine va_get (ci := 4) (C := RX6) (T := TX6) (N := 2) (v := .int v_p0_length) hx hb hts hinX6 hown hK hP 0 rfl rfl 0 (by decide) hw0 (fun _ h9 => h9) rfl dX6_put_1 ?_
  refine lv_bipush (v := (60 : Int32)) hx hb dX6_put_4 (by decide) ?_
  refine lv_icmp_ge (tgt := 30) hx hb dX6_put_6 (by decide) (fun c1 => ?_) (fun c1 => ?_)
  · have h := And.left h c1
    exact z_vret hQ hx hb hr hlocks hK (f_p0_bytes, v_p0_length) h hP hD hS dX6_put_30
  · have h := And.right h c1
    refine lv_aload_n hx hb dX6_put_9 rfl (lv_at hl 0 rfl) ?_
    refine va_get (ci := 4) (C := RX6) (T := TX6) (N := 2) (v := .ref q_p0_bytes) hx hb hts hinX6 hown hK hP 0 rfl rfl 1 (by decide) hw1 (fun _ h9 => h9) rfl dX6_put_10 ?_
    refine lv_aload_n hx hb dX6_put_13 rfl (lv_at hl 0 rfl) ?_
    refine va_get (ci := 4) (C := RX6) (T := TX6) (N := 2) (v := .int v_p0_length) hx hb hts hinX6 hown hK hP 0 rfl rfl 0 (by decide) hw0 (fun _ h9 => h9) rfl dX6_put_14 ?_
    refine lv_iload_n hx hb dX6_put_17 rfl (lv_at hl 1 rfl) ?_
    refine lv_i2b (v := x1.toInt8.toInt32) hx hb dX6_put_18 rfl ?_
    obtain ⟨hi2, h⟩ := h
    refine z_bast (wn := [(q_p0, .inr (4, [.int v_p0_length, .ref q_p0_bytes])), (q_p0_bytes, .inl (cB, 60, .inl (upd f_p0_bytes v_p0_length.toNatClampNeg (vp_nar .byte x1.toInt8.toInt32))))]) hx hb hK hP hD hS 1 rfl hi2 dX6_put_19 rfl (fun H locs hP hD hS => ?_)
    refine lv_aload_n hx hb dX6_put_20 rfl (lv_at hl 0 rfl) ?_
    refine lv_dup hx hb dX6_put_21 rfl ?_
    refine va_get (ci := 4) (C := RX6) (T := TX6) (N := 2) (v := .int v_p0_length) hx hb hts hinX6 hown hK hP 0 rfl rfl 0 (by decide) hw0 (fun _ h9 => h9) rfl dX6_put_22 ?_
    refine lv_iconst (v := (1 : Int32)) hx hb dX6_put_25 (by decide) ?_
    refine lv_iadd hx hb dX6_put_26 ?_
    refine z_put (ci := 4) (C := RX6) (T := TX6) (N := 2) (ty := .int) (wn := [(q_p0, .inr (4, [.int (v_p0_length + (1 : Int32)), .ref q_p0_bytes])), (q_p0_bytes, .inl (cB, 60, .inl (upd f_p0_bytes v_p0_length.toNatClampNeg (vp_nar .byte x1.toInt8.toInt32))))]) hx hb hts hinX6 tyX6 tyX6_ok nmX6 hown hK hP hD hS 0 rfl rfl 0 (by decide) hw0 (fun _ h9 => h9) rfl (by decide +kernel) rfl rfl (Nat.le_of_ble_eq_true rfl) dX6_put_27 rfl (fun H locs hP hD hS => ?_)
    exact z_vret hQ hx hb hr hlocks hK ((upd f_p0_bytes v_p0_length.toNatClampNeg (vp_nar .byte x1.toInt8.toInt32)), (v_p0_length + (1 : Int32))) h hP hD hS dX6_put_30
theorem hd_X7_begin : yX7_begin.cls = RX7 ∧ yX7_begin.cls ≠ "java/lang/invoke/MethodHandle" ∧ yX7_begin.cls ≠ "java/lang/invoke/VarHandle" ∧ (parseMethodDescriptor yX7_begin.desc).map (fun d => d.parameters.length) = some 1 := by decide +kernel
set_option maxHeartbeats 4000000 in
set_option maxRecDepth 100000 in
theorem c_X7_begin (l : Launch) (D : va_G) (cI cJ cB : ClassId) (tU tM : Nat) (tS : tsT) (q_p0 q_p0_led q_p0_reasons : Nat) (sz : Nat) (x1 : Int32) (v_p0_stage : Int32) (v_p0_size : Int32) (v_p0_told : Int32) (v_p0_ringsWhole : Int32) (f_p0_led : (Nat → Int32)) (v_p0_first : Int32) (v_p0_latest : Int32) (v_p0_hasReasons : Int32) (P : Int32 → Int32 → Int32 → Int32 → (Nat → Int32) → Prop) (h : M_X7_begin x1 v_p0_stage v_p0_size v_p0_told v_p0_ringsWhole f_p0_led P) : Met l yX7_begin wsX7_begin ({ frames := 0, cells := 0, slots := 0, locals := 0 }) (va_Pc [.ref q_p0, .int x1] (zPre D cI cJ cB tU tM tS [(q_p0, .inr (5, [.int v_p0_stage, .int v_p0_size, .int v_p0_told, .int v_p0_first, .int v_p0_latest, .int v_p0_ringsWhole, .ref q_p0_led, .int v_p0_hasReasons, .ref q_p0_reasons])), (q_p0_led, .inl (cI, 8, .inl f_p0_led))] sz)) (va_Qv (fun u : Int32 × Int32 × Int32 × Int32 × (Nat → Int32) => P u.1 u.2.1 u.2.2.1 u.2.2.2.1 u.2.2.2.2) (fun u t => zPost D cI cJ cB (va_A [(q_p0, .inr (5, [.int v_p0_stage, .int v_p0_size, .int v_p0_told, .int v_p0_first, .int v_p0_latest, .int v_p0_ringsWhole, .ref q_p0_led, .int v_p0_hasReasons, .ref q_p0_reasons])), (q_p0_led, .inl (cI, 8, .inl f_p0_led))] sz) [(q_p0, .inr (5, [.int u.1, .int u.2.1, .int u.2.2.1, .int v_p0_first, .int v_p0_latest, .int u.2.2.2.1, .ref q_p0_led, .int v_p0_hasReasons, .ref q_p0_reasons])), (q_p0_led, .inl (cI, 8, .inl u.2.2.2.2))] t) (va_A [(q_p0, .inr (5, [.int v_p0_stage, .int v_p0_size, .int v_p0_told, .int v_p0_first, .int v_p0_latest, .int v_p0_ringsWhole, .ref q_p0_led, .int v_p0_hasReasons, .ref q_p0_reasons])), (q_p0_led, .inl (cI, 8, .inl f_p0_led))] sz)) 0 0 (va_A [(q_p0, .inr (5, [.int v_p0_stage, .int v_p0_size, .int v_p0_told, .int v_p0_first, .int v_p0_latest, .int v_p0_ringsWhole, .ref q_p0_led, .int v_p0_hasReasons, .ref q_p0_reasons])), (q_p0_led, .inl (cI, 8, .inl f_p0_led))] sz) := by
  refine z_met (cc := cX7_begin) (maxL := 3) (ret := none) (Qc := fun A => va_Qv (fun u : Int32 × Int32 × Int32 × Int32 × (Nat → Int32) => P u.1 u.2.1 u.2.2.1 u.2.2.2.1 u.2.2.2.2) (fun u t => zPost D cI cJ cB A [(q_p0, .inr (5, [.int u.1, .int u.2.1, .int u.2.2.1, .int v_p0_first, .int v_p0_latest, .int u.2.2.2.1, .ref q_p0_led, .int v_p0_hasReasons, .ref q_p0_reasons])), (q_p0_led, .inl (cI, 8, .inl u.2.2.2.2))] t) A) (by decide) rfl [.ref q_p0, .int x1] (Nat.le_of_ble_eq_true rfl) ?_
  intro p e s m args below meth c A hx hb hr hts hown hml hlocks hA hX hK H locs hP hD hS ls hl Q hQ
  have hown : s.vm.findClass RX7 = some m.cls := hown
  have hl : lv_has ls 3 [(0, .ref q_p0), (1, .int x1)] := hl
  have hw0 : (Cond.fieldLink RX7 37 "ForcedRings$Text" "stage" "I").before args s = true := hts _ (List.mem_of_getElem? (i := 1) rfl)
  have hw1 : (Cond.fieldLink RX7 56 "ForcedRings$Text" "size" "I").before args s = true := hts _ (List.mem_of_getElem? (i := 2) rfl)
  have hw2 : (Cond.fieldLink RX7 47 "ForcedRings$Text" "told" "I").before args s = true := hts _ (List.mem_of_getElem? (i := 3) rfl)
  have hw3 : (Cond.fieldLink RX7 44 "ForcedRings$Text" "ringsWhole" "I").before args s = true := hts _ (List.mem_of_getElem? (i := 4) rfl)
  have hw4 : (Cond.fieldLink RX7 9 "ForcedRings$Text" "led" "[I").before args s = true := hts _ (List.mem_of_getElem? (i := 5) rfl)
  have hinX7 : ∀ w ∈ wsX70, w ∈ wsX7_begin := fun _ h => List.mem_cons_of_mem _ (List.mem_append_right _ h)
  refine lv_aload_n hx hb dX7_begin_0 rfl (lv_at hl 0 rfl) ?_
  refine lv_iconst (v := (0 : Int32)) hx hb dX7_begin_1 (by decide) ?_
  refine z_put (ci := 5) (C := RX7) (T := TX7) (N := 9) (ty := .int) (wn := [(q_p0, .inr (5, [.int (0 : Int32), .int v_p0_size, .int v_p0_told, .int v_p0_first, .int v_p0_latest, .int v_p0_ringsWhole, .ref q_p0_led, .int v_p0_hasReasons, .ref q_p0_reasons])), (q_p0_led, .inl (cI, 8, .inl f_p0_led))]) hx hb hts hinX7 tyX7 tyX7_ok nmX7 hown hK hP hD hS 0 rfl rfl 0 (by decide) hw0 (fun _ h9 => h9) rfl (by decide +kernel) rfl rfl (Nat.le_of_ble_eq_true rfl) dX7_begin_2 rfl (fun H locs hP hD hS => ?_)
  refine lv_aload_n hx hb dX7_begin_5 rfl (lv_at hl 0 rfl) ?_
  refine lv_iload_n hx hb dX7_begin_6 rfl (lv_at hl 1 rfl) ?_
  refine z_put (ci := 5) (C := RX7) (T := TX7) (N := 9) (ty := .int) (wn := [(q_p0, .inr (5, [.int (0 : Int32), .int x1, .int v_p0_told, .int v_p0_first, .int v_p0_latest, .int v_p0_ringsWhole, .ref q_p0_led, .int v_p0_hasReasons, .ref q_p0_reasons])), (q_p0_led, .inl (cI, 8, .inl f_p0_led))]) hx hb hts hinX7 tyX7 tyX7_ok nmX7 hown hK hP hD hS 0 rfl rfl 1 (by decide) hw1 (fun _ h9 => h9) rfl (by decide +kernel) rfl rfl (Nat.le_of_ble_eq_true rfl) dX7_begin_7 rfl (fun H locs hP hD hS => ?_)
  refine lv_aload_n hx hb dX7_begin_10 rfl (lv_at hl 0 rfl) ?_
  refine lv_iconst (v := (0 : Int32)) hx hb dX7_begin_11 (by decide) ?_
  refine z_put (ci := 5) (C := RX7) (T := TX7) (N := 9) (ty := .int) (wn := [(q_p0, .inr (5, [.int (0 : Int32), .int x1, .int (0 : Int32), .int v_p0_first, .int v_p0_latest, .int v_p0_ringsWhole, .ref q_p0_led, .int v_p0_hasReasons, .ref q_p0_reasons])), (q_p0_led, .inl (cI, 8, .inl f_p0_led))]) hx hb hts hinX7 tyX7 tyX7_ok nmX7 hown hK hP hD hS 0 rfl rfl 2 (by decide) hw2 (fun _ h9 => h9) rfl (by decide +kernel) rfl rfl (Nat.le_of_ble_eq_true rfl) dX7_begin_12 rfl (fun H locs hP hD hS => ?_)
  refine lv_aload_n hx hb dX7_begin_15 rfl (lv_at hl 0 rfl) ?_
  refine lv_iconst (v := (0 : Int32)) hx hb dX7_begin_16 (by decide) ?_
  refine z_put (ci := 5) (C := RX7) (T := TX7) (N := 9) (ty := .int) (wn := [(q_p0, .inr (5, [.int (0 : Int32), .int x1, .int (0 : Int32), .int v_p0_first, .int v_p0_latest, .int (0 : Int32), .ref q_p0_led, .int v_p0_hasReasons, .ref q_p0_reasons])), (q_p0_led, .inl (cI, 8, .inl f_p0_led))]) hx hb hts hinX7 tyX7 tyX7_ok nmX7 hown hK hP hD hS 0 rfl rfl 5 (by decide) hw3 (fun _ h9 => h9) rfl (by decide +kernel) rfl rfl (Nat.le_of_ble_eq_true rfl) dX7_begin_17 rfl (fun H locs hP hD hS => ?_)
  refine lv_iconst (v := (0 : Int32)) hx hb dX7_begin_20 (by decide) ?_
  refine lv_istore_n (lv' := [(2, .int (0 : Int32)), (0, .ref q_p0), (1, .int x1)]) hx hb dX7_begin_21 rfl hl (by decide) rfl (fun ls hl => ?_)
  have k22 : ∀ (v_p0_stage : Int32) (v_p0_size : Int32) (v_p0_told : Int32) (v_p0_ringsWhole : Int32) (n22 : Nat) (l2 : Int32) (f_p0_led : (Nat → Int32)) (H : Heap) (locs : List Loc) (ls : Array Slot), LP2 (M_X7_begin_l22 x1 P v_p0_stage v_p0_size v_p0_told v_p0_ringsWhole) n22 l2 f_p0_led → va_P D vwCl [(q_p0, .inr (5, [.int v_p0_stage, .int v_p0_size, .int v_p0_told, .int v_p0_first, .int v_p0_latest, .int v_p0_ringsWhole, .ref q_p0_led, .int v_p0_hasReasons, .ref q_p0_reasons])), (q_p0_led, .inl (cI, 8, .inl f_p0_led))] H → va_D A [(q_p0, .inr (5, [.int v_p0_stage, .int v_p0_size, .int v_p0_told, .int v_p0_first, .int v_p0_latest, .int v_p0_ringsWhole, .ref q_p0_led, .int v_p0_hasReasons, .ref q_p0_reasons])), (q_p0_led, .inl (cI, 8, .inl f_p0_led))] → va_S A s.heap H locs → lv_has ls 3 [(0, .ref q_p0), (2, .int l2)] → W p l e { frames := 0, cells := 0, slots := 0, locals := 0 } s m args below meth c H locs 0 0 Q (F0 m 22 ls []) := by
    intro v_p0_stage v_p0_size v_p0_told v_p0_ringsWhole n22
    induction n22 with
    | zero =>
      intro l2 f_p0_led H locs ls h
      exact False.elim h
    | succ n22 ih22 =>
      intro l2 f_p0_led H locs ls h hP hD hS hl
      have h : M_X7_begin_l22 x1 P v_p0_stage v_p0_size v_p0_told v_p0_ringsWhole (LP2 (M_X7_begin_l22 x1 P v_p0_stage v_p0_size v_p0_told v_p0_ringsWhole) n22) l2 f_p0_led := h
      refine lv_iload_n hx hb dX7_begin_22 rfl (lv_at hl 1 rfl) ?_
      refine lv_bipush (v := (8 : Int32)) hx hb dX7_begin_23 (by decide) ?_
      refine lv_icmp_ge (tgt := 41) hx hb dX7_begin_25 (by decide) (fun c1 => ?_) (fun c1 => ?_)
      · have h := And.left h c1
        exact z_vret hQ hx hb hr hlocks hK (v_p0_stage, v_p0_size, v_p0_told, v_p0_ringsWhole, f_p0_led) h hP hD hS dX7_begin_41
      · have h := And.right h c1
        refine lv_aload_n hx hb dX7_begin_28 rfl (lv_at hl 0 rfl) ?_
        refine va_get (ci := 5) (C := RX7) (T := TX7) (N := 9) (v := .ref q_p0_led) hx hb hts hinX7 hown hK hP 0 rfl rfl 6 (by decide) hw4 (fun _ h9 => h9) rfl dX7_begin_29 ?_
        refine lv_iload_n hx hb dX7_begin_32 rfl (lv_at hl 1 rfl) ?_
        refine lv_iload_n hx hb dX7_begin_33 rfl (lv_at hl 1 rfl) ?_
        obtain ⟨hi2, h⟩ := h
        refine z_iast (wn := [(q_p0, .inr (5, [.int v_p0_stage, .int v_p0_size, .int v_p0_told, .int v_p0_first, .int v_p0_latest, .int v_p0_ringsWhole, .ref q_p0_led, .int v_p0_hasReasons, .ref q_p0_reasons])), (q_p0_led, .inl (cI, 8, .inl (upd f_p0_led l2.toNatClampNeg l2)))]) hx hb hK hP hD hS 1 rfl hi2 dX7_begin_34 rfl (fun H locs hP hD hS => ?_)
        refine lv_iinc (v := (l2 + 1)) (lv' := [(2, .int (l2 + 1)), (0, .ref q_p0)]) hx hb dX7_begin_35 hl (k := 1) rfl rfl (by decide) rfl (fun ls hl => ?_)
        refine lv_goto (tgt := 22) hx hb dX7_begin_38 (by decide) ?_
        exact ih22 (l2 + 1) (upd f_p0_led l2.toNatClampNeg l2) _ _ _ h hP hD hS (lv_sub hl [1, 0] rfl)
  obtain ⟨n22, h⟩ := h
  exact k22 (0 : Int32) x1 (0 : Int32) (0 : Int32) n22 (0 : Int32) f_p0_led _ _ _ h hP hD hS (lv_sub hl [1, 0] rfl)
theorem hd_X7_tellPoint : yX7_tellPoint.cls = RX7 ∧ yX7_tellPoint.cls ≠ "java/lang/invoke/MethodHandle" ∧ yX7_tellPoint.cls ≠ "java/lang/invoke/VarHandle" ∧ (parseMethodDescriptor yX7_tellPoint.desc).map (fun d => d.parameters.length) = some 1 := by decide +kernel
set_option maxHeartbeats 4000000 in
set_option maxRecDepth 100000 in
theorem c_X7_tellPoint (l : Launch) (D : va_G) (cI cJ cB : ClassId) (tU tM : Nat) (tS : tsT) (q_p0 q_p0_led q_p0_reasons : Nat) (sz : Nat) (x1 : Int32) (v_p0_size : Int32) (v_p0_told : Int32) (v_p0_first : Int32) (v_p0_latest : Int32) (f_p0_led : (Nat → Int32)) (v_p0_stage : Int32) (v_p0_ringsWhole : Int32) (v_p0_hasReasons : Int32) (P : Int32 → (Nat → Int32) → Int32 → Int32 → Int32 → Int32 → Prop) (h : M_X7_tellPoint x1 v_p0_size v_p0_told v_p0_first v_p0_latest f_p0_led v_p0_stage P) : Met l yX7_tellPoint wsX7_tellPoint ({ frames := 0, cells := 0, slots := 0, locals := 0 }) (va_Pc [.ref q_p0, .int x1] (zPre D cI cJ cB tU tM tS [(q_p0, .inr (5, [.int v_p0_stage, .int v_p0_size, .int v_p0_told, .int v_p0_first, .int v_p0_latest, .int v_p0_ringsWhole, .ref q_p0_led, .int v_p0_hasReasons, .ref q_p0_reasons])), (q_p0_led, .inl (cI, 8, .inl f_p0_led))] sz)) (va_Qi (fun (r : Int32) (u : (Nat → Int32) × Int32 × Int32 × Int32 × Int32) => P r u.1 u.2.1 u.2.2.1 u.2.2.2.1 u.2.2.2.2) (fun u t => zPost D cI cJ cB (va_A [(q_p0, .inr (5, [.int v_p0_stage, .int v_p0_size, .int v_p0_told, .int v_p0_first, .int v_p0_latest, .int v_p0_ringsWhole, .ref q_p0_led, .int v_p0_hasReasons, .ref q_p0_reasons])), (q_p0_led, .inl (cI, 8, .inl f_p0_led))] sz) [(q_p0, .inr (5, [.int u.2.2.2.1, .int v_p0_size, .int u.2.1, .int u.2.2.2.2, .int u.2.2.1, .int v_p0_ringsWhole, .ref q_p0_led, .int v_p0_hasReasons, .ref q_p0_reasons])), (q_p0_led, .inl (cI, 8, .inl u.1))] t) (va_A [(q_p0, .inr (5, [.int v_p0_stage, .int v_p0_size, .int v_p0_told, .int v_p0_first, .int v_p0_latest, .int v_p0_ringsWhole, .ref q_p0_led, .int v_p0_hasReasons, .ref q_p0_reasons])), (q_p0_led, .inl (cI, 8, .inl f_p0_led))] sz)) 0 0 (va_A [(q_p0, .inr (5, [.int v_p0_stage, .int v_p0_size, .int v_p0_told, .int v_p0_first, .int v_p0_latest, .int v_p0_ringsWhole, .ref q_p0_led, .int v_p0_hasReasons, .ref q_p0_reasons])), (q_p0_led, .inl (cI, 8, .inl f_p0_led))] sz) := by
  refine z_met (cc := cX7_tellPoint) (maxL := 2) (ret := (some .boolean)) (Qc := fun A => va_Qi (fun (r : Int32) (u : (Nat → Int32) × Int32 × Int32 × Int32 × Int32) => P r u.1 u.2.1 u.2.2.1 u.2.2.2.1 u.2.2.2.2) (fun u t => zPost D cI cJ cB A [(q_p0, .inr (5, [.int u.2.2.2.1, .int v_p0_size, .int u.2.1, .int u.2.2.2.2, .int u.2.2.1, .int v_p0_ringsWhole, .ref q_p0_led, .int v_p0_hasReasons, .ref q_p0_reasons])), (q_p0_led, .inl (cI, 8, .inl u.1))] t) A) (by decide) rfl [.ref q_p0, .int x1] (Nat.le_of_ble_eq_true rfl) ?_
  intro p e s m args below meth c A hx hb hr hts hown hml hlocks hA hX hK H locs hP hD hS ls hl Q hQ
  have hown : s.vm.findClass RX7 = some m.cls := hown
  have hl : lv_has ls 2 [(0, .ref q_p0), (1, .int x1)] := hl
  have hw0 : (Cond.fieldLink RX7 56 "ForcedRings$Text" "size" "I").before args s = true := hts _ (List.mem_of_getElem? (i := 1) rfl)
  have hw1 : (Cond.fieldLink RX7 47 "ForcedRings$Text" "told" "I").before args s = true := hts _ (List.mem_of_getElem? (i := 2) rfl)
  have hw2 : (Cond.fieldLink RX7 68 "ForcedRings$Text" "first" "I").before args s = true := hts _ (List.mem_of_getElem? (i := 3) rfl)
  have hw3 : (Cond.fieldLink RX7 71 "ForcedRings$Text" "latest" "I").before args s = true := hts _ (List.mem_of_getElem? (i := 5) rfl)
  have hw4 : (Cond.fieldLink RX7 37 "ForcedRings$Text" "stage" "I").before args s = true := hts _ (List.mem_of_getElem? (i := 6) rfl)
  have hw5 : (Cond.fieldLink RX7 9 "ForcedRings$Text" "led" "[I").before args s = true := hts _ (List.mem_of_getElem? (i := 4) rfl)
  have hinX7 : ∀ w ∈ wsX70, w ∈ wsX7_tellPoint := fun _ h => List.mem_cons_of_mem _ (List.mem_append_right _ h)
  refine lv_iload_n hx hb dX7_tellPoint_0 rfl (lv_at hl 1 rfl) ?_
  refine lv_if_lt (tgt := 24) hx hb dX7_tellPoint_1 (by decide) (fun c1 => ?_) (fun c1 => ?_)
  · have h := And.left h c1
    refine lv_iconst (v := (0 : Int32)) hx hb dX7_tellPoint_24 (by decide) ?_
    exact z_iret hQ hx hb hr rfl hlocks hK (f_p0_led, v_p0_told, v_p0_latest, v_p0_stage, v_p0_first) h hP hD hS dX7_tellPoint_25
  · have h := And.right h c1
    refine lv_iload_n hx hb dX7_tellPoint_4 rfl (lv_at hl 1 rfl) ?_
    refine lv_aload_n hx hb dX7_tellPoint_5 rfl (lv_at hl 0 rfl) ?_
    refine va_get (ci := 5) (C := RX7) (T := TX7) (N := 9) (v := .int v_p0_size) hx hb hts hinX7 hown hK hP 0 rfl rfl 1 (by decide) hw0 (fun _ h9 => h9) rfl dX7_tellPoint_6 ?_
    refine lv_icmp_ge (tgt := 24) hx hb dX7_tellPoint_9 (by decide) (fun c2 => ?_) (fun c2 => ?_)
    · have h := And.left h c2
      refine lv_iconst (v := (0 : Int32)) hx hb dX7_tellPoint_24 (by decide) ?_
      exact z_iret hQ hx hb hr rfl hlocks hK (f_p0_led, v_p0_told, v_p0_latest, v_p0_stage, v_p0_first) h hP hD hS dX7_tellPoint_25
    · have h := And.right h c2
      refine lv_aload_n hx hb dX7_tellPoint_12 rfl (lv_at hl 0 rfl) ?_
      refine va_get (ci := 5) (C := RX7) (T := TX7) (N := 9) (v := .int v_p0_told) hx hb hts hinX7 hown hK hP 0 rfl rfl 2 (by decide) hw1 (fun _ h9 => h9) rfl dX7_tellPoint_13 ?_
      refine lv_iload_n hx hb dX7_tellPoint_16 rfl (lv_at hl 1 rfl) ?_
      refine lv_ishr hx hb dX7_tellPoint_17 ?_
      refine lv_iconst (v := (1 : Int32)) hx hb dX7_tellPoint_18 (by decide) ?_
      refine lv_iand hx hb dX7_tellPoint_19 ?_
      refine lv_iconst (v := (1 : Int32)) hx hb dX7_tellPoint_20 (by decide) ?_
      refine lv_icmp_ne (tgt := 26) hx hb dX7_tellPoint_21 (by decide) (fun c3 => ?_) (fun c3 => ?_)
      · have h := And.right h c3
        refine lv_aload_n hx hb dX7_tellPoint_26 rfl (lv_at hl 0 rfl) ?_
        refine va_get (ci := 5) (C := RX7) (T := TX7) (N := 9) (v := .int v_p0_first) hx hb hts hinX7 hown hK hP 0 rfl rfl 3 (by decide) hw2 (fun _ h9 => h9) rfl dX7_tellPoint_27 ?_
        have k51 : ∀ (f_p0_led : (Nat → Int32)) (v_p0_told : Int32) (v_p0_latest : Int32) (v_p0_stage : Int32) (v_p0_first : Int32) (H : Heap) (locs : List Loc) (ls : Array Slot), M_X7_tellPoint_b51 x1 v_p0_size P f_p0_led v_p0_told v_p0_latest v_p0_stage v_p0_first → va_P D vwCl [(q_p0, .inr (5, [.int v_p0_stage, .int v_p0_size, .int v_p0_told, .int v_p0_first, .int v_p0_latest, .int v_p0_ringsWhole, .ref q_p0_led, .int v_p0_hasReasons, .ref q_p0_reasons])), (q_p0_led, .inl (cI, 8, .inl f_p0_led))] H → va_D A [(q_p0, .inr (5, [.int v_p0_stage, .int v_p0_size, .int v_p0_told, .int v_p0_first, .int v_p0_latest, .int v_p0_ringsWhole, .ref q_p0_led, .int v_p0_hasReasons, .ref q_p0_reasons])), (q_p0_led, .inl (cI, 8, .inl f_p0_led))] → va_S A s.heap H locs → lv_has ls 2 [(0, .ref q_p0), (1, .int x1)] → W p l e { frames := 0, cells := 0, slots := 0, locals := 0 } s m args below meth c H locs 0 0 Q (F0 m 51 ls []) := by
          intro f_p0_led v_p0_told v_p0_latest v_p0_stage v_p0_first H locs ls h hP hD hS hl
          refine lv_aload_n hx hb dX7_tellPoint_51 rfl (lv_at hl 0 rfl) ?_
          refine lv_dup hx hb dX7_tellPoint_52 rfl ?_
          refine va_get (ci := 5) (C := RX7) (T := TX7) (N := 9) (v := .int v_p0_told) hx hb hts hinX7 hown hK hP 0 rfl rfl 2 (by decide) hw1 (fun _ h9 => h9) rfl dX7_tellPoint_53 ?_
          refine lv_iconst (v := (1 : Int32)) hx hb dX7_tellPoint_56 (by decide) ?_
          refine lv_iload_n hx hb dX7_tellPoint_57 rfl (lv_at hl 1 rfl) ?_
          refine lv_ishl hx hb dX7_tellPoint_58 ?_
          refine lv_ior hx hb dX7_tellPoint_59 ?_
          refine z_put (ci := 5) (C := RX7) (T := TX7) (N := 9) (ty := .int) (wn := [(q_p0, .inr (5, [.int v_p0_stage, .int v_p0_size, .int (v_p0_told ||| ((1 : Int32) <<< (x1 &&& 31))), .int v_p0_first, .int v_p0_latest, .int v_p0_ringsWhole, .ref q_p0_led, .int v_p0_hasReasons, .ref q_p0_reasons])), (q_p0_led, .inl (cI, 8, .inl f_p0_led))]) hx hb hts hinX7 tyX7 tyX7_ok nmX7 hown hK hP hD hS 0 rfl rfl 2 (by decide) hw1 (fun _ h9 => h9) rfl (by decide +kernel) rfl rfl (Nat.le_of_ble_eq_true rfl) dX7_tellPoint_60 rfl (fun H locs hP hD hS => ?_)
          refine lv_aload_n hx hb dX7_tellPoint_63 rfl (lv_at hl 0 rfl) ?_
          refine lv_iload_n hx hb dX7_tellPoint_64 rfl (lv_at hl 1 rfl) ?_
          refine z_put (ci := 5) (C := RX7) (T := TX7) (N := 9) (ty := .int) (wn := [(q_p0, .inr (5, [.int v_p0_stage, .int v_p0_size, .int (v_p0_told ||| ((1 : Int32) <<< (x1 &&& 31))), .int v_p0_first, .int x1, .int v_p0_ringsWhole, .ref q_p0_led, .int v_p0_hasReasons, .ref q_p0_reasons])), (q_p0_led, .inl (cI, 8, .inl f_p0_led))]) hx hb hts hinX7 tyX7 tyX7_ok nmX7 hown hK hP hD hS 0 rfl rfl 4 (by decide) hw3 (fun _ h9 => h9) rfl (by decide +kernel) rfl rfl (Nat.le_of_ble_eq_true rfl) dX7_tellPoint_65 rfl (fun H locs hP hD hS => ?_)
          refine lv_aload_n hx hb dX7_tellPoint_68 rfl (lv_at hl 0 rfl) ?_
          refine lv_iconst (v := (2 : Int32)) hx hb dX7_tellPoint_69 (by decide) ?_
          refine z_put (ci := 5) (C := RX7) (T := TX7) (N := 9) (ty := .int) (wn := [(q_p0, .inr (5, [.int (2 : Int32), .int v_p0_size, .int (v_p0_told ||| ((1 : Int32) <<< (x1 &&& 31))), .int v_p0_first, .int x1, .int v_p0_ringsWhole, .ref q_p0_led, .int v_p0_hasReasons, .ref q_p0_reasons])), (q_p0_led, .inl (cI, 8, .inl f_p0_led))]) hx hb hts hinX7 tyX7 tyX7_ok nmX7 hown hK hP hD hS 0 rfl rfl 0 (by decide) hw4 (fun _ h9 => h9) rfl (by decide +kernel) rfl rfl (Nat.le_of_ble_eq_true rfl) dX7_tellPoint_70 rfl (fun H locs hP hD hS => ?_)
          refine lv_iconst (v := (1 : Int32)) hx hb dX7_tellPoint_73 (by decide) ?_
          exact z_iret hQ hx hb hr rfl hlocks hK (f_p0_led, (v_p0_told ||| ((1 : Int32) <<< (x1 &&& 31))), x1, (2 : Int32), v_p0_first) h hP hD hS dX7_tellPoint_74
        refine lv_if_ge (tgt := 41) hx hb dX7_tellPoint_30 (by decide) (fun c4 => ?_) (fun c4 => ?_)
        · have h := And.left h c4
          refine lv_aload_n hx hb dX7_tellPoint_41 rfl (lv_at hl 0 rfl) ?_
          refine va_get (ci := 5) (C := RX7) (T := TX7) (N := 9) (v := .ref q_p0_led) hx hb hts hinX7 hown hK hP 0 rfl rfl 6 (by decide) hw5 (fun _ h9 => h9) rfl dX7_tellPoint_42 ?_
          refine lv_aload_n hx hb dX7_tellPoint_45 rfl (lv_at hl 0 rfl) ?_
          refine va_get (ci := 5) (C := RX7) (T := TX7) (N := 9) (v := .int v_p0_latest) hx hb hts hinX7 hown hK hP 0 rfl rfl 4 (by decide) hw3 (fun _ h9 => h9) rfl dX7_tellPoint_46 ?_
          refine lv_iload_n hx hb dX7_tellPoint_49 rfl (lv_at hl 1 rfl) ?_
          obtain ⟨hi5, h⟩ := h
          refine z_iast (wn := [(q_p0, .inr (5, [.int v_p0_stage, .int v_p0_size, .int v_p0_told, .int v_p0_first, .int v_p0_latest, .int v_p0_ringsWhole, .ref q_p0_led, .int v_p0_hasReasons, .ref q_p0_reasons])), (q_p0_led, .inl (cI, 8, .inl (upd f_p0_led v_p0_latest.toNatClampNeg x1)))]) hx hb hK hP hD hS 1 rfl hi5 dX7_tellPoint_50 rfl (fun H locs hP hD hS => ?_)
          exact k51 (upd f_p0_led v_p0_latest.toNatClampNeg x1) v_p0_told v_p0_latest v_p0_stage v_p0_first _ _ _ h hP hD hS (lv_sub hl [0, 1] rfl)
        · have h := And.right h c4
          refine lv_aload_n hx hb dX7_tellPoint_33 rfl (lv_at hl 0 rfl) ?_
          refine lv_iload_n hx hb dX7_tellPoint_34 rfl (lv_at hl 1 rfl) ?_
          refine z_put (ci := 5) (C := RX7) (T := TX7) (N := 9) (ty := .int) (wn := [(q_p0, .inr (5, [.int v_p0_stage, .int v_p0_size, .int v_p0_told, .int x1, .int v_p0_latest, .int v_p0_ringsWhole, .ref q_p0_led, .int v_p0_hasReasons, .ref q_p0_reasons])), (q_p0_led, .inl (cI, 8, .inl f_p0_led))]) hx hb hts hinX7 tyX7 tyX7_ok nmX7 hown hK hP hD hS 0 rfl rfl 3 (by decide) hw2 (fun _ h9 => h9) rfl (by decide +kernel) rfl rfl (Nat.le_of_ble_eq_true rfl) dX7_tellPoint_35 rfl (fun H locs hP hD hS => ?_)
          refine lv_goto (tgt := 51) hx hb dX7_tellPoint_38 (by decide) ?_
          exact k51 f_p0_led v_p0_told v_p0_latest v_p0_stage x1 _ _ _ h hP hD hS (lv_sub hl [0, 1] rfl)
      · have h := And.left h c3
        refine lv_iconst (v := (0 : Int32)) hx hb dX7_tellPoint_24 (by decide) ?_
        exact z_iret hQ hx hb hr rfl hlocks hK (f_p0_led, v_p0_told, v_p0_latest, v_p0_stage, v_p0_first) h hP hD hS dX7_tellPoint_25
theorem hd_X7_goOnBehindPoint : yX7_goOnBehindPoint.cls = RX7 ∧ yX7_goOnBehindPoint.cls ≠ "java/lang/invoke/MethodHandle" ∧ yX7_goOnBehindPoint.cls ≠ "java/lang/invoke/VarHandle" ∧ (parseMethodDescriptor yX7_goOnBehindPoint.desc).map (fun d => d.parameters.length) = some 1 := by decide +kernel
set_option maxHeartbeats 4000000 in
set_option maxRecDepth 100000 in
theorem c_X7_goOnBehindPoint (l : Launch) (D : va_G) (cI cJ cB : ClassId) (tU tM : Nat) (tS : tsT) (q_p0 q_p0_led q_p0_reasons : Nat) (sz : Nat) (x1 : Int32) (v_p0_latest : Int32) (v_p0_first : Int32) (f_p0_led : (Nat → Int32)) (v_p0_ringsWhole : Int32) (v_p0_stage : Int32) (v_p0_size : Int32) (v_p0_told : Int32) (v_p0_hasReasons : Int32) (P : Int32 → (Nat → Int32) → Int32 → Int32 → Prop) (h : M_X7_goOnBehindPoint x1 v_p0_latest v_p0_first f_p0_led v_p0_ringsWhole v_p0_stage P) : Met l yX7_goOnBehindPoint wsX7_goOnBehindPoint ({ frames := 0, cells := 0, slots := 0, locals := 0 }) (va_Pc [.ref q_p0, .int x1] (zPre D cI cJ cB tU tM tS [(q_p0, .inr (5, [.int v_p0_stage, .int v_p0_size, .int v_p0_told, .int v_p0_first, .int v_p0_latest, .int v_p0_ringsWhole, .ref q_p0_led, .int v_p0_hasReasons, .ref q_p0_reasons])), (q_p0_led, .inl (cI, 8, .inl f_p0_led))] sz)) (va_Qi (fun (r : Int32) (u : (Nat → Int32) × Int32 × Int32) => P r u.1 u.2.1 u.2.2) (fun u t => zPost D cI cJ cB (va_A [(q_p0, .inr (5, [.int v_p0_stage, .int v_p0_size, .int v_p0_told, .int v_p0_first, .int v_p0_latest, .int v_p0_ringsWhole, .ref q_p0_led, .int v_p0_hasReasons, .ref q_p0_reasons])), (q_p0_led, .inl (cI, 8, .inl f_p0_led))] sz) [(q_p0, .inr (5, [.int u.2.2, .int v_p0_size, .int v_p0_told, .int v_p0_first, .int v_p0_latest, .int u.2.1, .ref q_p0_led, .int v_p0_hasReasons, .ref q_p0_reasons])), (q_p0_led, .inl (cI, 8, .inl u.1))] t) (va_A [(q_p0, .inr (5, [.int v_p0_stage, .int v_p0_size, .int v_p0_told, .int v_p0_first, .int v_p0_latest, .int v_p0_ringsWhole, .ref q_p0_led, .int v_p0_hasReasons, .ref q_p0_reasons])), (q_p0_led, .inl (cI, 8, .inl f_p0_led))] sz)) 0 0 (va_A [(q_p0, .inr (5, [.int v_p0_stage, .int v_p0_size, .int v_p0_told, .int v_p0_first, .int v_p0_latest, .int v_p0_ringsWhole, .ref q_p0_led, .int v_p0_hasReasons, .ref q_p0_reasons])), (q_p0_led, .inl (cI, 8, .inl f_p0_led))] sz) := by
  refine z_met (cc := cX7_goOnBehindPoint) (maxL := 2) (ret := (some .boolean)) (Qc := fun A => va_Qi (fun (r : Int32) (u : (Nat → Int32) × Int32 × Int32) => P r u.1 u.2.1 u.2.2) (fun u t => zPost D cI cJ cB A [(q_p0, .inr (5, [.int u.2.2, .int v_p0_size, .int v_p0_told, .int v_p0_first, .int v_p0_latest, .int u.2.1, .ref q_p0_led, .int v_p0_hasReasons, .ref q_p0_reasons])), (q_p0_led, .inl (cI, 8, .inl u.1))] t) A) (by decide) rfl [.ref q_p0, .int x1] (Nat.le_of_ble_eq_true rfl) ?_
  intro p e s m args below meth c A hx hb hr hts hown hml hlocks hA hX hK H locs hP hD hS ls hl Q hQ
  have hown : s.vm.findClass RX7 = some m.cls := hown
  have hl : lv_has ls 2 [(0, .ref q_p0), (1, .int x1)] := hl
  have hw0 : (Cond.fieldLink RX7 9 "ForcedRings$Text" "led" "[I").before args s = true := hts _ (List.mem_of_getElem? (i := 2) rfl)
  have hw1 : (Cond.fieldLink RX7 71 "ForcedRings$Text" "latest" "I").before args s = true := hts _ (List.mem_of_getElem? (i := 3) rfl)
  have hw2 : (Cond.fieldLink RX7 68 "ForcedRings$Text" "first" "I").before args s = true := hts _ (List.mem_of_getElem? (i := 4) rfl)
  have hw3 : (Cond.fieldLink RX7 44 "ForcedRings$Text" "ringsWhole" "I").before args s = true := hts _ (List.mem_of_getElem? (i := 5) rfl)
  have hw4 : (Cond.fieldLink RX7 37 "ForcedRings$Text" "stage" "I").before args s = true := hts _ (List.mem_of_getElem? (i := 1) rfl)
  have hinX7 : ∀ w ∈ wsX70, w ∈ wsX7_goOnBehindPoint := fun _ h => List.mem_cons_of_mem _ (List.mem_append_right _ h)
  refine lv_iload_n hx hb dX7_goOnBehindPoint_0 rfl (lv_at hl 1 rfl) ?_
  refine lv_bipush (v := (32 : Int32)) hx hb dX7_goOnBehindPoint_1 (by decide) ?_
  refine lv_icmp_ne (tgt := 13) hx hb dX7_goOnBehindPoint_3 (by decide) (fun c1 => ?_) (fun c1 => ?_)
  · have h := And.right h c1
    refine lv_iload_n hx hb dX7_goOnBehindPoint_13 rfl (lv_at hl 1 rfl) ?_
    refine lv_bipush (v := (41 : Int32)) hx hb dX7_goOnBehindPoint_14 (by decide) ?_
    refine lv_icmp_eq (tgt := 21) hx hb dX7_goOnBehindPoint_16 (by decide) (fun c2 => ?_) (fun c2 => ?_)
    · have h := And.left h c2
      refine lv_aload_n hx hb dX7_goOnBehindPoint_21 rfl (lv_at hl 0 rfl) ?_
      refine va_get (ci := 5) (C := RX7) (T := TX7) (N := 9) (v := .ref q_p0_led) hx hb hts hinX7 hown hK hP 0 rfl rfl 6 (by decide) hw0 (fun _ h9 => h9) rfl dX7_goOnBehindPoint_22 ?_
      refine lv_aload_n hx hb dX7_goOnBehindPoint_25 rfl (lv_at hl 0 rfl) ?_
      refine va_get (ci := 5) (C := RX7) (T := TX7) (N := 9) (v := .int v_p0_latest) hx hb hts hinX7 hown hK hP 0 rfl rfl 4 (by decide) hw1 (fun _ h9 => h9) rfl dX7_goOnBehindPoint_26 ?_
      refine lv_aload_n hx hb dX7_goOnBehindPoint_29 rfl (lv_at hl 0 rfl) ?_
      refine va_get (ci := 5) (C := RX7) (T := TX7) (N := 9) (v := .int v_p0_first) hx hb hts hinX7 hown hK hP 0 rfl rfl 3 (by decide) hw2 (fun _ h9 => h9) rfl dX7_goOnBehindPoint_30 ?_
      obtain ⟨hi3, h⟩ := h
      refine z_iast (wn := [(q_p0, .inr (5, [.int v_p0_stage, .int v_p0_size, .int v_p0_told, .int v_p0_first, .int v_p0_latest, .int v_p0_ringsWhole, .ref q_p0_led, .int v_p0_hasReasons, .ref q_p0_reasons])), (q_p0_led, .inl (cI, 8, .inl (upd f_p0_led v_p0_latest.toNatClampNeg v_p0_first)))]) hx hb hK hP hD hS 1 rfl hi3 dX7_goOnBehindPoint_33 rfl (fun H locs hP hD hS => ?_)
      refine lv_aload_n hx hb dX7_goOnBehindPoint_34 rfl (lv_at hl 0 rfl) ?_
      refine lv_dup hx hb dX7_goOnBehindPoint_35 rfl ?_
      refine va_get (ci := 5) (C := RX7) (T := TX7) (N := 9) (v := .int v_p0_ringsWhole) hx hb hts hinX7 hown hK hP 0 rfl rfl 5 (by decide) hw3 (fun _ h9 => h9) rfl dX7_goOnBehindPoint_36 ?_
      refine lv_iconst (v := (1 : Int32)) hx hb dX7_goOnBehindPoint_39 (by decide) ?_
      refine lv_iadd hx hb dX7_goOnBehindPoint_40 ?_
      refine z_put (ci := 5) (C := RX7) (T := TX7) (N := 9) (ty := .int) (wn := [(q_p0, .inr (5, [.int v_p0_stage, .int v_p0_size, .int v_p0_told, .int v_p0_first, .int v_p0_latest, .int (v_p0_ringsWhole + (1 : Int32)), .ref q_p0_led, .int v_p0_hasReasons, .ref q_p0_reasons])), (q_p0_led, .inl (cI, 8, .inl (upd f_p0_led v_p0_latest.toNatClampNeg v_p0_first)))]) hx hb hts hinX7 tyX7 tyX7_ok nmX7 hown hK hP hD hS 0 rfl rfl 5 (by decide) hw3 (fun _ h9 => h9) rfl (by decide +kernel) rfl rfl (Nat.le_of_ble_eq_true rfl) dX7_goOnBehindPoint_41 rfl (fun H locs hP hD hS => ?_)
      refine lv_aload_n hx hb dX7_goOnBehindPoint_44 rfl (lv_at hl 0 rfl) ?_
      refine lv_iconst (v := (3 : Int32)) hx hb dX7_goOnBehindPoint_45 (by decide) ?_
      refine z_put (ci := 5) (C := RX7) (T := TX7) (N := 9) (ty := .int) (wn := [(q_p0, .inr (5, [.int (3 : Int32), .int v_p0_size, .int v_p0_told, .int v_p0_first, .int v_p0_latest, .int (v_p0_ringsWhole + (1 : Int32)), .ref q_p0_led, .int v_p0_hasReasons, .ref q_p0_reasons])), (q_p0_led, .inl (cI, 8, .inl (upd f_p0_led v_p0_latest.toNatClampNeg v_p0_first)))]) hx hb hts hinX7 tyX7 tyX7_ok nmX7 hown hK hP hD hS 0 rfl rfl 0 (by decide) hw4 (fun _ h9 => h9) rfl (by decide +kernel) rfl rfl (Nat.le_of_ble_eq_true rfl) dX7_goOnBehindPoint_46 rfl (fun H locs hP hD hS => ?_)
      refine lv_iconst (v := (1 : Int32)) hx hb dX7_goOnBehindPoint_49 (by decide) ?_
      exact z_iret hQ hx hb hr rfl hlocks hK ((upd f_p0_led v_p0_latest.toNatClampNeg v_p0_first), (v_p0_ringsWhole + (1 : Int32)), (3 : Int32)) h hP hD hS dX7_goOnBehindPoint_50
    · have h := And.right h c2
      refine lv_iconst (v := (0 : Int32)) hx hb dX7_goOnBehindPoint_19 (by decide) ?_
      exact z_iret hQ hx hb hr rfl hlocks hK (f_p0_led, v_p0_ringsWhole, v_p0_stage) h hP hD hS dX7_goOnBehindPoint_20
  · have h := And.left h c1
    refine lv_aload_n hx hb dX7_goOnBehindPoint_6 rfl (lv_at hl 0 rfl) ?_
    refine lv_iconst (v := (1 : Int32)) hx hb dX7_goOnBehindPoint_7 (by decide) ?_
    refine z_put (ci := 5) (C := RX7) (T := TX7) (N := 9) (ty := .int) (wn := [(q_p0, .inr (5, [.int (1 : Int32), .int v_p0_size, .int v_p0_told, .int v_p0_first, .int v_p0_latest, .int v_p0_ringsWhole, .ref q_p0_led, .int v_p0_hasReasons, .ref q_p0_reasons])), (q_p0_led, .inl (cI, 8, .inl f_p0_led))]) hx hb hts hinX7 tyX7 tyX7_ok nmX7 hown hK hP hD hS 0 rfl rfl 0 (by decide) hw4 (fun _ h9 => h9) rfl (by decide +kernel) rfl rfl (Nat.le_of_ble_eq_true rfl) dX7_goOnBehindPoint_8 rfl (fun H locs hP hD hS => ?_)
    refine lv_iconst (v := (1 : Int32)) hx hb dX7_goOnBehindPoint_11 (by decide) ?_
    exact z_iret hQ hx hb hr rfl hlocks hK (f_p0_led, v_p0_ringsWhole, (1 : Int32)) h hP hD hS dX7_goOnBehindPoint_12
theorem hd_X7_openRing : yX7_openRing.cls = RX7 ∧ yX7_openRing.cls ≠ "java/lang/invoke/MethodHandle" ∧ yX7_openRing.cls ≠ "java/lang/invoke/VarHandle" ∧ (parseMethodDescriptor yX7_openRing.desc).map (fun d => d.parameters.length) = some 1 := by decide +kernel
set_option maxHeartbeats 4000000 in
set_option maxRecDepth 100000 in
theorem c_X7_openRing (l : Launch) (D : va_G) (cI cJ cB : ClassId) (tU tM : Nat) (tS : tsT) (q_p0 q_p0_led q_p0_reasons : Nat) (sz : Nat) (x1 : Int32) (v_p0_first : Int32) (v_p0_stage : Int32) (v_p0_size : Int32) (v_p0_told : Int32) (v_p0_latest : Int32) (v_p0_ringsWhole : Int32) (v_p0_hasReasons : Int32) (P : Int32 → Int32 → Int32 → Prop) (h : M_X7_openRing x1 v_p0_first v_p0_stage P) : Met l yX7_openRing wsX7_openRing ({ frames := 0, cells := 0, slots := 0, locals := 0 }) (va_Pc [.ref q_p0, .int x1] (zPre D cI cJ cB tU tM tS [(q_p0, .inr (5, [.int v_p0_stage, .int v_p0_size, .int v_p0_told, .int v_p0_first, .int v_p0_latest, .int v_p0_ringsWhole, .ref q_p0_led, .int v_p0_hasReasons, .ref q_p0_reasons]))] sz)) (va_Qi (fun (r : Int32) (u : Int32 × Int32) => P r u.1 u.2) (fun u t => zPost D cI cJ cB (va_A [(q_p0, .inr (5, [.int v_p0_stage, .int v_p0_size, .int v_p0_told, .int v_p0_first, .int v_p0_latest, .int v_p0_ringsWhole, .ref q_p0_led, .int v_p0_hasReasons, .ref q_p0_reasons]))] sz) [(q_p0, .inr (5, [.int u.2, .int v_p0_size, .int v_p0_told, .int u.1, .int v_p0_latest, .int v_p0_ringsWhole, .ref q_p0_led, .int v_p0_hasReasons, .ref q_p0_reasons]))] t) (va_A [(q_p0, .inr (5, [.int v_p0_stage, .int v_p0_size, .int v_p0_told, .int v_p0_first, .int v_p0_latest, .int v_p0_ringsWhole, .ref q_p0_led, .int v_p0_hasReasons, .ref q_p0_reasons]))] sz)) 0 0 (va_A [(q_p0, .inr (5, [.int v_p0_stage, .int v_p0_size, .int v_p0_told, .int v_p0_first, .int v_p0_latest, .int v_p0_ringsWhole, .ref q_p0_led, .int v_p0_hasReasons, .ref q_p0_reasons]))] sz) := by
  refine z_met (cc := cX7_openRing) (maxL := 2) (ret := (some .boolean)) (Qc := fun A => va_Qi (fun (r : Int32) (u : Int32 × Int32) => P r u.1 u.2) (fun u t => zPost D cI cJ cB A [(q_p0, .inr (5, [.int u.2, .int v_p0_size, .int v_p0_told, .int u.1, .int v_p0_latest, .int v_p0_ringsWhole, .ref q_p0_led, .int v_p0_hasReasons, .ref q_p0_reasons]))] t) A) (by decide) rfl [.ref q_p0, .int x1] (Nat.le_of_ble_eq_true rfl) ?_
  intro p e s m args below meth c A hx hb hr hts hown hml hlocks hA hX hK H locs hP hD hS ls hl Q hQ
  have hown : s.vm.findClass RX7 = some m.cls := hown
  have hl : lv_has ls 2 [(0, .ref q_p0), (1, .int x1)] := hl
  have hw0 : (Cond.fieldLink RX7 68 "ForcedRings$Text" "first" "I").before args s = true := hts _ (List.mem_of_getElem? (i := 1) rfl)
  have hw1 : (Cond.fieldLink RX7 37 "ForcedRings$Text" "stage" "I").before args s = true := hts _ (List.mem_of_getElem? (i := 2) rfl)
  have hinX7 : ∀ w ∈ wsX70, w ∈ wsX7_openRing := fun _ h => List.mem_cons_of_mem _ (List.mem_append_right _ h)
  refine lv_iload_n hx hb dX7_openRing_0 rfl (lv_at hl 1 rfl) ?_
  refine lv_bipush (v := (40 : Int32)) hx hb dX7_openRing_1 (by decide) ?_
  refine lv_icmp_eq (tgt := 8) hx hb dX7_openRing_3 (by decide) (fun c1 => ?_) (fun c1 => ?_)
  · have h := And.left h c1
    refine lv_aload_n hx hb dX7_openRing_8 rfl (lv_at hl 0 rfl) ?_
    refine lv_iconst (v := (-1 : Int32)) hx hb dX7_openRing_9 (by decide) ?_
    refine z_put (ci := 5) (C := RX7) (T := TX7) (N := 9) (ty := .int) (wn := [(q_p0, .inr (5, [.int v_p0_stage, .int v_p0_size, .int v_p0_told, .int (-1 : Int32), .int v_p0_latest, .int v_p0_ringsWhole, .ref q_p0_led, .int v_p0_hasReasons, .ref q_p0_reasons]))]) hx hb hts hinX7 tyX7 tyX7_ok nmX7 hown hK hP hD hS 0 rfl rfl 3 (by decide) hw0 (fun _ h9 => h9) rfl (by decide +kernel) rfl rfl (Nat.le_of_ble_eq_true rfl) dX7_openRing_10 rfl (fun H locs hP hD hS => ?_)
    refine lv_aload_n hx hb dX7_openRing_13 rfl (lv_at hl 0 rfl) ?_
    refine lv_iconst (v := (1 : Int32)) hx hb dX7_openRing_14 (by decide) ?_
    refine z_put (ci := 5) (C := RX7) (T := TX7) (N := 9) (ty := .int) (wn := [(q_p0, .inr (5, [.int (1 : Int32), .int v_p0_size, .int v_p0_told, .int (-1 : Int32), .int v_p0_latest, .int v_p0_ringsWhole, .ref q_p0_led, .int v_p0_hasReasons, .ref q_p0_reasons]))]) hx hb hts hinX7 tyX7 tyX7_ok nmX7 hown hK hP hD hS 0 rfl rfl 0 (by decide) hw1 (fun _ h9 => h9) rfl (by decide +kernel) rfl rfl (Nat.le_of_ble_eq_true rfl) dX7_openRing_15 rfl (fun H locs hP hD hS => ?_)
    refine lv_iconst (v := (1 : Int32)) hx hb dX7_openRing_18 (by decide) ?_
    exact z_iret hQ hx hb hr rfl hlocks hK ((-1 : Int32), (1 : Int32)) h hP hD hS dX7_openRing_19
  · have h := And.right h c1
    refine lv_iconst (v := (0 : Int32)) hx hb dX7_openRing_6 (by decide) ?_
    exact z_iret hQ hx hb hr rfl hlocks hK (v_p0_first, v_p0_stage) h hP hD hS dX7_openRing_7
theorem hd_X7_canTake : yX7_canTake.cls = RX7 ∧ yX7_canTake.cls ≠ "java/lang/invoke/MethodHandle" ∧ yX7_canTake.cls ≠ "java/lang/invoke/VarHandle" ∧ (parseMethodDescriptor yX7_canTake.desc).map (fun d => d.parameters.length) = some 1 := by decide +kernel
set_option maxHeartbeats 4000000 in
set_option maxRecDepth 100000 in
theorem c_X7_canTake (l : Launch) (D : va_G) (cI cJ cB : ClassId) (tU tM : Nat) (tS : tsT) (q_p0 q_p0_led q_p0_reasons : Nat) (sz : Nat) (x1 : Int32) (v_p0_stage : Int32) (v_p0_size : Int32) (v_p0_told : Int32) (v_p0_first : Int32) (v_p0_latest : Int32) (f_p0_led : (Nat → Int32)) (v_p0_ringsWhole : Int32) (v_p0_hasReasons : Int32) (P : Int32 → (Nat → Int32) → Int32 → Int32 → Int32 → Int32 → Int32 → Prop) (h : M_X7_canTake x1 v_p0_stage v_p0_size v_p0_told v_p0_first v_p0_latest f_p0_led v_p0_ringsWhole P) : Met l yX7_canTake wsX7_canTake ({ frames := 1, cells := 0, slots := 0, locals := 21 }) (va_Pc [.ref q_p0, .int x1] (zPre D cI cJ cB tU tM tS [(q_p0, .inr (5, [.int v_p0_stage, .int v_p0_size, .int v_p0_told, .int v_p0_first, .int v_p0_latest, .int v_p0_ringsWhole, .ref q_p0_led, .int v_p0_hasReasons, .ref q_p0_reasons])), (q_p0_led, .inl (cI, 8, .inl f_p0_led))] sz)) (va_Qi (fun (r : Int32) (u : (Nat → Int32) × Int32 × Int32 × Int32 × Int32 × Int32) => P r u.1 u.2.1 u.2.2.1 u.2.2.2.1 u.2.2.2.2.1 u.2.2.2.2.2) (fun u t => zPost D cI cJ cB (va_A [(q_p0, .inr (5, [.int v_p0_stage, .int v_p0_size, .int v_p0_told, .int v_p0_first, .int v_p0_latest, .int v_p0_ringsWhole, .ref q_p0_led, .int v_p0_hasReasons, .ref q_p0_reasons])), (q_p0_led, .inl (cI, 8, .inl f_p0_led))] sz) [(q_p0, .inr (5, [.int u.2.2.2.1, .int v_p0_size, .int u.2.1, .int u.2.2.2.2.1, .int u.2.2.1, .int u.2.2.2.2.2, .ref q_p0_led, .int v_p0_hasReasons, .ref q_p0_reasons])), (q_p0_led, .inl (cI, 8, .inl u.1))] t) (va_A [(q_p0, .inr (5, [.int v_p0_stage, .int v_p0_size, .int v_p0_told, .int v_p0_first, .int v_p0_latest, .int v_p0_ringsWhole, .ref q_p0_led, .int v_p0_hasReasons, .ref q_p0_reasons])), (q_p0_led, .inl (cI, 8, .inl f_p0_led))] sz)) 0 0 (va_A [(q_p0, .inr (5, [.int v_p0_stage, .int v_p0_size, .int v_p0_told, .int v_p0_first, .int v_p0_latest, .int v_p0_ringsWhole, .ref q_p0_led, .int v_p0_hasReasons, .ref q_p0_reasons])), (q_p0_led, .inl (cI, 8, .inl f_p0_led))] sz) := by
  refine z_met (cc := cX7_canTake) (maxL := 2) (ret := (some .boolean)) (Qc := fun A => va_Qi (fun (r : Int32) (u : (Nat → Int32) × Int32 × Int32 × Int32 × Int32 × Int32) => P r u.1 u.2.1 u.2.2.1 u.2.2.2.1 u.2.2.2.2.1 u.2.2.2.2.2) (fun u t => zPost D cI cJ cB A [(q_p0, .inr (5, [.int u.2.2.2.1, .int v_p0_size, .int u.2.1, .int u.2.2.2.2.1, .int u.2.2.1, .int u.2.2.2.2.2, .ref q_p0_led, .int v_p0_hasReasons, .ref q_p0_reasons])), (q_p0_led, .inl (cI, 8, .inl u.1))] t) A) (by decide) rfl [.ref q_p0, .int x1] (Nat.le_of_ble_eq_true rfl) ?_
  intro p e s m args below meth c A hx hb hr hts hown hml hlocks hA hX hK H locs hP hD hS ls hl Q hQ
  have hown : s.vm.findClass RX7 = some m.cls := hown
  have hl : lv_has ls 2 [(0, .ref q_p0), (1, .int x1)] := hl
  have hw0 : (Cond.fieldLink RX7 37 "ForcedRings$Text" "stage" "I").before args s = true := hts _ (List.mem_of_getElem? (i := 1) rfl)
  have hinX7 : ∀ w ∈ wsX70, w ∈ wsX7_canTake := fun _ h => List.mem_cons_of_mem _ (List.mem_append_right _ h)
  refine lv_aload_n hx hb dX7_canTake_0 rfl (lv_at hl 0 rfl) ?_
  refine va_get (ci := 5) (C := RX7) (T := TX7) (N := 9) (v := .int v_p0_stage) hx hb hts hinX7 hown hK hP 0 rfl rfl 0 (by decide) hw0 (fun _ h9 => h9) rfl dX7_canTake_1 ?_
  by_cases e1_0 : v_p0_stage = (1 : Int32)
  · have h := And.left h e1_0
    have ez : v_p0_stage.toInt = 1 := by rw [e1_0]; decide
    refine lv_lookup (tgt := 32) hx hb dX7_canTake_4 (by decide) (by rw [ez] <;> rfl) (by decide) ?_
    refine lv_aload_n hx hb dX7_canTake_32 rfl (lv_at hl 0 rfl) ?_
    refine lv_iload_n hx hb dX7_canTake_33 rfl (lv_at hl 1 rfl) ?_
    refine lv_bipush (v := (48 : Int32)) hx hb dX7_canTake_34 (by decide) ?_
    refine lv_isub hx hb dX7_canTake_36 ?_
    refine z_cVi (As := [.int (x1 - (48 : Int32))]) (rest := []) (wr := []) (wn := fun u => [(q_p0, .inr (5, [.int u.2.2.2.1, .int v_p0_size, .int u.2.1, .int u.2.2.2.2, .int u.2.2.1, .int v_p0_ringsWhole, .ref q_p0_led, .int v_p0_hasReasons, .ref q_p0_reasons])), (q_p0_led, .inl (cI, 8, .inl u.1))]) (c_X7_tellPoint l D cI cJ cB tU tM tS q_p0 q_p0_led q_p0_reasons H.size (x1 - (48 : Int32)) v_p0_size v_p0_told v_p0_first v_p0_latest f_p0_led v_p0_stage v_p0_ringsWhole v_p0_hasReasons _ h) ⟨hx, hb, hml, hown, hts⟩ (cwV 1 hts gX7_canTake_X7_tellPoint rfl rfl rfl hd_X7_tellPoint ⟨Nat.le_of_ble_eq_true rfl, Nat.le_of_ble_eq_true rfl⟩) hX hK hP hD hS hA [0, 1] [] [0, 1] rfl rfl rfl (by decide) (fun _ => rfl) (q0 := 0) (ci := 5) rfl rfl rfl hl.1 rfl (Nat.le_of_ble_eq_true rfl) ⟨Nat.le_refl _, Nat.le_refl _⟩ dX7_canTake_37 (fun r2 u2 H locs h hP hD hS => ?_)
    obtain ⟨m2_0, m2_1, m2_2, m2_3, m2_4⟩ := u2
    exact z_iret hQ hx hb hr h.1 hlocks hK (m2_0, m2_1, m2_2, m2_3, m2_4, v_p0_ringsWhole) h.2 hP hD hS dX7_canTake_40
  · have h := And.right h e1_0
    by_cases e1_1 : v_p0_stage = (2 : Int32)
    · have h := And.left h e1_1
      have ez : v_p0_stage.toInt = 2 := by rw [e1_1]; decide
      refine lv_lookup (tgt := 41) hx hb dX7_canTake_4 (by decide) (by rw [ez] <;> rfl) (by decide) ?_
      refine lv_aload_n hx hb dX7_canTake_41 rfl (lv_at hl 0 rfl) ?_
      refine lv_iload_n hx hb dX7_canTake_42 rfl (lv_at hl 1 rfl) ?_
      refine z_cVi (As := [.int x1]) (rest := []) (wr := []) (wn := fun u => [(q_p0, .inr (5, [.int u.2.2, .int v_p0_size, .int v_p0_told, .int v_p0_first, .int v_p0_latest, .int u.2.1, .ref q_p0_led, .int v_p0_hasReasons, .ref q_p0_reasons])), (q_p0_led, .inl (cI, 8, .inl u.1))]) (c_X7_goOnBehindPoint l D cI cJ cB tU tM tS q_p0 q_p0_led q_p0_reasons H.size x1 v_p0_latest v_p0_first f_p0_led v_p0_ringsWhole v_p0_stage v_p0_size v_p0_told v_p0_hasReasons _ h) ⟨hx, hb, hml, hown, hts⟩ (cwV 1 hts gX7_canTake_X7_goOnBehindPoint rfl rfl rfl hd_X7_goOnBehindPoint ⟨Nat.le_of_ble_eq_true rfl, Nat.le_of_ble_eq_true rfl⟩) hX hK hP hD hS hA [0, 1] [] [0, 1] rfl rfl rfl (by decide) (fun _ => rfl) (q0 := 0) (ci := 5) rfl rfl rfl hl.1 rfl (Nat.le_of_ble_eq_true rfl) ⟨Nat.le_refl _, Nat.le_refl _⟩ dX7_canTake_43 (fun r3 u3 H locs h hP hD hS => ?_)
      obtain ⟨m3_0, m3_1, m3_2⟩ := u3
      exact z_iret hQ hx hb hr h.1 hlocks hK (m3_0, v_p0_told, v_p0_latest, m3_2, v_p0_first, m3_1) h.2 hP hD hS dX7_canTake_46
    · have h := And.right h e1_1
      have z0 := z_ne (z := 1) e1_0 (by decide)
      have z1 := z_ne (z := 2) e1_1 (by decide)
      refine lv_lookup (tgt := 47) (off := 43) hx hb dX7_canTake_4 (by decide) (by rw [Jvm.Op.lookupswitch.offset_cons, if_neg (Ne.symm z0), Jvm.Op.lookupswitch.offset_cons, if_neg (Ne.symm z1), Jvm.Op.lookupswitch.offset_nil]) (by decide) ?_
      refine lv_aload_n hx hb dX7_canTake_47 rfl (lv_at hl 0 rfl) ?_
      refine lv_iload_n hx hb dX7_canTake_48 rfl (lv_at hl 1 rfl) ?_
      refine z_cVi (As := [.int x1]) (rest := []) (wr := [(q_p0_led, .inl (cI, 8, .inl f_p0_led))]) (wn := fun u => [(q_p0, .inr (5, [.int u.2, .int v_p0_size, .int v_p0_told, .int u.1, .int v_p0_latest, .int v_p0_ringsWhole, .ref q_p0_led, .int v_p0_hasReasons, .ref q_p0_reasons])), (q_p0_led, .inl (cI, 8, .inl f_p0_led))]) (c_X7_openRing l D cI cJ cB tU tM tS q_p0 q_p0_led q_p0_reasons H.size x1 v_p0_first v_p0_stage v_p0_size v_p0_told v_p0_latest v_p0_ringsWhole v_p0_hasReasons _ h) ⟨hx, hb, hml, hown, hts⟩ (cwV 1 hts gX7_canTake_X7_openRing rfl rfl rfl hd_X7_openRing ⟨Nat.le_of_ble_eq_true rfl, Nat.le_of_ble_eq_true rfl⟩) hX hK hP hD hS hA [0] [1] [1, 0] rfl rfl rfl (by decide) (fun _ => rfl) (q0 := 0) (ci := 5) rfl rfl rfl hl.1 rfl (Nat.le_of_ble_eq_true rfl) ⟨Nat.le_refl _, Nat.le_refl _⟩ dX7_canTake_49 (fun r4 u4 H locs h hP hD hS => ?_)
      obtain ⟨m4_0, m4_1⟩ := u4
      exact z_iret hQ hx hb hr h.1 hlocks hK (f_p0_led, v_p0_told, v_p0_latest, m4_1, m4_0, v_p0_ringsWhole) h.2 hP hD hS dX7_canTake_52
theorem hd_X7_faultIn : yX7_faultIn.cls = RX7 ∧ yX7_faultIn.cls ≠ "java/lang/invoke/MethodHandle" ∧ yX7_faultIn.cls ≠ "java/lang/invoke/VarHandle" ∧ (parseMethodDescriptor yX7_faultIn.desc).map (fun d => d.parameters.length) = some 2 := by decide +kernel
set_option maxHeartbeats 4000000 in
set_option maxRecDepth 100000 in
theorem c_X7_faultIn (l : Launch) (D : va_G) (cI cJ cB : ClassId) (tU tM : Nat) (tS : tsT) (q_p0 q_p1 q_p0_led q_p0_reasons q_p1_bytes : Nat) (sz : Nat) (x2 : Int32) (v_p0_stage : Int32) (v_p0_size : Int32) (v_p0_told : Int32) (v_p0_ringsWhole : Int32) (f_p0_led : (Nat → Int32)) (v_p1_length : Int32) (f_p1_bytes : (Nat → Int32)) (v_p0_first : Int32) (v_p0_latest : Int32) (v_p0_hasReasons : Int32) (P : Int32 → Int32 → Int32 → Int32 → Int32 → (Nat → Int32) → Int32 → Int32 → Prop) (h : M_X7_faultIn x2 v_p0_stage v_p0_size v_p0_told v_p0_ringsWhole f_p0_led v_p1_length f_p1_bytes v_p0_first v_p0_latest P) : Met l yX7_faultIn wsX7_faultIn ({ frames := 2, cells := 0, slots := 0, locals := 42 }) (va_Pc [.ref q_p0, .ref q_p1, .int x2] (zPre D cI cJ cB tU tM tS [(q_p0, .inr (5, [.int v_p0_stage, .int v_p0_size, .int v_p0_told, .int v_p0_first, .int v_p0_latest, .int v_p0_ringsWhole, .ref q_p0_led, .int v_p0_hasReasons, .ref q_p0_reasons])), (q_p1, .inr (4, [.int v_p1_length, .ref q_p1_bytes])), (q_p0_led, .inl (cI, 8, .inl f_p0_led)), (q_p1_bytes, .inl (cB, 60, .inl f_p1_bytes))] sz)) (va_Qi (fun (r : Int32) (u : Int32 × Int32 × Int32 × Int32 × (Nat → Int32) × Int32 × Int32) => P r u.1 u.2.1 u.2.2.1 u.2.2.2.1 u.2.2.2.2.1 u.2.2.2.2.2.1 u.2.2.2.2.2.2) (fun u t => zPost D cI cJ cB (va_A [(q_p0, .inr (5, [.int v_p0_stage, .int v_p0_size, .int v_p0_told, .int v_p0_first, .int v_p0_latest, .int v_p0_ringsWhole, .ref q_p0_led, .int v_p0_hasReasons, .ref q_p0_reasons])), (q_p1, .inr (4, [.int v_p1_length, .ref q_p1_bytes])), (q_p0_led, .inl (cI, 8, .inl f_p0_led)), (q_p1_bytes, .inl (cB, 60, .inl f_p1_bytes))] sz) [(q_p0, .inr (5, [.int u.1, .int u.2.1, .int u.2.2.1, .int u.2.2.2.2.2.2, .int u.2.2.2.2.2.1, .int u.2.2.2.1, .ref q_p0_led, .int v_p0_hasReasons, .ref q_p0_reasons])), (q_p1, .inr (4, [.int v_p1_length, .ref q_p1_bytes])), (q_p0_led, .inl (cI, 8, .inl u.2.2.2.2.1)), (q_p1_bytes, .inl (cB, 60, .inl f_p1_bytes))] t) (va_A [(q_p0, .inr (5, [.int v_p0_stage, .int v_p0_size, .int v_p0_told, .int v_p0_first, .int v_p0_latest, .int v_p0_ringsWhole, .ref q_p0_led, .int v_p0_hasReasons, .ref q_p0_reasons])), (q_p1, .inr (4, [.int v_p1_length, .ref q_p1_bytes])), (q_p0_led, .inl (cI, 8, .inl f_p0_led)), (q_p1_bytes, .inl (cB, 60, .inl f_p1_bytes))] sz)) 0 0 (va_A [(q_p0, .inr (5, [.int v_p0_stage, .int v_p0_size, .int v_p0_told, .int v_p0_first, .int v_p0_latest, .int v_p0_ringsWhole, .ref q_p0_led, .int v_p0_hasReasons, .ref q_p0_reasons])), (q_p1, .inr (4, [.int v_p1_length, .ref q_p1_bytes])), (q_p0_led, .inl (cI, 8, .inl f_p0_led)), (q_p1_bytes, .inl (cB, 60, .inl f_p1_bytes))] sz) := by
  refine z_met (cc := cX7_faultIn) (maxL := 4) (ret := (some .int)) (Qc := fun A => va_Qi (fun (r : Int32) (u : Int32 × Int32 × Int32 × Int32 × (Nat → Int32) × Int32 × Int32) => P r u.1 u.2.1 u.2.2.1 u.2.2.2.1 u.2.2.2.2.1 u.2.2.2.2.2.1 u.2.2.2.2.2.2) (fun u t => zPost D cI cJ cB A [(q_p0, .inr (5, [.int u.1, .int u.2.1, .int u.2.2.1, .int u.2.2.2.2.2.2, .int u.2.2.2.2.2.1, .int u.2.2.2.1, .ref q_p0_led, .int v_p0_hasReasons, .ref q_p0_reasons])), (q_p1, .inr (4, [.int v_p1_length, .ref q_p1_bytes])), (q_p0_led, .inl (cI, 8, .inl u.2.2.2.2.1)), (q_p1_bytes, .inl (cB, 60, .inl f_p1_bytes))] t) A) (by decide) rfl [.ref q_p0, .ref q_p1, .int x2] (Nat.le_of_ble_eq_true rfl) ?_
  intro p e s m args below meth c A hx hb hr hts hown hml hlocks hA hX hK H locs hP hD hS ls hl Q hQ
  have hown : s.vm.findClass RX7 = some m.cls := hown
  have hl : lv_has ls 4 [(0, .ref q_p0), (1, .ref q_p1), (2, .int x2)] := hl
  have hw0 : (Cond.fieldLink RX7 23 "ForcedRings$Tape" "length" "I").before args s = true := hts _ (List.mem_of_getElem? (i := 1) rfl)
  have hw1 : (Cond.fieldLink RX7 37 "ForcedRings$Text" "stage" "I").before args s = true := hts _ (List.mem_of_getElem? (i := 3) rfl)
  have hw2 : (Cond.fieldLink RX7 29 "ForcedRings$Tape" "bytes" "[B").before args s = true := hts _ (List.mem_of_getElem? (i := 2) rfl)
  have hinX6 : ∀ w ∈ wsX60, w ∈ wsX7_faultIn := fun _ h => List.mem_cons_of_mem _ (List.mem_append_left _ (List.mem_append_right _ h))
  have hinX7 : ∀ w ∈ wsX70, w ∈ wsX7_faultIn := fun _ h => List.mem_cons_of_mem _ (List.mem_append_right _ h)
  refine lv_aload_n hx hb dX7_faultIn_0 rfl (lv_at hl 0 rfl) ?_
  refine lv_iload_n hx hb dX7_faultIn_1 rfl (lv_at hl 2 rfl) ?_
  refine z_cVv (As := [.int x2]) (rest := []) (wr := [(q_p1, .inr (4, [.int v_p1_length, .ref q_p1_bytes])), (q_p1_bytes, .inl (cB, 60, .inl f_p1_bytes))]) (wn := fun u => [(q_p0, .inr (5, [.int u.1, .int u.2.1, .int u.2.2.1, .int v_p0_first, .int v_p0_latest, .int u.2.2.2.1, .ref q_p0_led, .int v_p0_hasReasons, .ref q_p0_reasons])), (q_p1, .inr (4, [.int v_p1_length, .ref q_p1_bytes])), (q_p0_led, .inl (cI, 8, .inl u.2.2.2.2)), (q_p1_bytes, .inl (cB, 60, .inl f_p1_bytes))]) (c_X7_begin l D cI cJ cB tU tM tS q_p0 q_p0_led q_p0_reasons H.size x2 v_p0_stage v_p0_size v_p0_told v_p0_ringsWhole f_p0_led v_p0_first v_p0_latest v_p0_hasReasons _ h) ⟨hx, hb, hml, hown, hts⟩ (cwV 1 hts gX7_faultIn_X7_begin rfl rfl rfl hd_X7_begin ⟨Nat.le_of_ble_eq_true rfl, Nat.le_of_ble_eq_true rfl⟩) hX hK hP hD hS hA [0, 2] [1, 3] [2, 0, 3, 1] rfl rfl rfl (by decide) (fun _ => rfl) (q0 := 0) (ci := 5) rfl rfl rfl hl.1 rfl (Nat.le_of_ble_eq_true rfl) ⟨Nat.le_refl _, Nat.le_refl _⟩ dX7_faultIn_2 (fun u1 H locs h hP hD hS => ?_)
  obtain ⟨m1_0, m1_1, m1_2, m1_3, m1_4⟩ := u1
  refine lv_iconst (v := (0 : Int32)) hx hb dX7_faultIn_5 (by decide) ?_
  refine lv_istore_n (lv' := [(3, .int (0 : Int32)), (0, .ref q_p0), (1, .ref q_p1), (2, .int x2)]) hx hb dX7_faultIn_6 rfl hl (by decide) rfl (fun ls hl => ?_)
  have k7 : ∀ (v_p0_size : Int32) (n7 : Nat) (l3 : Int32) (v_p0_stage : Int32) (v_p0_told : Int32) (v_p0_ringsWhole : Int32) (f_p0_led : (Nat → Int32)) (v_p0_latest : Int32) (v_p0_first : Int32) (H : Heap) (locs : List Loc) (ls : Array Slot), LP7 (M_X7_faultIn_l7 x2 v_p1_length f_p1_bytes P v_p0_size) n7 l3 v_p0_stage v_p0_told v_p0_ringsWhole f_p0_led v_p0_latest v_p0_first → va_P D vwCl [(q_p0, .inr (5, [.int v_p0_stage, .int v_p0_size, .int v_p0_told, .int v_p0_first, .int v_p0_latest, .int v_p0_ringsWhole, .ref q_p0_led, .int v_p0_hasReasons, .ref q_p0_reasons])), (q_p1, .inr (4, [.int v_p1_length, .ref q_p1_bytes])), (q_p0_led, .inl (cI, 8, .inl f_p0_led)), (q_p1_bytes, .inl (cB, 60, .inl f_p1_bytes))] H → va_D A [(q_p0, .inr (5, [.int v_p0_stage, .int v_p0_size, .int v_p0_told, .int v_p0_first, .int v_p0_latest, .int v_p0_ringsWhole, .ref q_p0_led, .int v_p0_hasReasons, .ref q_p0_reasons])), (q_p1, .inr (4, [.int v_p1_length, .ref q_p1_bytes])), (q_p0_led, .inl (cI, 8, .inl f_p0_led)), (q_p1_bytes, .inl (cB, 60, .inl f_p1_bytes))] → va_S A s.heap H locs → lv_has ls 4 [(0, .ref q_p0), (1, .ref q_p1), (3, .int l3)] → W p l e { frames := 2, cells := 0, slots := 0, locals := 42 } s m args below meth c H locs 0 0 Q (F0 m 7 ls []) := by
    intro v_p0_size n7
    induction n7 with
    | zero =>
      intro l3 v_p0_stage v_p0_told v_p0_ringsWhole f_p0_led v_p0_latest v_p0_first H locs ls h
      exact False.elim h
    | succ n7 ih7 =>
      intro l3 v_p0_stage v_p0_told v_p0_ringsWhole f_p0_led v_p0_latest v_p0_first H locs ls h hP hD hS hl
      have h : M_X7_faultIn_l7 x2 v_p1_length f_p1_bytes P v_p0_size (LP7 (M_X7_faultIn_l7 x2 v_p1_length f_p1_bytes P v_p0_size) n7) l3 v_p0_stage v_p0_told v_p0_ringsWhole f_p0_led v_p0_latest v_p0_first := h
      refine lv_iload_n hx hb dX7_faultIn_7 rfl (lv_at hl 2 rfl) ?_
      refine lv_aload_n hx hb dX7_faultIn_8 rfl (lv_at hl 1 rfl) ?_
      refine va_get (ci := 4) (C := RX6) (T := TX6) (N := 2) (v := .int v_p1_length) hx hb hts hinX6 hown hK hP 1 rfl rfl 0 (by decide) hw0 (fun _ h9 => h9) rfl dX7_faultIn_9 ?_
      refine lv_icmp_ge (tgt := 36) hx hb dX7_faultIn_12 (by decide) (fun c2 => ?_) (fun c2 => ?_)
      · have h := And.left h c2
        refine lv_aload_n hx hb dX7_faultIn_36 rfl (lv_at hl 0 rfl) ?_
        refine va_get (ci := 5) (C := RX7) (T := TX7) (N := 9) (v := .int v_p0_stage) hx hb hts hinX7 hown hK hP 0 rfl rfl 0 (by decide) hw1 (fun _ h9 => h9) rfl dX7_faultIn_37 ?_
        refine lv_iconst (v := (3 : Int32)) hx hb dX7_faultIn_40 (by decide) ?_
        refine lv_icmp_ne (tgt := 48) hx hb dX7_faultIn_41 (by decide) (fun c3 => ?_) (fun c3 => ?_)
        · have h := And.right h c3
          refine lv_aload_n hx hb dX7_faultIn_48 rfl (lv_at hl 1 rfl) ?_
          refine va_get (ci := 4) (C := RX6) (T := TX6) (N := 2) (v := .int v_p1_length) hx hb hts hinX6 hown hK hP 1 rfl rfl 0 (by decide) hw0 (fun _ h9 => h9) rfl dX7_faultIn_49 ?_
          exact z_iret hQ hx hb hr rfl hlocks hK (v_p0_stage, v_p0_size, v_p0_told, v_p0_ringsWhole, f_p0_led, v_p0_latest, v_p0_first) h hP hD hS dX7_faultIn_52
        · have h := And.left h c3
          refine lv_iconst (v := (-1 : Int32)) hx hb dX7_faultIn_44 (by decide) ?_
          refine lv_goto (tgt := 52) hx hb dX7_faultIn_45 (by decide) ?_
          exact z_iret hQ hx hb hr rfl hlocks hK (v_p0_stage, v_p0_size, v_p0_told, v_p0_ringsWhole, f_p0_led, v_p0_latest, v_p0_first) h hP hD hS dX7_faultIn_52
      · have h := And.right h c2
        refine lv_aload_n hx hb dX7_faultIn_15 rfl (lv_at hl 0 rfl) ?_
        refine lv_aload_n hx hb dX7_faultIn_16 rfl (lv_at hl 1 rfl) ?_
        refine va_get (ci := 4) (C := RX6) (T := TX6) (N := 2) (v := .ref q_p1_bytes) hx hb hts hinX6 hown hK hP 1 rfl rfl 1 (by decide) hw2 (fun _ h9 => h9) rfl dX7_faultIn_17 ?_
        refine lv_iload_n hx hb dX7_faultIn_20 rfl (lv_at hl 2 rfl) ?_
        obtain ⟨hi4, h⟩ := h
        refine va_bald hx hb hK hP 3 2 rfl rfl hi4 dX7_faultIn_21 ?_
        refine z_cVi (As := [.int (f_p1_bytes l3.toNatClampNeg)]) (rest := []) (wr := [(q_p1, .inr (4, [.int v_p1_length, .ref q_p1_bytes])), (q_p1_bytes, .inl (cB, 60, .inl f_p1_bytes))]) (wn := fun u => [(q_p0, .inr (5, [.int u.2.2.2.1, .int v_p0_size, .int u.2.1, .int u.2.2.2.2.1, .int u.2.2.1, .int u.2.2.2.2.2, .ref q_p0_led, .int v_p0_hasReasons, .ref q_p0_reasons])), (q_p1, .inr (4, [.int v_p1_length, .ref q_p1_bytes])), (q_p0_led, .inl (cI, 8, .inl u.1)), (q_p1_bytes, .inl (cB, 60, .inl f_p1_bytes))]) (c_X7_canTake l D cI cJ cB tU tM tS q_p0 q_p0_led q_p0_reasons H.size (f_p1_bytes l3.toNatClampNeg) v_p0_stage v_p0_size v_p0_told v_p0_first v_p0_latest f_p0_led v_p0_ringsWhole v_p0_hasReasons _ h) ⟨hx, hb, hml, hown, hts⟩ (cwV 1 hts gX7_faultIn_X7_canTake rfl rfl rfl hd_X7_canTake ⟨Nat.le_of_ble_eq_true rfl, Nat.le_of_ble_eq_true rfl⟩) hX hK hP hD hS hA [0, 2] [1, 3] [2, 0, 3, 1] rfl rfl rfl (by decide) (fun _ => rfl) (q0 := 0) (ci := 5) rfl rfl rfl hl.1 rfl (Nat.le_of_ble_eq_true rfl) ⟨Nat.le_refl _, Nat.le_refl _⟩ dX7_faultIn_22 (fun r5 u5 H locs h hP hD hS => ?_)
        obtain ⟨m5_0, m5_1, m5_2, m5_3, m5_4, m5_5⟩ := u5
        refine lv_if_ne (tgt := 30) hx hb dX7_faultIn_25 (by decide) (fun c6 => ?_) (fun c6 => ?_)
        · have h := And.right h c6
          refine lv_iinc (v := (l3 + 1)) (lv' := [(3, .int (l3 + 1)), (0, .ref q_p0), (1, .ref q_p1)]) hx hb dX7_faultIn_30 hl (k := 2) rfl rfl (by decide) rfl (fun ls hl => ?_)
          refine lv_goto (tgt := 7) hx hb dX7_faultIn_33 (by decide) ?_
          exact ih7 (l3 + 1) m5_3 m5_1 m5_5 m5_0 m5_2 m5_4 _ _ _ h hP hD hS (lv_sub hl [1, 2, 0] rfl)
        · have h := And.left h c6
          refine lv_iload_n hx hb dX7_faultIn_28 rfl (lv_at hl 2 rfl) ?_
          exact z_iret hQ hx hb hr rfl hlocks hK (m5_3, v_p0_size, m5_1, m5_5, m5_0, m5_2, m5_4) h hP hD hS dX7_faultIn_29
  obtain ⟨n7, h⟩ := h
  exact k7 m1_1 n7 (0 : Int32) m1_0 m1_2 m1_3 m1_4 v_p0_latest v_p0_first _ _ _ h hP hD hS (lv_sub hl [1, 2, 0] rfl)
theorem hd_X7_keepReasons : yX7_keepReasons.cls = RX7 ∧ yX7_keepReasons.cls ≠ "java/lang/invoke/MethodHandle" ∧ yX7_keepReasons.cls ≠ "java/lang/invoke/VarHandle" ∧ (parseMethodDescriptor yX7_keepReasons.desc).map (fun d => d.parameters.length) = some 1 := by decide +kernel
set_option maxHeartbeats 4000000 in
set_option maxRecDepth 100000 in
theorem c_X7_keepReasons (l : Launch) (D : va_G) (cI cJ cB : ClassId) (tU tM : Nat) (tS : tsT) (q_p0 q_p0_led q_p0_reasons : Nat) (sz : Nat) (x1 : Int32) (v_p0_hasReasons : Int32) (v_p0_ringsWhole : Int32) (f_p0_reasons : (Nat → Int64)) (v_p0_told : Int32) (v_p0_stage : Int32) (v_p0_size : Int32) (v_p0_first : Int32) (v_p0_latest : Int32) (P : Int32 → (Nat → Int64) → Prop) (h : M_X7_keepReasons x1 v_p0_hasReasons v_p0_ringsWhole f_p0_reasons v_p0_told P) : Met l yX7_keepReasons wsX7_keepReasons ({ frames := 1, cells := 0, slots := 0, locals := 20 }) (va_Pc [.ref q_p0, .int x1] (zPre D cI cJ cB tU tM tS [(q_p0, .inr (5, [.int v_p0_stage, .int v_p0_size, .int v_p0_told, .int v_p0_first, .int v_p0_latest, .int v_p0_ringsWhole, .ref q_p0_led, .int v_p0_hasReasons, .ref q_p0_reasons])), (q_p0_reasons, .inl (cJ, 3, .inr (.inl f_p0_reasons)))] sz)) (va_Qv (fun u : Int32 × (Nat → Int64) => P u.1 u.2) (fun u t => zPost D cI cJ cB (va_A [(q_p0, .inr (5, [.int v_p0_stage, .int v_p0_size, .int v_p0_told, .int v_p0_first, .int v_p0_latest, .int v_p0_ringsWhole, .ref q_p0_led, .int v_p0_hasReasons, .ref q_p0_reasons])), (q_p0_reasons, .inl (cJ, 3, .inr (.inl f_p0_reasons)))] sz) [(q_p0, .inr (5, [.int v_p0_stage, .int v_p0_size, .int v_p0_told, .int v_p0_first, .int v_p0_latest, .int v_p0_ringsWhole, .ref q_p0_led, .int u.1, .ref q_p0_reasons])), (q_p0_reasons, .inl (cJ, 3, .inr (.inl u.2)))] t) (va_A [(q_p0, .inr (5, [.int v_p0_stage, .int v_p0_size, .int v_p0_told, .int v_p0_first, .int v_p0_latest, .int v_p0_ringsWhole, .ref q_p0_led, .int v_p0_hasReasons, .ref q_p0_reasons])), (q_p0_reasons, .inl (cJ, 3, .inr (.inl f_p0_reasons)))] sz)) 0 0 (va_A [(q_p0, .inr (5, [.int v_p0_stage, .int v_p0_size, .int v_p0_told, .int v_p0_first, .int v_p0_latest, .int v_p0_ringsWhole, .ref q_p0_led, .int v_p0_hasReasons, .ref q_p0_reasons])), (q_p0_reasons, .inl (cJ, 3, .inr (.inl f_p0_reasons)))] sz) := by
  refine z_met (cc := cX7_keepReasons) (maxL := 2) (ret := none) (Qc := fun A => va_Qv (fun u : Int32 × (Nat → Int64) => P u.1 u.2) (fun u t => zPost D cI cJ cB A [(q_p0, .inr (5, [.int v_p0_stage, .int v_p0_size, .int v_p0_told, .int v_p0_first, .int v_p0_latest, .int v_p0_ringsWhole, .ref q_p0_led, .int u.1, .ref q_p0_reasons])), (q_p0_reasons, .inl (cJ, 3, .inr (.inl u.2)))] t) A) (by decide) rfl [.ref q_p0, .int x1] (Nat.le_of_ble_eq_true rfl) ?_
  intro p e s m args below meth c A hx hb hr hts hown hml hlocks hA hX hK H locs hP hD hS ls hl Q hQ
  have hown : s.vm.findClass RX7 = some m.cls := hown
  have hl : lv_has ls 2 [(0, .ref q_p0), (1, .int x1)] := hl
  have hw0 : (Cond.fieldLink RX7 40 "ForcedRings$Text" "hasReasons" "Z").before args s = true := hts _ (List.mem_of_getElem? (i := 1) rfl)
  have hw1 : (Cond.fieldLink RX7 15 "ForcedRings$Text" "reasons" "[J").before args s = true := hts _ (List.mem_of_getElem? (i := 2) rfl)
  have hw2 : (Cond.fieldLink RX7 44 "ForcedRings$Text" "ringsWhole" "I").before args s = true := hts _ (List.mem_of_getElem? (i := 3) rfl)
  have hw3 : (Cond.fieldLink RX7 47 "ForcedRings$Text" "told" "I").before args s = true := hts _ (List.mem_of_getElem? (i := 4) rfl)
  have hinX7 : ∀ w ∈ wsX70, w ∈ wsX7_keepReasons := fun _ h => List.mem_cons_of_mem _ (List.mem_append_right _ h)
  refine lv_aload_n hx hb dX7_keepReasons_0 rfl (lv_at hl 0 rfl) ?_
  refine lv_iconst (v := (1 : Int32)) hx hb dX7_keepReasons_1 (by decide) ?_
  refine z_put (ci := 5) (C := RX7) (T := TX7) (N := 9) (ty := .boolean) (wn := [(q_p0, .inr (5, [.int v_p0_stage, .int v_p0_size, .int v_p0_told, .int v_p0_first, .int v_p0_latest, .int v_p0_ringsWhole, .ref q_p0_led, .int (1 : Int32), .ref q_p0_reasons])), (q_p0_reasons, .inl (cJ, 3, .inr (.inl f_p0_reasons)))]) hx hb hts hinX7 tyX7 tyX7_ok nmX7 hown hK hP hD hS 0 rfl rfl 7 (by decide) hw0 (fun _ h9 => h9) rfl (by decide +kernel) rfl rfl (Nat.le_of_ble_eq_true rfl) dX7_keepReasons_2 rfl (fun H locs hP hD hS => ?_)
  refine lv_aload_n hx hb dX7_keepReasons_5 rfl (lv_at hl 0 rfl) ?_
  refine va_get (ci := 5) (C := RX7) (T := TX7) (N := 9) (v := .ref q_p0_reasons) hx hb hts hinX7 hown hK hP 0 rfl rfl 8 (by decide) hw1 (fun _ h9 => h9) rfl dX7_keepReasons_6 ?_
  refine lv_iconst (v := (0 : Int32)) hx hb dX7_keepReasons_9 (by decide) ?_
  refine lv_aload_n hx hb dX7_keepReasons_10 rfl (lv_at hl 0 rfl) ?_
  refine va_get (ci := 5) (C := RX7) (T := TX7) (N := 9) (v := .int v_p0_ringsWhole) hx hb hts hinX7 hown hK hP 0 rfl rfl 5 (by decide) hw2 (fun _ h9 => h9) rfl dX7_keepReasons_11 ?_
  refine lv_i2l (v := v_p0_ringsWhole.toInt64) hx hb dX7_keepReasons_14 rfl ?_
  obtain ⟨hi1, h⟩ := h
  refine z_last (wn := [(q_p0, .inr (5, [.int v_p0_stage, .int v_p0_size, .int v_p0_told, .int v_p0_first, .int v_p0_latest, .int v_p0_ringsWhole, .ref q_p0_led, .int (1 : Int32), .ref q_p0_reasons])), (q_p0_reasons, .inl (cJ, 3, .inr (.inl (vp_updL f_p0_reasons (0 : Int32).toNatClampNeg v_p0_ringsWhole.toInt64))))]) hx hb hK hP hD hS 1 rfl hi1 dX7_keepReasons_15 rfl (fun H locs hP hD hS => ?_)
  refine lv_aload_n hx hb dX7_keepReasons_16 rfl (lv_at hl 0 rfl) ?_
  refine va_get (ci := 5) (C := RX7) (T := TX7) (N := 9) (v := .ref q_p0_reasons) hx hb hts hinX7 hown hK hP 0 rfl rfl 8 (by decide) hw1 (fun _ h9 => h9) rfl dX7_keepReasons_17 ?_
  refine lv_iconst (v := (1 : Int32)) hx hb dX7_keepReasons_20 (by decide) ?_
  refine lv_aload_n hx hb dX7_keepReasons_21 rfl (lv_at hl 0 rfl) ?_
  refine va_get (ci := 5) (C := RX7) (T := TX7) (N := 9) (v := .int v_p0_told) hx hb hts hinX7 hown hK hP 0 rfl rfl 2 (by decide) hw3 (fun _ h9 => h9) rfl dX7_keepReasons_22 ?_
  refine z_cSi (As := [.int v_p0_told]) (rest := [.int (1 : Int32), .ref q_p0_reasons]) (wr := [(q_p0, .inr (5, [.int v_p0_stage, .int v_p0_size, .int v_p0_told, .int v_p0_first, .int v_p0_latest, .int v_p0_ringsWhole, .ref q_p0_led, .int (1 : Int32), .ref q_p0_reasons])), (q_p0_reasons, .inl (cJ, 3, .inr (.inl (vp_updL f_p0_reasons (0 : Int32).toNatClampNeg v_p0_ringsWhole.toInt64))))]) (wn := fun u => [(q_p0, .inr (5, [.int v_p0_stage, .int v_p0_size, .int v_p0_told, .int v_p0_first, .int v_p0_latest, .int v_p0_ringsWhole, .ref q_p0_led, .int (1 : Int32), .ref q_p0_reasons])), (q_p0_reasons, .inl (cJ, 3, .inr (.inl (vp_updL f_p0_reasons (0 : Int32).toNatClampNeg v_p0_ringsWhole.toInt64))))]) (c_J6_bitCount_0f7a4 l D cI cJ cB tU tM tS  H.size v_p0_told _ h) ⟨hx, hb, hml, hown, hts⟩ (va_cwS 1 hts gX7_keepReasons_J6_bitCount_0f7a4 rfl rfl rfl hd_J6_bitCount_0f7a4.2 ⟨Nat.le_of_ble_eq_true rfl, Nat.le_of_ble_eq_true rfl⟩) hX hK hP hD hS hA [] [0, 1] [0, 1] rfl rfl rfl (by decide) (fun _ => rfl) rfl hl.1 rfl (Nat.le_of_ble_eq_true rfl) ⟨Nat.le_refl _, Nat.le_refl _⟩ dX7_keepReasons_25 (fun r2 u2 H locs h hP hD hS => ?_)
  refine lv_i2l (v := r2.toInt64) hx hb dX7_keepReasons_28 rfl ?_
  obtain ⟨hi3, h⟩ := h
  refine z_last (wn := [(q_p0, .inr (5, [.int v_p0_stage, .int v_p0_size, .int v_p0_told, .int v_p0_first, .int v_p0_latest, .int v_p0_ringsWhole, .ref q_p0_led, .int (1 : Int32), .ref q_p0_reasons])), (q_p0_reasons, .inl (cJ, 3, .inr (.inl (vp_updL (vp_updL f_p0_reasons (0 : Int32).toNatClampNeg v_p0_ringsWhole.toInt64) (1 : Int32).toNatClampNeg r2.toInt64))))]) hx hb hK hP hD hS 1 rfl hi3 dX7_keepReasons_29 rfl (fun H locs hP hD hS => ?_)
  refine lv_aload_n hx hb dX7_keepReasons_30 rfl (lv_at hl 0 rfl) ?_
  refine va_get (ci := 5) (C := RX7) (T := TX7) (N := 9) (v := .ref q_p0_reasons) hx hb hts hinX7 hown hK hP 0 rfl rfl 8 (by decide) hw1 (fun _ h9 => h9) rfl dX7_keepReasons_31 ?_
  refine lv_iconst (v := (2 : Int32)) hx hb dX7_keepReasons_34 (by decide) ?_
  refine lv_iload_n hx hb dX7_keepReasons_35 rfl (lv_at hl 1 rfl) ?_
  refine lv_i2l (v := x1.toInt64) hx hb dX7_keepReasons_36 rfl ?_
  obtain ⟨hi4, h⟩ := h
  refine z_last (wn := [(q_p0, .inr (5, [.int v_p0_stage, .int v_p0_size, .int v_p0_told, .int v_p0_first, .int v_p0_latest, .int v_p0_ringsWhole, .ref q_p0_led, .int (1 : Int32), .ref q_p0_reasons])), (q_p0_reasons, .inl (cJ, 3, .inr (.inl (vp_updL (vp_updL (vp_updL f_p0_reasons (0 : Int32).toNatClampNeg v_p0_ringsWhole.toInt64) (1 : Int32).toNatClampNeg r2.toInt64) (2 : Int32).toNatClampNeg x1.toInt64))))]) hx hb hK hP hD hS 1 rfl hi4 dX7_keepReasons_37 rfl (fun H locs hP hD hS => ?_)
  exact z_vret hQ hx hb hr hlocks hK ((1 : Int32), (vp_updL (vp_updL (vp_updL f_p0_reasons (0 : Int32).toNatClampNeg v_p0_ringsWhole.toInt64) (1 : Int32).toNatClampNeg r2.toInt64) (2 : Int32).toNatClampNeg x1.toInt64)) h hP hD hS dX7_keepReasons_38
theorem hd_X8_points : yX8_points.cls = RX8 ∧ yX8_points.cls ≠ "java/lang/invoke/MethodHandle" ∧ yX8_points.cls ≠ "java/lang/invoke/VarHandle" ∧ (parseMethodDescriptor yX8_points.desc).map (fun d => d.parameters.length) = some 1 := by decide +kernel
set_option maxHeartbeats 4000000 in
set_option maxRecDepth 100000 in
theorem c_X8_points (l : Launch) (D : va_G) (cI cJ cB : ClassId) (tU tM : Nat) (tS : tsT) (q_p0 q_p0_chart q_p0_kept q_p0_deeds q_p0_tape q_p0_text q_p0_pieces q_p0_patterns q_p0_chart_led q_p0_chart_turnedLed q_p0_deeds_maps : Nat) (sz : Nat) (x1 : Int32) (v_p0_chart_size : Int32) (f_p0_chart_led : (Nat → Int32)) (v_p0_deeds_amount : Int32) (v_p0_born : Int32) (v_p0_imageKept : Int32) (v_p0_chart_way : Int32) (P : Int32 → Int32 → (Nat → Int32) → Int32 → Prop) (h : M_X8_points x1 v_p0_chart_size f_p0_chart_led v_p0_deeds_amount P) : Met l yX8_points wsX8_points ({ frames := 1, cells := 0, slots := 0, locals := 22 }) (va_Pc [.ref q_p0, .int x1] (zPre D cI cJ cB tU tM tS [(q_p0, .inr (6, [.int v_p0_born, .int v_p0_imageKept, .ref q_p0_chart, .ref q_p0_kept, .ref q_p0_deeds, .ref q_p0_tape, .ref q_p0_text, .ref q_p0_pieces, .ref q_p0_patterns])), (q_p0_chart, .inr (0, [.int v_p0_chart_size, .int v_p0_chart_way, .ref q_p0_chart_led, .ref q_p0_chart_turnedLed])), (q_p0_deeds, .inr (1, [.int v_p0_deeds_amount, .ref q_p0_deeds_maps])), (q_p0_chart_led, .inl (cI, 8, .inl f_p0_chart_led))] sz)) (va_Qi (fun (r : Int32) (u : Int32 × (Nat → Int32) × Int32) => P r u.1 u.2.1 u.2.2) (fun u t => zPost D cI cJ cB (va_A [(q_p0, .inr (6, [.int v_p0_born, .int v_p0_imageKept, .ref q_p0_chart, .ref q_p0_kept, .ref q_p0_deeds, .ref q_p0_tape, .ref q_p0_text, .ref q_p0_pieces, .ref q_p0_patterns])), (q_p0_chart, .inr (0, [.int v_p0_chart_size, .int v_p0_chart_way, .ref q_p0_chart_led, .ref q_p0_chart_turnedLed])), (q_p0_deeds, .inr (1, [.int v_p0_deeds_amount, .ref q_p0_deeds_maps])), (q_p0_chart_led, .inl (cI, 8, .inl f_p0_chart_led))] sz) [(q_p0, .inr (6, [.int v_p0_born, .int v_p0_imageKept, .ref q_p0_chart, .ref q_p0_kept, .ref q_p0_deeds, .ref q_p0_tape, .ref q_p0_text, .ref q_p0_pieces, .ref q_p0_patterns])), (q_p0_chart, .inr (0, [.int u.1, .int v_p0_chart_way, .ref q_p0_chart_led, .ref q_p0_chart_turnedLed])), (q_p0_deeds, .inr (1, [.int u.2.2, .ref q_p0_deeds_maps])), (q_p0_chart_led, .inl (cI, 8, .inl u.2.1))] t) (va_A [(q_p0, .inr (6, [.int v_p0_born, .int v_p0_imageKept, .ref q_p0_chart, .ref q_p0_kept, .ref q_p0_deeds, .ref q_p0_tape, .ref q_p0_text, .ref q_p0_pieces, .ref q_p0_patterns])), (q_p0_chart, .inr (0, [.int v_p0_chart_size, .int v_p0_chart_way, .ref q_p0_chart_led, .ref q_p0_chart_turnedLed])), (q_p0_deeds, .inr (1, [.int v_p0_deeds_amount, .ref q_p0_deeds_maps])), (q_p0_chart_led, .inl (cI, 8, .inl f_p0_chart_led))] sz)) 0 0 (va_A [(q_p0, .inr (6, [.int v_p0_born, .int v_p0_imageKept, .ref q_p0_chart, .ref q_p0_kept, .ref q_p0_deeds, .ref q_p0_tape, .ref q_p0_text, .ref q_p0_pieces, .ref q_p0_patterns])), (q_p0_chart, .inr (0, [.int v_p0_chart_size, .int v_p0_chart_way, .ref q_p0_chart_led, .ref q_p0_chart_turnedLed])), (q_p0_deeds, .inr (1, [.int v_p0_deeds_amount, .ref q_p0_deeds_maps])), (q_p0_chart_led, .inl (cI, 8, .inl f_p0_chart_led))] sz) := by
  refine z_met (cc := cX8_points) (maxL := 3) (ret := (some .int)) (Qc := fun A => va_Qi (fun (r : Int32) (u : Int32 × (Nat → Int32) × Int32) => P r u.1 u.2.1 u.2.2) (fun u t => zPost D cI cJ cB A [(q_p0, .inr (6, [.int v_p0_born, .int v_p0_imageKept, .ref q_p0_chart, .ref q_p0_kept, .ref q_p0_deeds, .ref q_p0_tape, .ref q_p0_text, .ref q_p0_pieces, .ref q_p0_patterns])), (q_p0_chart, .inr (0, [.int u.1, .int v_p0_chart_way, .ref q_p0_chart_led, .ref q_p0_chart_turnedLed])), (q_p0_deeds, .inr (1, [.int u.2.2, .ref q_p0_deeds_maps])), (q_p0_chart_led, .inl (cI, 8, .inl u.2.1))] t) A) (by decide) rfl [.ref q_p0, .int x1] (Nat.le_of_ble_eq_true rfl) ?_
  intro p e s m args below meth c A hx hb hr hts hown hml hlocks hA hX hK H locs hP hD hS ls hl Q hQ
  have hown : s.vm.findClass RX8 = some m.cls := hown
  have hl : lv_has ls 3 [(0, .ref q_p0), (1, .int x1)] := hl
  have hw0 : (Cond.fieldLink RX8 18 "ForcedRings" "chart" "LForcedRings$Chart;").before args s = true := hts _ (List.mem_of_getElem? (i := 1) rfl)
  have hw1 : (Cond.fieldLink RX8 60 "ForcedRings$Chart" "size" "I").before args s = true := hts _ (List.mem_of_getElem? (i := 2) rfl)
  have hw2 : (Cond.fieldLink RX8 28 "ForcedRings" "deeds" "LForcedRings$Deeds;").before args s = true := hts _ (List.mem_of_getElem? (i := 3) rfl)
  have hinX0 : ∀ w ∈ wsX00, w ∈ wsX8_points := fun _ h => List.mem_cons_of_mem _ (List.mem_append_left _ (List.mem_append_right _ h))
  have hinX8 : ∀ w ∈ wsX80, w ∈ wsX8_points := fun _ h => List.mem_cons_of_mem _ (List.mem_append_left _ (List.mem_append_left _ (List.mem_append_right _ h)))
  refine lv_iload_n hx hb dX8_points_0 rfl (lv_at hl 1 rfl) ?_
  refine lv_iconst (v := (2 : Int32)) hx hb dX8_points_1 (by decide) ?_
  refine lv_icmp_lt (tgt := 11) hx hb dX8_points_2 (by decide) (fun c1 => ?_) (fun c1 => ?_)
  · have h := And.left h c1
    refine lv_bipush (v := (-2 : Int32)) hx hb dX8_points_11 (by decide) ?_
    exact z_iret hQ hx hb hr rfl hlocks hK (v_p0_chart_size, f_p0_chart_led, v_p0_deeds_amount) h hP hD hS dX8_points_13
  · have h := And.right h c1
    refine lv_iload_n hx hb dX8_points_5 rfl (lv_at hl 1 rfl) ?_
    refine lv_bipush (v := (8 : Int32)) hx hb dX8_points_6 (by decide) ?_
    refine lv_icmp_le (tgt := 14) hx hb dX8_points_8 (by decide) (fun c2 => ?_) (fun c2 => ?_)
    · have h := And.left h c2
      refine lv_aload_n hx hb dX8_points_14 rfl (lv_at hl 0 rfl) ?_
      refine va_get (ci := 6) (C := RX8) (T := TX8) (N := 9) (v := .ref q_p0_chart) hx hb hts hinX8 hown hK hP 0 rfl rfl 2 (by decide) hw0 (fun _ h9 => h9) rfl dX8_points_15 ?_
      refine va_get (ci := 0) (C := RX0) (T := TX0) (N := 4) (v := .int v_p0_chart_size) hx hb hts hinX0 hown hK hP 1 rfl rfl 0 (by decide) hw1 (fun _ h9 => h9) rfl dX8_points_18 ?_
      refine lv_istore_n (lv' := [(2, .int v_p0_chart_size), (0, .ref q_p0), (1, .int x1)]) hx hb dX8_points_21 rfl hl (by decide) rfl (fun ls hl => ?_)
      refine lv_aload_n hx hb dX8_points_22 rfl (lv_at hl 1 rfl) ?_
      refine va_get (ci := 6) (C := RX8) (T := TX8) (N := 9) (v := .ref q_p0_chart) hx hb hts hinX8 hown hK hP 0 rfl rfl 2 (by decide) hw0 (fun _ h9 => h9) rfl dX8_points_23 ?_
      refine lv_iload_n hx hb dX8_points_26 rfl (lv_at hl 2 rfl) ?_
      refine z_cVv (As := [.int x1]) (rest := []) (wr := [(q_p0, .inr (6, [.int v_p0_born, .int v_p0_imageKept, .ref q_p0_chart, .ref q_p0_kept, .ref q_p0_deeds, .ref q_p0_tape, .ref q_p0_text, .ref q_p0_pieces, .ref q_p0_patterns])), (q_p0_deeds, .inr (1, [.int v_p0_deeds_amount, .ref q_p0_deeds_maps]))]) (wn := fun u => [(q_p0, .inr (6, [.int v_p0_born, .int v_p0_imageKept, .ref q_p0_chart, .ref q_p0_kept, .ref q_p0_deeds, .ref q_p0_tape, .ref q_p0_text, .ref q_p0_pieces, .ref q_p0_patterns])), (q_p0_chart, .inr (0, [.int u.1, .int v_p0_chart_way, .ref q_p0_chart_led, .ref q_p0_chart_turnedLed])), (q_p0_deeds, .inr (1, [.int v_p0_deeds_amount, .ref q_p0_deeds_maps])), (q_p0_chart_led, .inl (cI, 8, .inl u.2))]) (c_X0_startWith l D cI cJ cB tU tM tS q_p0_chart q_p0_chart_led q_p0_chart_turnedLed H.size x1 v_p0_chart_size f_p0_chart_led v_p0_chart_way _ h) ⟨hx, hb, hml, hown, hts⟩ (cwV 1 hts gX8_points_X0_startWith rfl rfl rfl hd_X0_startWith ⟨Nat.le_of_ble_eq_true rfl, Nat.le_of_ble_eq_true rfl⟩) hX hK hP hD hS hA [1, 3] [0, 2] [0, 2, 1, 3] rfl rfl rfl (by decide) (fun _ => rfl) (q0 := 1) (ci := 0) rfl rfl rfl hl.1 rfl (Nat.le_of_ble_eq_true rfl) ⟨Nat.le_refl _, Nat.le_refl _⟩ dX8_points_27 (fun u3 H locs h hP hD hS => ?_)
      obtain ⟨m3_0, m3_1⟩ := u3
      refine lv_aload_n hx hb dX8_points_30 rfl (lv_at hl 1 rfl) ?_
      refine va_get (ci := 6) (C := RX8) (T := TX8) (N := 9) (v := .ref q_p0_deeds) hx hb hts hinX8 hown hK hP 0 rfl rfl 4 (by decide) hw2 (fun _ h9 => h9) rfl dX8_points_31 ?_
      refine z_cVv (As := []) (rest := []) (wr := [(q_p0, .inr (6, [.int v_p0_born, .int v_p0_imageKept, .ref q_p0_chart, .ref q_p0_kept, .ref q_p0_deeds, .ref q_p0_tape, .ref q_p0_text, .ref q_p0_pieces, .ref q_p0_patterns])), (q_p0_chart, .inr (0, [.int m3_0, .int v_p0_chart_way, .ref q_p0_chart_led, .ref q_p0_chart_turnedLed])), (q_p0_chart_led, .inl (cI, 8, .inl m3_1))]) (wn := fun u => [(q_p0, .inr (6, [.int v_p0_born, .int v_p0_imageKept, .ref q_p0_chart, .ref q_p0_kept, .ref q_p0_deeds, .ref q_p0_tape, .ref q_p0_text, .ref q_p0_pieces, .ref q_p0_patterns])), (q_p0_chart, .inr (0, [.int m3_0, .int v_p0_chart_way, .ref q_p0_chart_led, .ref q_p0_chart_turnedLed])), (q_p0_deeds, .inr (1, [.int u, .ref q_p0_deeds_maps])), (q_p0_chart_led, .inl (cI, 8, .inl m3_1))]) (c_X1_forget l D cI cJ cB tU tM tS q_p0_deeds q_p0_deeds_maps H.size v_p0_deeds_amount _ h) ⟨hx, hb, hml, hown, hts⟩ (cwV 0 hts gX8_points_X1_forget rfl rfl rfl hd_X1_forget ⟨Nat.le_of_ble_eq_true rfl, Nat.le_of_ble_eq_true rfl⟩) hX hK hP hD hS hA [2] [0, 1, 3] [0, 1, 3, 2] rfl rfl rfl (by decide) (fun _ => rfl) (q0 := 2) (ci := 1) rfl rfl rfl hl.1 rfl (Nat.le_of_ble_eq_true rfl) ⟨Nat.le_refl _, Nat.le_refl _⟩ dX8_points_34 (fun m4_0 H locs h hP hD hS => ?_)
      refine lv_iload_n hx hb dX8_points_37 rfl (lv_at hl 0 rfl) ?_
      exact z_iret hQ hx hb hr rfl hlocks hK (m3_0, m3_1, m4_0) h hP hD hS dX8_points_38
    · have h := And.right h c2
      refine lv_bipush (v := (-2 : Int32)) hx hb dX8_points_11 (by decide) ?_
      exact z_iret hQ hx hb hr rfl hlocks hK (v_p0_chart_size, f_p0_chart_led, v_p0_deeds_amount) h hP hD hS dX8_points_13
theorem hd_X8_way : yX8_way.cls = RX8 ∧ yX8_way.cls ≠ "java/lang/invoke/MethodHandle" ∧ yX8_way.cls ≠ "java/lang/invoke/VarHandle" ∧ (parseMethodDescriptor yX8_way.desc).map (fun d => d.parameters.length) = some 1 := by decide +kernel
set_option maxHeartbeats 4000000 in
set_option maxRecDepth 100000 in
theorem c_X8_way (l : Launch) (D : va_G) (cI cJ cB : ClassId) (tU tM : Nat) (tS : tsT) (q_p0 q_p0_chart q_p0_kept q_p0_deeds q_p0_tape q_p0_text q_p0_pieces q_p0_patterns q_p0_chart_led q_p0_chart_turnedLed q_p0_deeds_maps : Nat) (sz : Nat) (x1 : Int32) (v_p0_chart_way : Int32) (v_p0_deeds_amount : Int32) (v_p0_born : Int32) (v_p0_imageKept : Int32) (v_p0_chart_size : Int32) (P : Int32 → Int32 → Int32 → Prop) (h : M_X8_way x1 v_p0_chart_way v_p0_deeds_amount P) : Met l yX8_way wsX8_way ({ frames := 1, cells := 0, slots := 0, locals := 20 }) (va_Pc [.ref q_p0, .int x1] (zPre D cI cJ cB tU tM tS [(q_p0, .inr (6, [.int v_p0_born, .int v_p0_imageKept, .ref q_p0_chart, .ref q_p0_kept, .ref q_p0_deeds, .ref q_p0_tape, .ref q_p0_text, .ref q_p0_pieces, .ref q_p0_patterns])), (q_p0_chart, .inr (0, [.int v_p0_chart_size, .int v_p0_chart_way, .ref q_p0_chart_led, .ref q_p0_chart_turnedLed])), (q_p0_deeds, .inr (1, [.int v_p0_deeds_amount, .ref q_p0_deeds_maps]))] sz)) (va_Qi (fun (r : Int32) (u : Int32 × Int32) => P r u.1 u.2) (fun u t => zPost D cI cJ cB (va_A [(q_p0, .inr (6, [.int v_p0_born, .int v_p0_imageKept, .ref q_p0_chart, .ref q_p0_kept, .ref q_p0_deeds, .ref q_p0_tape, .ref q_p0_text, .ref q_p0_pieces, .ref q_p0_patterns])), (q_p0_chart, .inr (0, [.int v_p0_chart_size, .int v_p0_chart_way, .ref q_p0_chart_led, .ref q_p0_chart_turnedLed])), (q_p0_deeds, .inr (1, [.int v_p0_deeds_amount, .ref q_p0_deeds_maps]))] sz) [(q_p0, .inr (6, [.int v_p0_born, .int v_p0_imageKept, .ref q_p0_chart, .ref q_p0_kept, .ref q_p0_deeds, .ref q_p0_tape, .ref q_p0_text, .ref q_p0_pieces, .ref q_p0_patterns])), (q_p0_chart, .inr (0, [.int v_p0_chart_size, .int u.1, .ref q_p0_chart_led, .ref q_p0_chart_turnedLed])), (q_p0_deeds, .inr (1, [.int u.2, .ref q_p0_deeds_maps]))] t) (va_A [(q_p0, .inr (6, [.int v_p0_born, .int v_p0_imageKept, .ref q_p0_chart, .ref q_p0_kept, .ref q_p0_deeds, .ref q_p0_tape, .ref q_p0_text, .ref q_p0_pieces, .ref q_p0_patterns])), (q_p0_chart, .inr (0, [.int v_p0_chart_size, .int v_p0_chart_way, .ref q_p0_chart_led, .ref q_p0_chart_turnedLed])), (q_p0_deeds, .inr (1, [.int v_p0_deeds_amount, .ref q_p0_deeds_maps]))] sz)) 0 0 (va_A [(q_p0, .inr (6, [.int v_p0_born, .int v_p0_imageKept, .ref q_p0_chart, .ref q_p0_kept, .ref q_p0_deeds, .ref q_p0_tape, .ref q_p0_text, .ref q_p0_pieces, .ref q_p0_patterns])), (q_p0_chart, .inr (0, [.int v_p0_chart_size, .int v_p0_chart_way, .ref q_p0_chart_led, .ref q_p0_chart_turnedLed])), (q_p0_deeds, .inr (1, [.int v_p0_deeds_amount, .ref q_p0_deeds_maps]))] sz) := by
  refine z_met (cc := cX8_way) (maxL := 3) (ret := (some .int)) (Qc := fun A => va_Qi (fun (r : Int32) (u : Int32 × Int32) => P r u.1 u.2) (fun u t => zPost D cI cJ cB A [(q_p0, .inr (6, [.int v_p0_born, .int v_p0_imageKept, .ref q_p0_chart, .ref q_p0_kept, .ref q_p0_deeds, .ref q_p0_tape, .ref q_p0_text, .ref q_p0_pieces, .ref q_p0_patterns])), (q_p0_chart, .inr (0, [.int v_p0_chart_size, .int u.1, .ref q_p0_chart_led, .ref q_p0_chart_turnedLed])), (q_p0_deeds, .inr (1, [.int u.2, .ref q_p0_deeds_maps]))] t) A) (by decide) rfl [.ref q_p0, .int x1] (Nat.le_of_ble_eq_true rfl) ?_
  intro p e s m args below meth c A hx hb hr hts hown hml hlocks hA hX hK H locs hP hD hS ls hl Q hQ
  have hown : s.vm.findClass RX8 = some m.cls := hown
  have hl : lv_has ls 3 [(0, .ref q_p0), (1, .int x1)] := hl
  have hw0 : (Cond.fieldLink RX8 18 "ForcedRings" "chart" "LForcedRings$Chart;").before args s = true := hts _ (List.mem_of_getElem? (i := 1) rfl)
  have hw1 : (Cond.fieldLink RX8 70 "ForcedRings$Chart" "way" "I").before args s = true := hts _ (List.mem_of_getElem? (i := 2) rfl)
  have hw2 : (Cond.fieldLink RX8 28 "ForcedRings" "deeds" "LForcedRings$Deeds;").before args s = true := hts _ (List.mem_of_getElem? (i := 3) rfl)
  have hinX0 : ∀ w ∈ wsX00, w ∈ wsX8_way := fun _ h => List.mem_cons_of_mem _ (List.mem_append_left _ (List.mem_append_right _ h))
  have hinX8 : ∀ w ∈ wsX80, w ∈ wsX8_way := fun _ h => List.mem_cons_of_mem _ (List.mem_append_left _ (List.mem_append_left _ (List.mem_append_right _ h)))
  refine lv_iload_n hx hb dX8_way_0 rfl (lv_at hl 1 rfl) ?_
  have k12 : ∀ (v_p0_chart_way : Int32) (v_p0_deeds_amount : Int32) (H : Heap) (locs : List Loc) (ls : Array Slot), M_X8_way_b12 x1 P v_p0_chart_way v_p0_deeds_amount → va_P D vwCl [(q_p0, .inr (6, [.int v_p0_born, .int v_p0_imageKept, .ref q_p0_chart, .ref q_p0_kept, .ref q_p0_deeds, .ref q_p0_tape, .ref q_p0_text, .ref q_p0_pieces, .ref q_p0_patterns])), (q_p0_chart, .inr (0, [.int v_p0_chart_size, .int v_p0_chart_way, .ref q_p0_chart_led, .ref q_p0_chart_turnedLed])), (q_p0_deeds, .inr (1, [.int v_p0_deeds_amount, .ref q_p0_deeds_maps]))] H → va_D A [(q_p0, .inr (6, [.int v_p0_born, .int v_p0_imageKept, .ref q_p0_chart, .ref q_p0_kept, .ref q_p0_deeds, .ref q_p0_tape, .ref q_p0_text, .ref q_p0_pieces, .ref q_p0_patterns])), (q_p0_chart, .inr (0, [.int v_p0_chart_size, .int v_p0_chart_way, .ref q_p0_chart_led, .ref q_p0_chart_turnedLed])), (q_p0_deeds, .inr (1, [.int v_p0_deeds_amount, .ref q_p0_deeds_maps]))] → va_S A s.heap H locs → lv_has ls 3 [(0, .ref q_p0), (1, .int x1)] → W p l e { frames := 1, cells := 0, slots := 0, locals := 20 } s m args below meth c H locs 0 0 Q (F0 m 12 ls []) := by
    intro v_p0_chart_way v_p0_deeds_amount H locs ls h hP hD hS hl
    refine lv_aload_n hx hb dX8_way_12 rfl (lv_at hl 0 rfl) ?_
    refine va_get (ci := 6) (C := RX8) (T := TX8) (N := 9) (v := .ref q_p0_chart) hx hb hts hinX8 hown hK hP 0 rfl rfl 2 (by decide) hw0 (fun _ h9 => h9) rfl dX8_way_13 ?_
    refine va_get (ci := 0) (C := RX0) (T := TX0) (N := 4) (v := .int v_p0_chart_way) hx hb hts hinX0 hown hK hP 1 rfl rfl 1 (by decide) hw1 (fun _ h9 => h9) rfl dX8_way_16 ?_
    refine lv_istore_n (lv' := [(2, .int v_p0_chart_way), (0, .ref q_p0), (1, .int x1)]) hx hb dX8_way_19 rfl hl (by decide) rfl (fun ls hl => ?_)
    refine lv_aload_n hx hb dX8_way_20 rfl (lv_at hl 1 rfl) ?_
    refine va_get (ci := 6) (C := RX8) (T := TX8) (N := 9) (v := .ref q_p0_chart) hx hb hts hinX8 hown hK hP 0 rfl rfl 2 (by decide) hw0 (fun _ h9 => h9) rfl dX8_way_21 ?_
    refine lv_iload_n hx hb dX8_way_24 rfl (lv_at hl 2 rfl) ?_
    refine z_put (ci := 0) (C := RX0) (T := TX0) (N := 4) (ty := .int) (wn := [(q_p0, .inr (6, [.int v_p0_born, .int v_p0_imageKept, .ref q_p0_chart, .ref q_p0_kept, .ref q_p0_deeds, .ref q_p0_tape, .ref q_p0_text, .ref q_p0_pieces, .ref q_p0_patterns])), (q_p0_chart, .inr (0, [.int v_p0_chart_size, .int x1, .ref q_p0_chart_led, .ref q_p0_chart_turnedLed])), (q_p0_deeds, .inr (1, [.int v_p0_deeds_amount, .ref q_p0_deeds_maps]))]) hx hb hts hinX0 tyX0 tyX0_ok nmX0 hown hK hP hD hS 1 rfl rfl 1 (by decide) hw1 (fun _ h9 => h9) rfl (by decide +kernel) rfl rfl (Nat.le_of_ble_eq_true rfl) dX8_way_25 rfl (fun H locs hP hD hS => ?_)
    refine lv_aload_n hx hb dX8_way_28 rfl (lv_at hl 1 rfl) ?_
    refine va_get (ci := 6) (C := RX8) (T := TX8) (N := 9) (v := .ref q_p0_deeds) hx hb hts hinX8 hown hK hP 0 rfl rfl 4 (by decide) hw2 (fun _ h9 => h9) rfl dX8_way_29 ?_
    refine z_cVv (As := []) (rest := []) (wr := [(q_p0, .inr (6, [.int v_p0_born, .int v_p0_imageKept, .ref q_p0_chart, .ref q_p0_kept, .ref q_p0_deeds, .ref q_p0_tape, .ref q_p0_text, .ref q_p0_pieces, .ref q_p0_patterns])), (q_p0_chart, .inr (0, [.int v_p0_chart_size, .int x1, .ref q_p0_chart_led, .ref q_p0_chart_turnedLed]))]) (wn := fun u => [(q_p0, .inr (6, [.int v_p0_born, .int v_p0_imageKept, .ref q_p0_chart, .ref q_p0_kept, .ref q_p0_deeds, .ref q_p0_tape, .ref q_p0_text, .ref q_p0_pieces, .ref q_p0_patterns])), (q_p0_chart, .inr (0, [.int v_p0_chart_size, .int x1, .ref q_p0_chart_led, .ref q_p0_chart_turnedLed])), (q_p0_deeds, .inr (1, [.int u, .ref q_p0_deeds_maps]))]) (c_X1_forget l D cI cJ cB tU tM tS q_p0_deeds q_p0_deeds_maps H.size v_p0_deeds_amount _ h) ⟨hx, hb, hml, hown, hts⟩ (cwV 0 hts gX8_way_X1_forget rfl rfl rfl hd_X1_forget ⟨Nat.le_of_ble_eq_true rfl, Nat.le_of_ble_eq_true rfl⟩) hX hK hP hD hS hA [2] [0, 1] [0, 1, 2] rfl rfl rfl (by decide) (fun _ => rfl) (q0 := 2) (ci := 1) rfl rfl rfl hl.1 rfl (Nat.le_of_ble_eq_true rfl) ⟨Nat.le_refl _, Nat.le_refl _⟩ dX8_way_32 (fun m1_0 H locs h hP hD hS => ?_)
    refine lv_iload_n hx hb dX8_way_35 rfl (lv_at hl 0 rfl) ?_
    exact z_iret hQ hx hb hr rfl hlocks hK (x1, m1_0) h hP hD hS dX8_way_36
  refine lv_if_eq (tgt := 12) hx hb dX8_way_1 (by decide) (fun c2 => ?_) (fun c2 => ?_)
  · have h := And.left h c2
    exact k12 v_p0_chart_way v_p0_deeds_amount _ _ _ h hP hD hS (lv_sub hl [0, 1] rfl)
  · have h := And.right h c2
    refine lv_iload_n hx hb dX8_way_4 rfl (lv_at hl 1 rfl) ?_
    refine lv_iconst (v := (1 : Int32)) hx hb dX8_way_5 (by decide) ?_
    refine lv_icmp_eq (tgt := 12) hx hb dX8_way_6 (by decide) (fun c3 => ?_) (fun c3 => ?_)
    · have h := And.left h c3
      exact k12 v_p0_chart_way v_p0_deeds_amount _ _ _ h hP hD hS (lv_sub hl [0, 1] rfl)
    · have h := And.right h c3
      refine lv_bipush (v := (-2 : Int32)) hx hb dX8_way_9 (by decide) ?_
      exact z_iret hQ hx hb hr rfl hlocks hK (v_p0_chart_way, v_p0_deeds_amount) h hP hD hS dX8_way_11
theorem hd_X8_lead : yX8_lead.cls = RX8 ∧ yX8_lead.cls ≠ "java/lang/invoke/MethodHandle" ∧ yX8_lead.cls ≠ "java/lang/invoke/VarHandle" ∧ (parseMethodDescriptor yX8_lead.desc).map (fun d => d.parameters.length) = some 2 := by decide +kernel
set_option maxHeartbeats 4000000 in
set_option maxRecDepth 100000 in
theorem c_X8_lead (l : Launch) (D : va_G) (cI cJ cB : ClassId) (tU tM : Nat) (tS : tsT) (q_p0 q_p0_chart q_p0_kept q_p0_deeds q_p0_tape q_p0_text q_p0_pieces q_p0_patterns q_p0_chart_led q_p0_chart_turnedLed q_p0_deeds_maps : Nat) (sz : Nat) (x1 : Int32) (x2 : Int32) (v_p0_chart_size : Int32) (f_p0_chart_led : (Nat → Int32)) (v_p0_deeds_amount : Int32) (f_p0_deeds_maps : (Nat → Int32)) (v_p0_born : Int32) (v_p0_imageKept : Int32) (v_p0_chart_way : Int32) (P : Int32 → (Nat → Int32) → Int32 → (Nat → Int32) → Prop) (h : M_X8_lead x1 x2 v_p0_chart_size f_p0_chart_led v_p0_deeds_amount f_p0_deeds_maps P) : Met l yX8_lead wsX8_lead ({ frames := 2, cells := 0, slots := 0, locals := 42 }) (va_Pc [.ref q_p0, .int x1, .int x2] (zPre D cI cJ cB tU tM tS [(q_p0, .inr (6, [.int v_p0_born, .int v_p0_imageKept, .ref q_p0_chart, .ref q_p0_kept, .ref q_p0_deeds, .ref q_p0_tape, .ref q_p0_text, .ref q_p0_pieces, .ref q_p0_patterns])), (q_p0_chart, .inr (0, [.int v_p0_chart_size, .int v_p0_chart_way, .ref q_p0_chart_led, .ref q_p0_chart_turnedLed])), (q_p0_deeds, .inr (1, [.int v_p0_deeds_amount, .ref q_p0_deeds_maps])), (q_p0_chart_led, .inl (cI, 8, .inl f_p0_chart_led)), (q_p0_deeds_maps, .inl (cI, 10, .inl f_p0_deeds_maps))] sz)) (va_Qi (fun (r : Int32) (u : (Nat → Int32) × Int32 × (Nat → Int32)) => P r u.1 u.2.1 u.2.2) (fun u t => zPost D cI cJ cB (va_A [(q_p0, .inr (6, [.int v_p0_born, .int v_p0_imageKept, .ref q_p0_chart, .ref q_p0_kept, .ref q_p0_deeds, .ref q_p0_tape, .ref q_p0_text, .ref q_p0_pieces, .ref q_p0_patterns])), (q_p0_chart, .inr (0, [.int v_p0_chart_size, .int v_p0_chart_way, .ref q_p0_chart_led, .ref q_p0_chart_turnedLed])), (q_p0_deeds, .inr (1, [.int v_p0_deeds_amount, .ref q_p0_deeds_maps])), (q_p0_chart_led, .inl (cI, 8, .inl f_p0_chart_led)), (q_p0_deeds_maps, .inl (cI, 10, .inl f_p0_deeds_maps))] sz) [(q_p0, .inr (6, [.int v_p0_born, .int v_p0_imageKept, .ref q_p0_chart, .ref q_p0_kept, .ref q_p0_deeds, .ref q_p0_tape, .ref q_p0_text, .ref q_p0_pieces, .ref q_p0_patterns])), (q_p0_chart, .inr (0, [.int v_p0_chart_size, .int v_p0_chart_way, .ref q_p0_chart_led, .ref q_p0_chart_turnedLed])), (q_p0_deeds, .inr (1, [.int u.2.1, .ref q_p0_deeds_maps])), (q_p0_chart_led, .inl (cI, 8, .inl u.2.2)), (q_p0_deeds_maps, .inl (cI, 10, .inl u.1))] t) (va_A [(q_p0, .inr (6, [.int v_p0_born, .int v_p0_imageKept, .ref q_p0_chart, .ref q_p0_kept, .ref q_p0_deeds, .ref q_p0_tape, .ref q_p0_text, .ref q_p0_pieces, .ref q_p0_patterns])), (q_p0_chart, .inr (0, [.int v_p0_chart_size, .int v_p0_chart_way, .ref q_p0_chart_led, .ref q_p0_chart_turnedLed])), (q_p0_deeds, .inr (1, [.int v_p0_deeds_amount, .ref q_p0_deeds_maps])), (q_p0_chart_led, .inl (cI, 8, .inl f_p0_chart_led)), (q_p0_deeds_maps, .inl (cI, 10, .inl f_p0_deeds_maps))] sz)) 0 0 (va_A [(q_p0, .inr (6, [.int v_p0_born, .int v_p0_imageKept, .ref q_p0_chart, .ref q_p0_kept, .ref q_p0_deeds, .ref q_p0_tape, .ref q_p0_text, .ref q_p0_pieces, .ref q_p0_patterns])), (q_p0_chart, .inr (0, [.int v_p0_chart_size, .int v_p0_chart_way, .ref q_p0_chart_led, .ref q_p0_chart_turnedLed])), (q_p0_deeds, .inr (1, [.int v_p0_deeds_amount, .ref q_p0_deeds_maps])), (q_p0_chart_led, .inl (cI, 8, .inl f_p0_chart_led)), (q_p0_deeds_maps, .inl (cI, 10, .inl f_p0_deeds_maps))] sz) := by
  refine z_met (cc := cX8_lead) (maxL := 4) (ret := (some .int)) (Qc := fun A => va_Qi (fun (r : Int32) (u : (Nat → Int32) × Int32 × (Nat → Int32)) => P r u.1 u.2.1 u.2.2) (fun u t => zPost D cI cJ cB A [(q_p0, .inr (6, [.int v_p0_born, .int v_p0_imageKept, .ref q_p0_chart, .ref q_p0_kept, .ref q_p0_deeds, .ref q_p0_tape, .ref q_p0_text, .ref q_p0_pieces, .ref q_p0_patterns])), (q_p0_chart, .inr (0, [.int v_p0_chart_size, .int v_p0_chart_way, .ref q_p0_chart_led, .ref q_p0_chart_turnedLed])), (q_p0_deeds, .inr (1, [.int u.2.1, .ref q_p0_deeds_maps])), (q_p0_chart_led, .inl (cI, 8, .inl u.2.2)), (q_p0_deeds_maps, .inl (cI, 10, .inl u.1))] t) A) (by decide) rfl [.ref q_p0, .int x1, .int x2] (Nat.le_of_ble_eq_true rfl) ?_
  intro p e s m args below meth c A hx hb hr hts hown hml hlocks hA hX hK H locs hP hD hS ls hl Q hQ
  have hown : s.vm.findClass RX8 = some m.cls := hown
  have hl : lv_has ls 4 [(0, .ref q_p0), (1, .int x1), (2, .int x2)] := hl
  have hw0 : (Cond.fieldLink RX8 18 "ForcedRings" "chart" "LForcedRings$Chart;").before args s = true := hts _ (List.mem_of_getElem? (i := 1) rfl)
  have hw1 : (Cond.fieldLink RX8 28 "ForcedRings" "deeds" "LForcedRings$Deeds;").before args s = true := hts _ (List.mem_of_getElem? (i := 2) rfl)
  have hw2 : (Cond.fieldLink RX8 84 "ForcedRings$Chart" "led" "[I").before args s = true := hts _ (List.mem_of_getElem? (i := 3) rfl)
  have hinX0 : ∀ w ∈ wsX00, w ∈ wsX8_lead := fun _ h => List.mem_cons_of_mem _ (List.mem_append_left _ (List.mem_append_right _ h))
  have hinX8 : ∀ w ∈ wsX80, w ∈ wsX8_lead := fun _ h => List.mem_cons_of_mem _ (List.mem_append_left _ (List.mem_append_left _ (List.mem_append_right _ h)))
  refine lv_aload_n hx hb dX8_lead_0 rfl (lv_at hl 0 rfl) ?_
  refine va_get (ci := 6) (C := RX8) (T := TX8) (N := 9) (v := .ref q_p0_chart) hx hb hts hinX8 hown hK hP 0 rfl rfl 2 (by decide) hw0 (fun _ h9 => h9) rfl dX8_lead_1 ?_
  refine lv_iload_n hx hb dX8_lead_4 rfl (lv_at hl 1 rfl) ?_
  refine z_cVi (As := [.int x1]) (rest := []) (wr := [(q_p0, .inr (6, [.int v_p0_born, .int v_p0_imageKept, .ref q_p0_chart, .ref q_p0_kept, .ref q_p0_deeds, .ref q_p0_tape, .ref q_p0_text, .ref q_p0_pieces, .ref q_p0_patterns])), (q_p0_deeds, .inr (1, [.int v_p0_deeds_amount, .ref q_p0_deeds_maps])), (q_p0_chart_led, .inl (cI, 8, .inl f_p0_chart_led)), (q_p0_deeds_maps, .inl (cI, 10, .inl f_p0_deeds_maps))]) (wn := fun u => [(q_p0, .inr (6, [.int v_p0_born, .int v_p0_imageKept, .ref q_p0_chart, .ref q_p0_kept, .ref q_p0_deeds, .ref q_p0_tape, .ref q_p0_text, .ref q_p0_pieces, .ref q_p0_patterns])), (q_p0_chart, .inr (0, [.int v_p0_chart_size, .int v_p0_chart_way, .ref q_p0_chart_led, .ref q_p0_chart_turnedLed])), (q_p0_deeds, .inr (1, [.int v_p0_deeds_amount, .ref q_p0_deeds_maps])), (q_p0_chart_led, .inl (cI, 8, .inl f_p0_chart_led)), (q_p0_deeds_maps, .inl (cI, 10, .inl f_p0_deeds_maps))]) (c_X0_holds l D cI cJ cB tU tM tS q_p0_chart q_p0_chart_led q_p0_chart_turnedLed H.size x1 v_p0_chart_size v_p0_chart_way _ h) ⟨hx, hb, hml, hown, hts⟩ (cwV 1 hts gX8_lead_X0_holds rfl rfl rfl hd_X0_holds ⟨Nat.le_of_ble_eq_true rfl, Nat.le_of_ble_eq_true rfl⟩) hX hK hP hD hS hA [1] [0, 2, 3, 4] [0, 4, 1, 2, 3] rfl rfl rfl (by decide) (fun _ => rfl) (q0 := 1) (ci := 0) rfl rfl rfl hl.1 rfl (Nat.le_of_ble_eq_true rfl) ⟨Nat.le_refl _, Nat.le_refl _⟩ dX8_lead_5 (fun r1 u1 H locs h hP hD hS => ?_)
  refine lv_if_eq (tgt := 22) hx hb dX8_lead_8 (by decide) (fun c2 => ?_) (fun c2 => ?_)
  · have h := And.left h c2
    refine lv_bipush (v := (-2 : Int32)) hx hb dX8_lead_22 (by decide) ?_
    exact z_iret hQ hx hb hr rfl hlocks hK (f_p0_deeds_maps, v_p0_deeds_amount, f_p0_chart_led) h hP hD hS dX8_lead_24
  · have h := And.right h c2
    refine lv_aload_n hx hb dX8_lead_11 rfl (lv_at hl 0 rfl) ?_
    refine va_get (ci := 6) (C := RX8) (T := TX8) (N := 9) (v := .ref q_p0_chart) hx hb hts hinX8 hown hK hP 0 rfl rfl 2 (by decide) hw0 (fun _ h9 => h9) rfl dX8_lead_12 ?_
    refine lv_iload_n hx hb dX8_lead_15 rfl (lv_at hl 2 rfl) ?_
    refine z_cVi (As := [.int x2]) (rest := []) (wr := [(q_p0, .inr (6, [.int v_p0_born, .int v_p0_imageKept, .ref q_p0_chart, .ref q_p0_kept, .ref q_p0_deeds, .ref q_p0_tape, .ref q_p0_text, .ref q_p0_pieces, .ref q_p0_patterns])), (q_p0_deeds, .inr (1, [.int v_p0_deeds_amount, .ref q_p0_deeds_maps])), (q_p0_chart_led, .inl (cI, 8, .inl f_p0_chart_led)), (q_p0_deeds_maps, .inl (cI, 10, .inl f_p0_deeds_maps))]) (wn := fun u => [(q_p0, .inr (6, [.int v_p0_born, .int v_p0_imageKept, .ref q_p0_chart, .ref q_p0_kept, .ref q_p0_deeds, .ref q_p0_tape, .ref q_p0_text, .ref q_p0_pieces, .ref q_p0_patterns])), (q_p0_chart, .inr (0, [.int v_p0_chart_size, .int v_p0_chart_way, .ref q_p0_chart_led, .ref q_p0_chart_turnedLed])), (q_p0_deeds, .inr (1, [.int v_p0_deeds_amount, .ref q_p0_deeds_maps])), (q_p0_chart_led, .inl (cI, 8, .inl f_p0_chart_led)), (q_p0_deeds_maps, .inl (cI, 10, .inl f_p0_deeds_maps))]) (c_X0_holds l D cI cJ cB tU tM tS q_p0_chart q_p0_chart_led q_p0_chart_turnedLed H.size x2 v_p0_chart_size v_p0_chart_way _ h) ⟨hx, hb, hml, hown, hts⟩ (cwV 1 hts gX8_lead_X0_holds rfl rfl rfl hd_X0_holds ⟨Nat.le_of_ble_eq_true rfl, Nat.le_of_ble_eq_true rfl⟩) hX hK hP hD hS hA [1] [0, 2, 3, 4] [0, 4, 1, 2, 3] rfl rfl rfl (by decide) (fun _ => rfl) (q0 := 1) (ci := 0) rfl rfl rfl hl.1 rfl (Nat.le_of_ble_eq_true rfl) ⟨Nat.le_refl _, Nat.le_refl _⟩ dX8_lead_16 (fun r3 u3 H locs h hP hD hS => ?_)
    refine lv_if_ne (tgt := 25) hx hb dX8_lead_19 (by decide) (fun c4 => ?_) (fun c4 => ?_)
    · have h := And.right h c4
      refine lv_aload_n hx hb dX8_lead_25 rfl (lv_at hl 0 rfl) ?_
      refine va_get (ci := 6) (C := RX8) (T := TX8) (N := 9) (v := .ref q_p0_deeds) hx hb hts hinX8 hown hK hP 0 rfl rfl 4 (by decide) hw1 (fun _ h9 => h9) rfl dX8_lead_26 ?_
      refine lv_aload_n hx hb dX8_lead_29 rfl (lv_at hl 0 rfl) ?_
      refine va_get (ci := 6) (C := RX8) (T := TX8) (N := 9) (v := .ref q_p0_chart) hx hb hts hinX8 hown hK hP 0 rfl rfl 2 (by decide) hw0 (fun _ h9 => h9) rfl dX8_lead_30 ?_
      refine z_cVi (As := []) (rest := [.ref q_p0_deeds]) (wr := [(q_p0, .inr (6, [.int v_p0_born, .int v_p0_imageKept, .ref q_p0_chart, .ref q_p0_kept, .ref q_p0_deeds, .ref q_p0_tape, .ref q_p0_text, .ref q_p0_pieces, .ref q_p0_patterns])), (q_p0_deeds, .inr (1, [.int v_p0_deeds_amount, .ref q_p0_deeds_maps])), (q_p0_deeds_maps, .inl (cI, 10, .inl f_p0_deeds_maps))]) (wn := fun u => [(q_p0, .inr (6, [.int v_p0_born, .int v_p0_imageKept, .ref q_p0_chart, .ref q_p0_kept, .ref q_p0_deeds, .ref q_p0_tape, .ref q_p0_text, .ref q_p0_pieces, .ref q_p0_patterns])), (q_p0_chart, .inr (0, [.int v_p0_chart_size, .int v_p0_chart_way, .ref q_p0_chart_led, .ref q_p0_chart_turnedLed])), (q_p0_deeds, .inr (1, [.int v_p0_deeds_amount, .ref q_p0_deeds_maps])), (q_p0_chart_led, .inl (cI, 8, .inl f_p0_chart_led)), (q_p0_deeds_maps, .inl (cI, 10, .inl f_p0_deeds_maps))]) (c_X0_packed l D cI cJ cB tU tM tS q_p0_chart q_p0_chart_led q_p0_chart_turnedLed H.size f_p0_chart_led v_p0_chart_size v_p0_chart_way _ h) ⟨hx, hb, hml, hown, hts⟩ (cwV 0 hts gX8_lead_X0_packed rfl rfl rfl hd_X0_packed ⟨Nat.le_of_ble_eq_true rfl, Nat.le_of_ble_eq_true rfl⟩) hX hK hP hD hS hA [1, 3] [0, 2, 4] [0, 3, 1, 4, 2] rfl rfl rfl (by decide) (fun _ => rfl) (q0 := 1) (ci := 0) rfl rfl rfl hl.1 rfl (Nat.le_of_ble_eq_true rfl) ⟨Nat.le_refl _, Nat.le_refl _⟩ dX8_lead_33 (fun r5 u5 H locs h hP hD hS => ?_)
      refine z_cVv (As := [.int r5]) (rest := []) (wr := [(q_p0, .inr (6, [.int v_p0_born, .int v_p0_imageKept, .ref q_p0_chart, .ref q_p0_kept, .ref q_p0_deeds, .ref q_p0_tape, .ref q_p0_text, .ref q_p0_pieces, .ref q_p0_patterns])), (q_p0_chart, .inr (0, [.int v_p0_chart_size, .int v_p0_chart_way, .ref q_p0_chart_led, .ref q_p0_chart_turnedLed])), (q_p0_chart_led, .inl (cI, 8, .inl f_p0_chart_led))]) (wn := fun u => [(q_p0, .inr (6, [.int v_p0_born, .int v_p0_imageKept, .ref q_p0_chart, .ref q_p0_kept, .ref q_p0_deeds, .ref q_p0_tape, .ref q_p0_text, .ref q_p0_pieces, .ref q_p0_patterns])), (q_p0_chart, .inr (0, [.int v_p0_chart_size, .int v_p0_chart_way, .ref q_p0_chart_led, .ref q_p0_chart_turnedLed])), (q_p0_deeds, .inr (1, [.int u.2, .ref q_p0_deeds_maps])), (q_p0_chart_led, .inl (cI, 8, .inl f_p0_chart_led)), (q_p0_deeds_maps, .inl (cI, 10, .inl u.1))]) (c_X1_keep l D cI cJ cB tU tM tS q_p0_deeds q_p0_deeds_maps H.size r5 v_p0_deeds_amount f_p0_deeds_maps _ h) ⟨hx, hb, hml, hown, hts⟩ (cwV 1 hts gX8_lead_X1_keep rfl rfl rfl hd_X1_keep ⟨Nat.le_of_ble_eq_true rfl, Nat.le_of_ble_eq_true rfl⟩) hX hK hP hD hS hA [2, 4] [0, 1, 3] [0, 1, 3, 2, 4] rfl rfl rfl (by decide) (fun _ => rfl) (q0 := 2) (ci := 1) rfl rfl rfl hl.1 rfl (Nat.le_of_ble_eq_true rfl) ⟨Nat.le_refl _, Nat.le_refl _⟩ dX8_lead_36 (fun u6 H locs h hP hD hS => ?_)
      obtain ⟨m6_0, m6_1⟩ := u6
      refine lv_aload_n hx hb dX8_lead_39 rfl (lv_at hl 0 rfl) ?_
      refine va_get (ci := 6) (C := RX8) (T := TX8) (N := 9) (v := .ref q_p0_chart) hx hb hts hinX8 hown hK hP 0 rfl rfl 2 (by decide) hw0 (fun _ h9 => h9) rfl dX8_lead_40 ?_
      refine va_get (ci := 0) (C := RX0) (T := TX0) (N := 4) (v := .ref q_p0_chart_led) hx hb hts hinX0 hown hK hP 1 rfl rfl 2 (by decide) hw2 (fun _ h9 => h9) rfl dX8_lead_43 ?_
      refine lv_iload_n hx hb dX8_lead_46 rfl (lv_at hl 1 rfl) ?_
      obtain ⟨hi7, h⟩ := h
      refine va_iald hx hb hK hP 3 0 rfl rfl hi7 dX8_lead_47 ?_
      refine lv_istore_n (lv' := [(3, .int (f_p0_chart_led x1.toNatClampNeg)), (0, .ref q_p0), (1, .int x1), (2, .int x2)]) hx hb dX8_lead_48 rfl hl (by decide) rfl (fun ls hl => ?_)
      refine lv_aload_n hx hb dX8_lead_49 rfl (lv_at hl 1 rfl) ?_
      refine va_get (ci := 6) (C := RX8) (T := TX8) (N := 9) (v := .ref q_p0_chart) hx hb hts hinX8 hown hK hP 0 rfl rfl 2 (by decide) hw0 (fun _ h9 => h9) rfl dX8_lead_50 ?_
      refine va_get (ci := 0) (C := RX0) (T := TX0) (N := 4) (v := .ref q_p0_chart_led) hx hb hts hinX0 hown hK hP 1 rfl rfl 2 (by decide) hw2 (fun _ h9 => h9) rfl dX8_lead_53 ?_
      refine lv_iload_n hx hb dX8_lead_56 rfl (lv_at hl 2 rfl) ?_
      refine lv_iload_n hx hb dX8_lead_57 rfl (lv_at hl 3 rfl) ?_
      obtain ⟨hi8, h⟩ := h
      refine z_iast (wn := [(q_p0, .inr (6, [.int v_p0_born, .int v_p0_imageKept, .ref q_p0_chart, .ref q_p0_kept, .ref q_p0_deeds, .ref q_p0_tape, .ref q_p0_text, .ref q_p0_pieces, .ref q_p0_patterns])), (q_p0_chart, .inr (0, [.int v_p0_chart_size, .int v_p0_chart_way, .ref q_p0_chart_led, .ref q_p0_chart_turnedLed])), (q_p0_deeds, .inr (1, [.int m6_1, .ref q_p0_deeds_maps])), (q_p0_chart_led, .inl (cI, 8, .inl (upd f_p0_chart_led x1.toNatClampNeg x2))), (q_p0_deeds_maps, .inl (cI, 10, .inl m6_0))]) hx hb hK hP hD hS 3 rfl hi8 dX8_lead_58 rfl (fun H locs hP hD hS => ?_)
      refine lv_iload_n hx hb dX8_lead_59 rfl (lv_at hl 0 rfl) ?_
      exact z_iret hQ hx hb hr rfl hlocks hK (m6_0, m6_1, (upd f_p0_chart_led x1.toNatClampNeg x2)) h hP hD hS dX8_lead_60
    · have h := And.left h c4
      refine lv_bipush (v := (-2 : Int32)) hx hb dX8_lead_22 (by decide) ?_
      exact z_iret hQ hx hb hr rfl hlocks hK (f_p0_deeds_maps, v_p0_deeds_amount, f_p0_chart_led) h hP hD hS dX8_lead_24
theorem hd_X8_of : yX8_of.cls = RX8 ∧ yX8_of.cls ≠ "java/lang/invoke/MethodHandle" ∧ yX8_of.cls ≠ "java/lang/invoke/VarHandle" ∧ (parseMethodDescriptor yX8_of.desc).map (fun d => d.parameters.length) = some 2 := by decide +kernel
set_option maxHeartbeats 4000000 in
set_option maxRecDepth 100000 in
theorem c_X8_of (l : Launch) (D : va_G) (cI cJ cB : ClassId) (tU tM : Nat) (tS : tsT) (q_p0 q_p0_chart q_p0_kept q_p0_deeds q_p0_tape q_p0_text q_p0_pieces q_p0_patterns q_p0_chart_led q_p0_chart_turnedLed : Nat) (sz : Nat) (x1 : Int32) (x2 : Int32) (v_p0_chart_size : Int32) (f_p0_chart_led : (Nat → Int32)) (v_p0_born : Int32) (v_p0_imageKept : Int32) (v_p0_chart_way : Int32) (P : Int32 → Prop) (h : M_X8_of x1 x2 v_p0_chart_size f_p0_chart_led P) : Met l yX8_of wsX8_of ({ frames := 2, cells := 0, slots := 0, locals := 48 }) (va_Pc [.ref q_p0, .int x1, .int x2] (zPre D cI cJ cB tU tM tS [(q_p0, .inr (6, [.int v_p0_born, .int v_p0_imageKept, .ref q_p0_chart, .ref q_p0_kept, .ref q_p0_deeds, .ref q_p0_tape, .ref q_p0_text, .ref q_p0_pieces, .ref q_p0_patterns])), (q_p0_chart, .inr (0, [.int v_p0_chart_size, .int v_p0_chart_way, .ref q_p0_chart_led, .ref q_p0_chart_turnedLed])), (q_p0_chart_led, .inl (cI, 8, .inl f_p0_chart_led))] sz)) (va_Qi (fun (r : Int32) (u : Unit) => P r ) (fun u t => zPost D cI cJ cB (va_A [(q_p0, .inr (6, [.int v_p0_born, .int v_p0_imageKept, .ref q_p0_chart, .ref q_p0_kept, .ref q_p0_deeds, .ref q_p0_tape, .ref q_p0_text, .ref q_p0_pieces, .ref q_p0_patterns])), (q_p0_chart, .inr (0, [.int v_p0_chart_size, .int v_p0_chart_way, .ref q_p0_chart_led, .ref q_p0_chart_turnedLed])), (q_p0_chart_led, .inl (cI, 8, .inl f_p0_chart_led))] sz) [(q_p0, .inr (6, [.int v_p0_born, .int v_p0_imageKept, .ref q_p0_chart, .ref q_p0_kept, .ref q_p0_deeds, .ref q_p0_tape, .ref q_p0_text, .ref q_p0_pieces, .ref q_p0_patterns])), (q_p0_chart, .inr (0, [.int v_p0_chart_size, .int v_p0_chart_way, .ref q_p0_chart_led, .ref q_p0_chart_turnedLed])), (q_p0_chart_led, .inl (cI, 8, .inl f_p0_chart_led))] t) (va_A [(q_p0, .inr (6, [.int v_p0_born, .int v_p0_imageKept, .ref q_p0_chart, .ref q_p0_kept, .ref q_p0_deeds, .ref q_p0_tape, .ref q_p0_text, .ref q_p0_pieces, .ref q_p0_patterns])), (q_p0_chart, .inr (0, [.int v_p0_chart_size, .int v_p0_chart_way, .ref q_p0_chart_led, .ref q_p0_chart_turnedLed])), (q_p0_chart_led, .inl (cI, 8, .inl f_p0_chart_led))] sz)) 0 0 (va_A [(q_p0, .inr (6, [.int v_p0_born, .int v_p0_imageKept, .ref q_p0_chart, .ref q_p0_kept, .ref q_p0_deeds, .ref q_p0_tape, .ref q_p0_text, .ref q_p0_pieces, .ref q_p0_patterns])), (q_p0_chart, .inr (0, [.int v_p0_chart_size, .int v_p0_chart_way, .ref q_p0_chart_led, .ref q_p0_chart_turnedLed])), (q_p0_chart_led, .inl (cI, 8, .inl f_p0_chart_led))] sz) := by
  refine z_met (cc := cX8_of) (maxL := 3) (ret := (some .int)) (Qc := fun A => va_Qi (fun (r : Int32) (u : Unit) => P r ) (fun u t => zPost D cI cJ cB A [(q_p0, .inr (6, [.int v_p0_born, .int v_p0_imageKept, .ref q_p0_chart, .ref q_p0_kept, .ref q_p0_deeds, .ref q_p0_tape, .ref q_p0_text, .ref q_p0_pieces, .ref q_p0_patterns])), (q_p0_chart, .inr (0, [.int v_p0_chart_size, .int v_p0_chart_way, .ref q_p0_chart_led, .ref q_p0_chart_turnedLed])), (q_p0_chart_led, .inl (cI, 8, .inl f_p0_chart_led))] t) A) (by decide) rfl [.ref q_p0, .int x1, .int x2] (Nat.le_of_ble_eq_true rfl) ?_
  intro p e s m args below meth c A hx hb hr hts hown hml hlocks hA hX hK H locs hP hD hS ls hl Q hQ
  have hown : s.vm.findClass RX8 = some m.cls := hown
  have hl : lv_has ls 3 [(0, .ref q_p0), (1, .int x1), (2, .int x2)] := hl
  have hw0 : (Cond.fieldLink RX8 18 "ForcedRings" "chart" "LForcedRings$Chart;").before args s = true := hts _ (List.mem_of_getElem? (i := 1) rfl)
  have hw1 : (Cond.fieldLink RX8 84 "ForcedRings$Chart" "led" "[I").before args s = true := hts _ (List.mem_of_getElem? (i := 2) rfl)
  have hinX0 : ∀ w ∈ wsX00, w ∈ wsX8_of := fun _ h => List.mem_cons_of_mem _ (List.mem_append_right _ h)
  have hinX8 : ∀ w ∈ wsX80, w ∈ wsX8_of := fun _ h => List.mem_cons_of_mem _ (List.mem_append_left _ (List.mem_append_right _ h))
  refine lv_aload_n hx hb dX8_of_0 rfl (lv_at hl 0 rfl) ?_
  refine va_get (ci := 6) (C := RX8) (T := TX8) (N := 9) (v := .ref q_p0_chart) hx hb hts hinX8 hown hK hP 0 rfl rfl 2 (by decide) hw0 (fun _ h9 => h9) rfl dX8_of_1 ?_
  refine lv_iload_n hx hb dX8_of_4 rfl (lv_at hl 1 rfl) ?_
  refine z_cVi (As := [.int x1]) (rest := []) (wr := [(q_p0, .inr (6, [.int v_p0_born, .int v_p0_imageKept, .ref q_p0_chart, .ref q_p0_kept, .ref q_p0_deeds, .ref q_p0_tape, .ref q_p0_text, .ref q_p0_pieces, .ref q_p0_patterns])), (q_p0_chart_led, .inl (cI, 8, .inl f_p0_chart_led))]) (wn := fun u => [(q_p0, .inr (6, [.int v_p0_born, .int v_p0_imageKept, .ref q_p0_chart, .ref q_p0_kept, .ref q_p0_deeds, .ref q_p0_tape, .ref q_p0_text, .ref q_p0_pieces, .ref q_p0_patterns])), (q_p0_chart, .inr (0, [.int v_p0_chart_size, .int v_p0_chart_way, .ref q_p0_chart_led, .ref q_p0_chart_turnedLed])), (q_p0_chart_led, .inl (cI, 8, .inl f_p0_chart_led))]) (c_X0_holds l D cI cJ cB tU tM tS q_p0_chart q_p0_chart_led q_p0_chart_turnedLed H.size x1 v_p0_chart_size v_p0_chart_way _ h) ⟨hx, hb, hml, hown, hts⟩ (cwV 1 hts gX8_of_X0_holds rfl rfl rfl hd_X0_holds ⟨Nat.le_of_ble_eq_true rfl, Nat.le_of_ble_eq_true rfl⟩) hX hK hP hD hS hA [1] [0, 2] [0, 2, 1] rfl rfl rfl (by decide) (fun _ => rfl) (q0 := 1) (ci := 0) rfl rfl rfl hl.1 rfl (Nat.le_of_ble_eq_true rfl) ⟨Nat.le_refl _, Nat.le_refl _⟩ dX8_of_5 (fun r1 u1 H locs h hP hD hS => ?_)
  refine lv_if_ne (tgt := 14) hx hb dX8_of_8 (by decide) (fun c2 => ?_) (fun c2 => ?_)
  · have h := And.right h c2
    refine lv_iload_n hx hb dX8_of_14 rfl (lv_at hl 2 rfl) ?_
    by_cases e3_0 : x2 = (0 : Int32)
    · have h := And.left h e3_0
      have ez : x2.toInt = 0 := by rw [e3_0]; decide
      refine lv_tableIn (tgt := 44) hx hb dX8_of_15 (by rw [ez]; decide) (by rw [ez]; decide) (by rw [ez] <;> rfl) (by decide) ?_
      refine lv_aload_n hx hb dX8_of_44 rfl (lv_at hl 0 rfl) ?_
      refine va_get (ci := 6) (C := RX8) (T := TX8) (N := 9) (v := .ref q_p0_chart) hx hb hts hinX8 hown hK hP 0 rfl rfl 2 (by decide) hw0 (fun _ h9 => h9) rfl dX8_of_45 ?_
      refine va_get (ci := 0) (C := RX0) (T := TX0) (N := 4) (v := .ref q_p0_chart_led) hx hb hts hinX0 hown hK hP 1 rfl rfl 2 (by decide) hw1 (fun _ h9 => h9) rfl dX8_of_48 ?_
      refine lv_iload_n hx hb dX8_of_51 rfl (lv_at hl 1 rfl) ?_
      obtain ⟨hi4, h⟩ := h
      refine va_iald hx hb hK hP 2 0 rfl rfl hi4 dX8_of_52 ?_
      exact z_iret hQ hx hb hr rfl hlocks hK () h hP hD hS dX8_of_53
    · have h := And.right h e3_0
      by_cases e3_1 : x2 = (1 : Int32)
      · have h := And.left h e3_1
        have ez : x2.toInt = 1 := by rw [e3_1]; decide
        refine lv_tableIn (tgt := 54) hx hb dX8_of_15 (by rw [ez]; decide) (by rw [ez]; decide) (by rw [ez] <;> rfl) (by decide) ?_
        refine lv_aload_n hx hb dX8_of_54 rfl (lv_at hl 0 rfl) ?_
        refine va_get (ci := 6) (C := RX8) (T := TX8) (N := 9) (v := .ref q_p0_chart) hx hb hts hinX8 hown hK hP 0 rfl rfl 2 (by decide) hw0 (fun _ h9 => h9) rfl dX8_of_55 ?_
        refine lv_iload_n hx hb dX8_of_58 rfl (lv_at hl 1 rfl) ?_
        refine z_cVi (As := [.int x1]) (rest := []) (wr := [(q_p0, .inr (6, [.int v_p0_born, .int v_p0_imageKept, .ref q_p0_chart, .ref q_p0_kept, .ref q_p0_deeds, .ref q_p0_tape, .ref q_p0_text, .ref q_p0_pieces, .ref q_p0_patterns]))]) (wn := fun u => [(q_p0, .inr (6, [.int v_p0_born, .int v_p0_imageKept, .ref q_p0_chart, .ref q_p0_kept, .ref q_p0_deeds, .ref q_p0_tape, .ref q_p0_text, .ref q_p0_pieces, .ref q_p0_patterns])), (q_p0_chart, .inr (0, [.int v_p0_chart_size, .int v_p0_chart_way, .ref q_p0_chart_led, .ref q_p0_chart_turnedLed])), (q_p0_chart_led, .inl (cI, 8, .inl f_p0_chart_led))]) (c_X0_tailOf l D cI cJ cB tU tM tS q_p0_chart q_p0_chart_led q_p0_chart_turnedLed H.size x1 v_p0_chart_size f_p0_chart_led v_p0_chart_way _ h) ⟨hx, hb, hml, hown, hts⟩ (cwV 1 hts gX8_of_X0_tailOf rfl rfl rfl hd_X0_tailOf ⟨Nat.le_of_ble_eq_true rfl, Nat.le_of_ble_eq_true rfl⟩) hX hK hP hD hS hA [1, 2] [0] [0, 1, 2] rfl rfl rfl (by decide) (fun _ => rfl) (q0 := 1) (ci := 0) rfl rfl rfl hl.1 rfl (Nat.le_of_ble_eq_true rfl) ⟨Nat.le_refl _, Nat.le_refl _⟩ dX8_of_59 (fun r5 u5 H locs h hP hD hS => ?_)
        exact z_iret hQ hx hb hr rfl hlocks hK () h hP hD hS dX8_of_62
      · have h := And.right h e3_1
        by_cases e3_2 : x2 = (2 : Int32)
        · have h := And.left h e3_2
          have ez : x2.toInt = 2 := by rw [e3_2]; decide
          refine lv_tableIn (tgt := 63) hx hb dX8_of_15 (by rw [ez]; decide) (by rw [ez]; decide) (by rw [ez] <;> rfl) (by decide) ?_
          refine lv_aload_n hx hb dX8_of_63 rfl (lv_at hl 0 rfl) ?_
          refine va_get (ci := 6) (C := RX8) (T := TX8) (N := 9) (v := .ref q_p0_chart) hx hb hts hinX8 hown hK hP 0 rfl rfl 2 (by decide) hw0 (fun _ h9 => h9) rfl dX8_of_64 ?_
          refine lv_iload_n hx hb dX8_of_67 rfl (lv_at hl 1 rfl) ?_
          refine z_cVi (As := [.int x1]) (rest := []) (wr := [(q_p0, .inr (6, [.int v_p0_born, .int v_p0_imageKept, .ref q_p0_chart, .ref q_p0_kept, .ref q_p0_deeds, .ref q_p0_tape, .ref q_p0_text, .ref q_p0_pieces, .ref q_p0_patterns]))]) (wn := fun u => [(q_p0, .inr (6, [.int v_p0_born, .int v_p0_imageKept, .ref q_p0_chart, .ref q_p0_kept, .ref q_p0_deeds, .ref q_p0_tape, .ref q_p0_text, .ref q_p0_pieces, .ref q_p0_patterns])), (q_p0_chart, .inr (0, [.int v_p0_chart_size, .int v_p0_chart_way, .ref q_p0_chart_led, .ref q_p0_chart_turnedLed])), (q_p0_chart_led, .inl (cI, 8, .inl f_p0_chart_led))]) (c_X0_ringBits l D cI cJ cB tU tM tS q_p0_chart q_p0_chart_led q_p0_chart_turnedLed H.size x1 v_p0_chart_size f_p0_chart_led v_p0_chart_way _ h) ⟨hx, hb, hml, hown, hts⟩ (cwV 1 hts gX8_of_X0_ringBits rfl rfl rfl hd_X0_ringBits ⟨Nat.le_of_ble_eq_true rfl, Nat.le_of_ble_eq_true rfl⟩) hX hK hP hD hS hA [1, 2] [0] [0, 1, 2] rfl rfl rfl (by decide) (fun _ => rfl) (q0 := 1) (ci := 0) rfl rfl rfl hl.1 rfl (Nat.le_of_ble_eq_true rfl) ⟨Nat.le_refl _, Nat.le_refl _⟩ dX8_of_68 (fun r6 u6 H locs h hP hD hS => ?_)
          exact z_iret hQ hx hb hr rfl hlocks hK () h hP hD hS dX8_of_71
        · have h := And.right h e3_2
          by_cases e3_3 : x2 = (3 : Int32)
          · have h := And.left h e3_3
            have ez : x2.toInt = 3 := by rw [e3_3]; decide
            refine lv_tableIn (tgt := 72) hx hb dX8_of_15 (by rw [ez]; decide) (by rw [ez]; decide) (by rw [ez] <;> rfl) (by decide) ?_
            refine lv_aload_n hx hb dX8_of_72 rfl (lv_at hl 0 rfl) ?_
            refine va_get (ci := 6) (C := RX8) (T := TX8) (N := 9) (v := .ref q_p0_chart) hx hb hts hinX8 hown hK hP 0 rfl rfl 2 (by decide) hw0 (fun _ h9 => h9) rfl dX8_of_73 ?_
            refine lv_iload_n hx hb dX8_of_76 rfl (lv_at hl 1 rfl) ?_
            refine z_cVi (As := [.int x1]) (rest := []) (wr := [(q_p0, .inr (6, [.int v_p0_born, .int v_p0_imageKept, .ref q_p0_chart, .ref q_p0_kept, .ref q_p0_deeds, .ref q_p0_tape, .ref q_p0_text, .ref q_p0_pieces, .ref q_p0_patterns]))]) (wn := fun u => [(q_p0, .inr (6, [.int v_p0_born, .int v_p0_imageKept, .ref q_p0_chart, .ref q_p0_kept, .ref q_p0_deeds, .ref q_p0_tape, .ref q_p0_text, .ref q_p0_pieces, .ref q_p0_patterns])), (q_p0_chart, .inr (0, [.int v_p0_chart_size, .int v_p0_chart_way, .ref q_p0_chart_led, .ref q_p0_chart_turnedLed])), (q_p0_chart_led, .inl (cI, 8, .inl f_p0_chart_led))]) (c_X0_ringBits l D cI cJ cB tU tM tS q_p0_chart q_p0_chart_led q_p0_chart_turnedLed H.size x1 v_p0_chart_size f_p0_chart_led v_p0_chart_way _ h) ⟨hx, hb, hml, hown, hts⟩ (cwV 1 hts gX8_of_X0_ringBits rfl rfl rfl hd_X0_ringBits ⟨Nat.le_of_ble_eq_true rfl, Nat.le_of_ble_eq_true rfl⟩) hX hK hP hD hS hA [1, 2] [0] [0, 1, 2] rfl rfl rfl (by decide) (fun _ => rfl) (q0 := 1) (ci := 0) rfl rfl rfl hl.1 rfl (Nat.le_of_ble_eq_true rfl) ⟨Nat.le_refl _, Nat.le_refl _⟩ dX8_of_77 (fun r7 u7 H locs h hP hD hS => ?_)
            refine z_cSi (As := [.int r7]) (rest := []) (wr := [(q_p0, .inr (6, [.int v_p0_born, .int v_p0_imageKept, .ref q_p0_chart, .ref q_p0_kept, .ref q_p0_deeds, .ref q_p0_tape, .ref q_p0_text, .ref q_p0_pieces, .ref q_p0_patterns])), (q_p0_chart, .inr (0, [.int v_p0_chart_size, .int v_p0_chart_way, .ref q_p0_chart_led, .ref q_p0_chart_turnedLed])), (q_p0_chart_led, .inl (cI, 8, .inl f_p0_chart_led))]) (wn := fun u => [(q_p0, .inr (6, [.int v_p0_born, .int v_p0_imageKept, .ref q_p0_chart, .ref q_p0_kept, .ref q_p0_deeds, .ref q_p0_tape, .ref q_p0_text, .ref q_p0_pieces, .ref q_p0_patterns])), (q_p0_chart, .inr (0, [.int v_p0_chart_size, .int v_p0_chart_way, .ref q_p0_chart_led, .ref q_p0_chart_turnedLed])), (q_p0_chart_led, .inl (cI, 8, .inl f_p0_chart_led))]) (c_J6_bitCount_0f7a4 l D cI cJ cB tU tM tS  H.size r7 _ h) ⟨hx, hb, hml, hown, hts⟩ (va_cwS 1 hts gX8_of_J6_bitCount_0f7a4 rfl rfl rfl hd_J6_bitCount_0f7a4.2 ⟨Nat.le_of_ble_eq_true rfl, Nat.le_of_ble_eq_true rfl⟩) hX hK hP hD hS hA [] [0, 1, 2] [0, 1, 2] rfl rfl rfl (by decide) (fun _ => rfl) rfl hl.1 rfl (Nat.le_of_ble_eq_true rfl) ⟨Nat.le_refl _, Nat.le_refl _⟩ dX8_of_80 (fun r8 u8 H locs h hP hD hS => ?_)
            exact z_iret hQ hx hb hr rfl hlocks hK () h hP hD hS dX8_of_83
          · have h := And.right h e3_3
            have z0 := z_ne (z := 0) e3_0 (by decide)
            have z1 := z_ne (z := 1) e3_1 (by decide)
            have z2 := z_ne (z := 2) e3_2 (by decide)
            have z3 := z_ne (z := 3) e3_3 (by decide)
            refine lv_tableOut (tgt := 84) hx hb dX8_of_15 (by omega) (by decide) ?_
            refine lv_bipush (v := (-2 : Int32)) hx hb dX8_of_84 (by decide) ?_
            exact z_iret hQ hx hb hr rfl hlocks hK () h hP hD hS dX8_of_86
  · have h := And.left h c2
    refine lv_bipush (v := (-2 : Int32)) hx hb dX8_of_11 (by decide) ?_
    exact z_iret hQ hx hb hr rfl hlocks hK () h hP hD hS dX8_of_13
theorem hd_X8_map : yX8_map.cls = RX8 ∧ yX8_map.cls ≠ "java/lang/invoke/MethodHandle" ∧ yX8_map.cls ≠ "java/lang/invoke/VarHandle" ∧ (parseMethodDescriptor yX8_map.desc).map (fun d => d.parameters.length) = some 0 := by decide +kernel
set_option maxHeartbeats 4000000 in
set_option maxRecDepth 100000 in
theorem c_X8_map (l : Launch) (D : va_G) (cI cJ cB : ClassId) (tU tM : Nat) (tS : tsT) (q_p0 q_p0_chart q_p0_kept q_p0_deeds q_p0_tape q_p0_text q_p0_pieces q_p0_patterns q_p0_chart_led q_p0_chart_turnedLed : Nat) (sz : Nat) (v_p0_chart_size : Int32) (f_p0_chart_led : (Nat → Int32)) (v_p0_born : Int32) (v_p0_imageKept : Int32) (v_p0_chart_way : Int32) (P : Int32 → Prop) (h : M_X8_map v_p0_chart_size f_p0_chart_led P) : Met l yX8_map wsX8_map ({ frames := 1, cells := 0, slots := 0, locals := 22 }) (va_Pc [.ref q_p0] (zPre D cI cJ cB tU tM tS [(q_p0, .inr (6, [.int v_p0_born, .int v_p0_imageKept, .ref q_p0_chart, .ref q_p0_kept, .ref q_p0_deeds, .ref q_p0_tape, .ref q_p0_text, .ref q_p0_pieces, .ref q_p0_patterns])), (q_p0_chart, .inr (0, [.int v_p0_chart_size, .int v_p0_chart_way, .ref q_p0_chart_led, .ref q_p0_chart_turnedLed])), (q_p0_chart_led, .inl (cI, 8, .inl f_p0_chart_led))] sz)) (va_Qi (fun (r : Int32) (u : Unit) => P r ) (fun u t => zPost D cI cJ cB (va_A [(q_p0, .inr (6, [.int v_p0_born, .int v_p0_imageKept, .ref q_p0_chart, .ref q_p0_kept, .ref q_p0_deeds, .ref q_p0_tape, .ref q_p0_text, .ref q_p0_pieces, .ref q_p0_patterns])), (q_p0_chart, .inr (0, [.int v_p0_chart_size, .int v_p0_chart_way, .ref q_p0_chart_led, .ref q_p0_chart_turnedLed])), (q_p0_chart_led, .inl (cI, 8, .inl f_p0_chart_led))] sz) [(q_p0, .inr (6, [.int v_p0_born, .int v_p0_imageKept, .ref q_p0_chart, .ref q_p0_kept, .ref q_p0_deeds, .ref q_p0_tape, .ref q_p0_text, .ref q_p0_pieces, .ref q_p0_patterns])), (q_p0_chart, .inr (0, [.int v_p0_chart_size, .int v_p0_chart_way, .ref q_p0_chart_led, .ref q_p0_chart_turnedLed])), (q_p0_chart_led, .inl (cI, 8, .inl f_p0_chart_led))] t) (va_A [(q_p0, .inr (6, [.int v_p0_born, .int v_p0_imageKept, .ref q_p0_chart, .ref q_p0_kept, .ref q_p0_deeds, .ref q_p0_tape, .ref q_p0_text, .ref q_p0_pieces, .ref q_p0_patterns])), (q_p0_chart, .inr (0, [.int v_p0_chart_size, .int v_p0_chart_way, .ref q_p0_chart_led, .ref q_p0_chart_turnedLed])), (q_p0_chart_led, .inl (cI, 8, .inl f_p0_chart_led))] sz)) 0 0 (va_A [(q_p0, .inr (6, [.int v_p0_born, .int v_p0_imageKept, .ref q_p0_chart, .ref q_p0_kept, .ref q_p0_deeds, .ref q_p0_tape, .ref q_p0_text, .ref q_p0_pieces, .ref q_p0_patterns])), (q_p0_chart, .inr (0, [.int v_p0_chart_size, .int v_p0_chart_way, .ref q_p0_chart_led, .ref q_p0_chart_turnedLed])), (q_p0_chart_led, .inl (cI, 8, .inl f_p0_chart_led))] sz) := by
  refine z_met (cc := cX8_map) (maxL := 1) (ret := (some .int)) (Qc := fun A => va_Qi (fun (r : Int32) (u : Unit) => P r ) (fun u t => zPost D cI cJ cB A [(q_p0, .inr (6, [.int v_p0_born, .int v_p0_imageKept, .ref q_p0_chart, .ref q_p0_kept, .ref q_p0_deeds, .ref q_p0_tape, .ref q_p0_text, .ref q_p0_pieces, .ref q_p0_patterns])), (q_p0_chart, .inr (0, [.int v_p0_chart_size, .int v_p0_chart_way, .ref q_p0_chart_led, .ref q_p0_chart_turnedLed])), (q_p0_chart_led, .inl (cI, 8, .inl f_p0_chart_led))] t) A) (by decide) rfl [.ref q_p0] (Nat.le_of_ble_eq_true rfl) ?_
  intro p e s m args below meth c A hx hb hr hts hown hml hlocks hA hX hK H locs hP hD hS ls hl Q hQ
  have hown : s.vm.findClass RX8 = some m.cls := hown
  have hl : lv_has ls 1 [(0, .ref q_p0)] := hl
  have hw0 : (Cond.fieldLink RX8 18 "ForcedRings" "chart" "LForcedRings$Chart;").before args s = true := hts _ (List.mem_of_getElem? (i := 1) rfl)
  have hinX8 : ∀ w ∈ wsX80, w ∈ wsX8_map := fun _ h => List.mem_cons_of_mem _ (List.mem_append_left _ (List.mem_append_right _ h))
  refine lv_aload_n hx hb dX8_map_0 rfl (lv_at hl 0 rfl) ?_
  refine va_get (ci := 6) (C := RX8) (T := TX8) (N := 9) (v := .ref q_p0_chart) hx hb hts hinX8 hown hK hP 0 rfl rfl 2 (by decide) hw0 (fun _ h9 => h9) rfl dX8_map_1 ?_
  refine z_cVi (As := []) (rest := []) (wr := [(q_p0, .inr (6, [.int v_p0_born, .int v_p0_imageKept, .ref q_p0_chart, .ref q_p0_kept, .ref q_p0_deeds, .ref q_p0_tape, .ref q_p0_text, .ref q_p0_pieces, .ref q_p0_patterns]))]) (wn := fun u => [(q_p0, .inr (6, [.int v_p0_born, .int v_p0_imageKept, .ref q_p0_chart, .ref q_p0_kept, .ref q_p0_deeds, .ref q_p0_tape, .ref q_p0_text, .ref q_p0_pieces, .ref q_p0_patterns])), (q_p0_chart, .inr (0, [.int v_p0_chart_size, .int v_p0_chart_way, .ref q_p0_chart_led, .ref q_p0_chart_turnedLed])), (q_p0_chart_led, .inl (cI, 8, .inl f_p0_chart_led))]) (c_X0_figures l D cI cJ cB tU tM tS q_p0_chart q_p0_chart_led q_p0_chart_turnedLed H.size v_p0_chart_size f_p0_chart_led v_p0_chart_way _ h) ⟨hx, hb, hml, hown, hts⟩ (cwV 0 hts gX8_map_X0_figures rfl rfl rfl hd_X0_figures ⟨Nat.le_of_ble_eq_true rfl, Nat.le_of_ble_eq_true rfl⟩) hX hK hP hD hS hA [1, 2] [0] [0, 1, 2] rfl rfl rfl (by decide) (fun _ => rfl) (q0 := 1) (ci := 0) rfl rfl rfl hl.1 rfl (Nat.le_of_ble_eq_true rfl) ⟨Nat.le_refl _, Nat.le_refl _⟩ dX8_map_4 (fun r1 u1 H locs h hP hD hS => ?_)
  exact z_iret hQ hx hb hr rfl hlocks hK () h hP hD hS dX8_map_7
theorem hd_X8_rings : yX8_rings.cls = RX8 ∧ yX8_rings.cls ≠ "java/lang/invoke/MethodHandle" ∧ yX8_rings.cls ≠ "java/lang/invoke/VarHandle" ∧ (parseMethodDescriptor yX8_rings.desc).map (fun d => d.parameters.length) = some 1 := by decide +kernel
set_option maxHeartbeats 4000000 in
set_option maxRecDepth 100000 in
theorem c_X8_rings (l : Launch) (D : va_G) (cI cJ cB : ClassId) (tU tM : Nat) (tS : tsT) (q_p0 q_p0_chart q_p0_kept q_p0_deeds q_p0_tape q_p0_text q_p0_pieces q_p0_patterns q_p0_chart_led q_p0_chart_turnedLed : Nat) (sz : Nat) (x1 : Int32) (v_p0_chart_size : Int32) (f_p0_chart_led : (Nat → Int32)) (v_p0_born : Int32) (v_p0_imageKept : Int32) (v_p0_chart_way : Int32) (P : Int32 → Prop) (h : M_X8_rings x1 v_p0_chart_size f_p0_chart_led P) : Met l yX8_rings wsX8_rings ({ frames := 3, cells := 0, slots := 0, locals := 68 }) (va_Pc [.ref q_p0, .int x1] (zPre D cI cJ cB tU tM tS [(q_p0, .inr (6, [.int v_p0_born, .int v_p0_imageKept, .ref q_p0_chart, .ref q_p0_kept, .ref q_p0_deeds, .ref q_p0_tape, .ref q_p0_text, .ref q_p0_pieces, .ref q_p0_patterns])), (q_p0_chart, .inr (0, [.int v_p0_chart_size, .int v_p0_chart_way, .ref q_p0_chart_led, .ref q_p0_chart_turnedLed])), (q_p0_chart_led, .inl (cI, 8, .inl f_p0_chart_led))] sz)) (va_Qi (fun (r : Int32) (u : Unit) => P r ) (fun u t => zPost D cI cJ cB (va_A [(q_p0, .inr (6, [.int v_p0_born, .int v_p0_imageKept, .ref q_p0_chart, .ref q_p0_kept, .ref q_p0_deeds, .ref q_p0_tape, .ref q_p0_text, .ref q_p0_pieces, .ref q_p0_patterns])), (q_p0_chart, .inr (0, [.int v_p0_chart_size, .int v_p0_chart_way, .ref q_p0_chart_led, .ref q_p0_chart_turnedLed])), (q_p0_chart_led, .inl (cI, 8, .inl f_p0_chart_led))] sz) [(q_p0, .inr (6, [.int v_p0_born, .int v_p0_imageKept, .ref q_p0_chart, .ref q_p0_kept, .ref q_p0_deeds, .ref q_p0_tape, .ref q_p0_text, .ref q_p0_pieces, .ref q_p0_patterns])), (q_p0_chart, .inr (0, [.int v_p0_chart_size, .int v_p0_chart_way, .ref q_p0_chart_led, .ref q_p0_chart_turnedLed])), (q_p0_chart_led, .inl (cI, 8, .inl f_p0_chart_led))] t) (va_A [(q_p0, .inr (6, [.int v_p0_born, .int v_p0_imageKept, .ref q_p0_chart, .ref q_p0_kept, .ref q_p0_deeds, .ref q_p0_tape, .ref q_p0_text, .ref q_p0_pieces, .ref q_p0_patterns])), (q_p0_chart, .inr (0, [.int v_p0_chart_size, .int v_p0_chart_way, .ref q_p0_chart_led, .ref q_p0_chart_turnedLed])), (q_p0_chart_led, .inl (cI, 8, .inl f_p0_chart_led))] sz)) 0 0 (va_A [(q_p0, .inr (6, [.int v_p0_born, .int v_p0_imageKept, .ref q_p0_chart, .ref q_p0_kept, .ref q_p0_deeds, .ref q_p0_tape, .ref q_p0_text, .ref q_p0_pieces, .ref q_p0_patterns])), (q_p0_chart, .inr (0, [.int v_p0_chart_size, .int v_p0_chart_way, .ref q_p0_chart_led, .ref q_p0_chart_turnedLed])), (q_p0_chart_led, .inl (cI, 8, .inl f_p0_chart_led))] sz) := by
  refine z_met (cc := cX8_rings) (maxL := 2) (ret := (some .int)) (Qc := fun A => va_Qi (fun (r : Int32) (u : Unit) => P r ) (fun u t => zPost D cI cJ cB A [(q_p0, .inr (6, [.int v_p0_born, .int v_p0_imageKept, .ref q_p0_chart, .ref q_p0_kept, .ref q_p0_deeds, .ref q_p0_tape, .ref q_p0_text, .ref q_p0_pieces, .ref q_p0_patterns])), (q_p0_chart, .inr (0, [.int v_p0_chart_size, .int v_p0_chart_way, .ref q_p0_chart_led, .ref q_p0_chart_turnedLed])), (q_p0_chart_led, .inl (cI, 8, .inl f_p0_chart_led))] t) A) (by decide) rfl [.ref q_p0, .int x1] (Nat.le_of_ble_eq_true rfl) ?_
  intro p e s m args below meth c A hx hb hr hts hown hml hlocks hA hX hK H locs hP hD hS ls hl Q hQ
  have hown : s.vm.findClass RX8 = some m.cls := hown
  have hl : lv_has ls 2 [(0, .ref q_p0), (1, .int x1)] := hl
  have hw0 : (Cond.fieldLink RX8 18 "ForcedRings" "chart" "LForcedRings$Chart;").before args s = true := hts _ (List.mem_of_getElem? (i := 1) rfl)
  have hw1 : (Cond.fieldLink RX8 60 "ForcedRings$Chart" "size" "I").before args s = true := hts _ (List.mem_of_getElem? (i := 2) rfl)
  have hinX0 : ∀ w ∈ wsX00, w ∈ wsX8_rings := fun _ h => List.mem_cons_of_mem _ (List.mem_append_right _ h)
  have hinX8 : ∀ w ∈ wsX80, w ∈ wsX8_rings := fun _ h => List.mem_cons_of_mem _ (List.mem_append_left _ (List.mem_append_right _ h))
  refine lv_iload_n hx hb dX8_rings_0 rfl (lv_at hl 1 rfl) ?_
  by_cases e1_0 : x1 = (0 : Int32)
  · have h := And.left h e1_0
    have ez : x1.toInt = 0 := by rw [e1_0]; decide
    refine lv_tableIn (tgt := 32) hx hb dX8_rings_1 (by rw [ez]; decide) (by rw [ez]; decide) (by rw [ez] <;> rfl) (by decide) ?_
    refine lv_aload_n hx hb dX8_rings_32 rfl (lv_at hl 0 rfl) ?_
    refine va_get (ci := 6) (C := RX8) (T := TX8) (N := 9) (v := .ref q_p0_chart) hx hb hts hinX8 hown hK hP 0 rfl rfl 2 (by decide) hw0 (fun _ h9 => h9) rfl dX8_rings_33 ?_
    refine z_cVi (As := []) (rest := []) (wr := [(q_p0, .inr (6, [.int v_p0_born, .int v_p0_imageKept, .ref q_p0_chart, .ref q_p0_kept, .ref q_p0_deeds, .ref q_p0_tape, .ref q_p0_text, .ref q_p0_pieces, .ref q_p0_patterns]))]) (wn := fun u => [(q_p0, .inr (6, [.int v_p0_born, .int v_p0_imageKept, .ref q_p0_chart, .ref q_p0_kept, .ref q_p0_deeds, .ref q_p0_tape, .ref q_p0_text, .ref q_p0_pieces, .ref q_p0_patterns])), (q_p0_chart, .inr (0, [.int v_p0_chart_size, .int v_p0_chart_way, .ref q_p0_chart_led, .ref q_p0_chart_turnedLed])), (q_p0_chart_led, .inl (cI, 8, .inl f_p0_chart_led))]) (c_X0_ringNumber l D cI cJ cB tU tM tS q_p0_chart q_p0_chart_led q_p0_chart_turnedLed H.size v_p0_chart_size f_p0_chart_led v_p0_chart_way _ h) ⟨hx, hb, hml, hown, hts⟩ (cwV 0 hts gX8_rings_X0_ringNumber rfl rfl rfl hd_X0_ringNumber ⟨Nat.le_of_ble_eq_true rfl, Nat.le_of_ble_eq_true rfl⟩) hX hK hP hD hS hA [1, 2] [0] [0, 1, 2] rfl rfl rfl (by decide) (fun _ => rfl) (q0 := 1) (ci := 0) rfl rfl rfl hl.1 rfl (Nat.le_of_ble_eq_true rfl) ⟨Nat.le_refl _, Nat.le_refl _⟩ dX8_rings_36 (fun r2 u2 H locs h hP hD hS => ?_)
    exact z_iret hQ hx hb hr rfl hlocks hK () h hP hD hS dX8_rings_39
  · have h := And.right h e1_0
    by_cases e1_1 : x1 = (1 : Int32)
    · have h := And.left h e1_1
      have ez : x1.toInt = 1 := by rw [e1_1]; decide
      refine lv_tableIn (tgt := 40) hx hb dX8_rings_1 (by rw [ez]; decide) (by rw [ez]; decide) (by rw [ez] <;> rfl) (by decide) ?_
      refine lv_aload_n hx hb dX8_rings_40 rfl (lv_at hl 0 rfl) ?_
      refine va_get (ci := 6) (C := RX8) (T := TX8) (N := 9) (v := .ref q_p0_chart) hx hb hts hinX8 hown hK hP 0 rfl rfl 2 (by decide) hw0 (fun _ h9 => h9) rfl dX8_rings_41 ?_
      refine z_cVi (As := []) (rest := []) (wr := [(q_p0, .inr (6, [.int v_p0_born, .int v_p0_imageKept, .ref q_p0_chart, .ref q_p0_kept, .ref q_p0_deeds, .ref q_p0_tape, .ref q_p0_text, .ref q_p0_pieces, .ref q_p0_patterns]))]) (wn := fun u => [(q_p0, .inr (6, [.int v_p0_born, .int v_p0_imageKept, .ref q_p0_chart, .ref q_p0_kept, .ref q_p0_deeds, .ref q_p0_tape, .ref q_p0_text, .ref q_p0_pieces, .ref q_p0_patterns])), (q_p0_chart, .inr (0, [.int v_p0_chart_size, .int v_p0_chart_way, .ref q_p0_chart_led, .ref q_p0_chart_turnedLed])), (q_p0_chart_led, .inl (cI, 8, .inl f_p0_chart_led))]) (c_X0_pointsOnRings l D cI cJ cB tU tM tS q_p0_chart q_p0_chart_led q_p0_chart_turnedLed H.size v_p0_chart_size f_p0_chart_led v_p0_chart_way _ h) ⟨hx, hb, hml, hown, hts⟩ (cwV 0 hts gX8_rings_X0_pointsOnRings rfl rfl rfl hd_X0_pointsOnRings ⟨Nat.le_of_ble_eq_true rfl, Nat.le_of_ble_eq_true rfl⟩) hX hK hP hD hS hA [1, 2] [0] [0, 1, 2] rfl rfl rfl (by decide) (fun _ => rfl) (q0 := 1) (ci := 0) rfl rfl rfl hl.1 rfl (Nat.le_of_ble_eq_true rfl) ⟨Nat.le_refl _, Nat.le_refl _⟩ dX8_rings_44 (fun r3 u3 H locs h hP hD hS => ?_)
      exact z_iret hQ hx hb hr rfl hlocks hK () h hP hD hS dX8_rings_47
    · have h := And.right h e1_1
      by_cases e1_2 : x1 = (2 : Int32)
      · have h := And.left h e1_2
        have ez : x1.toInt = 2 := by rw [e1_2]; decide
        refine lv_tableIn (tgt := 48) hx hb dX8_rings_1 (by rw [ez]; decide) (by rw [ez]; decide) (by rw [ez] <;> rfl) (by decide) ?_
        refine lv_aload_n hx hb dX8_rings_48 rfl (lv_at hl 0 rfl) ?_
        refine va_get (ci := 6) (C := RX8) (T := TX8) (N := 9) (v := .ref q_p0_chart) hx hb hts hinX8 hown hK hP 0 rfl rfl 2 (by decide) hw0 (fun _ h9 => h9) rfl dX8_rings_49 ?_
        refine z_cVi (As := []) (rest := []) (wr := [(q_p0, .inr (6, [.int v_p0_born, .int v_p0_imageKept, .ref q_p0_chart, .ref q_p0_kept, .ref q_p0_deeds, .ref q_p0_tape, .ref q_p0_text, .ref q_p0_pieces, .ref q_p0_patterns]))]) (wn := fun u => [(q_p0, .inr (6, [.int v_p0_born, .int v_p0_imageKept, .ref q_p0_chart, .ref q_p0_kept, .ref q_p0_deeds, .ref q_p0_tape, .ref q_p0_text, .ref q_p0_pieces, .ref q_p0_patterns])), (q_p0_chart, .inr (0, [.int v_p0_chart_size, .int v_p0_chart_way, .ref q_p0_chart_led, .ref q_p0_chart_turnedLed])), (q_p0_chart_led, .inl (cI, 8, .inl f_p0_chart_led))]) (c_X0_greatestRing l D cI cJ cB tU tM tS q_p0_chart q_p0_chart_led q_p0_chart_turnedLed H.size v_p0_chart_size f_p0_chart_led v_p0_chart_way _ h) ⟨hx, hb, hml, hown, hts⟩ (cwV 0 hts gX8_rings_X0_greatestRing rfl rfl rfl hd_X0_greatestRing ⟨Nat.le_of_ble_eq_true rfl, Nat.le_of_ble_eq_true rfl⟩) hX hK hP hD hS hA [1, 2] [0] [0, 1, 2] rfl rfl rfl (by decide) (fun _ => rfl) (q0 := 1) (ci := 0) rfl rfl rfl hl.1 rfl (Nat.le_of_ble_eq_true rfl) ⟨Nat.le_refl _, Nat.le_refl _⟩ dX8_rings_52 (fun r4 u4 H locs h hP hD hS => ?_)
        exact z_iret hQ hx hb hr rfl hlocks hK () h hP hD hS dX8_rings_55
      · have h := And.right h e1_2
        by_cases e1_3 : x1 = (3 : Int32)
        · have h := And.left h e1_3
          have ez : x1.toInt = 3 := by rw [e1_3]; decide
          refine lv_tableIn (tgt := 56) hx hb dX8_rings_1 (by rw [ez]; decide) (by rw [ez]; decide) (by rw [ez] <;> rfl) (by decide) ?_
          refine lv_aload_n hx hb dX8_rings_56 rfl (lv_at hl 0 rfl) ?_
          refine va_get (ci := 6) (C := RX8) (T := TX8) (N := 9) (v := .ref q_p0_chart) hx hb hts hinX8 hown hK hP 0 rfl rfl 2 (by decide) hw0 (fun _ h9 => h9) rfl dX8_rings_57 ?_
          refine z_cVi (As := []) (rest := []) (wr := [(q_p0, .inr (6, [.int v_p0_born, .int v_p0_imageKept, .ref q_p0_chart, .ref q_p0_kept, .ref q_p0_deeds, .ref q_p0_tape, .ref q_p0_text, .ref q_p0_pieces, .ref q_p0_patterns]))]) (wn := fun u => [(q_p0, .inr (6, [.int v_p0_born, .int v_p0_imageKept, .ref q_p0_chart, .ref q_p0_kept, .ref q_p0_deeds, .ref q_p0_tape, .ref q_p0_text, .ref q_p0_pieces, .ref q_p0_patterns])), (q_p0_chart, .inr (0, [.int v_p0_chart_size, .int v_p0_chart_way, .ref q_p0_chart_led, .ref q_p0_chart_turnedLed])), (q_p0_chart_led, .inl (cI, 8, .inl f_p0_chart_led))]) (c_X0_pointsOnRings l D cI cJ cB tU tM tS q_p0_chart q_p0_chart_led q_p0_chart_turnedLed H.size v_p0_chart_size f_p0_chart_led v_p0_chart_way _ h) ⟨hx, hb, hml, hown, hts⟩ (cwV 0 hts gX8_rings_X0_pointsOnRings rfl rfl rfl hd_X0_pointsOnRings ⟨Nat.le_of_ble_eq_true rfl, Nat.le_of_ble_eq_true rfl⟩) hX hK hP hD hS hA [1, 2] [0] [0, 1, 2] rfl rfl rfl (by decide) (fun _ => rfl) (q0 := 1) (ci := 0) rfl rfl rfl hl.1 rfl (Nat.le_of_ble_eq_true rfl) ⟨Nat.le_refl _, Nat.le_refl _⟩ dX8_rings_60 (fun r5 u5 H locs h hP hD hS => ?_)
          refine lv_aload_n hx hb dX8_rings_63 rfl (lv_at hl 0 rfl) ?_
          refine va_get (ci := 6) (C := RX8) (T := TX8) (N := 9) (v := .ref q_p0_chart) hx hb hts hinX8 hown hK hP 0 rfl rfl 2 (by decide) hw0 (fun _ h9 => h9) rfl dX8_rings_64 ?_
          refine va_get (ci := 0) (C := RX0) (T := TX0) (N := 4) (v := .int v_p0_chart_size) hx hb hts hinX0 hown hK hP 1 rfl rfl 0 (by decide) hw1 (fun _ h9 => h9) rfl dX8_rings_67 ?_
          refine lv_icmp_ne (tgt := 77) hx hb dX8_rings_70 (by decide) (fun c6 => ?_) (fun c6 => ?_)
          · have h := And.right h c6
            refine lv_iconst (v := (0 : Int32)) hx hb dX8_rings_77 (by decide) ?_
            exact z_iret hQ hx hb hr rfl hlocks hK () h hP hD hS dX8_rings_78
          · have h := And.left h c6
            refine lv_iconst (v := (1 : Int32)) hx hb dX8_rings_73 (by decide) ?_
            refine lv_goto (tgt := 78) hx hb dX8_rings_74 (by decide) ?_
            exact z_iret hQ hx hb hr rfl hlocks hK () h hP hD hS dX8_rings_78
        · have h := And.right h e1_3
          have z0 := z_ne (z := 0) e1_0 (by decide)
          have z1 := z_ne (z := 1) e1_1 (by decide)
          have z2 := z_ne (z := 2) e1_2 (by decide)
          have z3 := z_ne (z := 3) e1_3 (by decide)
          refine lv_tableOut (tgt := 79) hx hb dX8_rings_1 (by omega) (by decide) ?_
          refine lv_bipush (v := (-2 : Int32)) hx hb dX8_rings_79 (by decide) ?_
          exact z_iret hQ hx hb hr rfl hlocks hK () h hP hD hS dX8_rings_81
theorem hd_X8_ring : yX8_ring.cls = RX8 ∧ yX8_ring.cls ≠ "java/lang/invoke/MethodHandle" ∧ yX8_ring.cls ≠ "java/lang/invoke/VarHandle" ∧ (parseMethodDescriptor yX8_ring.desc).map (fun d => d.parameters.length) = some 2 := by decide +kernel
set_option maxHeartbeats 4000000 in
set_option maxRecDepth 100000 in
theorem c_X8_ring (l : Launch) (D : va_G) (cI cJ cB : ClassId) (tU tM : Nat) (tS : tsT) (q_p0 q_p0_chart q_p0_kept q_p0_deeds q_p0_tape q_p0_text q_p0_pieces q_p0_patterns q_p0_chart_led q_p0_chart_turnedLed : Nat) (sz : Nat) (x1 : Int32) (x2 : Int32) (v_p0_chart_size : Int32) (f_p0_chart_led : (Nat → Int32)) (v_p0_born : Int32) (v_p0_imageKept : Int32) (v_p0_chart_way : Int32) (P : Int32 → Prop) (h : M_X8_ring x1 x2 v_p0_chart_size f_p0_chart_led P) : Met l yX8_ring wsX8_ring ({ frames := 3, cells := 0, slots := 0, locals := 69 }) (va_Pc [.ref q_p0, .int x1, .int x2] (zPre D cI cJ cB tU tM tS [(q_p0, .inr (6, [.int v_p0_born, .int v_p0_imageKept, .ref q_p0_chart, .ref q_p0_kept, .ref q_p0_deeds, .ref q_p0_tape, .ref q_p0_text, .ref q_p0_pieces, .ref q_p0_patterns])), (q_p0_chart, .inr (0, [.int v_p0_chart_size, .int v_p0_chart_way, .ref q_p0_chart_led, .ref q_p0_chart_turnedLed])), (q_p0_chart_led, .inl (cI, 8, .inl f_p0_chart_led))] sz)) (va_Qi (fun (r : Int32) (u : Unit) => P r ) (fun u t => zPost D cI cJ cB (va_A [(q_p0, .inr (6, [.int v_p0_born, .int v_p0_imageKept, .ref q_p0_chart, .ref q_p0_kept, .ref q_p0_deeds, .ref q_p0_tape, .ref q_p0_text, .ref q_p0_pieces, .ref q_p0_patterns])), (q_p0_chart, .inr (0, [.int v_p0_chart_size, .int v_p0_chart_way, .ref q_p0_chart_led, .ref q_p0_chart_turnedLed])), (q_p0_chart_led, .inl (cI, 8, .inl f_p0_chart_led))] sz) [(q_p0, .inr (6, [.int v_p0_born, .int v_p0_imageKept, .ref q_p0_chart, .ref q_p0_kept, .ref q_p0_deeds, .ref q_p0_tape, .ref q_p0_text, .ref q_p0_pieces, .ref q_p0_patterns])), (q_p0_chart, .inr (0, [.int v_p0_chart_size, .int v_p0_chart_way, .ref q_p0_chart_led, .ref q_p0_chart_turnedLed])), (q_p0_chart_led, .inl (cI, 8, .inl f_p0_chart_led))] t) (va_A [(q_p0, .inr (6, [.int v_p0_born, .int v_p0_imageKept, .ref q_p0_chart, .ref q_p0_kept, .ref q_p0_deeds, .ref q_p0_tape, .ref q_p0_text, .ref q_p0_pieces, .ref q_p0_patterns])), (q_p0_chart, .inr (0, [.int v_p0_chart_size, .int v_p0_chart_way, .ref q_p0_chart_led, .ref q_p0_chart_turnedLed])), (q_p0_chart_led, .inl (cI, 8, .inl f_p0_chart_led))] sz)) 0 0 (va_A [(q_p0, .inr (6, [.int v_p0_born, .int v_p0_imageKept, .ref q_p0_chart, .ref q_p0_kept, .ref q_p0_deeds, .ref q_p0_tape, .ref q_p0_text, .ref q_p0_pieces, .ref q_p0_patterns])), (q_p0_chart, .inr (0, [.int v_p0_chart_size, .int v_p0_chart_way, .ref q_p0_chart_led, .ref q_p0_chart_turnedLed])), (q_p0_chart_led, .inl (cI, 8, .inl f_p0_chart_led))] sz) := by
  refine z_met (cc := cX8_ring) (maxL := 5) (ret := (some .int)) (Qc := fun A => va_Qi (fun (r : Int32) (u : Unit) => P r ) (fun u t => zPost D cI cJ cB A [(q_p0, .inr (6, [.int v_p0_born, .int v_p0_imageKept, .ref q_p0_chart, .ref q_p0_kept, .ref q_p0_deeds, .ref q_p0_tape, .ref q_p0_text, .ref q_p0_pieces, .ref q_p0_patterns])), (q_p0_chart, .inr (0, [.int v_p0_chart_size, .int v_p0_chart_way, .ref q_p0_chart_led, .ref q_p0_chart_turnedLed])), (q_p0_chart_led, .inl (cI, 8, .inl f_p0_chart_led))] t) A) (by decide) rfl [.ref q_p0, .int x1, .int x2] (Nat.le_of_ble_eq_true rfl) ?_
  intro p e s m args below meth c A hx hb hr hts hown hml hlocks hA hX hK H locs hP hD hS ls hl Q hQ
  have hown : s.vm.findClass RX8 = some m.cls := hown
  have hl : lv_has ls 5 [(0, .ref q_p0), (1, .int x1), (2, .int x2)] := hl
  have hw0 : (Cond.fieldLink RX8 18 "ForcedRings" "chart" "LForcedRings$Chart;").before args s = true := hts _ (List.mem_of_getElem? (i := 1) rfl)
  have hinX8 : ∀ w ∈ wsX80, w ∈ wsX8_ring := fun _ h => List.mem_cons_of_mem _ (List.mem_append_left _ (List.mem_append_right _ h))
  refine lv_aload_n hx hb dX8_ring_0 rfl (lv_at hl 0 rfl) ?_
  refine va_get (ci := 6) (C := RX8) (T := TX8) (N := 9) (v := .ref q_p0_chart) hx hb hts hinX8 hown hK hP 0 rfl rfl 2 (by decide) hw0 (fun _ h9 => h9) rfl dX8_ring_1 ?_
  refine lv_iload_n hx hb dX8_ring_4 rfl (lv_at hl 1 rfl) ?_
  refine z_cVi (As := [.int x1]) (rest := []) (wr := [(q_p0, .inr (6, [.int v_p0_born, .int v_p0_imageKept, .ref q_p0_chart, .ref q_p0_kept, .ref q_p0_deeds, .ref q_p0_tape, .ref q_p0_text, .ref q_p0_pieces, .ref q_p0_patterns]))]) (wn := fun u => [(q_p0, .inr (6, [.int v_p0_born, .int v_p0_imageKept, .ref q_p0_chart, .ref q_p0_kept, .ref q_p0_deeds, .ref q_p0_tape, .ref q_p0_text, .ref q_p0_pieces, .ref q_p0_patterns])), (q_p0_chart, .inr (0, [.int v_p0_chart_size, .int v_p0_chart_way, .ref q_p0_chart_led, .ref q_p0_chart_turnedLed])), (q_p0_chart_led, .inl (cI, 8, .inl f_p0_chart_led))]) (c_X0_leastOfRing l D cI cJ cB tU tM tS q_p0_chart q_p0_chart_led q_p0_chart_turnedLed H.size x1 v_p0_chart_size f_p0_chart_led v_p0_chart_way _ h) ⟨hx, hb, hml, hown, hts⟩ (cwV 1 hts gX8_ring_X0_leastOfRing rfl rfl rfl hd_X0_leastOfRing ⟨Nat.le_of_ble_eq_true rfl, Nat.le_of_ble_eq_true rfl⟩) hX hK hP hD hS hA [1, 2] [0] [0, 1, 2] rfl rfl rfl (by decide) (fun _ => rfl) (q0 := 1) (ci := 0) rfl rfl rfl hl.1 rfl (Nat.le_of_ble_eq_true rfl) ⟨Nat.le_refl _, Nat.le_refl _⟩ dX8_ring_5 (fun r1 u1 H locs h hP hD hS => ?_)
  refine lv_istore_n (lv' := [(3, .int r1), (0, .ref q_p0), (1, .int x1), (2, .int x2)]) hx hb dX8_ring_8 rfl hl (by decide) rfl (fun ls hl => ?_)
  refine lv_iload_n hx hb dX8_ring_9 rfl (lv_at hl 0 rfl) ?_
  refine lv_if_ge (tgt := 16) hx hb dX8_ring_10 (by decide) (fun c2 => ?_) (fun c2 => ?_)
  · have h := And.left h c2
    refine lv_aload_n hx hb dX8_ring_16 rfl (lv_at hl 1 rfl) ?_
    refine va_get (ci := 6) (C := RX8) (T := TX8) (N := 9) (v := .ref q_p0_chart) hx hb hts hinX8 hown hK hP 0 rfl rfl 2 (by decide) hw0 (fun _ h9 => h9) rfl dX8_ring_17 ?_
    refine lv_iload_n hx hb dX8_ring_20 rfl (lv_at hl 0 rfl) ?_
    refine z_cVi (As := [.int r1]) (rest := []) (wr := [(q_p0, .inr (6, [.int v_p0_born, .int v_p0_imageKept, .ref q_p0_chart, .ref q_p0_kept, .ref q_p0_deeds, .ref q_p0_tape, .ref q_p0_text, .ref q_p0_pieces, .ref q_p0_patterns]))]) (wn := fun u => [(q_p0, .inr (6, [.int v_p0_born, .int v_p0_imageKept, .ref q_p0_chart, .ref q_p0_kept, .ref q_p0_deeds, .ref q_p0_tape, .ref q_p0_text, .ref q_p0_pieces, .ref q_p0_patterns])), (q_p0_chart, .inr (0, [.int v_p0_chart_size, .int v_p0_chart_way, .ref q_p0_chart_led, .ref q_p0_chart_turnedLed])), (q_p0_chart_led, .inl (cI, 8, .inl f_p0_chart_led))]) (c_X0_ringBits l D cI cJ cB tU tM tS q_p0_chart q_p0_chart_led q_p0_chart_turnedLed H.size r1 v_p0_chart_size f_p0_chart_led v_p0_chart_way _ h) ⟨hx, hb, hml, hown, hts⟩ (cwV 1 hts gX8_ring_X0_ringBits rfl rfl rfl hd_X0_ringBits ⟨Nat.le_of_ble_eq_true rfl, Nat.le_of_ble_eq_true rfl⟩) hX hK hP hD hS hA [1, 2] [0] [0, 1, 2] rfl rfl rfl (by decide) (fun _ => rfl) (q0 := 1) (ci := 0) rfl rfl rfl hl.1 rfl (Nat.le_of_ble_eq_true rfl) ⟨Nat.le_refl _, Nat.le_refl _⟩ dX8_ring_21 (fun r3 u3 H locs h hP hD hS => ?_)
    refine z_cSi (As := [.int r3]) (rest := []) (wr := [(q_p0, .inr (6, [.int v_p0_born, .int v_p0_imageKept, .ref q_p0_chart, .ref q_p0_kept, .ref q_p0_deeds, .ref q_p0_tape, .ref q_p0_text, .ref q_p0_pieces, .ref q_p0_patterns])), (q_p0_chart, .inr (0, [.int v_p0_chart_size, .int v_p0_chart_way, .ref q_p0_chart_led, .ref q_p0_chart_turnedLed])), (q_p0_chart_led, .inl (cI, 8, .inl f_p0_chart_led))]) (wn := fun u => [(q_p0, .inr (6, [.int v_p0_born, .int v_p0_imageKept, .ref q_p0_chart, .ref q_p0_kept, .ref q_p0_deeds, .ref q_p0_tape, .ref q_p0_text, .ref q_p0_pieces, .ref q_p0_patterns])), (q_p0_chart, .inr (0, [.int v_p0_chart_size, .int v_p0_chart_way, .ref q_p0_chart_led, .ref q_p0_chart_turnedLed])), (q_p0_chart_led, .inl (cI, 8, .inl f_p0_chart_led))]) (c_J6_bitCount_0f7a4 l D cI cJ cB tU tM tS  H.size r3 _ h) ⟨hx, hb, hml, hown, hts⟩ (va_cwS 1 hts gX8_ring_J6_bitCount_0f7a4 rfl rfl rfl hd_J6_bitCount_0f7a4.2 ⟨Nat.le_of_ble_eq_true rfl, Nat.le_of_ble_eq_true rfl⟩) hX hK hP hD hS hA [] [0, 1, 2] [0, 1, 2] rfl rfl rfl (by decide) (fun _ => rfl) rfl hl.1 rfl (Nat.le_of_ble_eq_true rfl) ⟨Nat.le_refl _, Nat.le_refl _⟩ dX8_ring_24 (fun r4 u4 H locs h hP hD hS => ?_)
    refine lv_istore (lv' := [(4, .int r4), (3, .int r1), (0, .ref q_p0), (1, .int x1), (2, .int x2)]) hx hb dX8_ring_27 hl (by decide) rfl (fun ls hl => ?_)
    refine lv_iload_n hx hb dX8_ring_29 rfl (lv_at hl 4 rfl) ?_
    by_cases e5_0 : x2 = (0 : Int32)
    · have h := And.left h e5_0
      have ez : x2.toInt = 0 := by rw [e5_0]; decide
      refine lv_tableIn (tgt := 56) hx hb dX8_ring_30 (by rw [ez]; decide) (by rw [ez]; decide) (by rw [ez] <;> rfl) (by decide) ?_
      refine lv_iload hx hb dX8_ring_56 (lv_at hl 0 rfl) ?_
      refine z_cSi (As := [.int r4]) (rest := []) (wr := [(q_p0, .inr (6, [.int v_p0_born, .int v_p0_imageKept, .ref q_p0_chart, .ref q_p0_kept, .ref q_p0_deeds, .ref q_p0_tape, .ref q_p0_text, .ref q_p0_pieces, .ref q_p0_patterns])), (q_p0_chart, .inr (0, [.int v_p0_chart_size, .int v_p0_chart_way, .ref q_p0_chart_led, .ref q_p0_chart_turnedLed])), (q_p0_chart_led, .inl (cI, 8, .inl f_p0_chart_led))]) (wn := fun u => [(q_p0, .inr (6, [.int v_p0_born, .int v_p0_imageKept, .ref q_p0_chart, .ref q_p0_kept, .ref q_p0_deeds, .ref q_p0_tape, .ref q_p0_text, .ref q_p0_pieces, .ref q_p0_patterns])), (q_p0_chart, .inr (0, [.int v_p0_chart_size, .int v_p0_chart_way, .ref q_p0_chart_led, .ref q_p0_chart_turnedLed])), (q_p0_chart_led, .inl (cI, 8, .inl f_p0_chart_led))]) (c_X2_ofRing l D cI cJ cB tU tM tS  H.size r4 _ h) ⟨hx, hb, hml, hown, hts⟩ (va_cwS 1 hts gX8_ring_X2_ofRing rfl rfl rfl hd_X2_ofRing.2 ⟨Nat.le_of_ble_eq_true rfl, Nat.le_of_ble_eq_true rfl⟩) hX hK hP hD hS hA [] [0, 1, 2] [0, 1, 2] rfl rfl rfl (by decide) (fun _ => rfl) rfl hl.1 rfl (Nat.le_of_ble_eq_true rfl) ⟨Nat.le_refl _, Nat.le_refl _⟩ dX8_ring_58 (fun r6 u6 H locs h hP hD hS => ?_)
      exact z_iret hQ hx hb hr rfl hlocks hK () h hP hD hS dX8_ring_61
    · have h := And.right h e5_0
      by_cases e5_1 : x2 = (1 : Int32)
      · have h := And.left h e5_1
        have ez : x2.toInt = 1 := by rw [e5_1]; decide
        refine lv_tableIn (tgt := 62) hx hb dX8_ring_30 (by rw [ez]; decide) (by rw [ez]; decide) (by rw [ez] <;> rfl) (by decide) ?_
        refine lv_iload hx hb dX8_ring_62 (lv_at hl 0 rfl) ?_
        exact z_iret hQ hx hb hr rfl hlocks hK () h hP hD hS dX8_ring_64
      · have h := And.right h e5_1
        by_cases e5_2 : x2 = (2 : Int32)
        · have h := And.left h e5_2
          have ez : x2.toInt = 2 := by rw [e5_2]; decide
          refine lv_tableIn (tgt := 65) hx hb dX8_ring_30 (by rw [ez]; decide) (by rw [ez]; decide) (by rw [ez] <;> rfl) (by decide) ?_
          refine lv_iload_n hx hb dX8_ring_65 rfl (lv_at hl 1 rfl) ?_
          exact z_iret hQ hx hb hr rfl hlocks hK () h hP hD hS dX8_ring_66
        · have h := And.right h e5_2
          have z0 := z_ne (z := 0) e5_0 (by decide)
          have z1 := z_ne (z := 1) e5_1 (by decide)
          have z2 := z_ne (z := 2) e5_2 (by decide)
          refine lv_tableOut (tgt := 67) hx hb dX8_ring_30 (by omega) (by decide) ?_
          refine lv_bipush (v := (-2 : Int32)) hx hb dX8_ring_67 (by decide) ?_
          exact z_iret hQ hx hb hr rfl hlocks hK () h hP hD hS dX8_ring_69
  · have h := And.right h c2
    refine lv_bipush (v := (-2 : Int32)) hx hb dX8_ring_13 (by decide) ?_
    exact z_iret hQ hx hb hr rfl hlocks hK () h hP hD hS dX8_ring_15
