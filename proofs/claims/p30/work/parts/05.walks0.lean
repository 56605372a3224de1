theorem hd_X0_startWith : yX0_startWith.cls = RX0 ∧ yX0_startWith.cls ≠ "java/lang/invoke/MethodHandle" ∧ yX0_startWith.cls ≠ "java/lang/invoke/VarHandle" ∧ (parseMethodDescriptor yX0_startWith.desc).map (fun d => d.parameters.length) = some 1 := by decide +kernel
set_option maxHeartbeats 4000000 in
set_option maxRecDepth 100000 in
theorem c_X0_startWith (l : Launch) (D : va_G) (cI cJ cB : ClassId) (tU tM : Nat) (tS : tsT) (q_p0 q_p0_led q_p0_turnedLed : Nat) (sz : Nat) (x1 : Int32) (v_p0_size : Int32) (f_p0_led : (Nat → Int32)) (v_p0_way : Int32) (P : Int32 → (Nat → Int32) → Prop) (h : M_X0_startWith x1 v_p0_size f_p0_led P) : Met l yX0_startWith wsX0_startWith ({ frames := 0, cells := 0, slots := 0, locals := 0 }) (va_Pc [.ref q_p0, .int x1] (zPre D cI cJ cB tU tM tS [(q_p0, .inr (0, [.int v_p0_size, .int v_p0_way, .ref q_p0_led, .ref q_p0_turnedLed])), (q_p0_led, .inl (cI, 8, .inl f_p0_led))] sz)) (va_Qv (fun u : Int32 × (Nat → Int32) => P u.1 u.2) (fun u t => zPost D cI cJ cB (va_A [(q_p0, .inr (0, [.int v_p0_size, .int v_p0_way, .ref q_p0_led, .ref q_p0_turnedLed])), (q_p0_led, .inl (cI, 8, .inl f_p0_led))] sz) [(q_p0, .inr (0, [.int u.1, .int v_p0_way, .ref q_p0_led, .ref q_p0_turnedLed])), (q_p0_led, .inl (cI, 8, .inl u.2))] t) (va_A [(q_p0, .inr (0, [.int v_p0_size, .int v_p0_way, .ref q_p0_led, .ref q_p0_turnedLed])), (q_p0_led, .inl (cI, 8, .inl f_p0_led))] sz)) 0 0 (va_A [(q_p0, .inr (0, [.int v_p0_size, .int v_p0_way, .ref q_p0_led, .ref q_p0_turnedLed])), (q_p0_led, .inl (cI, 8, .inl f_p0_led))] sz) := by
  refine z_met (cc := cX0_startWith) (maxL := 3) (ret := none) (Qc := fun A => va_Qv (fun u : Int32 × (Nat → Int32) => P u.1 u.2) (fun u t => zPost D cI cJ cB A [(q_p0, .inr (0, [.int u.1, .int v_p0_way, .ref q_p0_led, .ref q_p0_turnedLed])), (q_p0_led, .inl (cI, 8, .inl u.2))] t) A) (by decide) rfl [.ref q_p0, .int x1] (Nat.le_of_ble_eq_true rfl) ?_
  intro p e s m args below meth c A hx hb hr hts hown hml hlocks hA hX hK H locs hP hD hS ls hl Q hQ
  have hown : s.vm.findClass RX0 = some m.cls := hown
  have hl : lv_has ls 3 [(0, .ref q_p0), (1, .int x1)] := hl
  have hw0 : (Cond.fieldLink RX0 9 "ForcedRings$Chart" "size" "I").before args s = true := hts _ (List.mem_of_getElem? (i := 1) rfl)
  have hw1 : (Cond.fieldLink RX0 18 "ForcedRings$Chart" "led" "[I").before args s = true := hts _ (List.mem_of_getElem? (i := 2) rfl)
  have hinX0 : ∀ w ∈ wsX00, w ∈ wsX0_startWith := fun _ h => List.mem_cons_of_mem _ (List.mem_append_right _ h)
  refine lv_aload_n hx hb dX0_startWith_0 rfl (lv_at hl 0 rfl) ?_
  refine lv_iload_n hx hb dX0_startWith_1 rfl (lv_at hl 1 rfl) ?_
  refine z_put (ci := 0) (C := RX0) (T := TX0) (N := 4) (ty := .int) (wn := [(q_p0, .inr (0, [.int x1, .int v_p0_way, .ref q_p0_led, .ref q_p0_turnedLed])), (q_p0_led, .inl (cI, 8, .inl f_p0_led))]) hx hb hts hinX0 tyX0 tyX0_ok nmX0 hown hK hP hD hS 0 rfl rfl 0 (by decide) hw0 (fun _ h9 => h9) rfl (by decide +kernel) rfl rfl (Nat.le_of_ble_eq_true rfl) dX0_startWith_2 rfl (fun H locs hP hD hS => ?_)
  refine lv_iconst (v := (0 : Int32)) hx hb dX0_startWith_5 (by decide) ?_
  refine lv_istore_n (lv' := [(2, .int (0 : Int32)), (0, .ref q_p0), (1, .int x1)]) hx hb dX0_startWith_6 rfl hl (by decide) rfl (fun ls hl => ?_)
  have k7 : ∀ (v_p0_size : Int32) (n7 : Nat) (l2 : Int32) (f_p0_led : (Nat → Int32)) (H : Heap) (locs : List Loc) (ls : Array Slot), LP2 (M_X0_startWith_l7 x1 P v_p0_size) n7 l2 f_p0_led → va_P D vwCl [(q_p0, .inr (0, [.int v_p0_size, .int v_p0_way, .ref q_p0_led, .ref q_p0_turnedLed])), (q_p0_led, .inl (cI, 8, .inl f_p0_led))] H → va_D A [(q_p0, .inr (0, [.int v_p0_size, .int v_p0_way, .ref q_p0_led, .ref q_p0_turnedLed])), (q_p0_led, .inl (cI, 8, .inl f_p0_led))] → va_S A s.heap H locs → lv_has ls 3 [(0, .ref q_p0), (2, .int l2)] → W p l e { frames := 0, cells := 0, slots := 0, locals := 0 } s m args below meth c H locs 0 0 Q (F0 m 7 ls []) := by
    intro v_p0_size n7
    induction n7 with
    | zero =>
      intro l2 f_p0_led H locs ls h
      exact False.elim h
    | succ n7 ih7 =>
      intro l2 f_p0_led H locs ls h hP hD hS hl
      have h : M_X0_startWith_l7 x1 P v_p0_size (LP2 (M_X0_startWith_l7 x1 P v_p0_size) n7) l2 f_p0_led := h
      refine lv_iload_n hx hb dX0_startWith_7 rfl (lv_at hl 1 rfl) ?_
      refine lv_bipush (v := (8 : Int32)) hx hb dX0_startWith_8 (by decide) ?_
      refine lv_icmp_ge (tgt := 26) hx hb dX0_startWith_10 (by decide) (fun c1 => ?_) (fun c1 => ?_)
      · have h := And.left h c1
        exact z_vret hQ hx hb hr hlocks hK (v_p0_size, f_p0_led) h hP hD hS dX0_startWith_26
      · have h := And.right h c1
        refine lv_aload_n hx hb dX0_startWith_13 rfl (lv_at hl 0 rfl) ?_
        refine va_get (ci := 0) (C := RX0) (T := TX0) (N := 4) (v := .ref q_p0_led) hx hb hts hinX0 hown hK hP 0 rfl rfl 2 (by decide) hw1 (fun _ h9 => h9) rfl dX0_startWith_14 ?_
        refine lv_iload_n hx hb dX0_startWith_17 rfl (lv_at hl 1 rfl) ?_
        refine lv_iload_n hx hb dX0_startWith_18 rfl (lv_at hl 1 rfl) ?_
        obtain ⟨hi2, h⟩ := h
        refine z_iast (wn := [(q_p0, .inr (0, [.int v_p0_size, .int v_p0_way, .ref q_p0_led, .ref q_p0_turnedLed])), (q_p0_led, .inl (cI, 8, .inl (upd f_p0_led l2.toNatClampNeg l2)))]) hx hb hK hP hD hS 1 rfl hi2 dX0_startWith_19 rfl (fun H locs hP hD hS => ?_)
        refine lv_iinc (v := (l2 + 1)) (lv' := [(2, .int (l2 + 1)), (0, .ref q_p0)]) hx hb dX0_startWith_20 hl (k := 1) rfl rfl (by decide) rfl (fun ls hl => ?_)
        refine lv_goto (tgt := 7) hx hb dX0_startWith_23 (by decide) ?_
        exact ih7 (l2 + 1) (upd f_p0_led l2.toNatClampNeg l2) _ _ _ h hP hD hS (lv_sub hl [1, 0] rfl)
  obtain ⟨n7, h⟩ := h
  exact k7 x1 n7 (0 : Int32) f_p0_led _ _ _ h hP hD hS (lv_sub hl [1, 0] rfl)
theorem hd_X0_leadAll : yX0_leadAll.cls = RX0 ∧ yX0_leadAll.cls ≠ "java/lang/invoke/MethodHandle" ∧ yX0_leadAll.cls ≠ "java/lang/invoke/VarHandle" ∧ (parseMethodDescriptor yX0_leadAll.desc).map (fun d => d.parameters.length) = some 1 := by decide +kernel
set_option maxHeartbeats 4000000 in
set_option maxRecDepth 100000 in
theorem c_X0_leadAll (l : Launch) (D : va_G) (cI cJ cB : ClassId) (tU tM : Nat) (tS : tsT) (q_p0 q_p1 q_p0_led q_p0_turnedLed : Nat) (sz : Nat) (f_p1 : (Nat → Int32)) (f_p0_led : (Nat → Int32)) (v_p0_size : Int32) (v_p0_way : Int32) (P : (Nat → Int32) → Prop) (h : M_X0_leadAll f_p1 f_p0_led P) : Met l yX0_leadAll wsX0_leadAll ({ frames := 1, cells := 0, slots := 0, locals := 26 }) (va_Pc [.ref q_p0, .ref q_p1] (zPre D cI cJ cB tU tM tS [(q_p0, .inr (0, [.int v_p0_size, .int v_p0_way, .ref q_p0_led, .ref q_p0_turnedLed])), (q_p1, .inl (cI, 8, .inl f_p1)), (q_p0_led, .inl (cI, 8, .inl f_p0_led))] sz)) (va_Qv (fun u : (Nat → Int32) => P u) (fun u t => zPost D cI cJ cB (va_A [(q_p0, .inr (0, [.int v_p0_size, .int v_p0_way, .ref q_p0_led, .ref q_p0_turnedLed])), (q_p1, .inl (cI, 8, .inl f_p1)), (q_p0_led, .inl (cI, 8, .inl f_p0_led))] sz) [(q_p0, .inr (0, [.int v_p0_size, .int v_p0_way, .ref q_p0_led, .ref q_p0_turnedLed])), (q_p1, .inl (cI, 8, .inl f_p1)), (q_p0_led, .inl (cI, 8, .inl u))] t) (va_A [(q_p0, .inr (0, [.int v_p0_size, .int v_p0_way, .ref q_p0_led, .ref q_p0_turnedLed])), (q_p1, .inl (cI, 8, .inl f_p1)), (q_p0_led, .inl (cI, 8, .inl f_p0_led))] sz)) 0 0 (va_A [(q_p0, .inr (0, [.int v_p0_size, .int v_p0_way, .ref q_p0_led, .ref q_p0_turnedLed])), (q_p1, .inl (cI, 8, .inl f_p1)), (q_p0_led, .inl (cI, 8, .inl f_p0_led))] sz) := by
  refine z_met (cc := cX0_leadAll) (maxL := 2) (ret := none) (Qc := fun A => va_Qv (fun u : (Nat → Int32) => P u) (fun u t => zPost D cI cJ cB A [(q_p0, .inr (0, [.int v_p0_size, .int v_p0_way, .ref q_p0_led, .ref q_p0_turnedLed])), (q_p1, .inl (cI, 8, .inl f_p1)), (q_p0_led, .inl (cI, 8, .inl u))] t) A) (by decide) rfl [.ref q_p0, .ref q_p1] (Nat.le_of_ble_eq_true rfl) ?_
  intro p e s m args below meth c A hx hb hr hts hown hml hlocks hA hX hK H locs hP hD hS ls hl Q hQ
  have hown : s.vm.findClass RX0 = some m.cls := hown
  have hl : lv_has ls 2 [(0, .ref q_p0), (1, .ref q_p1)] := hl
  have hw0 : (Cond.fieldLink RX0 18 "ForcedRings$Chart" "led" "[I").before args s = true := hts _ (List.mem_of_getElem? (i := 1) rfl)
  have hw1 : (Cond.methodLink RX0 29 arraycopyName).before args s = true := hts _ (List.mem_of_getElem? (i := 2) rfl)
  have hw2 : (Cond.native arraycopyName).before args s = true := hts _ (List.mem_of_getElem? (i := 3) rfl)
  have hw3 : (Cond.static arraycopyName).before args s = true := hts _ (List.mem_of_getElem? (i := 4) rfl)
  have hw4 : (Cond.initialized "java/lang/System").before args s = true := hts _ (List.mem_of_getElem? (i := 5) rfl)
  have hinX0 : ∀ w ∈ wsX00, w ∈ wsX0_leadAll := fun _ h => List.mem_cons_of_mem _ (List.mem_append_right _ h)
  refine lv_aload_n hx hb dX0_leadAll_0 rfl (lv_at hl 1 rfl) ?_
  refine lv_iconst (v := (0 : Int32)) hx hb dX0_leadAll_1 (by decide) ?_
  refine lv_aload_n hx hb dX0_leadAll_2 rfl (lv_at hl 0 rfl) ?_
  refine va_get (ci := 0) (C := RX0) (T := TX0) (N := 4) (v := .ref q_p0_led) hx hb hts hinX0 hown hK hP 0 rfl rfl 2 (by decide) hw0 (fun _ h9 => h9) rfl dX0_leadAll_3 ?_
  refine lv_iconst (v := (0 : Int32)) hx hb dX0_leadAll_6 (by decide) ?_
  refine lv_bipush (v := (8 : Int32)) hx hb dX0_leadAll_7 (by decide) ?_
  obtain ⟨⟨ha1, hb1, hc1, hd1, he1⟩, h⟩ := h
  refine z_copyi (wn := [(q_p0, .inr (0, [.int v_p0_size, .int v_p0_way, .ref q_p0_led, .ref q_p0_turnedLed])), (q_p1, .inl (cI, 8, .inl f_p1)), (q_p0_led, .inl (cI, 8, .inl (va_cpy f_p1 f_p0_led (0 : Int32).toNatClampNeg (0 : Int32).toNatClampNeg (8 : Int32).toNatClampNeg)))]) hx hb (hml.trans hl.1.symm) hown hw1 hw2 hw3 hw4 hK hP hD hS 1 2 rfl rfl ha1 hb1 hc1 hd1 he1 (Nat.le_of_ble_eq_true rfl) (Nat.le_of_ble_eq_true rfl) dX0_leadAll_9 rfl (fun H locs hP hD hS => ?_)
  exact z_vret hQ hx hb hr hlocks hK (va_cpy f_p1 f_p0_led (0 : Int32).toNatClampNeg (0 : Int32).toNatClampNeg (8 : Int32).toNatClampNeg) h hP hD hS dX0_leadAll_12
theorem hd_X0_become : yX0_become.cls = RX0 ∧ yX0_become.cls ≠ "java/lang/invoke/MethodHandle" ∧ yX0_become.cls ≠ "java/lang/invoke/VarHandle" ∧ (parseMethodDescriptor yX0_become.desc).map (fun d => d.parameters.length) = some 1 := by decide +kernel
set_option maxHeartbeats 4000000 in
set_option maxRecDepth 100000 in
theorem c_X0_become (l : Launch) (D : va_G) (cI cJ cB : ClassId) (tU tM : Nat) (tS : tsT) (q_p0 q_p1 q_p0_led q_p0_turnedLed q_p1_led q_p1_turnedLed : Nat) (sz : Nat) (v_p1_size : Int32) (v_p0_size : Int32) (v_p1_way : Int32) (v_p0_way : Int32) (f_p1_led : (Nat → Int32)) (f_p0_led : (Nat → Int32))  (P : Int32 → Int32 → (Nat → Int32) → Prop) (h : M_X0_become v_p1_size v_p0_size v_p1_way v_p0_way f_p1_led f_p0_led P) : Met l yX0_become wsX0_become ({ frames := 2, cells := 0, slots := 0, locals := 47 }) (va_Pc [.ref q_p0, .ref q_p1] (zPre D cI cJ cB tU tM tS [(q_p0, .inr (0, [.int v_p0_size, .int v_p0_way, .ref q_p0_led, .ref q_p0_turnedLed])), (q_p1, .inr (0, [.int v_p1_size, .int v_p1_way, .ref q_p1_led, .ref q_p1_turnedLed])), (q_p0_led, .inl (cI, 8, .inl f_p0_led)), (q_p1_led, .inl (cI, 8, .inl f_p1_led))] sz)) (va_Qv (fun u : Int32 × Int32 × (Nat → Int32) => P u.1 u.2.1 u.2.2) (fun u t => zPost D cI cJ cB (va_A [(q_p0, .inr (0, [.int v_p0_size, .int v_p0_way, .ref q_p0_led, .ref q_p0_turnedLed])), (q_p1, .inr (0, [.int v_p1_size, .int v_p1_way, .ref q_p1_led, .ref q_p1_turnedLed])), (q_p0_led, .inl (cI, 8, .inl f_p0_led)), (q_p1_led, .inl (cI, 8, .inl f_p1_led))] sz) [(q_p0, .inr (0, [.int u.1, .int u.2.1, .ref q_p0_led, .ref q_p0_turnedLed])), (q_p1, .inr (0, [.int v_p1_size, .int v_p1_way, .ref q_p1_led, .ref q_p1_turnedLed])), (q_p0_led, .inl (cI, 8, .inl u.2.2)), (q_p1_led, .inl (cI, 8, .inl f_p1_led))] t) (va_A [(q_p0, .inr (0, [.int v_p0_size, .int v_p0_way, .ref q_p0_led, .ref q_p0_turnedLed])), (q_p1, .inr (0, [.int v_p1_size, .int v_p1_way, .ref q_p1_led, .ref q_p1_turnedLed])), (q_p0_led, .inl (cI, 8, .inl f_p0_led)), (q_p1_led, .inl (cI, 8, .inl f_p1_led))] sz)) 0 0 (va_A [(q_p0, .inr (0, [.int v_p0_size, .int v_p0_way, .ref q_p0_led, .ref q_p0_turnedLed])), (q_p1, .inr (0, [.int v_p1_size, .int v_p1_way, .ref q_p1_led, .ref q_p1_turnedLed])), (q_p0_led, .inl (cI, 8, .inl f_p0_led)), (q_p1_led, .inl (cI, 8, .inl f_p1_led))] sz) := by
  refine z_met (cc := cX0_become) (maxL := 2) (ret := none) (Qc := fun A => va_Qv (fun u : Int32 × Int32 × (Nat → Int32) => P u.1 u.2.1 u.2.2) (fun u t => zPost D cI cJ cB A [(q_p0, .inr (0, [.int u.1, .int u.2.1, .ref q_p0_led, .ref q_p0_turnedLed])), (q_p1, .inr (0, [.int v_p1_size, .int v_p1_way, .ref q_p1_led, .ref q_p1_turnedLed])), (q_p0_led, .inl (cI, 8, .inl u.2.2)), (q_p1_led, .inl (cI, 8, .inl f_p1_led))] t) A) (by decide) rfl [.ref q_p0, .ref q_p1] (Nat.le_of_ble_eq_true rfl) ?_
  intro p e s m args below meth c A hx hb hr hts hown hml hlocks hA hX hK H locs hP hD hS ls hl Q hQ
  have hown : s.vm.findClass RX0 = some m.cls := hown
  have hl : lv_has ls 2 [(0, .ref q_p0), (1, .ref q_p1)] := hl
  have hw0 : (Cond.fieldLink RX0 9 "ForcedRings$Chart" "size" "I").before args s = true := hts _ (List.mem_of_getElem? (i := 1) rfl)
  have hw1 : (Cond.fieldLink RX0 15 "ForcedRings$Chart" "way" "I").before args s = true := hts _ (List.mem_of_getElem? (i := 2) rfl)
  have hw2 : (Cond.fieldLink RX0 18 "ForcedRings$Chart" "led" "[I").before args s = true := hts _ (List.mem_of_getElem? (i := 3) rfl)
  have hinX0 : ∀ w ∈ wsX00, w ∈ wsX0_become := fun _ h => List.mem_cons_of_mem _ (List.mem_append_right _ h)
  refine lv_aload_n hx hb dX0_become_0 rfl (lv_at hl 0 rfl) ?_
  refine lv_aload_n hx hb dX0_become_1 rfl (lv_at hl 1 rfl) ?_
  refine va_get (ci := 0) (C := RX0) (T := TX0) (N := 4) (v := .int v_p1_size) hx hb hts hinX0 hown hK hP 1 rfl rfl 0 (by decide) hw0 (fun _ h9 => h9) rfl dX0_become_2 ?_
  refine z_put (ci := 0) (C := RX0) (T := TX0) (N := 4) (ty := .int) (wn := [(q_p0, .inr (0, [.int v_p1_size, .int v_p0_way, .ref q_p0_led, .ref q_p0_turnedLed])), (q_p1, .inr (0, [.int v_p1_size, .int v_p1_way, .ref q_p1_led, .ref q_p1_turnedLed])), (q_p0_led, .inl (cI, 8, .inl f_p0_led)), (q_p1_led, .inl (cI, 8, .inl f_p1_led))]) hx hb hts hinX0 tyX0 tyX0_ok nmX0 hown hK hP hD hS 0 rfl rfl 0 (by decide) hw0 (fun _ h9 => h9) rfl (by decide +kernel) rfl rfl (Nat.le_of_ble_eq_true rfl) dX0_become_5 rfl (fun H locs hP hD hS => ?_)
  refine lv_aload_n hx hb dX0_become_8 rfl (lv_at hl 0 rfl) ?_
  refine lv_aload_n hx hb dX0_become_9 rfl (lv_at hl 1 rfl) ?_
  refine va_get (ci := 0) (C := RX0) (T := TX0) (N := 4) (v := .int v_p1_way) hx hb hts hinX0 hown hK hP 1 rfl rfl 1 (by decide) hw1 (fun _ h9 => h9) rfl dX0_become_10 ?_
  refine z_put (ci := 0) (C := RX0) (T := TX0) (N := 4) (ty := .int) (wn := [(q_p0, .inr (0, [.int v_p1_size, .int v_p1_way, .ref q_p0_led, .ref q_p0_turnedLed])), (q_p1, .inr (0, [.int v_p1_size, .int v_p1_way, .ref q_p1_led, .ref q_p1_turnedLed])), (q_p0_led, .inl (cI, 8, .inl f_p0_led)), (q_p1_led, .inl (cI, 8, .inl f_p1_led))]) hx hb hts hinX0 tyX0 tyX0_ok nmX0 hown hK hP hD hS 0 rfl rfl 1 (by decide) hw1 (fun _ h9 => h9) rfl (by decide +kernel) rfl rfl (Nat.le_of_ble_eq_true rfl) dX0_become_13 rfl (fun H locs hP hD hS => ?_)
  refine lv_aload_n hx hb dX0_become_16 rfl (lv_at hl 0 rfl) ?_
  refine lv_aload_n hx hb dX0_become_17 rfl (lv_at hl 1 rfl) ?_
  refine va_get (ci := 0) (C := RX0) (T := TX0) (N := 4) (v := .ref q_p1_led) hx hb hts hinX0 hown hK hP 1 rfl rfl 2 (by decide) hw2 (fun _ h9 => h9) rfl dX0_become_18 ?_
  refine z_cVv (As := [.ref q_p1_led]) (rest := []) (wr := [(q_p1, .inr (0, [.int v_p1_size, .int v_p1_way, .ref q_p1_led, .ref q_p1_turnedLed]))]) (wn := fun u => [(q_p0, .inr (0, [.int v_p1_size, .int v_p1_way, .ref q_p0_led, .ref q_p0_turnedLed])), (q_p1, .inr (0, [.int v_p1_size, .int v_p1_way, .ref q_p1_led, .ref q_p1_turnedLed])), (q_p0_led, .inl (cI, 8, .inl u)), (q_p1_led, .inl (cI, 8, .inl f_p1_led))]) (c_X0_leadAll l D cI cJ cB tU tM tS q_p0 q_p1_led q_p0_led q_p0_turnedLed H.size f_p1_led f_p0_led v_p1_size v_p1_way _ h) ⟨hx, hb, hml, hown, hts⟩ (cwV 1 hts gX0_become_X0_leadAll rfl rfl rfl hd_X0_leadAll ⟨Nat.le_of_ble_eq_true rfl, Nat.le_of_ble_eq_true rfl⟩) hX hK hP hD hS hA [0, 3, 2] [1] [1, 0, 3, 2] rfl rfl rfl (by decide) (fun _ => rfl) (q0 := 0) (ci := 0) rfl rfl rfl hl.1 rfl (Nat.le_of_ble_eq_true rfl) ⟨Nat.le_refl _, Nat.le_refl _⟩ dX0_become_21 (fun m1_0 H locs h hP hD hS => ?_)
  exact z_vret hQ hx hb hr hlocks hK (v_p1_size, v_p1_way, m1_0) h hP hD hS dX0_become_24
theorem hd_X0_holds : yX0_holds.cls = RX0 ∧ yX0_holds.cls ≠ "java/lang/invoke/MethodHandle" ∧ yX0_holds.cls ≠ "java/lang/invoke/VarHandle" ∧ (parseMethodDescriptor yX0_holds.desc).map (fun d => d.parameters.length) = some 1 := by decide +kernel
set_option maxHeartbeats 4000000 in
set_option maxRecDepth 100000 in
theorem c_X0_holds (l : Launch) (D : va_G) (cI cJ cB : ClassId) (tU tM : Nat) (tS : tsT) (q_p0 q_p0_led q_p0_turnedLed : Nat) (sz : Nat) (x1 : Int32) (v_p0_size : Int32) (v_p0_way : Int32) (P : Int32 → Prop) (h : M_X0_holds x1 v_p0_size P) : Met l yX0_holds wsX0_holds ({ frames := 0, cells := 0, slots := 0, locals := 0 }) (va_Pc [.ref q_p0, .int x1] (zPre D cI cJ cB tU tM tS [(q_p0, .inr (0, [.int v_p0_size, .int v_p0_way, .ref q_p0_led, .ref q_p0_turnedLed]))] sz)) (va_Qi (fun (r : Int32) (u : Unit) => P r ) (fun u t => zPost D cI cJ cB (va_A [(q_p0, .inr (0, [.int v_p0_size, .int v_p0_way, .ref q_p0_led, .ref q_p0_turnedLed]))] sz) [(q_p0, .inr (0, [.int v_p0_size, .int v_p0_way, .ref q_p0_led, .ref q_p0_turnedLed]))] t) (va_A [(q_p0, .inr (0, [.int v_p0_size, .int v_p0_way, .ref q_p0_led, .ref q_p0_turnedLed]))] sz)) 0 0 (va_A [(q_p0, .inr (0, [.int v_p0_size, .int v_p0_way, .ref q_p0_led, .ref q_p0_turnedLed]))] sz) := by
  refine z_met (cc := cX0_holds) (maxL := 2) (ret := (some .boolean)) (Qc := fun A => va_Qi (fun (r : Int32) (u : Unit) => P r ) (fun u t => zPost D cI cJ cB A [(q_p0, .inr (0, [.int v_p0_size, .int v_p0_way, .ref q_p0_led, .ref q_p0_turnedLed]))] t) A) (by decide) rfl [.ref q_p0, .int x1] (Nat.le_of_ble_eq_true rfl) ?_
  intro p e s m args below meth c A hx hb hr hts hown hml hlocks hA hX hK H locs hP hD hS ls hl Q hQ
  have hown : s.vm.findClass RX0 = some m.cls := hown
  have hl : lv_has ls 2 [(0, .ref q_p0), (1, .int x1)] := hl
  have hw0 : (Cond.fieldLink RX0 9 "ForcedRings$Chart" "size" "I").before args s = true := hts _ (List.mem_of_getElem? (i := 1) rfl)
  have hinX0 : ∀ w ∈ wsX00, w ∈ wsX0_holds := fun _ h => List.mem_cons_of_mem _ (List.mem_append_right _ h)
  refine lv_iload_n hx hb dX0_holds_0 rfl (lv_at hl 1 rfl) ?_
  refine lv_if_lt (tgt := 16) hx hb dX0_holds_1 (by decide) (fun c1 => ?_) (fun c1 => ?_)
  · have h := And.left h c1
    refine lv_iconst (v := (0 : Int32)) hx hb dX0_holds_16 (by decide) ?_
    exact z_iret hQ hx hb hr rfl hlocks hK () h hP hD hS dX0_holds_17
  · have h := And.right h c1
    refine lv_iload_n hx hb dX0_holds_4 rfl (lv_at hl 1 rfl) ?_
    refine lv_aload_n hx hb dX0_holds_5 rfl (lv_at hl 0 rfl) ?_
    refine va_get (ci := 0) (C := RX0) (T := TX0) (N := 4) (v := .int v_p0_size) hx hb hts hinX0 hown hK hP 0 rfl rfl 0 (by decide) hw0 (fun _ h9 => h9) rfl dX0_holds_6 ?_
    refine lv_icmp_ge (tgt := 16) hx hb dX0_holds_9 (by decide) (fun c2 => ?_) (fun c2 => ?_)
    · have h := And.left h c2
      refine lv_iconst (v := (0 : Int32)) hx hb dX0_holds_16 (by decide) ?_
      exact z_iret hQ hx hb hr rfl hlocks hK () h hP hD hS dX0_holds_17
    · have h := And.right h c2
      refine lv_iconst (v := (1 : Int32)) hx hb dX0_holds_12 (by decide) ?_
      refine lv_goto (tgt := 17) hx hb dX0_holds_13 (by decide) ?_
      exact z_iret hQ hx hb hr rfl hlocks hK () h hP hD hS dX0_holds_17
theorem hd_X0_pieceNumber : yX0_pieceNumber.cls = RX0 ∧ yX0_pieceNumber.cls ≠ "java/lang/invoke/MethodHandle" ∧ yX0_pieceNumber.cls ≠ "java/lang/invoke/VarHandle" ∧ (parseMethodDescriptor yX0_pieceNumber.desc).map (fun d => d.parameters.length) = some 0 := by decide +kernel
set_option maxHeartbeats 4000000 in
set_option maxRecDepth 100000 in
theorem c_X0_pieceNumber (l : Launch) (D : va_G) (cI cJ cB : ClassId) (tU tM : Nat) (tS : tsT) (q_p0 q_p0_led q_p0_turnedLed : Nat) (sz : Nat) (v_p0_way : Int32) (v_p0_size : Int32)  (P : Int32 → Prop) (h : M_X0_pieceNumber v_p0_way v_p0_size P) : Met l yX0_pieceNumber wsX0_pieceNumber ({ frames := 0, cells := 0, slots := 0, locals := 0 }) (va_Pc [.ref q_p0] (zPre D cI cJ cB tU tM tS [(q_p0, .inr (0, [.int v_p0_size, .int v_p0_way, .ref q_p0_led, .ref q_p0_turnedLed]))] sz)) (va_Qi (fun (r : Int32) (u : Unit) => P r ) (fun u t => zPost D cI cJ cB (va_A [(q_p0, .inr (0, [.int v_p0_size, .int v_p0_way, .ref q_p0_led, .ref q_p0_turnedLed]))] sz) [(q_p0, .inr (0, [.int v_p0_size, .int v_p0_way, .ref q_p0_led, .ref q_p0_turnedLed]))] t) (va_A [(q_p0, .inr (0, [.int v_p0_size, .int v_p0_way, .ref q_p0_led, .ref q_p0_turnedLed]))] sz)) 0 0 (va_A [(q_p0, .inr (0, [.int v_p0_size, .int v_p0_way, .ref q_p0_led, .ref q_p0_turnedLed]))] sz) := by
  refine z_met (cc := cX0_pieceNumber) (maxL := 1) (ret := (some .int)) (Qc := fun A => va_Qi (fun (r : Int32) (u : Unit) => P r ) (fun u t => zPost D cI cJ cB A [(q_p0, .inr (0, [.int v_p0_size, .int v_p0_way, .ref q_p0_led, .ref q_p0_turnedLed]))] t) A) (by decide) rfl [.ref q_p0] (Nat.le_of_ble_eq_true rfl) ?_
  intro p e s m args below meth c A hx hb hr hts hown hml hlocks hA hX hK H locs hP hD hS ls hl Q hQ
  have hown : s.vm.findClass RX0 = some m.cls := hown
  have hl : lv_has ls 1 [(0, .ref q_p0)] := hl
  have hw0 : (Cond.fieldLink RX0 15 "ForcedRings$Chart" "way" "I").before args s = true := hts _ (List.mem_of_getElem? (i := 1) rfl)
  have hw1 : (Cond.fieldLink RX0 9 "ForcedRings$Chart" "size" "I").before args s = true := hts _ (List.mem_of_getElem? (i := 2) rfl)
  have hinX0 : ∀ w ∈ wsX00, w ∈ wsX0_pieceNumber := fun _ h => List.mem_cons_of_mem _ (List.mem_append_right _ h)
  refine lv_aload_n hx hb dX0_pieceNumber_0 rfl (lv_at hl 0 rfl) ?_
  refine va_get (ci := 0) (C := RX0) (T := TX0) (N := 4) (v := .int v_p0_way) hx hb hts hinX0 hown hK hP 0 rfl rfl 1 (by decide) hw0 (fun _ h9 => h9) rfl dX0_pieceNumber_1 ?_
  refine lv_iconst (v := (1 : Int32)) hx hb dX0_pieceNumber_4 (by decide) ?_
  refine lv_icmp_ne (tgt := 15) hx hb dX0_pieceNumber_5 (by decide) (fun c1 => ?_) (fun c1 => ?_)
  · have h := And.right h c1
    refine lv_aload_n hx hb dX0_pieceNumber_15 rfl (lv_at hl 0 rfl) ?_
    refine va_get (ci := 0) (C := RX0) (T := TX0) (N := 4) (v := .int v_p0_size) hx hb hts hinX0 hown hK hP 0 rfl rfl 0 (by decide) hw1 (fun _ h9 => h9) rfl dX0_pieceNumber_16 ?_
    refine lv_iconst (v := (1 : Int32)) hx hb dX0_pieceNumber_19 (by decide) ?_
    refine lv_isub hx hb dX0_pieceNumber_20 ?_
    exact z_iret hQ hx hb hr rfl hlocks hK () h hP hD hS dX0_pieceNumber_21
  · have h := And.left h c1
    refine lv_aload_n hx hb dX0_pieceNumber_8 rfl (lv_at hl 0 rfl) ?_
    refine va_get (ci := 0) (C := RX0) (T := TX0) (N := 4) (v := .int v_p0_size) hx hb hts hinX0 hown hK hP 0 rfl rfl 0 (by decide) hw1 (fun _ h9 => h9) rfl dX0_pieceNumber_9 ?_
    refine lv_goto (tgt := 21) hx hb dX0_pieceNumber_12 (by decide) ?_
    exact z_iret hQ hx hb hr rfl hlocks hK () h hP hD hS dX0_pieceNumber_21
theorem hd_X0_figures : yX0_figures.cls = RX0 ∧ yX0_figures.cls ≠ "java/lang/invoke/MethodHandle" ∧ yX0_figures.cls ≠ "java/lang/invoke/VarHandle" ∧ (parseMethodDescriptor yX0_figures.desc).map (fun d => d.parameters.length) = some 0 := by decide +kernel
set_option maxHeartbeats 4000000 in
set_option maxRecDepth 100000 in
theorem c_X0_figures (l : Launch) (D : va_G) (cI cJ cB : ClassId) (tU tM : Nat) (tS : tsT) (q_p0 q_p0_led q_p0_turnedLed : Nat) (sz : Nat) (v_p0_size : Int32) (f_p0_led : (Nat → Int32)) (v_p0_way : Int32) (P : Int32 → Prop) (h : M_X0_figures v_p0_size f_p0_led P) : Met l yX0_figures wsX0_figures ({ frames := 0, cells := 0, slots := 0, locals := 0 }) (va_Pc [.ref q_p0] (zPre D cI cJ cB tU tM tS [(q_p0, .inr (0, [.int v_p0_size, .int v_p0_way, .ref q_p0_led, .ref q_p0_turnedLed])), (q_p0_led, .inl (cI, 8, .inl f_p0_led))] sz)) (va_Qi (fun (r : Int32) (u : Unit) => P r ) (fun u t => zPost D cI cJ cB (va_A [(q_p0, .inr (0, [.int v_p0_size, .int v_p0_way, .ref q_p0_led, .ref q_p0_turnedLed])), (q_p0_led, .inl (cI, 8, .inl f_p0_led))] sz) [(q_p0, .inr (0, [.int v_p0_size, .int v_p0_way, .ref q_p0_led, .ref q_p0_turnedLed])), (q_p0_led, .inl (cI, 8, .inl f_p0_led))] t) (va_A [(q_p0, .inr (0, [.int v_p0_size, .int v_p0_way, .ref q_p0_led, .ref q_p0_turnedLed])), (q_p0_led, .inl (cI, 8, .inl f_p0_led))] sz)) 0 0 (va_A [(q_p0, .inr (0, [.int v_p0_size, .int v_p0_way, .ref q_p0_led, .ref q_p0_turnedLed])), (q_p0_led, .inl (cI, 8, .inl f_p0_led))] sz) := by
  refine z_met (cc := cX0_figures) (maxL := 3) (ret := (some .int)) (Qc := fun A => va_Qi (fun (r : Int32) (u : Unit) => P r ) (fun u t => zPost D cI cJ cB A [(q_p0, .inr (0, [.int v_p0_size, .int v_p0_way, .ref q_p0_led, .ref q_p0_turnedLed])), (q_p0_led, .inl (cI, 8, .inl f_p0_led))] t) A) (by decide) rfl [.ref q_p0] (Nat.le_of_ble_eq_true rfl) ?_
  intro p e s m args below meth c A hx hb hr hts hown hml hlocks hA hX hK H locs hP hD hS ls hl Q hQ
  have hown : s.vm.findClass RX0 = some m.cls := hown
  have hl : lv_has ls 3 [(0, .ref q_p0)] := hl
  have hw0 : (Cond.fieldLink RX0 9 "ForcedRings$Chart" "size" "I").before args s = true := hts _ (List.mem_of_getElem? (i := 1) rfl)
  have hw1 : (Cond.fieldLink RX0 18 "ForcedRings$Chart" "led" "[I").before args s = true := hts _ (List.mem_of_getElem? (i := 2) rfl)
  have hinX0 : ∀ w ∈ wsX00, w ∈ wsX0_figures := fun _ h => List.mem_cons_of_mem _ (List.mem_append_right _ h)
  refine lv_iconst (v := (0 : Int32)) hx hb dX0_figures_0 (by decide) ?_
  refine lv_istore_n (lv' := [(1, .int (0 : Int32)), (0, .ref q_p0)]) hx hb dX0_figures_1 rfl hl (by decide) rfl (fun ls hl => ?_)
  refine lv_iconst (v := (0 : Int32)) hx hb dX0_figures_2 (by decide) ?_
  refine lv_istore_n (lv' := [(2, .int (0 : Int32)), (1, .int (0 : Int32)), (0, .ref q_p0)]) hx hb dX0_figures_3 rfl hl (by decide) rfl (fun ls hl => ?_)
  have k4 : ∀  (n4 : Nat) (l1 : Int32) (l2 : Int32) (H : Heap) (locs : List Loc) (ls : Array Slot), LP2 (M_X0_figures_l4 v_p0_size f_p0_led P ) n4 l1 l2 → va_P D vwCl [(q_p0, .inr (0, [.int v_p0_size, .int v_p0_way, .ref q_p0_led, .ref q_p0_turnedLed])), (q_p0_led, .inl (cI, 8, .inl f_p0_led))] H → va_D A [(q_p0, .inr (0, [.int v_p0_size, .int v_p0_way, .ref q_p0_led, .ref q_p0_turnedLed])), (q_p0_led, .inl (cI, 8, .inl f_p0_led))] → va_S A s.heap H locs → lv_has ls 3 [(0, .ref q_p0), (1, .int l1), (2, .int l2)] → W p l e { frames := 0, cells := 0, slots := 0, locals := 0 } s m args below meth c H locs 0 0 Q (F0 m 4 ls []) := by
    intro  n4
    induction n4 with
    | zero =>
      intro l1 l2 H locs ls h
      exact False.elim h
    | succ n4 ih4 =>
      intro l1 l2 H locs ls h hP hD hS hl
      have h : M_X0_figures_l4 v_p0_size f_p0_led P  (LP2 (M_X0_figures_l4 v_p0_size f_p0_led P ) n4) l1 l2 := h
      refine lv_iload_n hx hb dX0_figures_4 rfl (lv_at hl 2 rfl) ?_
      refine lv_aload_n hx hb dX0_figures_5 rfl (lv_at hl 0 rfl) ?_
      refine va_get (ci := 0) (C := RX0) (T := TX0) (N := 4) (v := .int v_p0_size) hx hb hts hinX0 hown hK hP 0 rfl rfl 0 (by decide) hw0 (fun _ h9 => h9) rfl dX0_figures_6 ?_
      refine lv_icmp_ge (tgt := 30) hx hb dX0_figures_9 (by decide) (fun c1 => ?_) (fun c1 => ?_)
      · have h := And.left h c1
        refine lv_iload_n hx hb dX0_figures_30 rfl (lv_at hl 1 rfl) ?_
        exact z_iret hQ hx hb hr rfl hlocks hK () h hP hD hS dX0_figures_31
      · have h := And.right h c1
        refine lv_iload_n hx hb dX0_figures_12 rfl (lv_at hl 1 rfl) ?_
        refine lv_bipush (v := (10 : Int32)) hx hb dX0_figures_13 (by decide) ?_
        refine lv_imul hx hb dX0_figures_15 ?_
        refine lv_aload_n hx hb dX0_figures_16 rfl (lv_at hl 0 rfl) ?_
        refine va_get (ci := 0) (C := RX0) (T := TX0) (N := 4) (v := .ref q_p0_led) hx hb hts hinX0 hown hK hP 0 rfl rfl 2 (by decide) hw1 (fun _ h9 => h9) rfl dX0_figures_17 ?_
        refine lv_iload_n hx hb dX0_figures_20 rfl (lv_at hl 2 rfl) ?_
        obtain ⟨hi2, h⟩ := h
        refine va_iald hx hb hK hP 1 0 rfl rfl hi2 dX0_figures_21 ?_
        refine lv_iadd hx hb dX0_figures_22 ?_
        refine lv_istore_n (lv' := [(1, .int ((l1 * (10 : Int32)) + (f_p0_led l2.toNatClampNeg))), (0, .ref q_p0), (2, .int l2)]) hx hb dX0_figures_23 rfl hl (by decide) rfl (fun ls hl => ?_)
        refine lv_iinc (v := (l2 + 1)) (lv' := [(2, .int (l2 + 1)), (1, .int ((l1 * (10 : Int32)) + (f_p0_led l2.toNatClampNeg))), (0, .ref q_p0)]) hx hb dX0_figures_24 hl (k := 2) rfl rfl (by decide) rfl (fun ls hl => ?_)
        refine lv_goto (tgt := 4) hx hb dX0_figures_27 (by decide) ?_
        exact ih4 ((l1 * (10 : Int32)) + (f_p0_led l2.toNatClampNeg)) (l2 + 1) _ _ _ h hP hD hS (lv_sub hl [2, 1, 0] rfl)
  obtain ⟨n4, h⟩ := h
  exact k4  n4 (0 : Int32) (0 : Int32) _ _ _ h hP hD hS (lv_sub hl [2, 1, 0] rfl)
theorem hd_X0_packed : yX0_packed.cls = RX0 ∧ yX0_packed.cls ≠ "java/lang/invoke/MethodHandle" ∧ yX0_packed.cls ≠ "java/lang/invoke/VarHandle" ∧ (parseMethodDescriptor yX0_packed.desc).map (fun d => d.parameters.length) = some 0 := by decide +kernel
set_option maxHeartbeats 4000000 in
set_option maxRecDepth 100000 in
theorem c_X0_packed (l : Launch) (D : va_G) (cI cJ cB : ClassId) (tU tM : Nat) (tS : tsT) (q_p0 q_p0_led q_p0_turnedLed : Nat) (sz : Nat) (f_p0_led : (Nat → Int32)) (v_p0_size : Int32) (v_p0_way : Int32) (P : Int32 → Prop) (h : M_X0_packed f_p0_led P) : Met l yX0_packed wsX0_packed ({ frames := 0, cells := 0, slots := 0, locals := 0 }) (va_Pc [.ref q_p0] (zPre D cI cJ cB tU tM tS [(q_p0, .inr (0, [.int v_p0_size, .int v_p0_way, .ref q_p0_led, .ref q_p0_turnedLed])), (q_p0_led, .inl (cI, 8, .inl f_p0_led))] sz)) (va_Qi (fun (r : Int32) (u : Unit) => P r ) (fun u t => zPost D cI cJ cB (va_A [(q_p0, .inr (0, [.int v_p0_size, .int v_p0_way, .ref q_p0_led, .ref q_p0_turnedLed])), (q_p0_led, .inl (cI, 8, .inl f_p0_led))] sz) [(q_p0, .inr (0, [.int v_p0_size, .int v_p0_way, .ref q_p0_led, .ref q_p0_turnedLed])), (q_p0_led, .inl (cI, 8, .inl f_p0_led))] t) (va_A [(q_p0, .inr (0, [.int v_p0_size, .int v_p0_way, .ref q_p0_led, .ref q_p0_turnedLed])), (q_p0_led, .inl (cI, 8, .inl f_p0_led))] sz)) 0 0 (va_A [(q_p0, .inr (0, [.int v_p0_size, .int v_p0_way, .ref q_p0_led, .ref q_p0_turnedLed])), (q_p0_led, .inl (cI, 8, .inl f_p0_led))] sz) := by
  refine z_met (cc := cX0_packed) (maxL := 3) (ret := (some .int)) (Qc := fun A => va_Qi (fun (r : Int32) (u : Unit) => P r ) (fun u t => zPost D cI cJ cB A [(q_p0, .inr (0, [.int v_p0_size, .int v_p0_way, .ref q_p0_led, .ref q_p0_turnedLed])), (q_p0_led, .inl (cI, 8, .inl f_p0_led))] t) A) (by decide) rfl [.ref q_p0] (Nat.le_of_ble_eq_true rfl) ?_
  intro p e s m args below meth c A hx hb hr hts hown hml hlocks hA hX hK H locs hP hD hS ls hl Q hQ
  have hown : s.vm.findClass RX0 = some m.cls := hown
  have hl : lv_has ls 3 [(0, .ref q_p0)] := hl
  have hw0 : (Cond.fieldLink RX0 18 "ForcedRings$Chart" "led" "[I").before args s = true := hts _ (List.mem_of_getElem? (i := 1) rfl)
  have hinX0 : ∀ w ∈ wsX00, w ∈ wsX0_packed := fun _ h => List.mem_cons_of_mem _ (List.mem_append_right _ h)
  refine lv_iconst (v := (0 : Int32)) hx hb dX0_packed_0 (by decide) ?_
  refine lv_istore_n (lv' := [(1, .int (0 : Int32)), (0, .ref q_p0)]) hx hb dX0_packed_1 rfl hl (by decide) rfl (fun ls hl => ?_)
  refine lv_bipush (v := (7 : Int32)) hx hb dX0_packed_2 (by decide) ?_
  refine lv_istore_n (lv' := [(2, .int (7 : Int32)), (1, .int (0 : Int32)), (0, .ref q_p0)]) hx hb dX0_packed_4 rfl hl (by decide) rfl (fun ls hl => ?_)
  have k5 : ∀  (n5 : Nat) (l1 : Int32) (l2 : Int32) (H : Heap) (locs : List Loc) (ls : Array Slot), LP2 (M_X0_packed_l5 f_p0_led P ) n5 l1 l2 → va_P D vwCl [(q_p0, .inr (0, [.int v_p0_size, .int v_p0_way, .ref q_p0_led, .ref q_p0_turnedLed])), (q_p0_led, .inl (cI, 8, .inl f_p0_led))] H → va_D A [(q_p0, .inr (0, [.int v_p0_size, .int v_p0_way, .ref q_p0_led, .ref q_p0_turnedLed])), (q_p0_led, .inl (cI, 8, .inl f_p0_led))] → va_S A s.heap H locs → lv_has ls 3 [(0, .ref q_p0), (1, .int l1), (2, .int l2)] → W p l e { frames := 0, cells := 0, slots := 0, locals := 0 } s m args below meth c H locs 0 0 Q (F0 m 5 ls []) := by
    intro  n5
    induction n5 with
    | zero =>
      intro l1 l2 H locs ls h
      exact False.elim h
    | succ n5 ih5 =>
      intro l1 l2 H locs ls h hP hD hS hl
      have h : M_X0_packed_l5 f_p0_led P  (LP2 (M_X0_packed_l5 f_p0_led P ) n5) l1 l2 := h
      refine lv_iload_n hx hb dX0_packed_5 rfl (lv_at hl 2 rfl) ?_
      refine lv_if_lt (tgt := 26) hx hb dX0_packed_6 (by decide) (fun c1 => ?_) (fun c1 => ?_)
      · have h := And.left h c1
        refine lv_iload_n hx hb dX0_packed_26 rfl (lv_at hl 1 rfl) ?_
        exact z_iret hQ hx hb hr rfl hlocks hK () h hP hD hS dX0_packed_27
      · have h := And.right h c1
        refine lv_iload_n hx hb dX0_packed_9 rfl (lv_at hl 1 rfl) ?_
        refine lv_iconst (v := (3 : Int32)) hx hb dX0_packed_10 (by decide) ?_
        refine lv_ishl hx hb dX0_packed_11 ?_
        refine lv_aload_n hx hb dX0_packed_12 rfl (lv_at hl 0 rfl) ?_
        refine va_get (ci := 0) (C := RX0) (T := TX0) (N := 4) (v := .ref q_p0_led) hx hb hts hinX0 hown hK hP 0 rfl rfl 2 (by decide) hw0 (fun _ h9 => h9) rfl dX0_packed_13 ?_
        refine lv_iload_n hx hb dX0_packed_16 rfl (lv_at hl 2 rfl) ?_
        obtain ⟨hi2, h⟩ := h
        refine va_iald hx hb hK hP 1 0 rfl rfl hi2 dX0_packed_17 ?_
        refine lv_ior hx hb dX0_packed_18 ?_
        refine lv_topi (fun y3 ey3 => ?_)
        have h := h y3 ey3
        refine lv_istore_n (lv' := [(1, .int y3), (0, .ref q_p0), (2, .int l2)]) hx hb dX0_packed_19 rfl hl (by decide) rfl (fun ls hl => ?_)
        refine lv_iinc (v := (l2 + (-1))) (lv' := [(2, .int (l2 + (-1))), (1, .int y3), (0, .ref q_p0)]) hx hb dX0_packed_20 hl (k := 2) rfl rfl (by decide) rfl (fun ls hl => ?_)
        refine lv_goto (tgt := 5) hx hb dX0_packed_23 (by decide) ?_
        exact ih5 y3 (l2 + (-1)) _ _ _ h hP hD hS (lv_sub hl [2, 1, 0] rfl)
  obtain ⟨n5, h⟩ := h
  exact k5  n5 (0 : Int32) (7 : Int32) _ _ _ h hP hD hS (lv_sub hl [2, 1, 0] rfl)
theorem hd_X0_unpack : yX0_unpack.cls = RX0 ∧ yX0_unpack.cls ≠ "java/lang/invoke/MethodHandle" ∧ yX0_unpack.cls ≠ "java/lang/invoke/VarHandle" ∧ (parseMethodDescriptor yX0_unpack.desc).map (fun d => d.parameters.length) = some 1 := by decide +kernel
set_option maxHeartbeats 4000000 in
set_option maxRecDepth 100000 in
theorem c_X0_unpack (l : Launch) (D : va_G) (cI cJ cB : ClassId) (tU tM : Nat) (tS : tsT) (q_p0 q_p0_led q_p0_turnedLed : Nat) (sz : Nat) (x1 : Int32) (f_p0_led : (Nat → Int32)) (v_p0_size : Int32) (v_p0_way : Int32) (P : (Nat → Int32) → Prop) (h : M_X0_unpack x1 f_p0_led P) : Met l yX0_unpack wsX0_unpack ({ frames := 0, cells := 0, slots := 0, locals := 0 }) (va_Pc [.ref q_p0, .int x1] (zPre D cI cJ cB tU tM tS [(q_p0, .inr (0, [.int v_p0_size, .int v_p0_way, .ref q_p0_led, .ref q_p0_turnedLed])), (q_p0_led, .inl (cI, 8, .inl f_p0_led))] sz)) (va_Qv (fun u : (Nat → Int32) => P u) (fun u t => zPost D cI cJ cB (va_A [(q_p0, .inr (0, [.int v_p0_size, .int v_p0_way, .ref q_p0_led, .ref q_p0_turnedLed])), (q_p0_led, .inl (cI, 8, .inl f_p0_led))] sz) [(q_p0, .inr (0, [.int v_p0_size, .int v_p0_way, .ref q_p0_led, .ref q_p0_turnedLed])), (q_p0_led, .inl (cI, 8, .inl u))] t) (va_A [(q_p0, .inr (0, [.int v_p0_size, .int v_p0_way, .ref q_p0_led, .ref q_p0_turnedLed])), (q_p0_led, .inl (cI, 8, .inl f_p0_led))] sz)) 0 0 (va_A [(q_p0, .inr (0, [.int v_p0_size, .int v_p0_way, .ref q_p0_led, .ref q_p0_turnedLed])), (q_p0_led, .inl (cI, 8, .inl f_p0_led))] sz) := by
  refine z_met (cc := cX0_unpack) (maxL := 3) (ret := none) (Qc := fun A => va_Qv (fun u : (Nat → Int32) => P u) (fun u t => zPost D cI cJ cB A [(q_p0, .inr (0, [.int v_p0_size, .int v_p0_way, .ref q_p0_led, .ref q_p0_turnedLed])), (q_p0_led, .inl (cI, 8, .inl u))] t) A) (by decide) rfl [.ref q_p0, .int x1] (Nat.le_of_ble_eq_true rfl) ?_
  intro p e s m args below meth c A hx hb hr hts hown hml hlocks hA hX hK H locs hP hD hS ls hl Q hQ
  have hown : s.vm.findClass RX0 = some m.cls := hown
  have hl : lv_has ls 3 [(0, .ref q_p0), (1, .int x1)] := hl
  have hw0 : (Cond.fieldLink RX0 18 "ForcedRings$Chart" "led" "[I").before args s = true := hts _ (List.mem_of_getElem? (i := 1) rfl)
  have hinX0 : ∀ w ∈ wsX00, w ∈ wsX0_unpack := fun _ h => List.mem_cons_of_mem _ (List.mem_append_right _ h)
  refine lv_iconst (v := (0 : Int32)) hx hb dX0_unpack_0 (by decide) ?_
  refine lv_istore_n (lv' := [(2, .int (0 : Int32)), (0, .ref q_p0), (1, .int x1)]) hx hb dX0_unpack_1 rfl hl (by decide) rfl (fun ls hl => ?_)
  have k2 : ∀  (n2 : Nat) (l2 : Int32) (f_p0_led : (Nat → Int32)) (H : Heap) (locs : List Loc) (ls : Array Slot), LP2 (M_X0_unpack_l2 x1 P ) n2 l2 f_p0_led → va_P D vwCl [(q_p0, .inr (0, [.int v_p0_size, .int v_p0_way, .ref q_p0_led, .ref q_p0_turnedLed])), (q_p0_led, .inl (cI, 8, .inl f_p0_led))] H → va_D A [(q_p0, .inr (0, [.int v_p0_size, .int v_p0_way, .ref q_p0_led, .ref q_p0_turnedLed])), (q_p0_led, .inl (cI, 8, .inl f_p0_led))] → va_S A s.heap H locs → lv_has ls 3 [(0, .ref q_p0), (1, .int x1), (2, .int l2)] → W p l e { frames := 0, cells := 0, slots := 0, locals := 0 } s m args below meth c H locs 0 0 Q (F0 m 2 ls []) := by
    intro  n2
    induction n2 with
    | zero =>
      intro l2 f_p0_led H locs ls h
      exact False.elim h
    | succ n2 ih2 =>
      intro l2 f_p0_led H locs ls h hP hD hS hl
      have h : M_X0_unpack_l2 x1 P  (LP2 (M_X0_unpack_l2 x1 P ) n2) l2 f_p0_led := h
      refine lv_iload_n hx hb dX0_unpack_2 rfl (lv_at hl 2 rfl) ?_
      refine lv_bipush (v := (8 : Int32)) hx hb dX0_unpack_3 (by decide) ?_
      refine lv_icmp_ge (tgt := 28) hx hb dX0_unpack_5 (by decide) (fun c1 => ?_) (fun c1 => ?_)
      · have h := And.left h c1
        exact z_vret hQ hx hb hr hlocks hK f_p0_led h hP hD hS dX0_unpack_28
      · have h := And.right h c1
        refine lv_aload_n hx hb dX0_unpack_8 rfl (lv_at hl 0 rfl) ?_
        refine va_get (ci := 0) (C := RX0) (T := TX0) (N := 4) (v := .ref q_p0_led) hx hb hts hinX0 hown hK hP 0 rfl rfl 2 (by decide) hw0 (fun _ h9 => h9) rfl dX0_unpack_9 ?_
        refine lv_iload_n hx hb dX0_unpack_12 rfl (lv_at hl 2 rfl) ?_
        refine lv_iload_n hx hb dX0_unpack_13 rfl (lv_at hl 1 rfl) ?_
        refine lv_iload_n hx hb dX0_unpack_14 rfl (lv_at hl 2 rfl) ?_
        refine lv_iconst (v := (3 : Int32)) hx hb dX0_unpack_15 (by decide) ?_
        refine lv_imul hx hb dX0_unpack_16 ?_
        refine lv_ishr hx hb dX0_unpack_17 ?_
        refine lv_bipush (v := (7 : Int32)) hx hb dX0_unpack_18 (by decide) ?_
        refine lv_iand hx hb dX0_unpack_20 ?_
        obtain ⟨hi2, h⟩ := h
        refine z_iast (wn := [(q_p0, .inr (0, [.int v_p0_size, .int v_p0_way, .ref q_p0_led, .ref q_p0_turnedLed])), (q_p0_led, .inl (cI, 8, .inl (upd f_p0_led l2.toNatClampNeg ((x1 >>> ((l2 * (3 : Int32)) &&& 31)) &&& (7 : Int32)))))]) hx hb hK hP hD hS 1 rfl hi2 dX0_unpack_21 rfl (fun H locs hP hD hS => ?_)
        refine lv_iinc (v := (l2 + 1)) (lv' := [(2, .int (l2 + 1)), (0, .ref q_p0), (1, .int x1)]) hx hb dX0_unpack_22 hl (k := 2) rfl rfl (by decide) rfl (fun ls hl => ?_)
        refine lv_goto (tgt := 2) hx hb dX0_unpack_25 (by decide) ?_
        exact ih2 (l2 + 1) (upd f_p0_led l2.toNatClampNeg ((x1 >>> ((l2 * (3 : Int32)) &&& 31)) &&& (7 : Int32))) _ _ _ h hP hD hS (lv_sub hl [1, 2, 0] rfl)
  obtain ⟨n2, h⟩ := h
  exact k2  n2 (0 : Int32) f_p0_led _ _ _ h hP hD hS (lv_sub hl [1, 2, 0] rfl)
theorem hd_X0_ringBits : yX0_ringBits.cls = RX0 ∧ yX0_ringBits.cls ≠ "java/lang/invoke/MethodHandle" ∧ yX0_ringBits.cls ≠ "java/lang/invoke/VarHandle" ∧ (parseMethodDescriptor yX0_ringBits.desc).map (fun d => d.parameters.length) = some 1 := by decide +kernel
set_option maxHeartbeats 4000000 in
set_option maxRecDepth 100000 in
theorem c_X0_ringBits (l : Launch) (D : va_G) (cI cJ cB : ClassId) (tU tM : Nat) (tS : tsT) (q_p0 q_p0_led q_p0_turnedLed : Nat) (sz : Nat) (x1 : Int32) (v_p0_size : Int32) (f_p0_led : (Nat → Int32)) (v_p0_way : Int32) (P : Int32 → Prop) (h : M_X0_ringBits x1 v_p0_size f_p0_led P) : Met l yX0_ringBits wsX0_ringBits ({ frames := 0, cells := 0, slots := 0, locals := 0 }) (va_Pc [.ref q_p0, .int x1] (zPre D cI cJ cB tU tM tS [(q_p0, .inr (0, [.int v_p0_size, .int v_p0_way, .ref q_p0_led, .ref q_p0_turnedLed])), (q_p0_led, .inl (cI, 8, .inl f_p0_led))] sz)) (va_Qi (fun (r : Int32) (u : Unit) => P r ) (fun u t => zPost D cI cJ cB (va_A [(q_p0, .inr (0, [.int v_p0_size, .int v_p0_way, .ref q_p0_led, .ref q_p0_turnedLed])), (q_p0_led, .inl (cI, 8, .inl f_p0_led))] sz) [(q_p0, .inr (0, [.int v_p0_size, .int v_p0_way, .ref q_p0_led, .ref q_p0_turnedLed])), (q_p0_led, .inl (cI, 8, .inl f_p0_led))] t) (va_A [(q_p0, .inr (0, [.int v_p0_size, .int v_p0_way, .ref q_p0_led, .ref q_p0_turnedLed])), (q_p0_led, .inl (cI, 8, .inl f_p0_led))] sz)) 0 0 (va_A [(q_p0, .inr (0, [.int v_p0_size, .int v_p0_way, .ref q_p0_led, .ref q_p0_turnedLed])), (q_p0_led, .inl (cI, 8, .inl f_p0_led))] sz) := by
  refine z_met (cc := cX0_ringBits) (maxL := 5) (ret := (some .int)) (Qc := fun A => va_Qi (fun (r : Int32) (u : Unit) => P r ) (fun u t => zPost D cI cJ cB A [(q_p0, .inr (0, [.int v_p0_size, .int v_p0_way, .ref q_p0_led, .ref q_p0_turnedLed])), (q_p0_led, .inl (cI, 8, .inl f_p0_led))] t) A) (by decide) rfl [.ref q_p0, .int x1] (Nat.le_of_ble_eq_true rfl) ?_
  intro p e s m args below meth c A hx hb hr hts hown hml hlocks hA hX hK H locs hP hD hS ls hl Q hQ
  have hown : s.vm.findClass RX0 = some m.cls := hown
  have hl : lv_has ls 5 [(0, .ref q_p0), (1, .int x1)] := hl
  have hw0 : (Cond.fieldLink RX0 9 "ForcedRings$Chart" "size" "I").before args s = true := hts _ (List.mem_of_getElem? (i := 1) rfl)
  have hw1 : (Cond.fieldLink RX0 18 "ForcedRings$Chart" "led" "[I").before args s = true := hts _ (List.mem_of_getElem? (i := 2) rfl)
  have hinX0 : ∀ w ∈ wsX00, w ∈ wsX0_ringBits := fun _ h => List.mem_cons_of_mem _ (List.mem_append_right _ h)
  refine lv_iload_n hx hb dX0_ringBits_0 rfl (lv_at hl 1 rfl) ?_
  refine lv_istore_n (lv' := [(2, .int x1), (0, .ref q_p0), (1, .int x1)]) hx hb dX0_ringBits_1 rfl hl (by decide) rfl (fun ls hl => ?_)
  refine lv_iconst (v := (0 : Int32)) hx hb dX0_ringBits_2 (by decide) ?_
  refine lv_istore_n (lv' := [(3, .int (0 : Int32)), (2, .int x1), (0, .ref q_p0), (1, .int x1)]) hx hb dX0_ringBits_3 rfl hl (by decide) rfl (fun ls hl => ?_)
  have k4 : ∀  (n4 : Nat) (l2 : Int32) (l3 : Int32) (H : Heap) (locs : List Loc) (ls : Array Slot), LP2 (M_X0_ringBits_l4 x1 v_p0_size f_p0_led P ) n4 l2 l3 → va_P D vwCl [(q_p0, .inr (0, [.int v_p0_size, .int v_p0_way, .ref q_p0_led, .ref q_p0_turnedLed])), (q_p0_led, .inl (cI, 8, .inl f_p0_led))] H → va_D A [(q_p0, .inr (0, [.int v_p0_size, .int v_p0_way, .ref q_p0_led, .ref q_p0_turnedLed])), (q_p0_led, .inl (cI, 8, .inl f_p0_led))] → va_S A s.heap H locs → lv_has ls 5 [(0, .ref q_p0), (2, .int l2), (3, .int l3)] → W p l e { frames := 0, cells := 0, slots := 0, locals := 0 } s m args below meth c H locs 0 0 Q (F0 m 4 ls []) := by
    intro  n4
    induction n4 with
    | zero =>
      intro l2 l3 H locs ls h
      exact False.elim h
    | succ n4 ih4 =>
      intro l2 l3 H locs ls h hP hD hS hl
      have h : M_X0_ringBits_l4 x1 v_p0_size f_p0_led P  (LP2 (M_X0_ringBits_l4 x1 v_p0_size f_p0_led P ) n4) l2 l3 := h
      refine lv_iload_n hx hb dX0_ringBits_4 rfl (lv_at hl 2 rfl) ?_
      refine lv_aload_n hx hb dX0_ringBits_5 rfl (lv_at hl 0 rfl) ?_
      refine va_get (ci := 0) (C := RX0) (T := TX0) (N := 4) (v := .int v_p0_size) hx hb hts hinX0 hown hK hP 0 rfl rfl 0 (by decide) hw0 (fun _ h9 => h9) rfl dX0_ringBits_6 ?_
      refine lv_icmp_ge (tgt := 25) hx hb dX0_ringBits_9 (by decide) (fun c1 => ?_) (fun c1 => ?_)
      · have h := And.left h c1
        refine lv_iconst (v := (0 : Int32)) hx hb dX0_ringBits_25 (by decide) ?_
        refine lv_istore_n (lv' := [(3, .int (0 : Int32)), (0, .ref q_p0), (2, .int l2)]) hx hb dX0_ringBits_26 rfl hl (by decide) rfl (fun ls hl => ?_)
        refine lv_iconst (v := (0 : Int32)) hx hb dX0_ringBits_27 (by decide) ?_
        refine lv_istore (lv' := [(4, .int (0 : Int32)), (3, .int (0 : Int32)), (0, .ref q_p0), (2, .int l2)]) hx hb dX0_ringBits_28 hl (by decide) rfl (fun ls hl => ?_)
        have k30 : ∀  (n30 : Nat) (l2 : Int32) (l3 : Int32) (l4 : Int32) (H : Heap) (locs : List Loc) (ls : Array Slot), LP3 (M_X0_ringBits_l30 x1 v_p0_size f_p0_led P ) n30 l2 l3 l4 → va_P D vwCl [(q_p0, .inr (0, [.int v_p0_size, .int v_p0_way, .ref q_p0_led, .ref q_p0_turnedLed])), (q_p0_led, .inl (cI, 8, .inl f_p0_led))] H → va_D A [(q_p0, .inr (0, [.int v_p0_size, .int v_p0_way, .ref q_p0_led, .ref q_p0_turnedLed])), (q_p0_led, .inl (cI, 8, .inl f_p0_led))] → va_S A s.heap H locs → lv_has ls 5 [(0, .ref q_p0), (2, .int l2), (3, .int l3), (4, .int l4)] → W p l e { frames := 0, cells := 0, slots := 0, locals := 0 } s m args below meth c H locs 0 0 Q (F0 m 30 ls []) := by
          intro  n30
          induction n30 with
          | zero =>
            intro l2 l3 l4 H locs ls h
            exact False.elim h
          | succ n30 ih30 =>
            intro l2 l3 l4 H locs ls h hP hD hS hl
            have h : M_X0_ringBits_l30 x1 v_p0_size f_p0_led P  (LP3 (M_X0_ringBits_l30 x1 v_p0_size f_p0_led P ) n30) l2 l3 l4 := h
            refine lv_iload hx hb dX0_ringBits_30 (lv_at hl 3 rfl) ?_
            refine lv_aload_n hx hb dX0_ringBits_32 rfl (lv_at hl 0 rfl) ?_
            refine va_get (ci := 0) (C := RX0) (T := TX0) (N := 4) (v := .int v_p0_size) hx hb hts hinX0 hown hK hP 0 rfl rfl 0 (by decide) hw0 (fun _ h9 => h9) rfl dX0_ringBits_33 ?_
            refine lv_icmp_ge (tgt := 58) hx hb dX0_ringBits_36 (by decide) (fun c2 => ?_) (fun c2 => ?_)
            · have h := And.left h c2
              refine lv_iload_n hx hb dX0_ringBits_58 rfl (lv_at hl 2 rfl) ?_
              exact z_iret hQ hx hb hr rfl hlocks hK () h hP hD hS dX0_ringBits_59
            · have h := And.right h c2
              refine lv_iload_n hx hb dX0_ringBits_39 rfl (lv_at hl 2 rfl) ?_
              refine lv_iconst (v := (1 : Int32)) hx hb dX0_ringBits_40 (by decide) ?_
              refine lv_iload_n hx hb dX0_ringBits_41 rfl (lv_at hl 1 rfl) ?_
              refine lv_ishl hx hb dX0_ringBits_42 ?_
              refine lv_ior hx hb dX0_ringBits_43 ?_
              refine lv_istore_n (lv' := [(3, .int (l3 ||| ((1 : Int32) <<< (l2 &&& 31)))), (0, .ref q_p0), (2, .int l2), (4, .int l4)]) hx hb dX0_ringBits_44 rfl hl (by decide) rfl (fun ls hl => ?_)
              refine lv_aload_n hx hb dX0_ringBits_45 rfl (lv_at hl 1 rfl) ?_
              refine va_get (ci := 0) (C := RX0) (T := TX0) (N := 4) (v := .ref q_p0_led) hx hb hts hinX0 hown hK hP 0 rfl rfl 2 (by decide) hw1 (fun _ h9 => h9) rfl dX0_ringBits_46 ?_
              refine lv_iload_n hx hb dX0_ringBits_49 rfl (lv_at hl 2 rfl) ?_
              obtain ⟨hi3, h⟩ := h
              refine va_iald hx hb hK hP 1 0 rfl rfl hi3 dX0_ringBits_50 ?_
              refine lv_istore_n (lv' := [(2, .int (f_p0_led l2.toNatClampNeg)), (3, .int (l3 ||| ((1 : Int32) <<< (l2 &&& 31)))), (0, .ref q_p0), (4, .int l4)]) hx hb dX0_ringBits_51 rfl hl (by decide) rfl (fun ls hl => ?_)
              refine lv_iinc (v := (l4 + 1)) (lv' := [(4, .int (l4 + 1)), (2, .int (f_p0_led l2.toNatClampNeg)), (3, .int (l3 ||| ((1 : Int32) <<< (l2 &&& 31)))), (0, .ref q_p0)]) hx hb dX0_ringBits_52 hl (k := 3) rfl rfl (by decide) rfl (fun ls hl => ?_)
              refine lv_goto (tgt := 30) hx hb dX0_ringBits_55 (by decide) ?_
              exact ih30 (f_p0_led l2.toNatClampNeg) (l3 ||| ((1 : Int32) <<< (l2 &&& 31))) (l4 + 1) _ _ _ h hP hD hS (lv_sub hl [3, 1, 2, 0] rfl)
        obtain ⟨n30, h⟩ := h
        exact k30  n30 l2 (0 : Int32) (0 : Int32) _ _ _ h hP hD hS (lv_sub hl [2, 3, 1, 0] rfl)
      · have h := And.right h c1
        refine lv_aload_n hx hb dX0_ringBits_12 rfl (lv_at hl 0 rfl) ?_
        refine va_get (ci := 0) (C := RX0) (T := TX0) (N := 4) (v := .ref q_p0_led) hx hb hts hinX0 hown hK hP 0 rfl rfl 2 (by decide) hw1 (fun _ h9 => h9) rfl dX0_ringBits_13 ?_
        refine lv_iload_n hx hb dX0_ringBits_16 rfl (lv_at hl 1 rfl) ?_
        obtain ⟨hi4, h⟩ := h
        refine va_iald hx hb hK hP 1 0 rfl rfl hi4 dX0_ringBits_17 ?_
        refine lv_istore_n (lv' := [(2, .int (f_p0_led l2.toNatClampNeg)), (0, .ref q_p0), (3, .int l3)]) hx hb dX0_ringBits_18 rfl hl (by decide) rfl (fun ls hl => ?_)
        refine lv_iinc (v := (l3 + 1)) (lv' := [(3, .int (l3 + 1)), (2, .int (f_p0_led l2.toNatClampNeg)), (0, .ref q_p0)]) hx hb dX0_ringBits_19 hl (k := 2) rfl rfl (by decide) rfl (fun ls hl => ?_)
        refine lv_goto (tgt := 4) hx hb dX0_ringBits_22 (by decide) ?_
        exact ih4 (f_p0_led l2.toNatClampNeg) (l3 + 1) _ _ _ h hP hD hS (lv_sub hl [2, 1, 0] rfl)
  obtain ⟨n4, h⟩ := h
  exact k4  n4 x1 (0 : Int32) _ _ _ h hP hD hS (lv_sub hl [2, 1, 0] rfl)
theorem hd_X0_tailOf : yX0_tailOf.cls = RX0 ∧ yX0_tailOf.cls ≠ "java/lang/invoke/MethodHandle" ∧ yX0_tailOf.cls ≠ "java/lang/invoke/VarHandle" ∧ (parseMethodDescriptor yX0_tailOf.desc).map (fun d => d.parameters.length) = some 1 := by decide +kernel
set_option maxHeartbeats 4000000 in
set_option maxRecDepth 100000 in
theorem c_X0_tailOf (l : Launch) (D : va_G) (cI cJ cB : ClassId) (tU tM : Nat) (tS : tsT) (q_p0 q_p0_led q_p0_turnedLed : Nat) (sz : Nat) (x1 : Int32) (v_p0_size : Int32) (f_p0_led : (Nat → Int32)) (v_p0_way : Int32) (P : Int32 → Prop) (h : M_X0_tailOf x1 v_p0_size f_p0_led P) : Met l yX0_tailOf wsX0_tailOf ({ frames := 1, cells := 0, slots := 0, locals := 24 }) (va_Pc [.ref q_p0, .int x1] (zPre D cI cJ cB tU tM tS [(q_p0, .inr (0, [.int v_p0_size, .int v_p0_way, .ref q_p0_led, .ref q_p0_turnedLed])), (q_p0_led, .inl (cI, 8, .inl f_p0_led))] sz)) (va_Qi (fun (r : Int32) (u : Unit) => P r ) (fun u t => zPost D cI cJ cB (va_A [(q_p0, .inr (0, [.int v_p0_size, .int v_p0_way, .ref q_p0_led, .ref q_p0_turnedLed])), (q_p0_led, .inl (cI, 8, .inl f_p0_led))] sz) [(q_p0, .inr (0, [.int v_p0_size, .int v_p0_way, .ref q_p0_led, .ref q_p0_turnedLed])), (q_p0_led, .inl (cI, 8, .inl f_p0_led))] t) (va_A [(q_p0, .inr (0, [.int v_p0_size, .int v_p0_way, .ref q_p0_led, .ref q_p0_turnedLed])), (q_p0_led, .inl (cI, 8, .inl f_p0_led))] sz)) 0 0 (va_A [(q_p0, .inr (0, [.int v_p0_size, .int v_p0_way, .ref q_p0_led, .ref q_p0_turnedLed])), (q_p0_led, .inl (cI, 8, .inl f_p0_led))] sz) := by
  refine z_met (cc := cX0_tailOf) (maxL := 5) (ret := (some .int)) (Qc := fun A => va_Qi (fun (r : Int32) (u : Unit) => P r ) (fun u t => zPost D cI cJ cB A [(q_p0, .inr (0, [.int v_p0_size, .int v_p0_way, .ref q_p0_led, .ref q_p0_turnedLed])), (q_p0_led, .inl (cI, 8, .inl f_p0_led))] t) A) (by decide) rfl [.ref q_p0, .int x1] (Nat.le_of_ble_eq_true rfl) ?_
  intro p e s m args below meth c A hx hb hr hts hown hml hlocks hA hX hK H locs hP hD hS ls hl Q hQ
  have hown : s.vm.findClass RX0 = some m.cls := hown
  have hl : lv_has ls 5 [(0, .ref q_p0), (1, .int x1)] := hl
  have hw0 : (Cond.fieldLink RX0 9 "ForcedRings$Chart" "size" "I").before args s = true := hts _ (List.mem_of_getElem? (i := 1) rfl)
  have hw1 : (Cond.fieldLink RX0 18 "ForcedRings$Chart" "led" "[I").before args s = true := hts _ (List.mem_of_getElem? (i := 2) rfl)
  have hinX0 : ∀ w ∈ wsX00, w ∈ wsX0_tailOf := fun _ h => List.mem_cons_of_mem _ (List.mem_append_right _ h)
  refine lv_aload_n hx hb dX0_tailOf_0 rfl (lv_at hl 0 rfl) ?_
  refine lv_iload_n hx hb dX0_tailOf_1 rfl (lv_at hl 1 rfl) ?_
  refine z_cVi (As := [.int x1]) (rest := []) (wr := []) (wn := fun u => [(q_p0, .inr (0, [.int v_p0_size, .int v_p0_way, .ref q_p0_led, .ref q_p0_turnedLed])), (q_p0_led, .inl (cI, 8, .inl f_p0_led))]) (c_X0_ringBits l D cI cJ cB tU tM tS q_p0 q_p0_led q_p0_turnedLed H.size x1 v_p0_size f_p0_led v_p0_way _ h) ⟨hx, hb, hml, hown, hts⟩ (cwV 1 hts gX0_tailOf_X0_ringBits rfl rfl rfl hd_X0_ringBits ⟨Nat.le_of_ble_eq_true rfl, Nat.le_of_ble_eq_true rfl⟩) hX hK hP hD hS hA [0, 1] [] [0, 1] rfl rfl rfl (by decide) (fun _ => rfl) (q0 := 0) (ci := 0) rfl rfl rfl hl.1 rfl (Nat.le_of_ble_eq_true rfl) ⟨Nat.le_refl _, Nat.le_refl _⟩ dX0_tailOf_2 (fun r1 u1 H locs h hP hD hS => ?_)
  refine lv_istore_n (lv' := [(2, .int r1), (0, .ref q_p0), (1, .int x1)]) hx hb dX0_tailOf_5 rfl hl (by decide) rfl (fun ls hl => ?_)
  refine lv_iload_n hx hb dX0_tailOf_6 rfl (lv_at hl 2 rfl) ?_
  refine lv_istore_n (lv' := [(3, .int x1), (2, .int r1), (0, .ref q_p0), (1, .int x1)]) hx hb dX0_tailOf_7 rfl hl (by decide) rfl (fun ls hl => ?_)
  refine lv_iconst (v := (0 : Int32)) hx hb dX0_tailOf_8 (by decide) ?_
  refine lv_istore (lv' := [(4, .int (0 : Int32)), (3, .int x1), (2, .int r1), (0, .ref q_p0), (1, .int x1)]) hx hb dX0_tailOf_9 hl (by decide) rfl (fun ls hl => ?_)
  have k11 : ∀ (l2 : Int32) (n11 : Nat) (l3 : Int32) (l4 : Int32) (H : Heap) (locs : List Loc) (ls : Array Slot), LP2 (M_X0_tailOf_l11 x1 v_p0_size f_p0_led P l2) n11 l3 l4 → va_P D vwCl [(q_p0, .inr (0, [.int v_p0_size, .int v_p0_way, .ref q_p0_led, .ref q_p0_turnedLed])), (q_p0_led, .inl (cI, 8, .inl f_p0_led))] H → va_D A [(q_p0, .inr (0, [.int v_p0_size, .int v_p0_way, .ref q_p0_led, .ref q_p0_turnedLed])), (q_p0_led, .inl (cI, 8, .inl f_p0_led))] → va_S A s.heap H locs → lv_has ls 5 [(0, .ref q_p0), (2, .int l2), (3, .int l3), (4, .int l4)] → W p l e { frames := 1, cells := 0, slots := 0, locals := 24 } s m args below meth c H locs 0 0 Q (F0 m 11 ls []) := by
    intro l2 n11
    induction n11 with
    | zero =>
      intro l3 l4 H locs ls h
      exact False.elim h
    | succ n11 ih11 =>
      intro l3 l4 H locs ls h hP hD hS hl
      have h : M_X0_tailOf_l11 x1 v_p0_size f_p0_led P l2 (LP2 (M_X0_tailOf_l11 x1 v_p0_size f_p0_led P l2) n11) l3 l4 := h
      refine lv_iload hx hb dX0_tailOf_11 (lv_at hl 3 rfl) ?_
      refine lv_aload_n hx hb dX0_tailOf_13 rfl (lv_at hl 0 rfl) ?_
      refine va_get (ci := 0) (C := RX0) (T := TX0) (N := 4) (v := .int v_p0_size) hx hb hts hinX0 hown hK hP 0 rfl rfl 0 (by decide) hw0 (fun _ h9 => h9) rfl dX0_tailOf_14 ?_
      refine lv_icmp_ge (tgt := 41) hx hb dX0_tailOf_17 (by decide) (fun c2 => ?_) (fun c2 => ?_)
      · have h := And.left h c2
        refine lv_iload hx hb dX0_tailOf_41 (lv_at hl 3 rfl) ?_
        exact z_iret hQ hx hb hr rfl hlocks hK () h hP hD hS dX0_tailOf_43
      · have h := And.right h c2
        refine lv_iload_n hx hb dX0_tailOf_20 rfl (lv_at hl 1 rfl) ?_
        refine lv_iload_n hx hb dX0_tailOf_21 rfl (lv_at hl 2 rfl) ?_
        refine lv_ishr hx hb dX0_tailOf_22 ?_
        refine lv_iconst (v := (1 : Int32)) hx hb dX0_tailOf_23 (by decide) ?_
        refine lv_iand hx hb dX0_tailOf_24 ?_
        refine lv_if_ne (tgt := 41) hx hb dX0_tailOf_25 (by decide) (fun c3 => ?_) (fun c3 => ?_)
        · have h := And.right h c3
          refine lv_iload hx hb dX0_tailOf_41 (lv_at hl 3 rfl) ?_
          exact z_iret hQ hx hb hr rfl hlocks hK () h hP hD hS dX0_tailOf_43
        · have h := And.left h c3
          refine lv_aload_n hx hb dX0_tailOf_28 rfl (lv_at hl 0 rfl) ?_
          refine va_get (ci := 0) (C := RX0) (T := TX0) (N := 4) (v := .ref q_p0_led) hx hb hts hinX0 hown hK hP 0 rfl rfl 2 (by decide) hw1 (fun _ h9 => h9) rfl dX0_tailOf_29 ?_
          refine lv_iload_n hx hb dX0_tailOf_32 rfl (lv_at hl 2 rfl) ?_
          obtain ⟨hi4, h⟩ := h
          refine va_iald hx hb hK hP 1 0 rfl rfl hi4 dX0_tailOf_33 ?_
          refine lv_istore_n (lv' := [(3, .int (f_p0_led l3.toNatClampNeg)), (0, .ref q_p0), (2, .int l2), (4, .int l4)]) hx hb dX0_tailOf_34 rfl hl (by decide) rfl (fun ls hl => ?_)
          refine lv_iinc (v := (l4 + 1)) (lv' := [(4, .int (l4 + 1)), (3, .int (f_p0_led l3.toNatClampNeg)), (0, .ref q_p0), (2, .int l2)]) hx hb dX0_tailOf_35 hl (k := 3) rfl rfl (by decide) rfl (fun ls hl => ?_)
          refine lv_goto (tgt := 11) hx hb dX0_tailOf_38 (by decide) ?_
          exact ih11 (f_p0_led l3.toNatClampNeg) (l4 + 1) _ _ _ h hP hD hS (lv_sub hl [2, 3, 1, 0] rfl)
  obtain ⟨n11, h⟩ := h
  exact k11 r1 n11 x1 (0 : Int32) _ _ _ h hP hD hS (lv_sub hl [3, 2, 1, 0] rfl)
theorem hd_X0_isLeastOfRing : yX0_isLeastOfRing.cls = RX0 ∧ yX0_isLeastOfRing.cls ≠ "java/lang/invoke/MethodHandle" ∧ yX0_isLeastOfRing.cls ≠ "java/lang/invoke/VarHandle" ∧ (parseMethodDescriptor yX0_isLeastOfRing.desc).map (fun d => d.parameters.length) = some 1 := by decide +kernel
set_option maxHeartbeats 4000000 in
set_option maxRecDepth 100000 in
theorem c_X0_isLeastOfRing (l : Launch) (D : va_G) (cI cJ cB : ClassId) (tU tM : Nat) (tS : tsT) (q_p0 q_p0_led q_p0_turnedLed : Nat) (sz : Nat) (x1 : Int32) (v_p0_size : Int32) (f_p0_led : (Nat → Int32)) (v_p0_way : Int32) (P : Int32 → Prop) (h : M_X0_isLeastOfRing x1 v_p0_size f_p0_led P) : Met l yX0_isLeastOfRing wsX0_isLeastOfRing ({ frames := 1, cells := 0, slots := 0, locals := 24 }) (va_Pc [.ref q_p0, .int x1] (zPre D cI cJ cB tU tM tS [(q_p0, .inr (0, [.int v_p0_size, .int v_p0_way, .ref q_p0_led, .ref q_p0_turnedLed])), (q_p0_led, .inl (cI, 8, .inl f_p0_led))] sz)) (va_Qi (fun (r : Int32) (u : Unit) => P r ) (fun u t => zPost D cI cJ cB (va_A [(q_p0, .inr (0, [.int v_p0_size, .int v_p0_way, .ref q_p0_led, .ref q_p0_turnedLed])), (q_p0_led, .inl (cI, 8, .inl f_p0_led))] sz) [(q_p0, .inr (0, [.int v_p0_size, .int v_p0_way, .ref q_p0_led, .ref q_p0_turnedLed])), (q_p0_led, .inl (cI, 8, .inl f_p0_led))] t) (va_A [(q_p0, .inr (0, [.int v_p0_size, .int v_p0_way, .ref q_p0_led, .ref q_p0_turnedLed])), (q_p0_led, .inl (cI, 8, .inl f_p0_led))] sz)) 0 0 (va_A [(q_p0, .inr (0, [.int v_p0_size, .int v_p0_way, .ref q_p0_led, .ref q_p0_turnedLed])), (q_p0_led, .inl (cI, 8, .inl f_p0_led))] sz) := by
  refine z_met (cc := cX0_isLeastOfRing) (maxL := 3) (ret := (some .boolean)) (Qc := fun A => va_Qi (fun (r : Int32) (u : Unit) => P r ) (fun u t => zPost D cI cJ cB A [(q_p0, .inr (0, [.int v_p0_size, .int v_p0_way, .ref q_p0_led, .ref q_p0_turnedLed])), (q_p0_led, .inl (cI, 8, .inl f_p0_led))] t) A) (by decide) rfl [.ref q_p0, .int x1] (Nat.le_of_ble_eq_true rfl) ?_
  intro p e s m args below meth c A hx hb hr hts hown hml hlocks hA hX hK H locs hP hD hS ls hl Q hQ
  have hown : s.vm.findClass RX0 = some m.cls := hown
  have hl : lv_has ls 3 [(0, .ref q_p0), (1, .int x1)] := hl
  refine lv_aload_n hx hb dX0_isLeastOfRing_0 rfl (lv_at hl 0 rfl) ?_
  refine lv_iload_n hx hb dX0_isLeastOfRing_1 rfl (lv_at hl 1 rfl) ?_
  refine z_cVi (As := [.int x1]) (rest := []) (wr := []) (wn := fun u => [(q_p0, .inr (0, [.int v_p0_size, .int v_p0_way, .ref q_p0_led, .ref q_p0_turnedLed])), (q_p0_led, .inl (cI, 8, .inl f_p0_led))]) (c_X0_ringBits l D cI cJ cB tU tM tS q_p0 q_p0_led q_p0_turnedLed H.size x1 v_p0_size f_p0_led v_p0_way _ h) ⟨hx, hb, hml, hown, hts⟩ (cwV 1 hts gX0_isLeastOfRing_X0_ringBits rfl rfl rfl hd_X0_ringBits ⟨Nat.le_of_ble_eq_true rfl, Nat.le_of_ble_eq_true rfl⟩) hX hK hP hD hS hA [0, 1] [] [0, 1] rfl rfl rfl (by decide) (fun _ => rfl) (q0 := 0) (ci := 0) rfl rfl rfl hl.1 rfl (Nat.le_of_ble_eq_true rfl) ⟨Nat.le_refl _, Nat.le_refl _⟩ dX0_isLeastOfRing_2 (fun r1 u1 H locs h hP hD hS => ?_)
  refine lv_istore_n (lv' := [(2, .int r1), (0, .ref q_p0), (1, .int x1)]) hx hb dX0_isLeastOfRing_5 rfl hl (by decide) rfl (fun ls hl => ?_)
  refine lv_iload_n hx hb dX0_isLeastOfRing_6 rfl (lv_at hl 0 rfl) ?_
  refine lv_iload_n hx hb dX0_isLeastOfRing_7 rfl (lv_at hl 2 rfl) ?_
  refine lv_ishr hx hb dX0_isLeastOfRing_8 ?_
  refine lv_iconst (v := (1 : Int32)) hx hb dX0_isLeastOfRing_9 (by decide) ?_
  refine lv_iand hx hb dX0_isLeastOfRing_10 ?_
  refine lv_iconst (v := (1 : Int32)) hx hb dX0_isLeastOfRing_11 (by decide) ?_
  refine lv_icmp_ne (tgt := 29) hx hb dX0_isLeastOfRing_12 (by decide) (fun c2 => ?_) (fun c2 => ?_)
  · have h := And.right h c2
    refine lv_iconst (v := (0 : Int32)) hx hb dX0_isLeastOfRing_29 (by decide) ?_
    exact z_iret hQ hx hb hr rfl hlocks hK () h hP hD hS dX0_isLeastOfRing_30
  · have h := And.left h c2
    refine lv_iload_n hx hb dX0_isLeastOfRing_15 rfl (lv_at hl 0 rfl) ?_
    refine lv_iconst (v := (1 : Int32)) hx hb dX0_isLeastOfRing_16 (by decide) ?_
    refine lv_iload_n hx hb dX0_isLeastOfRing_17 rfl (lv_at hl 2 rfl) ?_
    refine lv_ishl hx hb dX0_isLeastOfRing_18 ?_
    refine lv_iconst (v := (1 : Int32)) hx hb dX0_isLeastOfRing_19 (by decide) ?_
    refine lv_isub hx hb dX0_isLeastOfRing_20 ?_
    refine lv_iand hx hb dX0_isLeastOfRing_21 ?_
    refine lv_if_ne (tgt := 29) hx hb dX0_isLeastOfRing_22 (by decide) (fun c3 => ?_) (fun c3 => ?_)
    · have h := And.right h c3
      refine lv_iconst (v := (0 : Int32)) hx hb dX0_isLeastOfRing_29 (by decide) ?_
      exact z_iret hQ hx hb hr rfl hlocks hK () h hP hD hS dX0_isLeastOfRing_30
    · have h := And.left h c3
      refine lv_iconst (v := (1 : Int32)) hx hb dX0_isLeastOfRing_25 (by decide) ?_
      refine lv_goto (tgt := 30) hx hb dX0_isLeastOfRing_26 (by decide) ?_
      exact z_iret hQ hx hb hr rfl hlocks hK () h hP hD hS dX0_isLeastOfRing_30
theorem hd_X0_leastOfRing : yX0_leastOfRing.cls = RX0 ∧ yX0_leastOfRing.cls ≠ "java/lang/invoke/MethodHandle" ∧ yX0_leastOfRing.cls ≠ "java/lang/invoke/VarHandle" ∧ (parseMethodDescriptor yX0_leastOfRing.desc).map (fun d => d.parameters.length) = some 1 := by decide +kernel
set_option maxHeartbeats 4000000 in
set_option maxRecDepth 100000 in
theorem c_X0_leastOfRing (l : Launch) (D : va_G) (cI cJ cB : ClassId) (tU tM : Nat) (tS : tsT) (q_p0 q_p0_led q_p0_turnedLed : Nat) (sz : Nat) (x1 : Int32) (v_p0_size : Int32) (f_p0_led : (Nat → Int32)) (v_p0_way : Int32) (P : Int32 → Prop) (h : M_X0_leastOfRing x1 v_p0_size f_p0_led P) : Met l yX0_leastOfRing wsX0_leastOfRing ({ frames := 2, cells := 0, slots := 0, locals := 46 }) (va_Pc [.ref q_p0, .int x1] (zPre D cI cJ cB tU tM tS [(q_p0, .inr (0, [.int v_p0_size, .int v_p0_way, .ref q_p0_led, .ref q_p0_turnedLed])), (q_p0_led, .inl (cI, 8, .inl f_p0_led))] sz)) (va_Qi (fun (r : Int32) (u : Unit) => P r ) (fun u t => zPost D cI cJ cB (va_A [(q_p0, .inr (0, [.int v_p0_size, .int v_p0_way, .ref q_p0_led, .ref q_p0_turnedLed])), (q_p0_led, .inl (cI, 8, .inl f_p0_led))] sz) [(q_p0, .inr (0, [.int v_p0_size, .int v_p0_way, .ref q_p0_led, .ref q_p0_turnedLed])), (q_p0_led, .inl (cI, 8, .inl f_p0_led))] t) (va_A [(q_p0, .inr (0, [.int v_p0_size, .int v_p0_way, .ref q_p0_led, .ref q_p0_turnedLed])), (q_p0_led, .inl (cI, 8, .inl f_p0_led))] sz)) 0 0 (va_A [(q_p0, .inr (0, [.int v_p0_size, .int v_p0_way, .ref q_p0_led, .ref q_p0_turnedLed])), (q_p0_led, .inl (cI, 8, .inl f_p0_led))] sz) := by
  refine z_met (cc := cX0_leastOfRing) (maxL := 4) (ret := (some .int)) (Qc := fun A => va_Qi (fun (r : Int32) (u : Unit) => P r ) (fun u t => zPost D cI cJ cB A [(q_p0, .inr (0, [.int v_p0_size, .int v_p0_way, .ref q_p0_led, .ref q_p0_turnedLed])), (q_p0_led, .inl (cI, 8, .inl f_p0_led))] t) A) (by decide) rfl [.ref q_p0, .int x1] (Nat.le_of_ble_eq_true rfl) ?_
  intro p e s m args below meth c A hx hb hr hts hown hml hlocks hA hX hK H locs hP hD hS ls hl Q hQ
  have hown : s.vm.findClass RX0 = some m.cls := hown
  have hl : lv_has ls 4 [(0, .ref q_p0), (1, .int x1)] := hl
  have hw0 : (Cond.fieldLink RX0 9 "ForcedRings$Chart" "size" "I").before args s = true := hts _ (List.mem_of_getElem? (i := 1) rfl)
  have hinX0 : ∀ w ∈ wsX00, w ∈ wsX0_leastOfRing := fun _ h => List.mem_cons_of_mem _ (List.mem_append_right _ h)
  refine lv_iconst (v := (0 : Int32)) hx hb dX0_leastOfRing_0 (by decide) ?_
  refine lv_istore_n (lv' := [(2, .int (0 : Int32)), (0, .ref q_p0), (1, .int x1)]) hx hb dX0_leastOfRing_1 rfl hl (by decide) rfl (fun ls hl => ?_)
  refine lv_iconst (v := (0 : Int32)) hx hb dX0_leastOfRing_2 (by decide) ?_
  refine lv_istore_n (lv' := [(3, .int (0 : Int32)), (2, .int (0 : Int32)), (0, .ref q_p0), (1, .int x1)]) hx hb dX0_leastOfRing_3 rfl hl (by decide) rfl (fun ls hl => ?_)
  have k4 : ∀  (n4 : Nat) (l2 : Int32) (l3 : Int32) (H : Heap) (locs : List Loc) (ls : Array Slot), LP2 (M_X0_leastOfRing_l4 x1 v_p0_size f_p0_led P ) n4 l2 l3 → va_P D vwCl [(q_p0, .inr (0, [.int v_p0_size, .int v_p0_way, .ref q_p0_led, .ref q_p0_turnedLed])), (q_p0_led, .inl (cI, 8, .inl f_p0_led))] H → va_D A [(q_p0, .inr (0, [.int v_p0_size, .int v_p0_way, .ref q_p0_led, .ref q_p0_turnedLed])), (q_p0_led, .inl (cI, 8, .inl f_p0_led))] → va_S A s.heap H locs → lv_has ls 4 [(0, .ref q_p0), (1, .int x1), (2, .int l2), (3, .int l3)] → W p l e { frames := 2, cells := 0, slots := 0, locals := 46 } s m args below meth c H locs 0 0 Q (F0 m 4 ls []) := by
    intro  n4
    induction n4 with
    | zero =>
      intro l2 l3 H locs ls h
      exact False.elim h
    | succ n4 ih4 =>
      intro l2 l3 H locs ls h hP hD hS hl
      have h : M_X0_leastOfRing_l4 x1 v_p0_size f_p0_led P  (LP2 (M_X0_leastOfRing_l4 x1 v_p0_size f_p0_led P ) n4) l2 l3 := h
      refine lv_iload_n hx hb dX0_leastOfRing_4 rfl (lv_at hl 3 rfl) ?_
      refine lv_aload_n hx hb dX0_leastOfRing_5 rfl (lv_at hl 0 rfl) ?_
      refine va_get (ci := 0) (C := RX0) (T := TX0) (N := 4) (v := .int v_p0_size) hx hb hts hinX0 hown hK hP 0 rfl rfl 0 (by decide) hw0 (fun _ h9 => h9) rfl dX0_leastOfRing_6 ?_
      refine lv_icmp_ge (tgt := 36) hx hb dX0_leastOfRing_9 (by decide) (fun c1 => ?_) (fun c1 => ?_)
      · have h := And.left h c1
        refine lv_iconst (v := (-1 : Int32)) hx hb dX0_leastOfRing_36 (by decide) ?_
        exact z_iret hQ hx hb hr rfl hlocks hK () h hP hD hS dX0_leastOfRing_37
      · have h := And.right h c1
        refine lv_aload_n hx hb dX0_leastOfRing_12 rfl (lv_at hl 0 rfl) ?_
        refine lv_iload_n hx hb dX0_leastOfRing_13 rfl (lv_at hl 3 rfl) ?_
        refine z_cVi (As := [.int l3]) (rest := []) (wr := []) (wn := fun u => [(q_p0, .inr (0, [.int v_p0_size, .int v_p0_way, .ref q_p0_led, .ref q_p0_turnedLed])), (q_p0_led, .inl (cI, 8, .inl f_p0_led))]) (c_X0_isLeastOfRing l D cI cJ cB tU tM tS q_p0 q_p0_led q_p0_turnedLed H.size l3 v_p0_size f_p0_led v_p0_way _ h) ⟨hx, hb, hml, hown, hts⟩ (cwV 1 hts gX0_leastOfRing_X0_isLeastOfRing rfl rfl rfl hd_X0_isLeastOfRing ⟨Nat.le_of_ble_eq_true rfl, Nat.le_of_ble_eq_true rfl⟩) hX hK hP hD hS hA [0, 1] [] [0, 1] rfl rfl rfl (by decide) (fun _ => rfl) (q0 := 0) (ci := 0) rfl rfl rfl hl.1 rfl (Nat.le_of_ble_eq_true rfl) ⟨Nat.le_refl _, Nat.le_refl _⟩ dX0_leastOfRing_14 (fun r2 u2 H locs h hP hD hS => ?_)
        refine lv_if_eq (tgt := 30) hx hb dX0_leastOfRing_17 (by decide) (fun c3 => ?_) (fun c3 => ?_)
        · have h := And.left h c3
          refine lv_iinc (v := (l3 + 1)) (lv' := [(3, .int (l3 + 1)), (0, .ref q_p0), (1, .int x1), (2, .int l2)]) hx hb dX0_leastOfRing_30 hl (k := 3) rfl rfl (by decide) rfl (fun ls hl => ?_)
          refine lv_goto (tgt := 4) hx hb dX0_leastOfRing_33 (by decide) ?_
          exact ih4 l2 (l3 + 1) _ _ _ h hP hD hS (lv_sub hl [1, 2, 3, 0] rfl)
        · have h := And.right h c3
          refine lv_iload_n hx hb dX0_leastOfRing_20 rfl (lv_at hl 2 rfl) ?_
          refine lv_iload_n hx hb dX0_leastOfRing_21 rfl (lv_at hl 1 rfl) ?_
          refine lv_icmp_ne (tgt := 27) hx hb dX0_leastOfRing_22 (by decide) (fun c4 => ?_) (fun c4 => ?_)
          · have h := And.right h c4
            refine lv_iinc (v := (l2 + 1)) (lv' := [(2, .int (l2 + 1)), (0, .ref q_p0), (1, .int x1), (3, .int l3)]) hx hb dX0_leastOfRing_27 hl (k := 2) rfl rfl (by decide) rfl (fun ls hl => ?_)
            refine lv_iinc (v := (l3 + 1)) (lv' := [(3, .int (l3 + 1)), (2, .int (l2 + 1)), (0, .ref q_p0), (1, .int x1)]) hx hb dX0_leastOfRing_30 hl (k := 3) rfl rfl (by decide) rfl (fun ls hl => ?_)
            refine lv_goto (tgt := 4) hx hb dX0_leastOfRing_33 (by decide) ?_
            exact ih4 (l2 + 1) (l3 + 1) _ _ _ h hP hD hS (lv_sub hl [2, 3, 1, 0] rfl)
          · have h := And.left h c4
            refine lv_iload_n hx hb dX0_leastOfRing_25 rfl (lv_at hl 3 rfl) ?_
            exact z_iret hQ hx hb hr rfl hlocks hK () h hP hD hS dX0_leastOfRing_26
  obtain ⟨n4, h⟩ := h
  exact k4  n4 (0 : Int32) (0 : Int32) _ _ _ h hP hD hS (lv_sub hl [2, 3, 1, 0] rfl)
theorem hd_X0_ringNumber : yX0_ringNumber.cls = RX0 ∧ yX0_ringNumber.cls ≠ "java/lang/invoke/MethodHandle" ∧ yX0_ringNumber.cls ≠ "java/lang/invoke/VarHandle" ∧ (parseMethodDescriptor yX0_ringNumber.desc).map (fun d => d.parameters.length) = some 0 := by decide +kernel
set_option maxHeartbeats 4000000 in
set_option maxRecDepth 100000 in
theorem c_X0_ringNumber (l : Launch) (D : va_G) (cI cJ cB : ClassId) (tU tM : Nat) (tS : tsT) (q_p0 q_p0_led q_p0_turnedLed : Nat) (sz : Nat) (v_p0_size : Int32) (f_p0_led : (Nat → Int32)) (v_p0_way : Int32) (P : Int32 → Prop) (h : M_X0_ringNumber v_p0_size f_p0_led P) : Met l yX0_ringNumber wsX0_ringNumber ({ frames := 2, cells := 0, slots := 0, locals := 46 }) (va_Pc [.ref q_p0] (zPre D cI cJ cB tU tM tS [(q_p0, .inr (0, [.int v_p0_size, .int v_p0_way, .ref q_p0_led, .ref q_p0_turnedLed])), (q_p0_led, .inl (cI, 8, .inl f_p0_led))] sz)) (va_Qi (fun (r : Int32) (u : Unit) => P r ) (fun u t => zPost D cI cJ cB (va_A [(q_p0, .inr (0, [.int v_p0_size, .int v_p0_way, .ref q_p0_led, .ref q_p0_turnedLed])), (q_p0_led, .inl (cI, 8, .inl f_p0_led))] sz) [(q_p0, .inr (0, [.int v_p0_size, .int v_p0_way, .ref q_p0_led, .ref q_p0_turnedLed])), (q_p0_led, .inl (cI, 8, .inl f_p0_led))] t) (va_A [(q_p0, .inr (0, [.int v_p0_size, .int v_p0_way, .ref q_p0_led, .ref q_p0_turnedLed])), (q_p0_led, .inl (cI, 8, .inl f_p0_led))] sz)) 0 0 (va_A [(q_p0, .inr (0, [.int v_p0_size, .int v_p0_way, .ref q_p0_led, .ref q_p0_turnedLed])), (q_p0_led, .inl (cI, 8, .inl f_p0_led))] sz) := by
  refine z_met (cc := cX0_ringNumber) (maxL := 3) (ret := (some .int)) (Qc := fun A => va_Qi (fun (r : Int32) (u : Unit) => P r ) (fun u t => zPost D cI cJ cB A [(q_p0, .inr (0, [.int v_p0_size, .int v_p0_way, .ref q_p0_led, .ref q_p0_turnedLed])), (q_p0_led, .inl (cI, 8, .inl f_p0_led))] t) A) (by decide) rfl [.ref q_p0] (Nat.le_of_ble_eq_true rfl) ?_
  intro p e s m args below meth c A hx hb hr hts hown hml hlocks hA hX hK H locs hP hD hS ls hl Q hQ
  have hown : s.vm.findClass RX0 = some m.cls := hown
  have hl : lv_has ls 3 [(0, .ref q_p0)] := hl
  have hw0 : (Cond.fieldLink RX0 9 "ForcedRings$Chart" "size" "I").before args s = true := hts _ (List.mem_of_getElem? (i := 1) rfl)
  have hinX0 : ∀ w ∈ wsX00, w ∈ wsX0_ringNumber := fun _ h => List.mem_cons_of_mem _ (List.mem_append_right _ h)
  refine lv_iconst (v := (0 : Int32)) hx hb dX0_ringNumber_0 (by decide) ?_
  refine lv_istore_n (lv' := [(1, .int (0 : Int32)), (0, .ref q_p0)]) hx hb dX0_ringNumber_1 rfl hl (by decide) rfl (fun ls hl => ?_)
  refine lv_iconst (v := (0 : Int32)) hx hb dX0_ringNumber_2 (by decide) ?_
  refine lv_istore_n (lv' := [(2, .int (0 : Int32)), (1, .int (0 : Int32)), (0, .ref q_p0)]) hx hb dX0_ringNumber_3 rfl hl (by decide) rfl (fun ls hl => ?_)
  have k4 : ∀  (n4 : Nat) (l1 : Int32) (l2 : Int32) (H : Heap) (locs : List Loc) (ls : Array Slot), LP2 (M_X0_ringNumber_l4 v_p0_size f_p0_led P ) n4 l1 l2 → va_P D vwCl [(q_p0, .inr (0, [.int v_p0_size, .int v_p0_way, .ref q_p0_led, .ref q_p0_turnedLed])), (q_p0_led, .inl (cI, 8, .inl f_p0_led))] H → va_D A [(q_p0, .inr (0, [.int v_p0_size, .int v_p0_way, .ref q_p0_led, .ref q_p0_turnedLed])), (q_p0_led, .inl (cI, 8, .inl f_p0_led))] → va_S A s.heap H locs → lv_has ls 3 [(0, .ref q_p0), (1, .int l1), (2, .int l2)] → W p l e { frames := 2, cells := 0, slots := 0, locals := 46 } s m args below meth c H locs 0 0 Q (F0 m 4 ls []) := by
    intro  n4
    induction n4 with
    | zero =>
      intro l1 l2 H locs ls h
      exact False.elim h
    | succ n4 ih4 =>
      intro l1 l2 H locs ls h hP hD hS hl
      have h : M_X0_ringNumber_l4 v_p0_size f_p0_led P  (LP2 (M_X0_ringNumber_l4 v_p0_size f_p0_led P ) n4) l1 l2 := h
      refine lv_iload_n hx hb dX0_ringNumber_4 rfl (lv_at hl 2 rfl) ?_
      refine lv_aload_n hx hb dX0_ringNumber_5 rfl (lv_at hl 0 rfl) ?_
      refine va_get (ci := 0) (C := RX0) (T := TX0) (N := 4) (v := .int v_p0_size) hx hb hts hinX0 hown hK hP 0 rfl rfl 0 (by decide) hw0 (fun _ h9 => h9) rfl dX0_ringNumber_6 ?_
      refine lv_icmp_ge (tgt := 29) hx hb dX0_ringNumber_9 (by decide) (fun c1 => ?_) (fun c1 => ?_)
      · have h := And.left h c1
        refine lv_iload_n hx hb dX0_ringNumber_29 rfl (lv_at hl 1 rfl) ?_
        exact z_iret hQ hx hb hr rfl hlocks hK () h hP hD hS dX0_ringNumber_30
      · have h := And.right h c1
        refine lv_aload_n hx hb dX0_ringNumber_12 rfl (lv_at hl 0 rfl) ?_
        refine lv_iload_n hx hb dX0_ringNumber_13 rfl (lv_at hl 2 rfl) ?_
        refine z_cVi (As := [.int l2]) (rest := []) (wr := []) (wn := fun u => [(q_p0, .inr (0, [.int v_p0_size, .int v_p0_way, .ref q_p0_led, .ref q_p0_turnedLed])), (q_p0_led, .inl (cI, 8, .inl f_p0_led))]) (c_X0_isLeastOfRing l D cI cJ cB tU tM tS q_p0 q_p0_led q_p0_turnedLed H.size l2 v_p0_size f_p0_led v_p0_way _ h) ⟨hx, hb, hml, hown, hts⟩ (cwV 1 hts gX0_ringNumber_X0_isLeastOfRing rfl rfl rfl hd_X0_isLeastOfRing ⟨Nat.le_of_ble_eq_true rfl, Nat.le_of_ble_eq_true rfl⟩) hX hK hP hD hS hA [0, 1] [] [0, 1] rfl rfl rfl (by decide) (fun _ => rfl) (q0 := 0) (ci := 0) rfl rfl rfl hl.1 rfl (Nat.le_of_ble_eq_true rfl) ⟨Nat.le_refl _, Nat.le_refl _⟩ dX0_ringNumber_14 (fun r2 u2 H locs h hP hD hS => ?_)
        refine lv_if_eq (tgt := 23) hx hb dX0_ringNumber_17 (by decide) (fun c3 => ?_) (fun c3 => ?_)
        · have h := And.left h c3
          refine lv_iinc (v := (l2 + 1)) (lv' := [(2, .int (l2 + 1)), (0, .ref q_p0), (1, .int l1)]) hx hb dX0_ringNumber_23 hl (k := 2) rfl rfl (by decide) rfl (fun ls hl => ?_)
          refine lv_goto (tgt := 4) hx hb dX0_ringNumber_26 (by decide) ?_
          exact ih4 l1 (l2 + 1) _ _ _ h hP hD hS (lv_sub hl [1, 2, 0] rfl)
        · have h := And.right h c3
          refine lv_iinc (v := (l1 + 1)) (lv' := [(1, .int (l1 + 1)), (0, .ref q_p0), (2, .int l2)]) hx hb dX0_ringNumber_20 hl (k := 1) rfl rfl (by decide) rfl (fun ls hl => ?_)
          refine lv_iinc (v := (l2 + 1)) (lv' := [(2, .int (l2 + 1)), (1, .int (l1 + 1)), (0, .ref q_p0)]) hx hb dX0_ringNumber_23 hl (k := 2) rfl rfl (by decide) rfl (fun ls hl => ?_)
          refine lv_goto (tgt := 4) hx hb dX0_ringNumber_26 (by decide) ?_
          exact ih4 (l1 + 1) (l2 + 1) _ _ _ h hP hD hS (lv_sub hl [2, 1, 0] rfl)
  obtain ⟨n4, h⟩ := h
  exact k4  n4 (0 : Int32) (0 : Int32) _ _ _ h hP hD hS (lv_sub hl [2, 1, 0] rfl)
theorem hd_J6_bitCount_0f7a4 : yJ6_bitCount_0f7a4.cls = RJ6 ∧ yJ6_bitCount_0f7a4.cls ≠ "java/lang/invoke/MethodHandle" ∧ yJ6_bitCount_0f7a4.cls ≠ "java/lang/invoke/VarHandle" ∧ (parseMethodDescriptor yJ6_bitCount_0f7a4.desc).map (fun d => d.parameters.length) = some 1 := by decide +kernel
set_option maxHeartbeats 4000000 in
set_option maxRecDepth 100000 in
theorem c_J6_bitCount_0f7a4 (l : Launch) (D : va_G) (cI cJ cB : ClassId) (tU tM : Nat) (tS : tsT) (sz : Nat) (x0 : Int32)  (P : Int32 → Prop) (h : M_J6_bitCount_0f7a4 x0 P) : Met l yJ6_bitCount_0f7a4 wsJ6_bitCount_0f7a4 ({ frames := 0, cells := 0, slots := 0, locals := 0 }) (va_Pc [.int x0] (zPre D cI cJ cB tU tM tS [] sz)) (va_Qi (fun (r : Int32) (u : Unit) => P r ) (fun u t => zPost D cI cJ cB (va_A [] sz) [] t) (va_A [] sz)) 0 0 (va_A [] sz) := by
  refine z_met (cc := cJ6_bitCount_0f7a4) (maxL := 1) (ret := (some .int)) (Qc := fun A => va_Qi (fun (r : Int32) (u : Unit) => P r ) (fun u t => zPost D cI cJ cB A [] t) A) (by decide) rfl [.int x0] (Nat.le_of_ble_eq_true rfl) ?_
  intro p e s m args below meth c A hx hb hr hts hown hml hlocks hA hX hK H locs hP hD hS ls hl Q hQ
  have hown : s.vm.findClass RJ6 = some m.cls := hown
  have hl : lv_has ls 1 [(0, .int x0)] := hl
  have hw0 : (Cond.constant RJ6 265 (1431655765)).before args s = true := hts _ (List.mem_of_getElem? (i := 1) rfl)
  have hw1 : (Cond.constant RJ6 266 (858993459)).before args s = true := hts _ (List.mem_of_getElem? (i := 2) rfl)
  have hw2 : (Cond.constant RJ6 267 (252645135)).before args s = true := hts _ (List.mem_of_getElem? (i := 3) rfl)
  refine lv_iload_n hx hb dJ6_bitCount_0f7a4_0 rfl (lv_at hl 0 rfl) ?_
  refine lv_iload_n hx hb dJ6_bitCount_0f7a4_1 rfl (lv_at hl 0 rfl) ?_
  refine lv_iconst (v := (1 : Int32)) hx hb dJ6_bitCount_0f7a4_2 (by decide) ?_
  refine lv_iushr (v := (x0.toUInt32 >>> ((1 : Int32).toUInt32 &&& Int32.toUInt32 31)).toInt32) hx hb dJ6_bitCount_0f7a4_3 rfl ?_
  refine lv_ldcw (v := (1431655765 : Int32)) hx hb hown hw0 dJ6_bitCount_0f7a4_4 ?_
  refine lv_iand hx hb dJ6_bitCount_0f7a4_7 ?_
  refine lv_isub hx hb dJ6_bitCount_0f7a4_8 ?_
  refine lv_topi (fun y1 ey1 => ?_)
  have h := h y1 ey1
  refine lv_istore_n (lv' := [(0, .int y1)]) hx hb dJ6_bitCount_0f7a4_9 rfl hl (by decide) rfl (fun ls hl => ?_)
  refine lv_iload_n hx hb dJ6_bitCount_0f7a4_10 rfl (lv_at hl 0 rfl) ?_
  refine lv_ldcw (v := (858993459 : Int32)) hx hb hown hw1 dJ6_bitCount_0f7a4_11 ?_
  refine lv_iand hx hb dJ6_bitCount_0f7a4_14 ?_
  refine lv_iload_n hx hb dJ6_bitCount_0f7a4_15 rfl (lv_at hl 0 rfl) ?_
  refine lv_iconst (v := (2 : Int32)) hx hb dJ6_bitCount_0f7a4_16 (by decide) ?_
  refine lv_iushr (v := (y1.toUInt32 >>> ((2 : Int32).toUInt32 &&& Int32.toUInt32 31)).toInt32) hx hb dJ6_bitCount_0f7a4_17 rfl ?_
  refine lv_ldcw (v := (858993459 : Int32)) hx hb hown hw1 dJ6_bitCount_0f7a4_18 ?_
  refine lv_iand hx hb dJ6_bitCount_0f7a4_21 ?_
  refine lv_iadd hx hb dJ6_bitCount_0f7a4_22 ?_
  refine lv_topi (fun y2 ey2 => ?_)
  have h := h y2 ey2
  refine lv_istore_n (lv' := [(0, .int y2)]) hx hb dJ6_bitCount_0f7a4_23 rfl hl (by decide) rfl (fun ls hl => ?_)
  refine lv_iload_n hx hb dJ6_bitCount_0f7a4_24 rfl (lv_at hl 0 rfl) ?_
  refine lv_iload_n hx hb dJ6_bitCount_0f7a4_25 rfl (lv_at hl 0 rfl) ?_
  refine lv_iconst (v := (4 : Int32)) hx hb dJ6_bitCount_0f7a4_26 (by decide) ?_
  refine lv_iushr (v := (y2.toUInt32 >>> ((4 : Int32).toUInt32 &&& Int32.toUInt32 31)).toInt32) hx hb dJ6_bitCount_0f7a4_27 rfl ?_
  refine lv_iadd hx hb dJ6_bitCount_0f7a4_28 ?_
  refine lv_ldcw (v := (252645135 : Int32)) hx hb hown hw2 dJ6_bitCount_0f7a4_29 ?_
  refine lv_iand hx hb dJ6_bitCount_0f7a4_32 ?_
  refine lv_topi (fun y3 ey3 => ?_)
  have h := h y3 ey3
  refine lv_istore_n (lv' := [(0, .int y3)]) hx hb dJ6_bitCount_0f7a4_33 rfl hl (by decide) rfl (fun ls hl => ?_)
  refine lv_iload_n hx hb dJ6_bitCount_0f7a4_34 rfl (lv_at hl 0 rfl) ?_
  refine lv_iload_n hx hb dJ6_bitCount_0f7a4_35 rfl (lv_at hl 0 rfl) ?_
  refine lv_bipush (v := (8 : Int32)) hx hb dJ6_bitCount_0f7a4_36 (by decide) ?_
  refine lv_iushr (v := (y3.toUInt32 >>> ((8 : Int32).toUInt32 &&& Int32.toUInt32 31)).toInt32) hx hb dJ6_bitCount_0f7a4_38 rfl ?_
  refine lv_iadd hx hb dJ6_bitCount_0f7a4_39 ?_
  refine lv_topi (fun y4 ey4 => ?_)
  have h := h y4 ey4
  refine lv_istore_n (lv' := [(0, .int y4)]) hx hb dJ6_bitCount_0f7a4_40 rfl hl (by decide) rfl (fun ls hl => ?_)
  refine lv_iload_n hx hb dJ6_bitCount_0f7a4_41 rfl (lv_at hl 0 rfl) ?_
  refine lv_iload_n hx hb dJ6_bitCount_0f7a4_42 rfl (lv_at hl 0 rfl) ?_
  refine lv_bipush (v := (16 : Int32)) hx hb dJ6_bitCount_0f7a4_43 (by decide) ?_
  refine lv_iushr (v := (y4.toUInt32 >>> ((16 : Int32).toUInt32 &&& Int32.toUInt32 31)).toInt32) hx hb dJ6_bitCount_0f7a4_45 rfl ?_
  refine lv_iadd hx hb dJ6_bitCount_0f7a4_46 ?_
  refine lv_topi (fun y5 ey5 => ?_)
  have h := h y5 ey5
  refine lv_istore_n (lv' := [(0, .int y5)]) hx hb dJ6_bitCount_0f7a4_47 rfl hl (by decide) rfl (fun ls hl => ?_)
  refine lv_iload_n hx hb dJ6_bitCount_0f7a4_48 rfl (lv_at hl 0 rfl) ?_
  refine lv_bipush (v := (63 : Int32)) hx hb dJ6_bitCount_0f7a4_49 (by decide) ?_
  refine lv_iand hx hb dJ6_bitCount_0f7a4_51 ?_
  exact z_iret hQ hx hb hr rfl hlocks hK () h hP hD hS dJ6_bitCount_0f7a4_52
theorem hd_X0_pointsOnRings : yX0_pointsOnRings.cls = RX0 ∧ yX0_pointsOnRings.cls ≠ "java/lang/invoke/MethodHandle" ∧ yX0_pointsOnRings.cls ≠ "java/lang/invoke/VarHandle" ∧ (parseMethodDescriptor yX0_pointsOnRings.desc).map (fun d => d.parameters.length) = some 0 := by decide +kernel
set_option maxHeartbeats 4000000 in
set_option maxRecDepth 100000 in
theorem c_X0_pointsOnRings (l : Launch) (D : va_G) (cI cJ cB : ClassId) (tU tM : Nat) (tS : tsT) (q_p0 q_p0_led q_p0_turnedLed : Nat) (sz : Nat) (v_p0_size : Int32) (f_p0_led : (Nat → Int32)) (v_p0_way : Int32) (P : Int32 → Prop) (h : M_X0_pointsOnRings v_p0_size f_p0_led P) : Met l yX0_pointsOnRings wsX0_pointsOnRings ({ frames := 1, cells := 0, slots := 0, locals := 24 }) (va_Pc [.ref q_p0] (zPre D cI cJ cB tU tM tS [(q_p0, .inr (0, [.int v_p0_size, .int v_p0_way, .ref q_p0_led, .ref q_p0_turnedLed])), (q_p0_led, .inl (cI, 8, .inl f_p0_led))] sz)) (va_Qi (fun (r : Int32) (u : Unit) => P r ) (fun u t => zPost D cI cJ cB (va_A [(q_p0, .inr (0, [.int v_p0_size, .int v_p0_way, .ref q_p0_led, .ref q_p0_turnedLed])), (q_p0_led, .inl (cI, 8, .inl f_p0_led))] sz) [(q_p0, .inr (0, [.int v_p0_size, .int v_p0_way, .ref q_p0_led, .ref q_p0_turnedLed])), (q_p0_led, .inl (cI, 8, .inl f_p0_led))] t) (va_A [(q_p0, .inr (0, [.int v_p0_size, .int v_p0_way, .ref q_p0_led, .ref q_p0_turnedLed])), (q_p0_led, .inl (cI, 8, .inl f_p0_led))] sz)) 0 0 (va_A [(q_p0, .inr (0, [.int v_p0_size, .int v_p0_way, .ref q_p0_led, .ref q_p0_turnedLed])), (q_p0_led, .inl (cI, 8, .inl f_p0_led))] sz) := by
  refine z_met (cc := cX0_pointsOnRings) (maxL := 3) (ret := (some .int)) (Qc := fun A => va_Qi (fun (r : Int32) (u : Unit) => P r ) (fun u t => zPost D cI cJ cB A [(q_p0, .inr (0, [.int v_p0_size, .int v_p0_way, .ref q_p0_led, .ref q_p0_turnedLed])), (q_p0_led, .inl (cI, 8, .inl f_p0_led))] t) A) (by decide) rfl [.ref q_p0] (Nat.le_of_ble_eq_true rfl) ?_
  intro p e s m args below meth c A hx hb hr hts hown hml hlocks hA hX hK H locs hP hD hS ls hl Q hQ
  have hown : s.vm.findClass RX0 = some m.cls := hown
  have hl : lv_has ls 3 [(0, .ref q_p0)] := hl
  have hw0 : (Cond.fieldLink RX0 9 "ForcedRings$Chart" "size" "I").before args s = true := hts _ (List.mem_of_getElem? (i := 1) rfl)
  have hinX0 : ∀ w ∈ wsX00, w ∈ wsX0_pointsOnRings := fun _ h => List.mem_cons_of_mem _ (List.mem_append_right _ h)
  refine lv_iconst (v := (0 : Int32)) hx hb dX0_pointsOnRings_0 (by decide) ?_
  refine lv_istore_n (lv' := [(1, .int (0 : Int32)), (0, .ref q_p0)]) hx hb dX0_pointsOnRings_1 rfl hl (by decide) rfl (fun ls hl => ?_)
  refine lv_iconst (v := (0 : Int32)) hx hb dX0_pointsOnRings_2 (by decide) ?_
  refine lv_istore_n (lv' := [(2, .int (0 : Int32)), (1, .int (0 : Int32)), (0, .ref q_p0)]) hx hb dX0_pointsOnRings_3 rfl hl (by decide) rfl (fun ls hl => ?_)
  have k4 : ∀  (n4 : Nat) (l1 : Int32) (l2 : Int32) (H : Heap) (locs : List Loc) (ls : Array Slot), LP2 (M_X0_pointsOnRings_l4 v_p0_size f_p0_led P ) n4 l1 l2 → va_P D vwCl [(q_p0, .inr (0, [.int v_p0_size, .int v_p0_way, .ref q_p0_led, .ref q_p0_turnedLed])), (q_p0_led, .inl (cI, 8, .inl f_p0_led))] H → va_D A [(q_p0, .inr (0, [.int v_p0_size, .int v_p0_way, .ref q_p0_led, .ref q_p0_turnedLed])), (q_p0_led, .inl (cI, 8, .inl f_p0_led))] → va_S A s.heap H locs → lv_has ls 3 [(0, .ref q_p0), (1, .int l1), (2, .int l2)] → W p l e { frames := 1, cells := 0, slots := 0, locals := 24 } s m args below meth c H locs 0 0 Q (F0 m 4 ls []) := by
    intro  n4
    induction n4 with
    | zero =>
      intro l1 l2 H locs ls h
      exact False.elim h
    | succ n4 ih4 =>
      intro l1 l2 H locs ls h hP hD hS hl
      have h : M_X0_pointsOnRings_l4 v_p0_size f_p0_led P  (LP2 (M_X0_pointsOnRings_l4 v_p0_size f_p0_led P ) n4) l1 l2 := h
      refine lv_iload_n hx hb dX0_pointsOnRings_4 rfl (lv_at hl 2 rfl) ?_
      refine lv_aload_n hx hb dX0_pointsOnRings_5 rfl (lv_at hl 0 rfl) ?_
      refine va_get (ci := 0) (C := RX0) (T := TX0) (N := 4) (v := .int v_p0_size) hx hb hts hinX0 hown hK hP 0 rfl rfl 0 (by decide) hw0 (fun _ h9 => h9) rfl dX0_pointsOnRings_6 ?_
      refine lv_icmp_ge (tgt := 26) hx hb dX0_pointsOnRings_9 (by decide) (fun c1 => ?_) (fun c1 => ?_)
      · have h := And.left h c1
        refine lv_iload_n hx hb dX0_pointsOnRings_26 rfl (lv_at hl 1 rfl) ?_
        refine z_cSi (As := [.int l1]) (rest := []) (wr := [(q_p0, .inr (0, [.int v_p0_size, .int v_p0_way, .ref q_p0_led, .ref q_p0_turnedLed])), (q_p0_led, .inl (cI, 8, .inl f_p0_led))]) (wn := fun u => [(q_p0, .inr (0, [.int v_p0_size, .int v_p0_way, .ref q_p0_led, .ref q_p0_turnedLed])), (q_p0_led, .inl (cI, 8, .inl f_p0_led))]) (c_J6_bitCount_0f7a4 l D cI cJ cB tU tM tS  H.size l1 _ h) ⟨hx, hb, hml, hown, hts⟩ (va_cwS 1 hts gX0_pointsOnRings_J6_bitCount_0f7a4 rfl rfl rfl hd_J6_bitCount_0f7a4.2 ⟨Nat.le_of_ble_eq_true rfl, Nat.le_of_ble_eq_true rfl⟩) hX hK hP hD hS hA [] [0, 1] [0, 1] rfl rfl rfl (by decide) (fun _ => rfl) rfl hl.1 rfl (Nat.le_of_ble_eq_true rfl) ⟨Nat.le_refl _, Nat.le_refl _⟩ dX0_pointsOnRings_27 (fun r2 u2 H locs h hP hD hS => ?_)
        exact z_iret hQ hx hb hr rfl hlocks hK () h hP hD hS dX0_pointsOnRings_30
      · have h := And.right h c1
        refine lv_iload_n hx hb dX0_pointsOnRings_12 rfl (lv_at hl 1 rfl) ?_
        refine lv_aload_n hx hb dX0_pointsOnRings_13 rfl (lv_at hl 0 rfl) ?_
        refine lv_iload_n hx hb dX0_pointsOnRings_14 rfl (lv_at hl 2 rfl) ?_
        refine z_cVi (As := [.int l2]) (rest := [.int l1]) (wr := []) (wn := fun u => [(q_p0, .inr (0, [.int v_p0_size, .int v_p0_way, .ref q_p0_led, .ref q_p0_turnedLed])), (q_p0_led, .inl (cI, 8, .inl f_p0_led))]) (c_X0_ringBits l D cI cJ cB tU tM tS q_p0 q_p0_led q_p0_turnedLed H.size l2 v_p0_size f_p0_led v_p0_way _ h) ⟨hx, hb, hml, hown, hts⟩ (cwV 1 hts gX0_pointsOnRings_X0_ringBits rfl rfl rfl hd_X0_ringBits ⟨Nat.le_of_ble_eq_true rfl, Nat.le_of_ble_eq_true rfl⟩) hX hK hP hD hS hA [0, 1] [] [0, 1] rfl rfl rfl (by decide) (fun _ => rfl) (q0 := 0) (ci := 0) rfl rfl rfl hl.1 rfl (Nat.le_of_ble_eq_true rfl) ⟨Nat.le_refl _, Nat.le_refl _⟩ dX0_pointsOnRings_15 (fun r3 u3 H locs h hP hD hS => ?_)
        refine lv_ior hx hb dX0_pointsOnRings_18 ?_
        refine lv_istore_n (lv' := [(1, .int (l1 ||| r3)), (0, .ref q_p0), (2, .int l2)]) hx hb dX0_pointsOnRings_19 rfl hl (by decide) rfl (fun ls hl => ?_)
        refine lv_iinc (v := (l2 + 1)) (lv' := [(2, .int (l2 + 1)), (1, .int (l1 ||| r3)), (0, .ref q_p0)]) hx hb dX0_pointsOnRings_20 hl (k := 2) rfl rfl (by decide) rfl (fun ls hl => ?_)
        refine lv_goto (tgt := 4) hx hb dX0_pointsOnRings_23 (by decide) ?_
        exact ih4 (l1 ||| r3) (l2 + 1) _ _ _ h hP hD hS (lv_sub hl [2, 1, 0] rfl)
  obtain ⟨n4, h⟩ := h
  exact k4  n4 (0 : Int32) (0 : Int32) _ _ _ h hP hD hS (lv_sub hl [2, 1, 0] rfl)
theorem hd_X0_greatestRing : yX0_greatestRing.cls = RX0 ∧ yX0_greatestRing.cls ≠ "java/lang/invoke/MethodHandle" ∧ yX0_greatestRing.cls ≠ "java/lang/invoke/VarHandle" ∧ (parseMethodDescriptor yX0_greatestRing.desc).map (fun d => d.parameters.length) = some 0 := by decide +kernel
set_option maxHeartbeats 4000000 in
set_option maxRecDepth 100000 in
theorem c_X0_greatestRing (l : Launch) (D : va_G) (cI cJ cB : ClassId) (tU tM : Nat) (tS : tsT) (q_p0 q_p0_led q_p0_turnedLed : Nat) (sz : Nat) (v_p0_size : Int32) (f_p0_led : (Nat → Int32)) (v_p0_way : Int32) (P : Int32 → Prop) (h : M_X0_greatestRing v_p0_size f_p0_led P) : Met l yX0_greatestRing wsX0_greatestRing ({ frames := 1, cells := 0, slots := 0, locals := 24 }) (va_Pc [.ref q_p0] (zPre D cI cJ cB tU tM tS [(q_p0, .inr (0, [.int v_p0_size, .int v_p0_way, .ref q_p0_led, .ref q_p0_turnedLed])), (q_p0_led, .inl (cI, 8, .inl f_p0_led))] sz)) (va_Qi (fun (r : Int32) (u : Unit) => P r ) (fun u t => zPost D cI cJ cB (va_A [(q_p0, .inr (0, [.int v_p0_size, .int v_p0_way, .ref q_p0_led, .ref q_p0_turnedLed])), (q_p0_led, .inl (cI, 8, .inl f_p0_led))] sz) [(q_p0, .inr (0, [.int v_p0_size, .int v_p0_way, .ref q_p0_led, .ref q_p0_turnedLed])), (q_p0_led, .inl (cI, 8, .inl f_p0_led))] t) (va_A [(q_p0, .inr (0, [.int v_p0_size, .int v_p0_way, .ref q_p0_led, .ref q_p0_turnedLed])), (q_p0_led, .inl (cI, 8, .inl f_p0_led))] sz)) 0 0 (va_A [(q_p0, .inr (0, [.int v_p0_size, .int v_p0_way, .ref q_p0_led, .ref q_p0_turnedLed])), (q_p0_led, .inl (cI, 8, .inl f_p0_led))] sz) := by
  refine z_met (cc := cX0_greatestRing) (maxL := 3) (ret := (some .int)) (Qc := fun A => va_Qi (fun (r : Int32) (u : Unit) => P r ) (fun u t => zPost D cI cJ cB A [(q_p0, .inr (0, [.int v_p0_size, .int v_p0_way, .ref q_p0_led, .ref q_p0_turnedLed])), (q_p0_led, .inl (cI, 8, .inl f_p0_led))] t) A) (by decide) rfl [.ref q_p0] (Nat.le_of_ble_eq_true rfl) ?_
  intro p e s m args below meth c A hx hb hr hts hown hml hlocks hA hX hK H locs hP hD hS ls hl Q hQ
  have hown : s.vm.findClass RX0 = some m.cls := hown
  have hl : lv_has ls 3 [(0, .ref q_p0)] := hl
  have hw0 : (Cond.fieldLink RX0 9 "ForcedRings$Chart" "size" "I").before args s = true := hts _ (List.mem_of_getElem? (i := 1) rfl)
  have hw1 : (Cond.methodLink RX0 48 Lib.Math.max.name).before args s = true := hts _ (List.mem_of_getElem? (i := 2) rfl)
  have hw2 : (Cond.static Lib.Math.max.name).before args s = true := hts _ (List.mem_of_getElem? (i := 3) rfl)
  have hw3 : (Cond.initialized "java/lang/Math").before args s = true := hts _ (List.mem_of_getElem? (i := 4) rfl)
  have hw4 : (Cond.code Lib.Math.max.name Lib.Math.max.code 2 (some .int)).before args s = true := hts _ (List.mem_of_getElem? (i := 5) rfl)
  have hinX0 : ∀ w ∈ wsX00, w ∈ wsX0_greatestRing := fun _ h => List.mem_cons_of_mem _ (List.mem_append_right _ h)
  refine lv_iconst (v := (0 : Int32)) hx hb dX0_greatestRing_0 (by decide) ?_
  refine lv_istore_n (lv' := [(1, .int (0 : Int32)), (0, .ref q_p0)]) hx hb dX0_greatestRing_1 rfl hl (by decide) rfl (fun ls hl => ?_)
  refine lv_iconst (v := (0 : Int32)) hx hb dX0_greatestRing_2 (by decide) ?_
  refine lv_istore_n (lv' := [(2, .int (0 : Int32)), (1, .int (0 : Int32)), (0, .ref q_p0)]) hx hb dX0_greatestRing_3 rfl hl (by decide) rfl (fun ls hl => ?_)
  have k4 : ∀  (n4 : Nat) (l1 : Int32) (l2 : Int32) (H : Heap) (locs : List Loc) (ls : Array Slot), LP2 (M_X0_greatestRing_l4 v_p0_size f_p0_led P ) n4 l1 l2 → va_P D vwCl [(q_p0, .inr (0, [.int v_p0_size, .int v_p0_way, .ref q_p0_led, .ref q_p0_turnedLed])), (q_p0_led, .inl (cI, 8, .inl f_p0_led))] H → va_D A [(q_p0, .inr (0, [.int v_p0_size, .int v_p0_way, .ref q_p0_led, .ref q_p0_turnedLed])), (q_p0_led, .inl (cI, 8, .inl f_p0_led))] → va_S A s.heap H locs → lv_has ls 3 [(0, .ref q_p0), (1, .int l1), (2, .int l2)] → W p l e { frames := 1, cells := 0, slots := 0, locals := 24 } s m args below meth c H locs 0 0 Q (F0 m 4 ls []) := by
    intro  n4
    induction n4 with
    | zero =>
      intro l1 l2 H locs ls h
      exact False.elim h
    | succ n4 ih4 =>
      intro l1 l2 H locs ls h hP hD hS hl
      have h : M_X0_greatestRing_l4 v_p0_size f_p0_led P  (LP2 (M_X0_greatestRing_l4 v_p0_size f_p0_led P ) n4) l1 l2 := h
      refine lv_iload_n hx hb dX0_greatestRing_4 rfl (lv_at hl 2 rfl) ?_
      refine lv_aload_n hx hb dX0_greatestRing_5 rfl (lv_at hl 0 rfl) ?_
      refine va_get (ci := 0) (C := RX0) (T := TX0) (N := 4) (v := .int v_p0_size) hx hb hts hinX0 hown hK hP 0 rfl rfl 0 (by decide) hw0 (fun _ h9 => h9) rfl dX0_greatestRing_6 ?_
      refine lv_icmp_ge (tgt := 31) hx hb dX0_greatestRing_9 (by decide) (fun c1 => ?_) (fun c1 => ?_)
      · have h := And.left h c1
        refine lv_iload_n hx hb dX0_greatestRing_31 rfl (lv_at hl 1 rfl) ?_
        exact z_iret hQ hx hb hr rfl hlocks hK () h hP hD hS dX0_greatestRing_32
      · have h := And.right h c1
        refine lv_iload_n hx hb dX0_greatestRing_12 rfl (lv_at hl 1 rfl) ?_
        refine lv_aload_n hx hb dX0_greatestRing_13 rfl (lv_at hl 0 rfl) ?_
        refine lv_iload_n hx hb dX0_greatestRing_14 rfl (lv_at hl 2 rfl) ?_
        refine z_cVi (As := [.int l2]) (rest := [.int l1]) (wr := []) (wn := fun u => [(q_p0, .inr (0, [.int v_p0_size, .int v_p0_way, .ref q_p0_led, .ref q_p0_turnedLed])), (q_p0_led, .inl (cI, 8, .inl f_p0_led))]) (c_X0_ringBits l D cI cJ cB tU tM tS q_p0 q_p0_led q_p0_turnedLed H.size l2 v_p0_size f_p0_led v_p0_way _ h) ⟨hx, hb, hml, hown, hts⟩ (cwV 1 hts gX0_greatestRing_X0_ringBits rfl rfl rfl hd_X0_ringBits ⟨Nat.le_of_ble_eq_true rfl, Nat.le_of_ble_eq_true rfl⟩) hX hK hP hD hS hA [0, 1] [] [0, 1] rfl rfl rfl (by decide) (fun _ => rfl) (q0 := 0) (ci := 0) rfl rfl rfl hl.1 rfl (Nat.le_of_ble_eq_true rfl) ⟨Nat.le_refl _, Nat.le_refl _⟩ dX0_greatestRing_15 (fun r2 u2 H locs h hP hD hS => ?_)
        refine z_cSi (As := [.int r2]) (rest := [.int l1]) (wr := [(q_p0, .inr (0, [.int v_p0_size, .int v_p0_way, .ref q_p0_led, .ref q_p0_turnedLed])), (q_p0_led, .inl (cI, 8, .inl f_p0_led))]) (wn := fun u => [(q_p0, .inr (0, [.int v_p0_size, .int v_p0_way, .ref q_p0_led, .ref q_p0_turnedLed])), (q_p0_led, .inl (cI, 8, .inl f_p0_led))]) (c_J6_bitCount_0f7a4 l D cI cJ cB tU tM tS  H.size r2 _ h) ⟨hx, hb, hml, hown, hts⟩ (va_cwS 1 hts gX0_greatestRing_J6_bitCount_0f7a4 rfl rfl rfl hd_J6_bitCount_0f7a4.2 ⟨Nat.le_of_ble_eq_true rfl, Nat.le_of_ble_eq_true rfl⟩) hX hK hP hD hS hA [] [0, 1] [0, 1] rfl rfl rfl (by decide) (fun _ => rfl) rfl hl.1 rfl (Nat.le_of_ble_eq_true rfl) ⟨Nat.le_refl _, Nat.le_refl _⟩ dX0_greatestRing_18 (fun r3 u3 H locs h hP hD hS => ?_)
        refine va_mmax hx hb (hml.trans hl.1.symm) hown hw1 hw2 hw3 hw4 (Nat.le_of_ble_eq_true rfl) (Nat.le_of_ble_eq_true rfl) (Nat.le_refl _) (Nat.le_refl _) dX0_greatestRing_21 ?_
        refine lv_istore_n (lv' := [(1, .int (if l1 < r3 then r3 else l1)), (0, .ref q_p0), (2, .int l2)]) hx hb dX0_greatestRing_24 rfl hl (by decide) rfl (fun ls hl => ?_)
        refine lv_iinc (v := (l2 + 1)) (lv' := [(2, .int (l2 + 1)), (1, .int (if l1 < r3 then r3 else l1)), (0, .ref q_p0)]) hx hb dX0_greatestRing_25 hl (k := 2) rfl rfl (by decide) rfl (fun ls hl => ?_)
        refine lv_goto (tgt := 4) hx hb dX0_greatestRing_28 (by decide) ?_
        exact ih4 (if l1 < r3 then r3 else l1) (l2 + 1) _ _ _ h hP hD hS (lv_sub hl [2, 1, 0] rfl)
  obtain ⟨n4, h⟩ := h
  exact k4  n4 (0 : Int32) (0 : Int32) _ _ _ h hP hD hS (lv_sub hl [2, 1, 0] rfl)
theorem hd_X0_mirror : yX0_mirror.cls = RX0 ∧ yX0_mirror.cls ≠ "java/lang/invoke/MethodHandle" ∧ yX0_mirror.cls ≠ "java/lang/invoke/VarHandle" ∧ (parseMethodDescriptor yX0_mirror.desc).map (fun d => d.parameters.length) = some 0 := by decide +kernel
set_option maxHeartbeats 4000000 in
set_option maxRecDepth 100000 in
theorem c_X0_mirror (l : Launch) (D : va_G) (cI cJ cB : ClassId) (tU tM : Nat) (tS : tsT) (q_p0 q_p0_led q_p0_turnedLed : Nat) (sz : Nat) (v_p0_size : Int32) (f_p0_led : (Nat → Int32)) (f_p0_turnedLed : (Nat → Int32)) (v_p0_way : Int32) (P : (Nat → Int32) → Prop) (h : M_X0_mirror v_p0_size f_p0_led f_p0_turnedLed P) : Met l yX0_mirror wsX0_mirror ({ frames := 0, cells := 0, slots := 0, locals := 0 }) (va_Pc [.ref q_p0] (zPre D cI cJ cB tU tM tS [(q_p0, .inr (0, [.int v_p0_size, .int v_p0_way, .ref q_p0_led, .ref q_p0_turnedLed])), (q_p0_led, .inl (cI, 8, .inl f_p0_led)), (q_p0_turnedLed, .inl (cI, 8, .inl f_p0_turnedLed))] sz)) (va_Qv (fun u : (Nat → Int32) => P u) (fun u t => zPost D cI cJ cB (va_A [(q_p0, .inr (0, [.int v_p0_size, .int v_p0_way, .ref q_p0_led, .ref q_p0_turnedLed])), (q_p0_led, .inl (cI, 8, .inl f_p0_led)), (q_p0_turnedLed, .inl (cI, 8, .inl f_p0_turnedLed))] sz) [(q_p0, .inr (0, [.int v_p0_size, .int v_p0_way, .ref q_p0_led, .ref q_p0_turnedLed])), (q_p0_led, .inl (cI, 8, .inl f_p0_led)), (q_p0_turnedLed, .inl (cI, 8, .inl u))] t) (va_A [(q_p0, .inr (0, [.int v_p0_size, .int v_p0_way, .ref q_p0_led, .ref q_p0_turnedLed])), (q_p0_led, .inl (cI, 8, .inl f_p0_led)), (q_p0_turnedLed, .inl (cI, 8, .inl f_p0_turnedLed))] sz)) 0 0 (va_A [(q_p0, .inr (0, [.int v_p0_size, .int v_p0_way, .ref q_p0_led, .ref q_p0_turnedLed])), (q_p0_led, .inl (cI, 8, .inl f_p0_led)), (q_p0_turnedLed, .inl (cI, 8, .inl f_p0_turnedLed))] sz) := by
  refine z_met (cc := cX0_mirror) (maxL := 2) (ret := none) (Qc := fun A => va_Qv (fun u : (Nat → Int32) => P u) (fun u t => zPost D cI cJ cB A [(q_p0, .inr (0, [.int v_p0_size, .int v_p0_way, .ref q_p0_led, .ref q_p0_turnedLed])), (q_p0_led, .inl (cI, 8, .inl f_p0_led)), (q_p0_turnedLed, .inl (cI, 8, .inl u))] t) A) (by decide) rfl [.ref q_p0] (Nat.le_of_ble_eq_true rfl) ?_
  intro p e s m args below meth c A hx hb hr hts hown hml hlocks hA hX hK H locs hP hD hS ls hl Q hQ
  have hown : s.vm.findClass RX0 = some m.cls := hown
  have hl : lv_has ls 2 [(0, .ref q_p0)] := hl
  have hw0 : (Cond.fieldLink RX0 9 "ForcedRings$Chart" "size" "I").before args s = true := hts _ (List.mem_of_getElem? (i := 1) rfl)
  have hw1 : (Cond.fieldLink RX0 22 "ForcedRings$Chart" "turnedLed" "[I").before args s = true := hts _ (List.mem_of_getElem? (i := 2) rfl)
  have hw2 : (Cond.fieldLink RX0 18 "ForcedRings$Chart" "led" "[I").before args s = true := hts _ (List.mem_of_getElem? (i := 3) rfl)
  have hinX0 : ∀ w ∈ wsX00, w ∈ wsX0_mirror := fun _ h => List.mem_cons_of_mem _ (List.mem_append_right _ h)
  refine lv_iconst (v := (0 : Int32)) hx hb dX0_mirror_0 (by decide) ?_
  refine lv_istore_n (lv' := [(1, .int (0 : Int32)), (0, .ref q_p0)]) hx hb dX0_mirror_1 rfl hl (by decide) rfl (fun ls hl => ?_)
  have k2 : ∀  (n2 : Nat) (l1 : Int32) (f_p0_turnedLed : (Nat → Int32)) (H : Heap) (locs : List Loc) (ls : Array Slot), LP2 (M_X0_mirror_l2 v_p0_size f_p0_led P ) n2 l1 f_p0_turnedLed → va_P D vwCl [(q_p0, .inr (0, [.int v_p0_size, .int v_p0_way, .ref q_p0_led, .ref q_p0_turnedLed])), (q_p0_led, .inl (cI, 8, .inl f_p0_led)), (q_p0_turnedLed, .inl (cI, 8, .inl f_p0_turnedLed))] H → va_D A [(q_p0, .inr (0, [.int v_p0_size, .int v_p0_way, .ref q_p0_led, .ref q_p0_turnedLed])), (q_p0_led, .inl (cI, 8, .inl f_p0_led)), (q_p0_turnedLed, .inl (cI, 8, .inl f_p0_turnedLed))] → va_S A s.heap H locs → lv_has ls 2 [(0, .ref q_p0), (1, .int l1)] → W p l e { frames := 0, cells := 0, slots := 0, locals := 0 } s m args below meth c H locs 0 0 Q (F0 m 2 ls []) := by
    intro  n2
    induction n2 with
    | zero =>
      intro l1 f_p0_turnedLed H locs ls h
      exact False.elim h
    | succ n2 ih2 =>
      intro l1 f_p0_turnedLed H locs ls h hP hD hS hl
      have h : M_X0_mirror_l2 v_p0_size f_p0_led P  (LP2 (M_X0_mirror_l2 v_p0_size f_p0_led P ) n2) l1 f_p0_turnedLed := h
      refine lv_iload_n hx hb dX0_mirror_2 rfl (lv_at hl 1 rfl) ?_
      refine lv_aload_n hx hb dX0_mirror_3 rfl (lv_at hl 0 rfl) ?_
      refine va_get (ci := 0) (C := RX0) (T := TX0) (N := 4) (v := .int v_p0_size) hx hb hts hinX0 hown hK hP 0 rfl rfl 0 (by decide) hw0 (fun _ h9 => h9) rfl dX0_mirror_4 ?_
      refine lv_icmp_ge (tgt := 42) hx hb dX0_mirror_7 (by decide) (fun c1 => ?_) (fun c1 => ?_)
      · have h := And.left h c1
        exact z_vret hQ hx hb hr hlocks hK f_p0_turnedLed h hP hD hS dX0_mirror_42
      · have h := And.right h c1
        refine lv_aload_n hx hb dX0_mirror_10 rfl (lv_at hl 0 rfl) ?_
        refine va_get (ci := 0) (C := RX0) (T := TX0) (N := 4) (v := .ref q_p0_turnedLed) hx hb hts hinX0 hown hK hP 0 rfl rfl 3 (by decide) hw1 (fun _ h9 => h9) rfl dX0_mirror_11 ?_
        refine lv_aload_n hx hb dX0_mirror_14 rfl (lv_at hl 0 rfl) ?_
        refine va_get (ci := 0) (C := RX0) (T := TX0) (N := 4) (v := .int v_p0_size) hx hb hts hinX0 hown hK hP 0 rfl rfl 0 (by decide) hw0 (fun _ h9 => h9) rfl dX0_mirror_15 ?_
        refine lv_iconst (v := (1 : Int32)) hx hb dX0_mirror_18 (by decide) ?_
        refine lv_isub hx hb dX0_mirror_19 ?_
        refine lv_iload_n hx hb dX0_mirror_20 rfl (lv_at hl 1 rfl) ?_
        refine lv_isub hx hb dX0_mirror_21 ?_
        refine lv_aload_n hx hb dX0_mirror_22 rfl (lv_at hl 0 rfl) ?_
        refine va_get (ci := 0) (C := RX0) (T := TX0) (N := 4) (v := .int v_p0_size) hx hb hts hinX0 hown hK hP 0 rfl rfl 0 (by decide) hw0 (fun _ h9 => h9) rfl dX0_mirror_23 ?_
        refine lv_iconst (v := (1 : Int32)) hx hb dX0_mirror_26 (by decide) ?_
        refine lv_isub hx hb dX0_mirror_27 ?_
        refine lv_aload_n hx hb dX0_mirror_28 rfl (lv_at hl 0 rfl) ?_
        refine va_get (ci := 0) (C := RX0) (T := TX0) (N := 4) (v := .ref q_p0_led) hx hb hts hinX0 hown hK hP 0 rfl rfl 2 (by decide) hw2 (fun _ h9 => h9) rfl dX0_mirror_29 ?_
        refine lv_iload_n hx hb dX0_mirror_32 rfl (lv_at hl 1 rfl) ?_
        obtain ⟨hi2, h⟩ := h
        refine va_iald hx hb hK hP 1 0 rfl rfl hi2 dX0_mirror_33 ?_
        refine lv_isub hx hb dX0_mirror_34 ?_
        obtain ⟨hi3, h⟩ := h
        refine z_iast (wn := [(q_p0, .inr (0, [.int v_p0_size, .int v_p0_way, .ref q_p0_led, .ref q_p0_turnedLed])), (q_p0_led, .inl (cI, 8, .inl f_p0_led)), (q_p0_turnedLed, .inl (cI, 8, .inl (upd f_p0_turnedLed ((v_p0_size - (1 : Int32)) - l1).toNatClampNeg ((v_p0_size - (1 : Int32)) - (f_p0_led l1.toNatClampNeg)))))]) hx hb hK hP hD hS 2 rfl hi3 dX0_mirror_35 rfl (fun H locs hP hD hS => ?_)
        refine lv_iinc (v := (l1 + 1)) (lv' := [(1, .int (l1 + 1)), (0, .ref q_p0)]) hx hb dX0_mirror_36 hl (k := 1) rfl rfl (by decide) rfl (fun ls hl => ?_)
        refine lv_goto (tgt := 2) hx hb dX0_mirror_39 (by decide) ?_
        exact ih2 (l1 + 1) (upd f_p0_turnedLed ((v_p0_size - (1 : Int32)) - l1).toNatClampNeg ((v_p0_size - (1 : Int32)) - (f_p0_led l1.toNatClampNeg))) _ _ _ h hP hD hS (lv_sub hl [1, 0] rfl)
  obtain ⟨n2, h⟩ := h
  exact k2  n2 (0 : Int32) f_p0_turnedLed _ _ _ h hP hD hS (lv_sub hl [1, 0] rfl)
theorem hd_X0_leadTwice : yX0_leadTwice.cls = RX0 ∧ yX0_leadTwice.cls ≠ "java/lang/invoke/MethodHandle" ∧ yX0_leadTwice.cls ≠ "java/lang/invoke/VarHandle" ∧ (parseMethodDescriptor yX0_leadTwice.desc).map (fun d => d.parameters.length) = some 0 := by decide +kernel
set_option maxHeartbeats 4000000 in
set_option maxRecDepth 100000 in
theorem c_X0_leadTwice (l : Launch) (D : va_G) (cI cJ cB : ClassId) (tU tM : Nat) (tS : tsT) (q_p0 q_p0_led q_p0_turnedLed : Nat) (sz : Nat) (v_p0_size : Int32) (f_p0_led : (Nat → Int32)) (f_p0_turnedLed : (Nat → Int32)) (v_p0_way : Int32) (P : (Nat → Int32) → Prop) (h : M_X0_leadTwice v_p0_size f_p0_led f_p0_turnedLed P) : Met l yX0_leadTwice wsX0_leadTwice ({ frames := 0, cells := 0, slots := 0, locals := 0 }) (va_Pc [.ref q_p0] (zPre D cI cJ cB tU tM tS [(q_p0, .inr (0, [.int v_p0_size, .int v_p0_way, .ref q_p0_led, .ref q_p0_turnedLed])), (q_p0_led, .inl (cI, 8, .inl f_p0_led)), (q_p0_turnedLed, .inl (cI, 8, .inl f_p0_turnedLed))] sz)) (va_Qv (fun u : (Nat → Int32) => P u) (fun u t => zPost D cI cJ cB (va_A [(q_p0, .inr (0, [.int v_p0_size, .int v_p0_way, .ref q_p0_led, .ref q_p0_turnedLed])), (q_p0_led, .inl (cI, 8, .inl f_p0_led)), (q_p0_turnedLed, .inl (cI, 8, .inl f_p0_turnedLed))] sz) [(q_p0, .inr (0, [.int v_p0_size, .int v_p0_way, .ref q_p0_led, .ref q_p0_turnedLed])), (q_p0_led, .inl (cI, 8, .inl f_p0_led)), (q_p0_turnedLed, .inl (cI, 8, .inl u))] t) (va_A [(q_p0, .inr (0, [.int v_p0_size, .int v_p0_way, .ref q_p0_led, .ref q_p0_turnedLed])), (q_p0_led, .inl (cI, 8, .inl f_p0_led)), (q_p0_turnedLed, .inl (cI, 8, .inl f_p0_turnedLed))] sz)) 0 0 (va_A [(q_p0, .inr (0, [.int v_p0_size, .int v_p0_way, .ref q_p0_led, .ref q_p0_turnedLed])), (q_p0_led, .inl (cI, 8, .inl f_p0_led)), (q_p0_turnedLed, .inl (cI, 8, .inl f_p0_turnedLed))] sz) := by
  refine z_met (cc := cX0_leadTwice) (maxL := 2) (ret := none) (Qc := fun A => va_Qv (fun u : (Nat → Int32) => P u) (fun u t => zPost D cI cJ cB A [(q_p0, .inr (0, [.int v_p0_size, .int v_p0_way, .ref q_p0_led, .ref q_p0_turnedLed])), (q_p0_led, .inl (cI, 8, .inl f_p0_led)), (q_p0_turnedLed, .inl (cI, 8, .inl u))] t) A) (by decide) rfl [.ref q_p0] (Nat.le_of_ble_eq_true rfl) ?_
  intro p e s m args below meth c A hx hb hr hts hown hml hlocks hA hX hK H locs hP hD hS ls hl Q hQ
  have hown : s.vm.findClass RX0 = some m.cls := hown
  have hl : lv_has ls 2 [(0, .ref q_p0)] := hl
  have hw0 : (Cond.fieldLink RX0 9 "ForcedRings$Chart" "size" "I").before args s = true := hts _ (List.mem_of_getElem? (i := 1) rfl)
  have hw1 : (Cond.fieldLink RX0 22 "ForcedRings$Chart" "turnedLed" "[I").before args s = true := hts _ (List.mem_of_getElem? (i := 2) rfl)
  have hw2 : (Cond.fieldLink RX0 18 "ForcedRings$Chart" "led" "[I").before args s = true := hts _ (List.mem_of_getElem? (i := 3) rfl)
  have hinX0 : ∀ w ∈ wsX00, w ∈ wsX0_leadTwice := fun _ h => List.mem_cons_of_mem _ (List.mem_append_right _ h)
  refine lv_iconst (v := (0 : Int32)) hx hb dX0_leadTwice_0 (by decide) ?_
  refine lv_istore_n (lv' := [(1, .int (0 : Int32)), (0, .ref q_p0)]) hx hb dX0_leadTwice_1 rfl hl (by decide) rfl (fun ls hl => ?_)
  have k2 : ∀  (n2 : Nat) (l1 : Int32) (f_p0_turnedLed : (Nat → Int32)) (H : Heap) (locs : List Loc) (ls : Array Slot), LP2 (M_X0_leadTwice_l2 v_p0_size f_p0_led P ) n2 l1 f_p0_turnedLed → va_P D vwCl [(q_p0, .inr (0, [.int v_p0_size, .int v_p0_way, .ref q_p0_led, .ref q_p0_turnedLed])), (q_p0_led, .inl (cI, 8, .inl f_p0_led)), (q_p0_turnedLed, .inl (cI, 8, .inl f_p0_turnedLed))] H → va_D A [(q_p0, .inr (0, [.int v_p0_size, .int v_p0_way, .ref q_p0_led, .ref q_p0_turnedLed])), (q_p0_led, .inl (cI, 8, .inl f_p0_led)), (q_p0_turnedLed, .inl (cI, 8, .inl f_p0_turnedLed))] → va_S A s.heap H locs → lv_has ls 2 [(0, .ref q_p0), (1, .int l1)] → W p l e { frames := 0, cells := 0, slots := 0, locals := 0 } s m args below meth c H locs 0 0 Q (F0 m 2 ls []) := by
    intro  n2
    induction n2 with
    | zero =>
      intro l1 f_p0_turnedLed H locs ls h
      exact False.elim h
    | succ n2 ih2 =>
      intro l1 f_p0_turnedLed H locs ls h hP hD hS hl
      have h : M_X0_leadTwice_l2 v_p0_size f_p0_led P  (LP2 (M_X0_leadTwice_l2 v_p0_size f_p0_led P ) n2) l1 f_p0_turnedLed := h
      refine lv_iload_n hx hb dX0_leadTwice_2 rfl (lv_at hl 1 rfl) ?_
      refine lv_aload_n hx hb dX0_leadTwice_3 rfl (lv_at hl 0 rfl) ?_
      refine va_get (ci := 0) (C := RX0) (T := TX0) (N := 4) (v := .int v_p0_size) hx hb hts hinX0 hown hK hP 0 rfl rfl 0 (by decide) hw0 (fun _ h9 => h9) rfl dX0_leadTwice_4 ?_
      refine lv_icmp_ge (tgt := 33) hx hb dX0_leadTwice_7 (by decide) (fun c1 => ?_) (fun c1 => ?_)
      · have h := And.left h c1
        exact z_vret hQ hx hb hr hlocks hK f_p0_turnedLed h hP hD hS dX0_leadTwice_33
      · have h := And.right h c1
        refine lv_aload_n hx hb dX0_leadTwice_10 rfl (lv_at hl 0 rfl) ?_
        refine va_get (ci := 0) (C := RX0) (T := TX0) (N := 4) (v := .ref q_p0_turnedLed) hx hb hts hinX0 hown hK hP 0 rfl rfl 3 (by decide) hw1 (fun _ h9 => h9) rfl dX0_leadTwice_11 ?_
        refine lv_iload_n hx hb dX0_leadTwice_14 rfl (lv_at hl 1 rfl) ?_
        refine lv_aload_n hx hb dX0_leadTwice_15 rfl (lv_at hl 0 rfl) ?_
        refine va_get (ci := 0) (C := RX0) (T := TX0) (N := 4) (v := .ref q_p0_led) hx hb hts hinX0 hown hK hP 0 rfl rfl 2 (by decide) hw2 (fun _ h9 => h9) rfl dX0_leadTwice_16 ?_
        refine lv_aload_n hx hb dX0_leadTwice_19 rfl (lv_at hl 0 rfl) ?_
        refine va_get (ci := 0) (C := RX0) (T := TX0) (N := 4) (v := .ref q_p0_led) hx hb hts hinX0 hown hK hP 0 rfl rfl 2 (by decide) hw2 (fun _ h9 => h9) rfl dX0_leadTwice_20 ?_
        refine lv_iload_n hx hb dX0_leadTwice_23 rfl (lv_at hl 1 rfl) ?_
        obtain ⟨hi2, h⟩ := h
        refine va_iald hx hb hK hP 1 0 rfl rfl hi2 dX0_leadTwice_24 ?_
        obtain ⟨hi3, h⟩ := h
        refine va_iald hx hb hK hP 1 0 rfl rfl hi3 dX0_leadTwice_25 ?_
        obtain ⟨hi4, h⟩ := h
        refine z_iast (wn := [(q_p0, .inr (0, [.int v_p0_size, .int v_p0_way, .ref q_p0_led, .ref q_p0_turnedLed])), (q_p0_led, .inl (cI, 8, .inl f_p0_led)), (q_p0_turnedLed, .inl (cI, 8, .inl (upd f_p0_turnedLed l1.toNatClampNeg (f_p0_led (f_p0_led l1.toNatClampNeg).toNatClampNeg))))]) hx hb hK hP hD hS 2 rfl hi4 dX0_leadTwice_26 rfl (fun H locs hP hD hS => ?_)
        refine lv_iinc (v := (l1 + 1)) (lv' := [(1, .int (l1 + 1)), (0, .ref q_p0)]) hx hb dX0_leadTwice_27 hl (k := 1) rfl rfl (by decide) rfl (fun ls hl => ?_)
        refine lv_goto (tgt := 2) hx hb dX0_leadTwice_30 (by decide) ?_
        exact ih2 (l1 + 1) (upd f_p0_turnedLed l1.toNatClampNeg (f_p0_led (f_p0_led l1.toNatClampNeg).toNatClampNeg)) _ _ _ h hP hD hS (lv_sub hl [1, 0] rfl)
  obtain ⟨n2, h⟩ := h
  exact k2  n2 (0 : Int32) f_p0_turnedLed _ _ _ h hP hD hS (lv_sub hl [1, 0] rfl)
theorem hd_X0_round : yX0_round.cls = RX0 ∧ yX0_round.cls ≠ "java/lang/invoke/MethodHandle" ∧ yX0_round.cls ≠ "java/lang/invoke/VarHandle" ∧ (parseMethodDescriptor yX0_round.desc).map (fun d => d.parameters.length) = some 1 := by decide +kernel
set_option maxHeartbeats 4000000 in
set_option maxRecDepth 100000 in
theorem c_X0_round (l : Launch) (D : va_G) (cI cJ cB : ClassId) (tU tM : Nat) (tS : tsT) (q_p0 q_p0_led q_p0_turnedLed : Nat) (sz : Nat) (x1 : Int32) (v_p0_size : Int32) (v_p0_way : Int32) (P : Int32 → Prop) (h : M_X0_round x1 v_p0_size P) : Met l yX0_round wsX0_round ({ frames := 0, cells := 0, slots := 0, locals := 0 }) (va_Pc [.ref q_p0, .int x1] (zPre D cI cJ cB tU tM tS [(q_p0, .inr (0, [.int v_p0_size, .int v_p0_way, .ref q_p0_led, .ref q_p0_turnedLed]))] sz)) (va_Qi (fun (r : Int32) (u : Unit) => P r ) (fun u t => zPost D cI cJ cB (va_A [(q_p0, .inr (0, [.int v_p0_size, .int v_p0_way, .ref q_p0_led, .ref q_p0_turnedLed]))] sz) [(q_p0, .inr (0, [.int v_p0_size, .int v_p0_way, .ref q_p0_led, .ref q_p0_turnedLed]))] t) (va_A [(q_p0, .inr (0, [.int v_p0_size, .int v_p0_way, .ref q_p0_led, .ref q_p0_turnedLed]))] sz)) 0 0 (va_A [(q_p0, .inr (0, [.int v_p0_size, .int v_p0_way, .ref q_p0_led, .ref q_p0_turnedLed]))] sz) := by
  refine z_met (cc := cX0_round) (maxL := 2) (ret := (some .int)) (Qc := fun A => va_Qi (fun (r : Int32) (u : Unit) => P r ) (fun u t => zPost D cI cJ cB A [(q_p0, .inr (0, [.int v_p0_size, .int v_p0_way, .ref q_p0_led, .ref q_p0_turnedLed]))] t) A) (by decide) rfl [.ref q_p0, .int x1] (Nat.le_of_ble_eq_true rfl) ?_
  intro p e s m args below meth c A hx hb hr hts hown hml hlocks hA hX hK H locs hP hD hS ls hl Q hQ
  have hown : s.vm.findClass RX0 = some m.cls := hown
  have hl : lv_has ls 2 [(0, .ref q_p0), (1, .int x1)] := hl
  have hw0 : (Cond.fieldLink RX0 9 "ForcedRings$Chart" "size" "I").before args s = true := hts _ (List.mem_of_getElem? (i := 1) rfl)
  have hinX0 : ∀ w ∈ wsX00, w ∈ wsX0_round := fun _ h => List.mem_cons_of_mem _ (List.mem_append_right _ h)
  refine lv_aload_n hx hb dX0_round_0 rfl (lv_at hl 0 rfl) ?_
  refine va_get (ci := 0) (C := RX0) (T := TX0) (N := 4) (v := .int v_p0_size) hx hb hts hinX0 hown hK hP 0 rfl rfl 0 (by decide) hw0 (fun _ h9 => h9) rfl dX0_round_1 ?_
  refine lv_if_le (tgt := 16) hx hb dX0_round_4 (by decide) (fun c1 => ?_) (fun c1 => ?_)
  · have h := And.left h c1
    refine lv_iconst (v := (0 : Int32)) hx hb dX0_round_16 (by decide) ?_
    exact z_iret hQ hx hb hr rfl hlocks hK () h hP hD hS dX0_round_17
  · have h := And.right h c1
    refine lv_iload_n hx hb dX0_round_7 rfl (lv_at hl 1 rfl) ?_
    refine lv_aload_n hx hb dX0_round_8 rfl (lv_at hl 0 rfl) ?_
    refine va_get (ci := 0) (C := RX0) (T := TX0) (N := 4) (v := .int v_p0_size) hx hb hts hinX0 hown hK hP 0 rfl rfl 0 (by decide) hw0 (fun _ h9 => h9) rfl dX0_round_9 ?_
    obtain ⟨hn2, h⟩ := h
    refine lv_irem hx hb dX0_round_12 hn2 ?_
    refine lv_goto (tgt := 17) hx hb dX0_round_13 (by decide) ?_
    exact z_iret hQ hx hb hr rfl hlocks hK () h hP hD hS dX0_round_17
theorem hd_X0_move : yX0_move.cls = RX0 ∧ yX0_move.cls ≠ "java/lang/invoke/MethodHandle" ∧ yX0_move.cls ≠ "java/lang/invoke/VarHandle" ∧ (parseMethodDescriptor yX0_move.desc).map (fun d => d.parameters.length) = some 0 := by decide +kernel
set_option maxHeartbeats 4000000 in
set_option maxRecDepth 100000 in
theorem c_X0_move (l : Launch) (D : va_G) (cI cJ cB : ClassId) (tU tM : Nat) (tS : tsT) (q_p0 q_p0_led q_p0_turnedLed : Nat) (sz : Nat) (v_p0_size : Int32) (f_p0_led : (Nat → Int32)) (f_p0_turnedLed : (Nat → Int32)) (v_p0_way : Int32) (P : (Nat → Int32) → Prop) (h : M_X0_move v_p0_size f_p0_led f_p0_turnedLed P) : Met l yX0_move wsX0_move ({ frames := 1, cells := 0, slots := 0, locals := 21 }) (va_Pc [.ref q_p0] (zPre D cI cJ cB tU tM tS [(q_p0, .inr (0, [.int v_p0_size, .int v_p0_way, .ref q_p0_led, .ref q_p0_turnedLed])), (q_p0_led, .inl (cI, 8, .inl f_p0_led)), (q_p0_turnedLed, .inl (cI, 8, .inl f_p0_turnedLed))] sz)) (va_Qv (fun u : (Nat → Int32) => P u) (fun u t => zPost D cI cJ cB (va_A [(q_p0, .inr (0, [.int v_p0_size, .int v_p0_way, .ref q_p0_led, .ref q_p0_turnedLed])), (q_p0_led, .inl (cI, 8, .inl f_p0_led)), (q_p0_turnedLed, .inl (cI, 8, .inl f_p0_turnedLed))] sz) [(q_p0, .inr (0, [.int v_p0_size, .int v_p0_way, .ref q_p0_led, .ref q_p0_turnedLed])), (q_p0_led, .inl (cI, 8, .inl f_p0_led)), (q_p0_turnedLed, .inl (cI, 8, .inl u))] t) (va_A [(q_p0, .inr (0, [.int v_p0_size, .int v_p0_way, .ref q_p0_led, .ref q_p0_turnedLed])), (q_p0_led, .inl (cI, 8, .inl f_p0_led)), (q_p0_turnedLed, .inl (cI, 8, .inl f_p0_turnedLed))] sz)) 0 0 (va_A [(q_p0, .inr (0, [.int v_p0_size, .int v_p0_way, .ref q_p0_led, .ref q_p0_turnedLed])), (q_p0_led, .inl (cI, 8, .inl f_p0_led)), (q_p0_turnedLed, .inl (cI, 8, .inl f_p0_turnedLed))] sz) := by
  refine z_met (cc := cX0_move) (maxL := 2) (ret := none) (Qc := fun A => va_Qv (fun u : (Nat → Int32) => P u) (fun u t => zPost D cI cJ cB A [(q_p0, .inr (0, [.int v_p0_size, .int v_p0_way, .ref q_p0_led, .ref q_p0_turnedLed])), (q_p0_led, .inl (cI, 8, .inl f_p0_led)), (q_p0_turnedLed, .inl (cI, 8, .inl u))] t) A) (by decide) rfl [.ref q_p0] (Nat.le_of_ble_eq_true rfl) ?_
  intro p e s m args below meth c A hx hb hr hts hown hml hlocks hA hX hK H locs hP hD hS ls hl Q hQ
  have hown : s.vm.findClass RX0 = some m.cls := hown
  have hl : lv_has ls 2 [(0, .ref q_p0)] := hl
  have hw0 : (Cond.fieldLink RX0 9 "ForcedRings$Chart" "size" "I").before args s = true := hts _ (List.mem_of_getElem? (i := 1) rfl)
  have hw1 : (Cond.fieldLink RX0 22 "ForcedRings$Chart" "turnedLed" "[I").before args s = true := hts _ (List.mem_of_getElem? (i := 2) rfl)
  have hw2 : (Cond.fieldLink RX0 18 "ForcedRings$Chart" "led" "[I").before args s = true := hts _ (List.mem_of_getElem? (i := 3) rfl)
  have hinX0 : ∀ w ∈ wsX00, w ∈ wsX0_move := fun _ h => List.mem_cons_of_mem _ (List.mem_append_right _ h)
  refine lv_iconst (v := (0 : Int32)) hx hb dX0_move_0 (by decide) ?_
  refine lv_istore_n (lv' := [(1, .int (0 : Int32)), (0, .ref q_p0)]) hx hb dX0_move_1 rfl hl (by decide) rfl (fun ls hl => ?_)
  have k2 : ∀  (n2 : Nat) (l1 : Int32) (f_p0_turnedLed : (Nat → Int32)) (H : Heap) (locs : List Loc) (ls : Array Slot), LP2 (M_X0_move_l2 v_p0_size f_p0_led P ) n2 l1 f_p0_turnedLed → va_P D vwCl [(q_p0, .inr (0, [.int v_p0_size, .int v_p0_way, .ref q_p0_led, .ref q_p0_turnedLed])), (q_p0_led, .inl (cI, 8, .inl f_p0_led)), (q_p0_turnedLed, .inl (cI, 8, .inl f_p0_turnedLed))] H → va_D A [(q_p0, .inr (0, [.int v_p0_size, .int v_p0_way, .ref q_p0_led, .ref q_p0_turnedLed])), (q_p0_led, .inl (cI, 8, .inl f_p0_led)), (q_p0_turnedLed, .inl (cI, 8, .inl f_p0_turnedLed))] → va_S A s.heap H locs → lv_has ls 2 [(0, .ref q_p0), (1, .int l1)] → W p l e { frames := 1, cells := 0, slots := 0, locals := 21 } s m args below meth c H locs 0 0 Q (F0 m 2 ls []) := by
    intro  n2
    induction n2 with
    | zero =>
      intro l1 f_p0_turnedLed H locs ls h
      exact False.elim h
    | succ n2 ih2 =>
      intro l1 f_p0_turnedLed H locs ls h hP hD hS hl
      have h : M_X0_move_l2 v_p0_size f_p0_led P  (LP2 (M_X0_move_l2 v_p0_size f_p0_led P ) n2) l1 f_p0_turnedLed := h
      refine lv_iload_n hx hb dX0_move_2 rfl (lv_at hl 1 rfl) ?_
      refine lv_aload_n hx hb dX0_move_3 rfl (lv_at hl 0 rfl) ?_
      refine va_get (ci := 0) (C := RX0) (T := TX0) (N := 4) (v := .int v_p0_size) hx hb hts hinX0 hown hK hP 0 rfl rfl 0 (by decide) hw0 (fun _ h9 => h9) rfl dX0_move_4 ?_
      refine lv_icmp_ge (tgt := 40) hx hb dX0_move_7 (by decide) (fun c1 => ?_) (fun c1 => ?_)
      · have h := And.left h c1
        exact z_vret hQ hx hb hr hlocks hK f_p0_turnedLed h hP hD hS dX0_move_40
      · have h := And.right h c1
        refine lv_aload_n hx hb dX0_move_10 rfl (lv_at hl 0 rfl) ?_
        refine va_get (ci := 0) (C := RX0) (T := TX0) (N := 4) (v := .ref q_p0_turnedLed) hx hb hts hinX0 hown hK hP 0 rfl rfl 3 (by decide) hw1 (fun _ h9 => h9) rfl dX0_move_11 ?_
        refine lv_aload_n hx hb dX0_move_14 rfl (lv_at hl 0 rfl) ?_
        refine lv_iload_n hx hb dX0_move_15 rfl (lv_at hl 1 rfl) ?_
        refine lv_iconst (v := (1 : Int32)) hx hb dX0_move_16 (by decide) ?_
        refine lv_iadd hx hb dX0_move_17 ?_
        refine z_cVi (As := [.int (l1 + (1 : Int32))]) (rest := [.ref q_p0_turnedLed]) (wr := [(q_p0_led, .inl (cI, 8, .inl f_p0_led)), (q_p0_turnedLed, .inl (cI, 8, .inl f_p0_turnedLed))]) (wn := fun u => [(q_p0, .inr (0, [.int v_p0_size, .int v_p0_way, .ref q_p0_led, .ref q_p0_turnedLed])), (q_p0_led, .inl (cI, 8, .inl f_p0_led)), (q_p0_turnedLed, .inl (cI, 8, .inl f_p0_turnedLed))]) (c_X0_round l D cI cJ cB tU tM tS q_p0 q_p0_led q_p0_turnedLed H.size (l1 + (1 : Int32)) v_p0_size v_p0_way _ h) ⟨hx, hb, hml, hown, hts⟩ (cwV 1 hts gX0_move_X0_round rfl rfl rfl hd_X0_round ⟨Nat.le_of_ble_eq_true rfl, Nat.le_of_ble_eq_true rfl⟩) hX hK hP hD hS hA [0] [1, 2] [2, 0, 1] rfl rfl rfl (by decide) (fun _ => rfl) (q0 := 0) (ci := 0) rfl rfl rfl hl.1 rfl (Nat.le_of_ble_eq_true rfl) ⟨Nat.le_refl _, Nat.le_refl _⟩ dX0_move_18 (fun r2 u2 H locs h hP hD hS => ?_)
        refine lv_aload_n hx hb dX0_move_21 rfl (lv_at hl 0 rfl) ?_
        refine lv_aload_n hx hb dX0_move_22 rfl (lv_at hl 0 rfl) ?_
        refine va_get (ci := 0) (C := RX0) (T := TX0) (N := 4) (v := .ref q_p0_led) hx hb hts hinX0 hown hK hP 0 rfl rfl 2 (by decide) hw2 (fun _ h9 => h9) rfl dX0_move_23 ?_
        refine lv_iload_n hx hb dX0_move_26 rfl (lv_at hl 1 rfl) ?_
        obtain ⟨hi3, h⟩ := h
        refine va_iald hx hb hK hP 1 0 rfl rfl hi3 dX0_move_27 ?_
        refine lv_iconst (v := (1 : Int32)) hx hb dX0_move_28 (by decide) ?_
        refine lv_iadd hx hb dX0_move_29 ?_
        refine z_cVi (As := [.int ((f_p0_led l1.toNatClampNeg) + (1 : Int32))]) (rest := [.int r2, .ref q_p0_turnedLed]) (wr := [(q_p0_led, .inl (cI, 8, .inl f_p0_led)), (q_p0_turnedLed, .inl (cI, 8, .inl f_p0_turnedLed))]) (wn := fun u => [(q_p0, .inr (0, [.int v_p0_size, .int v_p0_way, .ref q_p0_led, .ref q_p0_turnedLed])), (q_p0_led, .inl (cI, 8, .inl f_p0_led)), (q_p0_turnedLed, .inl (cI, 8, .inl f_p0_turnedLed))]) (c_X0_round l D cI cJ cB tU tM tS q_p0 q_p0_led q_p0_turnedLed H.size ((f_p0_led l1.toNatClampNeg) + (1 : Int32)) v_p0_size v_p0_way _ h) ⟨hx, hb, hml, hown, hts⟩ (cwV 1 hts gX0_move_X0_round rfl rfl rfl hd_X0_round ⟨Nat.le_of_ble_eq_true rfl, Nat.le_of_ble_eq_true rfl⟩) hX hK hP hD hS hA [0] [1, 2] [2, 0, 1] rfl rfl rfl (by decide) (fun _ => rfl) (q0 := 0) (ci := 0) rfl rfl rfl hl.1 rfl (Nat.le_of_ble_eq_true rfl) ⟨Nat.le_refl _, Nat.le_refl _⟩ dX0_move_30 (fun r4 u4 H locs h hP hD hS => ?_)
        obtain ⟨hi5, h⟩ := h
        refine z_iast (wn := [(q_p0, .inr (0, [.int v_p0_size, .int v_p0_way, .ref q_p0_led, .ref q_p0_turnedLed])), (q_p0_led, .inl (cI, 8, .inl f_p0_led)), (q_p0_turnedLed, .inl (cI, 8, .inl (upd f_p0_turnedLed r2.toNatClampNeg r4)))]) hx hb hK hP hD hS 2 rfl hi5 dX0_move_33 rfl (fun H locs hP hD hS => ?_)
        refine lv_iinc (v := (l1 + 1)) (lv' := [(1, .int (l1 + 1)), (0, .ref q_p0)]) hx hb dX0_move_34 hl (k := 1) rfl rfl (by decide) rfl (fun ls hl => ?_)
        refine lv_goto (tgt := 2) hx hb dX0_move_37 (by decide) ?_
        exact ih2 (l1 + 1) (upd f_p0_turnedLed r2.toNatClampNeg r4) _ _ _ h hP hD hS (lv_sub hl [1, 0] rfl)
  obtain ⟨n2, h⟩ := h
  exact k2  n2 (0 : Int32) f_p0_turnedLed _ _ _ h hP hD hS (lv_sub hl [1, 0] rfl)
theorem hd_X0_turnRound : yX0_turnRound.cls = RX0 ∧ yX0_turnRound.cls ≠ "java/lang/invoke/MethodHandle" ∧ yX0_turnRound.cls ≠ "java/lang/invoke/VarHandle" ∧ (parseMethodDescriptor yX0_turnRound.desc).map (fun d => d.parameters.length) = some 0 := by decide +kernel
set_option maxHeartbeats 4000000 in
set_option maxRecDepth 100000 in
theorem c_X0_turnRound (l : Launch) (D : va_G) (cI cJ cB : ClassId) (tU tM : Nat) (tS : tsT) (q_p0 q_p0_led q_p0_turnedLed : Nat) (sz : Nat) (v_p0_size : Int32) (f_p0_led : (Nat → Int32)) (f_p0_turnedLed : (Nat → Int32)) (v_p0_way : Int32) (P : Int32 → (Nat → Int32) → Prop) (h : M_X0_turnRound v_p0_size f_p0_led f_p0_turnedLed P) : Met l yX0_turnRound wsX0_turnRound ({ frames := 1, cells := 0, slots := 0, locals := 20 }) (va_Pc [.ref q_p0] (zPre D cI cJ cB tU tM tS [(q_p0, .inr (0, [.int v_p0_size, .int v_p0_way, .ref q_p0_led, .ref q_p0_turnedLed])), (q_p0_led, .inl (cI, 8, .inl f_p0_led)), (q_p0_turnedLed, .inl (cI, 8, .inl f_p0_turnedLed))] sz)) (va_Qi (fun (r : Int32) (u : (Nat → Int32)) => P r u) (fun u t => zPost D cI cJ cB (va_A [(q_p0, .inr (0, [.int v_p0_size, .int v_p0_way, .ref q_p0_led, .ref q_p0_turnedLed])), (q_p0_led, .inl (cI, 8, .inl f_p0_led)), (q_p0_turnedLed, .inl (cI, 8, .inl f_p0_turnedLed))] sz) [(q_p0, .inr (0, [.int v_p0_size, .int v_p0_way, .ref q_p0_led, .ref q_p0_turnedLed])), (q_p0_led, .inl (cI, 8, .inl f_p0_led)), (q_p0_turnedLed, .inl (cI, 8, .inl u))] t) (va_A [(q_p0, .inr (0, [.int v_p0_size, .int v_p0_way, .ref q_p0_led, .ref q_p0_turnedLed])), (q_p0_led, .inl (cI, 8, .inl f_p0_led)), (q_p0_turnedLed, .inl (cI, 8, .inl f_p0_turnedLed))] sz)) 0 0 (va_A [(q_p0, .inr (0, [.int v_p0_size, .int v_p0_way, .ref q_p0_led, .ref q_p0_turnedLed])), (q_p0_led, .inl (cI, 8, .inl f_p0_led)), (q_p0_turnedLed, .inl (cI, 8, .inl f_p0_turnedLed))] sz) := by
  refine z_met (cc := cX0_turnRound) (maxL := 3) (ret := (some .boolean)) (Qc := fun A => va_Qi (fun (r : Int32) (u : (Nat → Int32)) => P r u) (fun u t => zPost D cI cJ cB A [(q_p0, .inr (0, [.int v_p0_size, .int v_p0_way, .ref q_p0_led, .ref q_p0_turnedLed])), (q_p0_led, .inl (cI, 8, .inl f_p0_led)), (q_p0_turnedLed, .inl (cI, 8, .inl u))] t) A) (by decide) rfl [.ref q_p0] (Nat.le_of_ble_eq_true rfl) ?_
  intro p e s m args below meth c A hx hb hr hts hown hml hlocks hA hX hK H locs hP hD hS ls hl Q hQ
  have hown : s.vm.findClass RX0 = some m.cls := hown
  have hl : lv_has ls 3 [(0, .ref q_p0)] := hl
  have hw0 : (Cond.fieldLink RX0 9 "ForcedRings$Chart" "size" "I").before args s = true := hts _ (List.mem_of_getElem? (i := 1) rfl)
  have hw1 : (Cond.fieldLink RX0 18 "ForcedRings$Chart" "led" "[I").before args s = true := hts _ (List.mem_of_getElem? (i := 2) rfl)
  have hw2 : (Cond.fieldLink RX0 22 "ForcedRings$Chart" "turnedLed" "[I").before args s = true := hts _ (List.mem_of_getElem? (i := 3) rfl)
  have hinX0 : ∀ w ∈ wsX00, w ∈ wsX0_turnRound := fun _ h => List.mem_cons_of_mem _ (List.mem_append_right _ h)
  refine lv_iconst (v := (0 : Int32)) hx hb dX0_turnRound_0 (by decide) ?_
  refine lv_istore_n (lv' := [(1, .int (0 : Int32)), (0, .ref q_p0)]) hx hb dX0_turnRound_1 rfl hl (by decide) rfl (fun ls hl => ?_)
  refine lv_iconst (v := (0 : Int32)) hx hb dX0_turnRound_2 (by decide) ?_
  refine lv_istore_n (lv' := [(2, .int (0 : Int32)), (1, .int (0 : Int32)), (0, .ref q_p0)]) hx hb dX0_turnRound_3 rfl hl (by decide) rfl (fun ls hl => ?_)
  have k4 : ∀  (n4 : Nat) (l1 : Int32) (l2 : Int32) (f_p0_turnedLed : (Nat → Int32)) (H : Heap) (locs : List Loc) (ls : Array Slot), LP3 (M_X0_turnRound_l4 v_p0_size f_p0_led P ) n4 l1 l2 f_p0_turnedLed → va_P D vwCl [(q_p0, .inr (0, [.int v_p0_size, .int v_p0_way, .ref q_p0_led, .ref q_p0_turnedLed])), (q_p0_led, .inl (cI, 8, .inl f_p0_led)), (q_p0_turnedLed, .inl (cI, 8, .inl f_p0_turnedLed))] H → va_D A [(q_p0, .inr (0, [.int v_p0_size, .int v_p0_way, .ref q_p0_led, .ref q_p0_turnedLed])), (q_p0_led, .inl (cI, 8, .inl f_p0_led)), (q_p0_turnedLed, .inl (cI, 8, .inl f_p0_turnedLed))] → va_S A s.heap H locs → lv_has ls 3 [(0, .ref q_p0), (1, .int l1), (2, .int l2)] → W p l e { frames := 1, cells := 0, slots := 0, locals := 20 } s m args below meth c H locs 0 0 Q (F0 m 4 ls []) := by
    intro  n4
    induction n4 with
    | zero =>
      intro l1 l2 f_p0_turnedLed H locs ls h
      exact False.elim h
    | succ n4 ih4 =>
      intro l1 l2 f_p0_turnedLed H locs ls h hP hD hS hl
      have h : M_X0_turnRound_l4 v_p0_size f_p0_led P  (LP3 (M_X0_turnRound_l4 v_p0_size f_p0_led P ) n4) l1 l2 f_p0_turnedLed := h
      refine lv_iload_n hx hb dX0_turnRound_4 rfl (lv_at hl 2 rfl) ?_
      refine lv_aload_n hx hb dX0_turnRound_5 rfl (lv_at hl 0 rfl) ?_
      refine va_get (ci := 0) (C := RX0) (T := TX0) (N := 4) (v := .int v_p0_size) hx hb hts hinX0 hown hK hP 0 rfl rfl 0 (by decide) hw0 (fun _ h9 => h9) rfl dX0_turnRound_6 ?_
      refine lv_icmp_ge (tgt := 41) hx hb dX0_turnRound_9 (by decide) (fun c1 => ?_) (fun c1 => ?_)
      · have h := And.left h c1
        refine lv_iload_n hx hb dX0_turnRound_41 rfl (lv_at hl 1 rfl) ?_
        refine z_cSi (As := [.int l1]) (rest := []) (wr := [(q_p0, .inr (0, [.int v_p0_size, .int v_p0_way, .ref q_p0_led, .ref q_p0_turnedLed])), (q_p0_led, .inl (cI, 8, .inl f_p0_led)), (q_p0_turnedLed, .inl (cI, 8, .inl f_p0_turnedLed))]) (wn := fun u => [(q_p0, .inr (0, [.int v_p0_size, .int v_p0_way, .ref q_p0_led, .ref q_p0_turnedLed])), (q_p0_led, .inl (cI, 8, .inl f_p0_led)), (q_p0_turnedLed, .inl (cI, 8, .inl f_p0_turnedLed))]) (c_J6_bitCount_0f7a4 l D cI cJ cB tU tM tS  H.size l1 _ h) ⟨hx, hb, hml, hown, hts⟩ (va_cwS 1 hts gX0_turnRound_J6_bitCount_0f7a4 rfl rfl rfl hd_J6_bitCount_0f7a4.2 ⟨Nat.le_of_ble_eq_true rfl, Nat.le_of_ble_eq_true rfl⟩) hX hK hP hD hS hA [] [0, 1, 2] [0, 1, 2] rfl rfl rfl (by decide) (fun _ => rfl) rfl hl.1 rfl (Nat.le_of_ble_eq_true rfl) ⟨Nat.le_refl _, Nat.le_refl _⟩ dX0_turnRound_42 (fun r2 u2 H locs h hP hD hS => ?_)
        refine lv_aload_n hx hb dX0_turnRound_45 rfl (lv_at hl 0 rfl) ?_
        refine va_get (ci := 0) (C := RX0) (T := TX0) (N := 4) (v := .int v_p0_size) hx hb hts hinX0 hown hK hP 0 rfl rfl 0 (by decide) hw0 (fun _ h9 => h9) rfl dX0_turnRound_46 ?_
        refine lv_icmp_ne (tgt := 56) hx hb dX0_turnRound_49 (by decide) (fun c3 => ?_) (fun c3 => ?_)
        · have h := And.right h c3
          refine lv_iconst (v := (0 : Int32)) hx hb dX0_turnRound_56 (by decide) ?_
          exact z_iret hQ hx hb hr rfl hlocks hK f_p0_turnedLed h hP hD hS dX0_turnRound_57
        · have h := And.left h c3
          refine lv_iconst (v := (1 : Int32)) hx hb dX0_turnRound_52 (by decide) ?_
          refine lv_goto (tgt := 57) hx hb dX0_turnRound_53 (by decide) ?_
          exact z_iret hQ hx hb hr rfl hlocks hK f_p0_turnedLed h hP hD hS dX0_turnRound_57
      · have h := And.right h c1
        refine lv_iload_n hx hb dX0_turnRound_12 rfl (lv_at hl 1 rfl) ?_
        refine lv_iconst (v := (1 : Int32)) hx hb dX0_turnRound_13 (by decide) ?_
        refine lv_aload_n hx hb dX0_turnRound_14 rfl (lv_at hl 0 rfl) ?_
        refine va_get (ci := 0) (C := RX0) (T := TX0) (N := 4) (v := .ref q_p0_led) hx hb hts hinX0 hown hK hP 0 rfl rfl 2 (by decide) hw1 (fun _ h9 => h9) rfl dX0_turnRound_15 ?_
        refine lv_iload_n hx hb dX0_turnRound_18 rfl (lv_at hl 2 rfl) ?_
        obtain ⟨hi4, h⟩ := h
        refine va_iald hx hb hK hP 1 0 rfl rfl hi4 dX0_turnRound_19 ?_
        refine lv_ishl hx hb dX0_turnRound_20 ?_
        refine lv_ior hx hb dX0_turnRound_21 ?_
        refine lv_topi (fun y5 ey5 => ?_)
        have h := h y5 ey5
        refine lv_istore_n (lv' := [(1, .int y5), (0, .ref q_p0), (2, .int l2)]) hx hb dX0_turnRound_22 rfl hl (by decide) rfl (fun ls hl => ?_)
        refine lv_aload_n hx hb dX0_turnRound_23 rfl (lv_at hl 1 rfl) ?_
        refine va_get (ci := 0) (C := RX0) (T := TX0) (N := 4) (v := .ref q_p0_turnedLed) hx hb hts hinX0 hown hK hP 0 rfl rfl 3 (by decide) hw2 (fun _ h9 => h9) rfl dX0_turnRound_24 ?_
        refine lv_aload_n hx hb dX0_turnRound_27 rfl (lv_at hl 1 rfl) ?_
        refine va_get (ci := 0) (C := RX0) (T := TX0) (N := 4) (v := .ref q_p0_led) hx hb hts hinX0 hown hK hP 0 rfl rfl 2 (by decide) hw1 (fun _ h9 => h9) rfl dX0_turnRound_28 ?_
        refine lv_iload_n hx hb dX0_turnRound_31 rfl (lv_at hl 2 rfl) ?_
        obtain ⟨hi6, h⟩ := h
        refine va_iald hx hb hK hP 1 0 rfl rfl hi6 dX0_turnRound_32 ?_
        refine lv_iload_n hx hb dX0_turnRound_33 rfl (lv_at hl 2 rfl) ?_
        obtain ⟨hi7, h⟩ := h
        refine z_iast (wn := [(q_p0, .inr (0, [.int v_p0_size, .int v_p0_way, .ref q_p0_led, .ref q_p0_turnedLed])), (q_p0_led, .inl (cI, 8, .inl f_p0_led)), (q_p0_turnedLed, .inl (cI, 8, .inl (upd f_p0_turnedLed (f_p0_led l2.toNatClampNeg).toNatClampNeg l2)))]) hx hb hK hP hD hS 2 rfl hi7 dX0_turnRound_34 rfl (fun H locs hP hD hS => ?_)
        refine lv_iinc (v := (l2 + 1)) (lv' := [(2, .int (l2 + 1)), (1, .int y5), (0, .ref q_p0)]) hx hb dX0_turnRound_35 hl (k := 2) rfl rfl (by decide) rfl (fun ls hl => ?_)
        refine lv_goto (tgt := 4) hx hb dX0_turnRound_38 (by decide) ?_
        exact ih4 y5 (l2 + 1) (upd f_p0_turnedLed (f_p0_led l2.toNatClampNeg).toNatClampNeg l2) _ _ _ h hP hD hS (lv_sub hl [2, 1, 0] rfl)
  obtain ⟨n4, h⟩ := h
  exact k4  n4 (0 : Int32) (0 : Int32) f_p0_turnedLed _ _ _ h hP hD hS (lv_sub hl [2, 1, 0] rfl)
theorem hd_X0_leadFurther : yX0_leadFurther.cls = RX0 ∧ yX0_leadFurther.cls ≠ "java/lang/invoke/MethodHandle" ∧ yX0_leadFurther.cls ≠ "java/lang/invoke/VarHandle" ∧ (parseMethodDescriptor yX0_leadFurther.desc).map (fun d => d.parameters.length) = some 1 := by decide +kernel
set_option maxHeartbeats 4000000 in
set_option maxRecDepth 100000 in
theorem c_X0_leadFurther (l : Launch) (D : va_G) (cI cJ cB : ClassId) (tU tM : Nat) (tS : tsT) (q_p0 q_p0_led q_p0_turnedLed : Nat) (sz : Nat) (x1 : Int32) (v_p0_size : Int32) (f_p0_led : (Nat → Int32)) (f_p0_turnedLed : (Nat → Int32)) (v_p0_way : Int32) (P : (Nat → Int32) → Prop) (h : M_X0_leadFurther x1 v_p0_size f_p0_led f_p0_turnedLed P) : Met l yX0_leadFurther wsX0_leadFurther ({ frames := 1, cells := 0, slots := 0, locals := 21 }) (va_Pc [.ref q_p0, .int x1] (zPre D cI cJ cB tU tM tS [(q_p0, .inr (0, [.int v_p0_size, .int v_p0_way, .ref q_p0_led, .ref q_p0_turnedLed])), (q_p0_led, .inl (cI, 8, .inl f_p0_led)), (q_p0_turnedLed, .inl (cI, 8, .inl f_p0_turnedLed))] sz)) (va_Qv (fun u : (Nat → Int32) => P u) (fun u t => zPost D cI cJ cB (va_A [(q_p0, .inr (0, [.int v_p0_size, .int v_p0_way, .ref q_p0_led, .ref q_p0_turnedLed])), (q_p0_led, .inl (cI, 8, .inl f_p0_led)), (q_p0_turnedLed, .inl (cI, 8, .inl f_p0_turnedLed))] sz) [(q_p0, .inr (0, [.int v_p0_size, .int v_p0_way, .ref q_p0_led, .ref q_p0_turnedLed])), (q_p0_led, .inl (cI, 8, .inl f_p0_led)), (q_p0_turnedLed, .inl (cI, 8, .inl u))] t) (va_A [(q_p0, .inr (0, [.int v_p0_size, .int v_p0_way, .ref q_p0_led, .ref q_p0_turnedLed])), (q_p0_led, .inl (cI, 8, .inl f_p0_led)), (q_p0_turnedLed, .inl (cI, 8, .inl f_p0_turnedLed))] sz)) 0 0 (va_A [(q_p0, .inr (0, [.int v_p0_size, .int v_p0_way, .ref q_p0_led, .ref q_p0_turnedLed])), (q_p0_led, .inl (cI, 8, .inl f_p0_led)), (q_p0_turnedLed, .inl (cI, 8, .inl f_p0_turnedLed))] sz) := by
  refine z_met (cc := cX0_leadFurther) (maxL := 3) (ret := none) (Qc := fun A => va_Qv (fun u : (Nat → Int32) => P u) (fun u t => zPost D cI cJ cB A [(q_p0, .inr (0, [.int v_p0_size, .int v_p0_way, .ref q_p0_led, .ref q_p0_turnedLed])), (q_p0_led, .inl (cI, 8, .inl f_p0_led)), (q_p0_turnedLed, .inl (cI, 8, .inl u))] t) A) (by decide) rfl [.ref q_p0, .int x1] (Nat.le_of_ble_eq_true rfl) ?_
  intro p e s m args below meth c A hx hb hr hts hown hml hlocks hA hX hK H locs hP hD hS ls hl Q hQ
  have hown : s.vm.findClass RX0 = some m.cls := hown
  have hl : lv_has ls 3 [(0, .ref q_p0), (1, .int x1)] := hl
  have hw0 : (Cond.fieldLink RX0 9 "ForcedRings$Chart" "size" "I").before args s = true := hts _ (List.mem_of_getElem? (i := 1) rfl)
  have hw1 : (Cond.fieldLink RX0 22 "ForcedRings$Chart" "turnedLed" "[I").before args s = true := hts _ (List.mem_of_getElem? (i := 2) rfl)
  have hw2 : (Cond.fieldLink RX0 18 "ForcedRings$Chart" "led" "[I").before args s = true := hts _ (List.mem_of_getElem? (i := 3) rfl)
  have hinX0 : ∀ w ∈ wsX00, w ∈ wsX0_leadFurther := fun _ h => List.mem_cons_of_mem _ (List.mem_append_right _ h)
  refine lv_iconst (v := (0 : Int32)) hx hb dX0_leadFurther_0 (by decide) ?_
  refine lv_istore_n (lv' := [(2, .int (0 : Int32)), (0, .ref q_p0), (1, .int x1)]) hx hb dX0_leadFurther_1 rfl hl (by decide) rfl (fun ls hl => ?_)
  have k2 : ∀  (n2 : Nat) (l2 : Int32) (f_p0_turnedLed : (Nat → Int32)) (H : Heap) (locs : List Loc) (ls : Array Slot), LP2 (M_X0_leadFurther_l2 x1 v_p0_size f_p0_led P ) n2 l2 f_p0_turnedLed → va_P D vwCl [(q_p0, .inr (0, [.int v_p0_size, .int v_p0_way, .ref q_p0_led, .ref q_p0_turnedLed])), (q_p0_led, .inl (cI, 8, .inl f_p0_led)), (q_p0_turnedLed, .inl (cI, 8, .inl f_p0_turnedLed))] H → va_D A [(q_p0, .inr (0, [.int v_p0_size, .int v_p0_way, .ref q_p0_led, .ref q_p0_turnedLed])), (q_p0_led, .inl (cI, 8, .inl f_p0_led)), (q_p0_turnedLed, .inl (cI, 8, .inl f_p0_turnedLed))] → va_S A s.heap H locs → lv_has ls 3 [(0, .ref q_p0), (1, .int x1), (2, .int l2)] → W p l e { frames := 1, cells := 0, slots := 0, locals := 21 } s m args below meth c H locs 0 0 Q (F0 m 2 ls []) := by
    intro  n2
    induction n2 with
    | zero =>
      intro l2 f_p0_turnedLed H locs ls h
      exact False.elim h
    | succ n2 ih2 =>
      intro l2 f_p0_turnedLed H locs ls h hP hD hS hl
      have h : M_X0_leadFurther_l2 x1 v_p0_size f_p0_led P  (LP2 (M_X0_leadFurther_l2 x1 v_p0_size f_p0_led P ) n2) l2 f_p0_turnedLed := h
      refine lv_iload_n hx hb dX0_leadFurther_2 rfl (lv_at hl 2 rfl) ?_
      refine lv_aload_n hx hb dX0_leadFurther_3 rfl (lv_at hl 0 rfl) ?_
      refine va_get (ci := 0) (C := RX0) (T := TX0) (N := 4) (v := .int v_p0_size) hx hb hts hinX0 hown hK hP 0 rfl rfl 0 (by decide) hw0 (fun _ h9 => h9) rfl dX0_leadFurther_4 ?_
      refine lv_icmp_ge (tgt := 34) hx hb dX0_leadFurther_7 (by decide) (fun c1 => ?_) (fun c1 => ?_)
      · have h := And.left h c1
        exact z_vret hQ hx hb hr hlocks hK f_p0_turnedLed h hP hD hS dX0_leadFurther_34
      · have h := And.right h c1
        refine lv_aload_n hx hb dX0_leadFurther_10 rfl (lv_at hl 0 rfl) ?_
        refine va_get (ci := 0) (C := RX0) (T := TX0) (N := 4) (v := .ref q_p0_turnedLed) hx hb hts hinX0 hown hK hP 0 rfl rfl 3 (by decide) hw1 (fun _ h9 => h9) rfl dX0_leadFurther_11 ?_
        refine lv_iload_n hx hb dX0_leadFurther_14 rfl (lv_at hl 2 rfl) ?_
        refine lv_aload_n hx hb dX0_leadFurther_15 rfl (lv_at hl 0 rfl) ?_
        refine lv_aload_n hx hb dX0_leadFurther_16 rfl (lv_at hl 0 rfl) ?_
        refine va_get (ci := 0) (C := RX0) (T := TX0) (N := 4) (v := .ref q_p0_led) hx hb hts hinX0 hown hK hP 0 rfl rfl 2 (by decide) hw2 (fun _ h9 => h9) rfl dX0_leadFurther_17 ?_
        refine lv_iload_n hx hb dX0_leadFurther_20 rfl (lv_at hl 2 rfl) ?_
        obtain ⟨hi2, h⟩ := h
        refine va_iald hx hb hK hP 1 0 rfl rfl hi2 dX0_leadFurther_21 ?_
        refine lv_iload_n hx hb dX0_leadFurther_22 rfl (lv_at hl 1 rfl) ?_
        refine lv_iadd hx hb dX0_leadFurther_23 ?_
        refine z_cVi (As := [.int ((f_p0_led l2.toNatClampNeg) + x1)]) (rest := [.int l2, .ref q_p0_turnedLed]) (wr := [(q_p0_led, .inl (cI, 8, .inl f_p0_led)), (q_p0_turnedLed, .inl (cI, 8, .inl f_p0_turnedLed))]) (wn := fun u => [(q_p0, .inr (0, [.int v_p0_size, .int v_p0_way, .ref q_p0_led, .ref q_p0_turnedLed])), (q_p0_led, .inl (cI, 8, .inl f_p0_led)), (q_p0_turnedLed, .inl (cI, 8, .inl f_p0_turnedLed))]) (c_X0_round l D cI cJ cB tU tM tS q_p0 q_p0_led q_p0_turnedLed H.size ((f_p0_led l2.toNatClampNeg) + x1) v_p0_size v_p0_way _ h) ⟨hx, hb, hml, hown, hts⟩ (cwV 1 hts gX0_leadFurther_X0_round rfl rfl rfl hd_X0_round ⟨Nat.le_of_ble_eq_true rfl, Nat.le_of_ble_eq_true rfl⟩) hX hK hP hD hS hA [0] [1, 2] [2, 0, 1] rfl rfl rfl (by decide) (fun _ => rfl) (q0 := 0) (ci := 0) rfl rfl rfl hl.1 rfl (Nat.le_of_ble_eq_true rfl) ⟨Nat.le_refl _, Nat.le_refl _⟩ dX0_leadFurther_24 (fun r3 u3 H locs h hP hD hS => ?_)
        obtain ⟨hi4, h⟩ := h
        refine z_iast (wn := [(q_p0, .inr (0, [.int v_p0_size, .int v_p0_way, .ref q_p0_led, .ref q_p0_turnedLed])), (q_p0_led, .inl (cI, 8, .inl f_p0_led)), (q_p0_turnedLed, .inl (cI, 8, .inl (upd f_p0_turnedLed l2.toNatClampNeg r3)))]) hx hb hK hP hD hS 2 rfl hi4 dX0_leadFurther_27 rfl (fun H locs hP hD hS => ?_)
        refine lv_iinc (v := (l2 + 1)) (lv' := [(2, .int (l2 + 1)), (0, .ref q_p0), (1, .int x1)]) hx hb dX0_leadFurther_28 hl (k := 2) rfl rfl (by decide) rfl (fun ls hl => ?_)
        refine lv_goto (tgt := 2) hx hb dX0_leadFurther_31 (by decide) ?_
        exact ih2 (l2 + 1) (upd f_p0_turnedLed l2.toNatClampNeg r3) _ _ _ h hP hD hS (lv_sub hl [1, 2, 0] rfl)
  obtain ⟨n2, h⟩ := h
  exact k2  n2 (0 : Int32) f_p0_turnedLed _ _ _ h hP hD hS (lv_sub hl [1, 2, 0] rfl)
