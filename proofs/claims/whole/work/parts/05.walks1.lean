theorem hd_X4_canBeOf : yX4_canBeOf.cls = RX4 ∧ yX4_canBeOf.cls ≠ "java/lang/invoke/MethodHandle" ∧ yX4_canBeOf.cls ≠ "java/lang/invoke/VarHandle" ∧ (parseMethodDescriptor yX4_canBeOf.desc).map (fun d => d.parameters.length) = some 1 := by decide +kernel
set_option maxHeartbeats 4000000 in
set_option maxRecDepth 100000 in
theorem c_X4_canBeOf (l : Launch) (D : va_G) (cI cJ cB : ClassId) (tU tM tS : Nat) (sz : Nat) (x0 : Int32)  (P : Int32 → Prop) (h : M_X4_canBeOf x0 P) : Met l yX4_canBeOf wsX4_canBeOf ({ frames := 0, cells := 0, slots := 0, locals := 0 }) (va_Pc [.int x0] (zPre D cI cJ cB tU tM tS [] sz)) (va_Qi (fun (r : Int32) (u : Unit) => P r ) (fun u t => zPost D cI cJ cB (va_A [] sz) [] t) (va_A [] sz)) 0 0 (va_A [] sz) := by
  refine z_met (cc := cX4_canBeOf) (maxL := 1) (ret := (some .boolean)) (Qc := fun A => va_Qi (fun (r : Int32) (u : Unit) => P r ) (fun u t => zPost D cI cJ cB A [] t) A) (by decide) rfl [.int x0] (Nat.le_of_ble_eq_true rfl) ?_
  intro p e s m args below meth c A hx hb hr hts hown hml hlocks hA hX hK H locs hP hD hS ls hl Q hQ
  have hown : s.vm.findClass RX4 = some m.cls := hown
  have hl : lv_has ls 1 [(0, .int x0)] := hl
  refine lv_iload_n hx hb dX4_canBeOf_0 rfl (lv_at hl 0 rfl) ?_
  refine lv_iconst (v := (2 : Int32)) hx hb dX4_canBeOf_1 (by decide) ?_
  refine lv_icmp_lt (tgt := 15) hx hb dX4_canBeOf_2 (by decide) (fun c1 => ?_) (fun c1 => ?_)
  · have h := And.left h c1
    refine lv_iconst (v := (0 : Int32)) hx hb dX4_canBeOf_15 (by decide) ?_
    exact z_iret hQ hx hb hr rfl hlocks hK () h hP hD hS dX4_canBeOf_16
  · have h := And.right h c1
    refine lv_iload_n hx hb dX4_canBeOf_5 rfl (lv_at hl 0 rfl) ?_
    refine lv_bipush (v := (6 : Int32)) hx hb dX4_canBeOf_6 (by decide) ?_
    refine lv_icmp_gt (tgt := 15) hx hb dX4_canBeOf_8 (by decide) (fun c2 => ?_) (fun c2 => ?_)
    · have h := And.left h c2
      refine lv_iconst (v := (0 : Int32)) hx hb dX4_canBeOf_15 (by decide) ?_
      exact z_iret hQ hx hb hr rfl hlocks hK () h hP hD hS dX4_canBeOf_16
    · have h := And.right h c2
      refine lv_iconst (v := (1 : Int32)) hx hb dX4_canBeOf_11 (by decide) ?_
      refine lv_goto (tgt := 16) hx hb dX4_canBeOf_12 (by decide) ?_
      exact z_iret hQ hx hb hr rfl hlocks hK () h hP hD hS dX4_canBeOf_16
theorem hd_X4_at : yX4_at.cls = RX4 ∧ yX4_at.cls ≠ "java/lang/invoke/MethodHandle" ∧ yX4_at.cls ≠ "java/lang/invoke/VarHandle" ∧ (parseMethodDescriptor yX4_at.desc).map (fun d => d.parameters.length) = some 2 := by decide +kernel
set_option maxHeartbeats 4000000 in
set_option maxRecDepth 100000 in
theorem c_X4_at (l : Launch) (D : va_G) (cI cJ cB : ClassId) (tU tM tS : Nat) (q_p0 q_p0_pieces q_p0_amount q_p0_found q_p0_loop q_p0_lessRows q_p0_leads : Nat) (sz : Nat) (x1 : Int32) (x2 : Int32) (f_p0_found : (Nat → Int32)) (v_p0_soughtSize : Int32) (v_p0_soughtMap : Int32) (P : Int32 → Prop) (h : M_X4_at x1 x2 f_p0_found P) : Met l yX4_at wsX4_at ({ frames := 0, cells := 0, slots := 0, locals := 0 }) (va_Pc [.ref q_p0, .int x1, .int x2] (zPre D cI cJ cB tU tM tS [(q_p0, .inr (2, [.int v_p0_soughtSize, .int v_p0_soughtMap, .ref q_p0_pieces, .ref q_p0_amount, .ref q_p0_found, .ref q_p0_loop, .ref q_p0_lessRows, .ref q_p0_leads])), (q_p0_found, .inl (cI, 153, .inl f_p0_found))] sz)) (va_Qi (fun (r : Int32) (u : Unit) => P r ) (fun u t => zPost D cI cJ cB (va_A [(q_p0, .inr (2, [.int v_p0_soughtSize, .int v_p0_soughtMap, .ref q_p0_pieces, .ref q_p0_amount, .ref q_p0_found, .ref q_p0_loop, .ref q_p0_lessRows, .ref q_p0_leads])), (q_p0_found, .inl (cI, 153, .inl f_p0_found))] sz) [(q_p0, .inr (2, [.int v_p0_soughtSize, .int v_p0_soughtMap, .ref q_p0_pieces, .ref q_p0_amount, .ref q_p0_found, .ref q_p0_loop, .ref q_p0_lessRows, .ref q_p0_leads])), (q_p0_found, .inl (cI, 153, .inl f_p0_found))] t) (va_A [(q_p0, .inr (2, [.int v_p0_soughtSize, .int v_p0_soughtMap, .ref q_p0_pieces, .ref q_p0_amount, .ref q_p0_found, .ref q_p0_loop, .ref q_p0_lessRows, .ref q_p0_leads])), (q_p0_found, .inl (cI, 153, .inl f_p0_found))] sz)) 0 0 (va_A [(q_p0, .inr (2, [.int v_p0_soughtSize, .int v_p0_soughtMap, .ref q_p0_pieces, .ref q_p0_amount, .ref q_p0_found, .ref q_p0_loop, .ref q_p0_lessRows, .ref q_p0_leads])), (q_p0_found, .inl (cI, 153, .inl f_p0_found))] sz) := by
  refine z_met (cc := cX4_at) (maxL := 3) (ret := (some .int)) (Qc := fun A => va_Qi (fun (r : Int32) (u : Unit) => P r ) (fun u t => zPost D cI cJ cB A [(q_p0, .inr (2, [.int v_p0_soughtSize, .int v_p0_soughtMap, .ref q_p0_pieces, .ref q_p0_amount, .ref q_p0_found, .ref q_p0_loop, .ref q_p0_lessRows, .ref q_p0_leads])), (q_p0_found, .inl (cI, 153, .inl f_p0_found))] t) A) (by decide) rfl [.ref q_p0, .int x1, .int x2] (Nat.le_of_ble_eq_true rfl) ?_
  intro p e s m args below meth c A hx hb hr hts hown hml hlocks hA hX hK H locs hP hD hS ls hl Q hQ
  have hown : s.vm.findClass RX4 = some m.cls := hown
  have hl : lv_has ls 3 [(0, .ref q_p0), (1, .int x1), (2, .int x2)] := hl
  have hw0 : (Cond.fieldLink RX4 20 "ForcedRings$Patterns" "found" "[I").before args s = true := hts _ (List.mem_of_getElem? (i := 1) rfl)
  have hw1 : (Cond.fieldLink RX4 32 "ForcedRings$Patterns" "START" "[I").before args s = true := hts _ (List.mem_of_getElem? (i := 2) rfl)
  have hinX4 : ∀ w ∈ wsX40, w ∈ wsX4_at := fun _ h => List.mem_cons_of_mem _ (List.mem_append_right _ h)
  refine lv_aload_n hx hb dX4_at_0 rfl (lv_at hl 0 rfl) ?_
  refine va_get (ci := 2) (C := RX4) (T := TX4) (N := 8) (v := .ref q_p0_found) hx hb hts hinX4 hown hK hP 0 rfl rfl 4 (by decide) hw0 (fun _ h9 => h9) rfl dX4_at_1 ?_
  refine va_gets hx hb hX.2.2.1 hS hown hw1 (fun _ h9 => h9) dX4_at_4 ?_
  refine lv_iload_n hx hb dX4_at_7 rfl (lv_at hl 1 rfl) ?_
  obtain ⟨hi1, h⟩ := h
  refine va_ti (v := .int (kS x1.toNatClampNeg)) hx hb hX.2.2.2 hS hi1 rfl dX4_at_8 ?_
  refine lv_iload_n hx hb dX4_at_9 rfl (lv_at hl 2 rfl) ?_
  refine lv_iadd hx hb dX4_at_10 ?_
  obtain ⟨hi2, h⟩ := h
  refine va_iald hx hb hK hP 1 0 rfl rfl hi2 dX4_at_11 ?_
  exact z_iret hQ hx hb hr rfl hlocks hK () h hP hD hS dX4_at_12
theorem hd_X4_placeFor : yX4_placeFor.cls = RX4 ∧ yX4_placeFor.cls ≠ "java/lang/invoke/MethodHandle" ∧ yX4_placeFor.cls ≠ "java/lang/invoke/VarHandle" ∧ (parseMethodDescriptor yX4_placeFor.desc).map (fun d => d.parameters.length) = some 2 := by decide +kernel
set_option maxHeartbeats 4000000 in
set_option maxRecDepth 100000 in
theorem c_X4_placeFor (l : Launch) (D : va_G) (cI cJ cB : ClassId) (tU tM tS : Nat) (q_p0 q_p0_pieces q_p0_amount q_p0_found q_p0_loop q_p0_lessRows q_p0_leads : Nat) (sz : Nat) (x1 : Int32) (x2 : Int32) (f_p0_amount : (Nat → Int32)) (f_p0_found : (Nat → Int32)) (v_p0_soughtSize : Int32) (v_p0_soughtMap : Int32) (P : Int32 → Prop) (h : M_X4_placeFor x1 x2 f_p0_amount f_p0_found P) : Met l yX4_placeFor wsX4_placeFor ({ frames := 1, cells := 0, slots := 0, locals := 22 }) (va_Pc [.ref q_p0, .int x1, .int x2] (zPre D cI cJ cB tU tM tS [(q_p0, .inr (2, [.int v_p0_soughtSize, .int v_p0_soughtMap, .ref q_p0_pieces, .ref q_p0_amount, .ref q_p0_found, .ref q_p0_loop, .ref q_p0_lessRows, .ref q_p0_leads])), (q_p0_amount, .inl (cI, 7, .inl f_p0_amount)), (q_p0_found, .inl (cI, 153, .inl f_p0_found))] sz)) (va_Qi (fun (r : Int32) (u : Unit) => P r ) (fun u t => zPost D cI cJ cB (va_A [(q_p0, .inr (2, [.int v_p0_soughtSize, .int v_p0_soughtMap, .ref q_p0_pieces, .ref q_p0_amount, .ref q_p0_found, .ref q_p0_loop, .ref q_p0_lessRows, .ref q_p0_leads])), (q_p0_amount, .inl (cI, 7, .inl f_p0_amount)), (q_p0_found, .inl (cI, 153, .inl f_p0_found))] sz) [(q_p0, .inr (2, [.int v_p0_soughtSize, .int v_p0_soughtMap, .ref q_p0_pieces, .ref q_p0_amount, .ref q_p0_found, .ref q_p0_loop, .ref q_p0_lessRows, .ref q_p0_leads])), (q_p0_amount, .inl (cI, 7, .inl f_p0_amount)), (q_p0_found, .inl (cI, 153, .inl f_p0_found))] t) (va_A [(q_p0, .inr (2, [.int v_p0_soughtSize, .int v_p0_soughtMap, .ref q_p0_pieces, .ref q_p0_amount, .ref q_p0_found, .ref q_p0_loop, .ref q_p0_lessRows, .ref q_p0_leads])), (q_p0_amount, .inl (cI, 7, .inl f_p0_amount)), (q_p0_found, .inl (cI, 153, .inl f_p0_found))] sz)) 0 0 (va_A [(q_p0, .inr (2, [.int v_p0_soughtSize, .int v_p0_soughtMap, .ref q_p0_pieces, .ref q_p0_amount, .ref q_p0_found, .ref q_p0_loop, .ref q_p0_lessRows, .ref q_p0_leads])), (q_p0_amount, .inl (cI, 7, .inl f_p0_amount)), (q_p0_found, .inl (cI, 153, .inl f_p0_found))] sz) := by
  refine z_met (cc := cX4_placeFor) (maxL := 7) (ret := (some .int)) (Qc := fun A => va_Qi (fun (r : Int32) (u : Unit) => P r ) (fun u t => zPost D cI cJ cB A [(q_p0, .inr (2, [.int v_p0_soughtSize, .int v_p0_soughtMap, .ref q_p0_pieces, .ref q_p0_amount, .ref q_p0_found, .ref q_p0_loop, .ref q_p0_lessRows, .ref q_p0_leads])), (q_p0_amount, .inl (cI, 7, .inl f_p0_amount)), (q_p0_found, .inl (cI, 153, .inl f_p0_found))] t) A) (by decide) rfl [.ref q_p0, .int x1, .int x2] (Nat.le_of_ble_eq_true rfl) ?_
  intro p e s m args below meth c A hx hb hr hts hown hml hlocks hA hX hK H locs hP hD hS ls hl Q hQ
  have hown : s.vm.findClass RX4 = some m.cls := hown
  have hl : lv_has ls 7 [(0, .ref q_p0), (1, .int x1), (2, .int x2)] := hl
  have hw0 : (Cond.fieldLink RX4 16 "ForcedRings$Patterns" "amount" "[I").before args s = true := hts _ (List.mem_of_getElem? (i := 1) rfl)
  have hinX4 : ∀ w ∈ wsX40, w ∈ wsX4_placeFor := fun _ h => List.mem_cons_of_mem _ (List.mem_append_right _ h)
  refine lv_iconst (v := (0 : Int32)) hx hb dX4_placeFor_0 (by decide) ?_
  refine lv_istore_n (lv' := [(3, .int (0 : Int32)), (0, .ref q_p0), (1, .int x1), (2, .int x2)]) hx hb dX4_placeFor_1 rfl hl (by decide) rfl (fun ls hl => ?_)
  refine lv_aload_n hx hb dX4_placeFor_2 rfl (lv_at hl 1 rfl) ?_
  refine va_get (ci := 2) (C := RX4) (T := TX4) (N := 8) (v := .ref q_p0_amount) hx hb hts hinX4 hown hK hP 0 rfl rfl 3 (by decide) hw0 (fun _ h9 => h9) rfl dX4_placeFor_3 ?_
  refine lv_iload_n hx hb dX4_placeFor_6 rfl (lv_at hl 2 rfl) ?_
  obtain ⟨hi1, h⟩ := h
  refine va_iald hx hb hK hP 1 0 rfl rfl hi1 dX4_placeFor_7 ?_
  refine lv_istore (lv' := [(4, .int (f_p0_amount x1.toNatClampNeg)), (3, .int (0 : Int32)), (0, .ref q_p0), (1, .int x1), (2, .int x2)]) hx hb dX4_placeFor_8 hl (by decide) rfl (fun ls hl => ?_)
  refine lv_iconst (v := (0 : Int32)) hx hb dX4_placeFor_10 (by decide) ?_
  refine lv_istore (lv' := [(5, .int (0 : Int32)), (4, .int (f_p0_amount x1.toNatClampNeg)), (3, .int (0 : Int32)), (0, .ref q_p0), (1, .int x1), (2, .int x2)]) hx hb dX4_placeFor_11 hl (by decide) rfl (fun ls hl => ?_)
  have k13 : ∀  (n13 : Nat) (l3 : Int32) (l4 : Int32) (l5 : Int32) (H : Heap) (locs : List Loc) (ls : Array Slot), LP3 (M_X4_placeFor_l13 x1 x2 f_p0_amount f_p0_found P ) n13 l3 l4 l5 → va_P D vwCl [(q_p0, .inr (2, [.int v_p0_soughtSize, .int v_p0_soughtMap, .ref q_p0_pieces, .ref q_p0_amount, .ref q_p0_found, .ref q_p0_loop, .ref q_p0_lessRows, .ref q_p0_leads])), (q_p0_amount, .inl (cI, 7, .inl f_p0_amount)), (q_p0_found, .inl (cI, 153, .inl f_p0_found))] H → va_D A [(q_p0, .inr (2, [.int v_p0_soughtSize, .int v_p0_soughtMap, .ref q_p0_pieces, .ref q_p0_amount, .ref q_p0_found, .ref q_p0_loop, .ref q_p0_lessRows, .ref q_p0_leads])), (q_p0_amount, .inl (cI, 7, .inl f_p0_amount)), (q_p0_found, .inl (cI, 153, .inl f_p0_found))] → va_S A s.heap H locs → lv_has ls 7 [(0, .ref q_p0), (1, .int x1), (2, .int x2), (3, .int l3), (4, .int l4), (5, .int l5)] → W p l e { frames := 1, cells := 0, slots := 0, locals := 22 } s m args below meth c H locs 0 0 Q (F0 m 13 ls []) := by
    intro  n13
    induction n13 with
    | zero =>
      intro l3 l4 l5 H locs ls h
      exact False.elim h
    | succ n13 ih13 =>
      intro l3 l4 l5 H locs ls h hP hD hS hl
      have h : M_X4_placeFor_l13 x1 x2 f_p0_amount f_p0_found P  (LP3 (M_X4_placeFor_l13 x1 x2 f_p0_amount f_p0_found P ) n13) l3 l4 l5 := h
      refine lv_iload hx hb dX4_placeFor_13 (lv_at hl 5 rfl) ?_
      refine lv_bipush (v := (32 : Int32)) hx hb dX4_placeFor_15 (by decide) ?_
      refine lv_icmp_ge (tgt := 63) hx hb dX4_placeFor_17 (by decide) (fun c2 => ?_) (fun c2 => ?_)
      · have h := And.left h c2
        refine lv_iload_n hx hb dX4_placeFor_63 rfl (lv_at hl 3 rfl) ?_
        exact z_iret hQ hx hb hr rfl hlocks hK () h hP hD hS dX4_placeFor_64
      · have h := And.right h c2
        refine lv_iload_n hx hb dX4_placeFor_20 rfl (lv_at hl 3 rfl) ?_
        refine lv_iload hx hb dX4_placeFor_21 (lv_at hl 4 rfl) ?_
        refine lv_icmp_ge (tgt := 63) hx hb dX4_placeFor_23 (by decide) (fun c3 => ?_) (fun c3 => ?_)
        · have h := And.left h c3
          refine lv_iload_n hx hb dX4_placeFor_63 rfl (lv_at hl 3 rfl) ?_
          exact z_iret hQ hx hb hr rfl hlocks hK () h hP hD hS dX4_placeFor_64
        · have h := And.right h c3
          refine lv_iload_n hx hb dX4_placeFor_26 rfl (lv_at hl 3 rfl) ?_
          refine lv_iload hx hb dX4_placeFor_27 (lv_at hl 4 rfl) ?_
          refine lv_iadd hx hb dX4_placeFor_29 ?_
          refine lv_iconst (v := (2 : Int32)) hx hb dX4_placeFor_30 (by decide) ?_
          refine lv_idiv hx hb dX4_placeFor_31 (by decide) ?_
          refine lv_istore (lv' := [(6, .int ((l3 + l4) / (2 : Int32))), (0, .ref q_p0), (1, .int x1), (2, .int x2), (3, .int l3), (4, .int l4), (5, .int l5)]) hx hb dX4_placeFor_32 hl (by decide) rfl (fun ls hl => ?_)
          refine lv_aload_n hx hb dX4_placeFor_34 rfl (lv_at hl 1 rfl) ?_
          refine lv_iload_n hx hb dX4_placeFor_35 rfl (lv_at hl 2 rfl) ?_
          refine lv_iload hx hb dX4_placeFor_36 (lv_at hl 0 rfl) ?_
          refine z_cVi (As := [.int x1, .int ((l3 + l4) / (2 : Int32))]) (rest := []) (wr := [(q_p0_amount, .inl (cI, 7, .inl f_p0_amount))]) (wn := fun u => [(q_p0, .inr (2, [.int v_p0_soughtSize, .int v_p0_soughtMap, .ref q_p0_pieces, .ref q_p0_amount, .ref q_p0_found, .ref q_p0_loop, .ref q_p0_lessRows, .ref q_p0_leads])), (q_p0_amount, .inl (cI, 7, .inl f_p0_amount)), (q_p0_found, .inl (cI, 153, .inl f_p0_found))]) (c_X4_at l D cI cJ cB tU tM tS q_p0 q_p0_pieces q_p0_amount q_p0_found q_p0_loop q_p0_lessRows q_p0_leads H.size x1 ((l3 + l4) / (2 : Int32)) f_p0_found v_p0_soughtSize v_p0_soughtMap _ h) ⟨hx, hb, hml, hown, hts⟩ (cwV 2 hts gX4_placeFor_X4_at rfl rfl rfl hd_X4_at ⟨Nat.le_of_ble_eq_true rfl, Nat.le_of_ble_eq_true rfl⟩) hX hK hP hD hS hA [0, 2] [1] [1, 0, 2] rfl rfl rfl (by decide) (fun _ => rfl) (q0 := 0) (ci := 2) rfl rfl rfl hl.1 rfl (Nat.le_of_ble_eq_true rfl) ⟨Nat.le_refl _, Nat.le_refl _⟩ dX4_placeFor_38 (fun r4 u4 H locs h hP hD hS => ?_)
          refine lv_iload_n hx hb dX4_placeFor_41 rfl (lv_at hl 3 rfl) ?_
          refine lv_icmp_ge (tgt := 53) hx hb dX4_placeFor_42 (by decide) (fun c5 => ?_) (fun c5 => ?_)
          · have h := And.left h c5
            refine lv_iload hx hb dX4_placeFor_53 (lv_at hl 0 rfl) ?_
            refine lv_istore (lv' := [(4, .int ((l3 + l4) / (2 : Int32))), (6, .int ((l3 + l4) / (2 : Int32))), (0, .ref q_p0), (1, .int x1), (2, .int x2), (3, .int l3), (5, .int l5)]) hx hb dX4_placeFor_55 hl (by decide) rfl (fun ls hl => ?_)
            refine lv_iinc (v := (l5 + 1)) (lv' := [(5, .int (l5 + 1)), (4, .int ((l3 + l4) / (2 : Int32))), (6, .int ((l3 + l4) / (2 : Int32))), (0, .ref q_p0), (1, .int x1), (2, .int x2), (3, .int l3)]) hx hb dX4_placeFor_57 hl (k := 6) rfl rfl (by decide) rfl (fun ls hl => ?_)
            refine lv_goto (tgt := 13) hx hb dX4_placeFor_60 (by decide) ?_
            exact ih13 l3 ((l3 + l4) / (2 : Int32)) (l5 + 1) _ _ _ h hP hD hS (lv_sub hl [3, 4, 5, 6, 1, 0] rfl)
          · have h := And.right h c5
            refine lv_iload hx hb dX4_placeFor_45 (lv_at hl 0 rfl) ?_
            refine lv_iconst (v := (1 : Int32)) hx hb dX4_placeFor_47 (by decide) ?_
            refine lv_iadd hx hb dX4_placeFor_48 ?_
            refine lv_istore_n (lv' := [(3, .int (((l3 + l4) / (2 : Int32)) + (1 : Int32))), (6, .int ((l3 + l4) / (2 : Int32))), (0, .ref q_p0), (1, .int x1), (2, .int x2), (4, .int l4), (5, .int l5)]) hx hb dX4_placeFor_49 rfl hl (by decide) rfl (fun ls hl => ?_)
            refine lv_goto (tgt := 57) hx hb dX4_placeFor_50 (by decide) ?_
            refine lv_iinc (v := (l5 + 1)) (lv' := [(5, .int (l5 + 1)), (3, .int (((l3 + l4) / (2 : Int32)) + (1 : Int32))), (6, .int ((l3 + l4) / (2 : Int32))), (0, .ref q_p0), (1, .int x1), (2, .int x2), (4, .int l4)]) hx hb dX4_placeFor_57 hl (k := 6) rfl rfl (by decide) rfl (fun ls hl => ?_)
            refine lv_goto (tgt := 13) hx hb dX4_placeFor_60 (by decide) ?_
            exact ih13 (((l3 + l4) / (2 : Int32)) + (1 : Int32)) l4 (l5 + 1) _ _ _ h hP hD hS (lv_sub hl [3, 4, 5, 1, 6, 0] rfl)
  obtain ⟨n13, h⟩ := h
  exact k13  n13 (0 : Int32) (f_p0_amount x1.toNatClampNeg) (0 : Int32) _ _ _ h hP hD hS (lv_sub hl [3, 4, 5, 2, 1, 0] rfl)
theorem hd_X4_isFound : yX4_isFound.cls = RX4 ∧ yX4_isFound.cls ≠ "java/lang/invoke/MethodHandle" ∧ yX4_isFound.cls ≠ "java/lang/invoke/VarHandle" ∧ (parseMethodDescriptor yX4_isFound.desc).map (fun d => d.parameters.length) = some 2 := by decide +kernel
set_option maxHeartbeats 4000000 in
set_option maxRecDepth 100000 in
theorem c_X4_isFound (l : Launch) (D : va_G) (cI cJ cB : ClassId) (tU tM tS : Nat) (q_p0 q_p0_pieces q_p0_amount q_p0_found q_p0_loop q_p0_lessRows q_p0_leads : Nat) (sz : Nat) (x1 : Int32) (x2 : Int32) (f_p0_amount : (Nat → Int32)) (f_p0_found : (Nat → Int32)) (v_p0_soughtSize : Int32) (v_p0_soughtMap : Int32) (P : Int32 → Prop) (h : M_X4_isFound x1 x2 f_p0_amount f_p0_found P) : Met l yX4_isFound wsX4_isFound ({ frames := 2, cells := 0, slots := 0, locals := 48 }) (va_Pc [.ref q_p0, .int x1, .int x2] (zPre D cI cJ cB tU tM tS [(q_p0, .inr (2, [.int v_p0_soughtSize, .int v_p0_soughtMap, .ref q_p0_pieces, .ref q_p0_amount, .ref q_p0_found, .ref q_p0_loop, .ref q_p0_lessRows, .ref q_p0_leads])), (q_p0_amount, .inl (cI, 7, .inl f_p0_amount)), (q_p0_found, .inl (cI, 153, .inl f_p0_found))] sz)) (va_Qi (fun (r : Int32) (u : Unit) => P r ) (fun u t => zPost D cI cJ cB (va_A [(q_p0, .inr (2, [.int v_p0_soughtSize, .int v_p0_soughtMap, .ref q_p0_pieces, .ref q_p0_amount, .ref q_p0_found, .ref q_p0_loop, .ref q_p0_lessRows, .ref q_p0_leads])), (q_p0_amount, .inl (cI, 7, .inl f_p0_amount)), (q_p0_found, .inl (cI, 153, .inl f_p0_found))] sz) [(q_p0, .inr (2, [.int v_p0_soughtSize, .int v_p0_soughtMap, .ref q_p0_pieces, .ref q_p0_amount, .ref q_p0_found, .ref q_p0_loop, .ref q_p0_lessRows, .ref q_p0_leads])), (q_p0_amount, .inl (cI, 7, .inl f_p0_amount)), (q_p0_found, .inl (cI, 153, .inl f_p0_found))] t) (va_A [(q_p0, .inr (2, [.int v_p0_soughtSize, .int v_p0_soughtMap, .ref q_p0_pieces, .ref q_p0_amount, .ref q_p0_found, .ref q_p0_loop, .ref q_p0_lessRows, .ref q_p0_leads])), (q_p0_amount, .inl (cI, 7, .inl f_p0_amount)), (q_p0_found, .inl (cI, 153, .inl f_p0_found))] sz)) 0 0 (va_A [(q_p0, .inr (2, [.int v_p0_soughtSize, .int v_p0_soughtMap, .ref q_p0_pieces, .ref q_p0_amount, .ref q_p0_found, .ref q_p0_loop, .ref q_p0_lessRows, .ref q_p0_leads])), (q_p0_amount, .inl (cI, 7, .inl f_p0_amount)), (q_p0_found, .inl (cI, 153, .inl f_p0_found))] sz) := by
  refine z_met (cc := cX4_isFound) (maxL := 4) (ret := (some .boolean)) (Qc := fun A => va_Qi (fun (r : Int32) (u : Unit) => P r ) (fun u t => zPost D cI cJ cB A [(q_p0, .inr (2, [.int v_p0_soughtSize, .int v_p0_soughtMap, .ref q_p0_pieces, .ref q_p0_amount, .ref q_p0_found, .ref q_p0_loop, .ref q_p0_lessRows, .ref q_p0_leads])), (q_p0_amount, .inl (cI, 7, .inl f_p0_amount)), (q_p0_found, .inl (cI, 153, .inl f_p0_found))] t) A) (by decide) rfl [.ref q_p0, .int x1, .int x2] (Nat.le_of_ble_eq_true rfl) ?_
  intro p e s m args below meth c A hx hb hr hts hown hml hlocks hA hX hK H locs hP hD hS ls hl Q hQ
  have hown : s.vm.findClass RX4 = some m.cls := hown
  have hl : lv_has ls 4 [(0, .ref q_p0), (1, .int x1), (2, .int x2)] := hl
  have hw0 : (Cond.fieldLink RX4 16 "ForcedRings$Patterns" "amount" "[I").before args s = true := hts _ (List.mem_of_getElem? (i := 1) rfl)
  have hinX4 : ∀ w ∈ wsX40, w ∈ wsX4_isFound := fun _ h => List.mem_cons_of_mem _ (List.mem_append_right _ h)
  refine lv_aload_n hx hb dX4_isFound_0 rfl (lv_at hl 0 rfl) ?_
  refine lv_iload_n hx hb dX4_isFound_1 rfl (lv_at hl 1 rfl) ?_
  refine lv_iload_n hx hb dX4_isFound_2 rfl (lv_at hl 2 rfl) ?_
  refine z_cVi (As := [.int x1, .int x2]) (rest := []) (wr := []) (wn := fun u => [(q_p0, .inr (2, [.int v_p0_soughtSize, .int v_p0_soughtMap, .ref q_p0_pieces, .ref q_p0_amount, .ref q_p0_found, .ref q_p0_loop, .ref q_p0_lessRows, .ref q_p0_leads])), (q_p0_amount, .inl (cI, 7, .inl f_p0_amount)), (q_p0_found, .inl (cI, 153, .inl f_p0_found))]) (c_X4_placeFor l D cI cJ cB tU tM tS q_p0 q_p0_pieces q_p0_amount q_p0_found q_p0_loop q_p0_lessRows q_p0_leads H.size x1 x2 f_p0_amount f_p0_found v_p0_soughtSize v_p0_soughtMap _ h) ⟨hx, hb, hml, hown, hts⟩ (cwV 2 hts gX4_isFound_X4_placeFor rfl rfl rfl hd_X4_placeFor ⟨Nat.le_of_ble_eq_true rfl, Nat.le_of_ble_eq_true rfl⟩) hX hK hP hD hS hA [0, 1, 2] [] [0, 1, 2] rfl rfl rfl (by decide) (fun _ => rfl) (q0 := 0) (ci := 2) rfl rfl rfl hl.1 rfl (Nat.le_of_ble_eq_true rfl) ⟨Nat.le_refl _, Nat.le_refl _⟩ dX4_isFound_3 (fun r1 u1 H locs h hP hD hS => ?_)
  refine lv_istore_n (lv' := [(3, .int r1), (0, .ref q_p0), (1, .int x1), (2, .int x2)]) hx hb dX4_isFound_6 rfl hl (by decide) rfl (fun ls hl => ?_)
  refine lv_iload_n hx hb dX4_isFound_7 rfl (lv_at hl 0 rfl) ?_
  refine lv_aload_n hx hb dX4_isFound_8 rfl (lv_at hl 1 rfl) ?_
  refine va_get (ci := 2) (C := RX4) (T := TX4) (N := 8) (v := .ref q_p0_amount) hx hb hts hinX4 hown hK hP 0 rfl rfl 3 (by decide) hw0 (fun _ h9 => h9) rfl dX4_isFound_9 ?_
  refine lv_iload_n hx hb dX4_isFound_12 rfl (lv_at hl 2 rfl) ?_
  obtain ⟨hi2, h⟩ := h
  refine va_iald hx hb hK hP 1 0 rfl rfl hi2 dX4_isFound_13 ?_
  refine lv_icmp_ge (tgt := 31) hx hb dX4_isFound_14 (by decide) (fun c3 => ?_) (fun c3 => ?_)
  · have h := And.left h c3
    refine lv_iconst (v := (0 : Int32)) hx hb dX4_isFound_31 (by decide) ?_
    exact z_iret hQ hx hb hr rfl hlocks hK () h hP hD hS dX4_isFound_32
  · have h := And.right h c3
    refine lv_aload_n hx hb dX4_isFound_17 rfl (lv_at hl 1 rfl) ?_
    refine lv_iload_n hx hb dX4_isFound_18 rfl (lv_at hl 2 rfl) ?_
    refine lv_iload_n hx hb dX4_isFound_19 rfl (lv_at hl 0 rfl) ?_
    refine z_cVi (As := [.int x1, .int r1]) (rest := []) (wr := [(q_p0_amount, .inl (cI, 7, .inl f_p0_amount))]) (wn := fun u => [(q_p0, .inr (2, [.int v_p0_soughtSize, .int v_p0_soughtMap, .ref q_p0_pieces, .ref q_p0_amount, .ref q_p0_found, .ref q_p0_loop, .ref q_p0_lessRows, .ref q_p0_leads])), (q_p0_amount, .inl (cI, 7, .inl f_p0_amount)), (q_p0_found, .inl (cI, 153, .inl f_p0_found))]) (c_X4_at l D cI cJ cB tU tM tS q_p0 q_p0_pieces q_p0_amount q_p0_found q_p0_loop q_p0_lessRows q_p0_leads H.size x1 r1 f_p0_found v_p0_soughtSize v_p0_soughtMap _ h) ⟨hx, hb, hml, hown, hts⟩ (cwV 2 hts gX4_isFound_X4_at rfl rfl rfl hd_X4_at ⟨Nat.le_of_ble_eq_true rfl, Nat.le_of_ble_eq_true rfl⟩) hX hK hP hD hS hA [0, 2] [1] [1, 0, 2] rfl rfl rfl (by decide) (fun _ => rfl) (q0 := 0) (ci := 2) rfl rfl rfl hl.1 rfl (Nat.le_of_ble_eq_true rfl) ⟨Nat.le_refl _, Nat.le_refl _⟩ dX4_isFound_20 (fun r4 u4 H locs h hP hD hS => ?_)
    refine lv_iload_n hx hb dX4_isFound_23 rfl (lv_at hl 3 rfl) ?_
    refine lv_icmp_ne (tgt := 31) hx hb dX4_isFound_24 (by decide) (fun c5 => ?_) (fun c5 => ?_)
    · have h := And.right h c5
      refine lv_iconst (v := (0 : Int32)) hx hb dX4_isFound_31 (by decide) ?_
      exact z_iret hQ hx hb hr rfl hlocks hK () h hP hD hS dX4_isFound_32
    · have h := And.left h c5
      refine lv_iconst (v := (1 : Int32)) hx hb dX4_isFound_27 (by decide) ?_
      refine lv_goto (tgt := 32) hx hb dX4_isFound_28 (by decide) ?_
      exact z_iret hQ hx hb hr rfl hlocks hK () h hP hD hS dX4_isFound_32
theorem hd_X5_between : yX5_between.cls = RX5 ∧ yX5_between.cls ≠ "java/lang/invoke/MethodHandle" ∧ yX5_between.cls ≠ "java/lang/invoke/VarHandle" ∧ (parseMethodDescriptor yX5_between.desc).map (fun d => d.parameters.length) = some 2 := by decide +kernel
set_option maxHeartbeats 4000000 in
set_option maxRecDepth 100000 in
theorem c_X5_between (l : Launch) (D : va_G) (cI cJ cB : ClassId) (tU tM tS : Nat) (sz : Nat) (x0 : Int32) (x1 : Int32)  (P : Int32 → Prop) (h : M_X5_between x0 x1 P) : Met l yX5_between wsX5_between ({ frames := 0, cells := 0, slots := 0, locals := 0 }) (va_Pc [.int x0, .int x1] (zPre D cI cJ cB tU tM tS [] sz)) (va_Qi (fun (r : Int32) (u : Unit) => P r ) (fun u t => zPost D cI cJ cB (va_A [] sz) [] t) (va_A [] sz)) 0 0 (va_A [] sz) := by
  refine z_met (cc := cX5_between) (maxL := 2) (ret := (some .int)) (Qc := fun A => va_Qi (fun (r : Int32) (u : Unit) => P r ) (fun u t => zPost D cI cJ cB A [] t) A) (by decide) rfl [.int x0, .int x1] (Nat.le_of_ble_eq_true rfl) ?_
  intro p e s m args below meth c A hx hb hr hts hown hml hlocks hA hX hK H locs hP hD hS ls hl Q hQ
  have hown : s.vm.findClass RX5 = some m.cls := hown
  have hl : lv_has ls 2 [(0, .int x0), (1, .int x1)] := hl
  refine lv_iconst (v := (1 : Int32)) hx hb dX5_between_0 (by decide) ?_
  refine lv_iload_n hx hb dX5_between_1 rfl (lv_at hl 1 rfl) ?_
  refine lv_ishl hx hb dX5_between_2 ?_
  refine lv_iconst (v := (1 : Int32)) hx hb dX5_between_3 (by decide) ?_
  refine lv_iload_n hx hb dX5_between_4 rfl (lv_at hl 0 rfl) ?_
  refine lv_ishl hx hb dX5_between_5 ?_
  refine lv_isub hx hb dX5_between_6 ?_
  exact z_iret hQ hx hb hr rfl hlocks hK () h hP hD hS dX5_between_7
theorem hd_X5_forward : yX5_forward.cls = RX5 ∧ yX5_forward.cls ≠ "java/lang/invoke/MethodHandle" ∧ yX5_forward.cls ≠ "java/lang/invoke/VarHandle" ∧ (parseMethodDescriptor yX5_forward.desc).map (fun d => d.parameters.length) = some 3 := by decide +kernel
set_option maxHeartbeats 4000000 in
set_option maxRecDepth 100000 in
theorem c_X5_forward (l : Launch) (D : va_G) (cI cJ cB : ClassId) (tU tM tS : Nat) (sz : Nat) (x0 : Int32) (x1 : Int32) (x2 : Int32)  (P : Int32 → Prop) (h : M_X5_forward x0 x1 x2 P) : Met l yX5_forward wsX5_forward ({ frames := 1, cells := 0, slots := 0, locals := 21 }) (va_Pc [.int x0, .int x1, .int x2] (zPre D cI cJ cB tU tM tS [] sz)) (va_Qi (fun (r : Int32) (u : Unit) => P r ) (fun u t => zPost D cI cJ cB (va_A [] sz) [] t) (va_A [] sz)) 0 0 (va_A [] sz) := by
  refine z_met (cc := cX5_forward) (maxL := 3) (ret := (some .int)) (Qc := fun A => va_Qi (fun (r : Int32) (u : Unit) => P r ) (fun u t => zPost D cI cJ cB A [] t) A) (by decide) rfl [.int x0, .int x1, .int x2] (Nat.le_of_ble_eq_true rfl) ?_
  intro p e s m args below meth c A hx hb hr hts hown hml hlocks hA hX hK H locs hP hD hS ls hl Q hQ
  have hown : s.vm.findClass RX5 = some m.cls := hown
  have hl : lv_has ls 3 [(0, .int x0), (1, .int x1), (2, .int x2)] := hl
  refine lv_iload_n hx hb dX5_forward_0 rfl (lv_at hl 0 rfl) ?_
  refine lv_iload_n hx hb dX5_forward_1 rfl (lv_at hl 1 rfl) ?_
  refine lv_icmp_gt (tgt := 13) hx hb dX5_forward_2 (by decide) (fun c1 => ?_) (fun c1 => ?_)
  · have h := And.left h c1
    refine lv_iload_n hx hb dX5_forward_13 rfl (lv_at hl 0 rfl) ?_
    refine lv_iload_n hx hb dX5_forward_14 rfl (lv_at hl 2 rfl) ?_
    refine z_cSi (As := [.int x0, .int x2]) (rest := []) (wr := []) (wn := fun u => []) (c_X5_between l D cI cJ cB tU tM tS  H.size x0 x2 _ h) ⟨hx, hb, hml, hown, hts⟩ (va_cwS 2 hts gX5_forward_X5_between rfl rfl rfl hd_X5_between.2 ⟨Nat.le_of_ble_eq_true rfl, Nat.le_of_ble_eq_true rfl⟩) hX hK hP hD hS hA [] [] [] rfl rfl rfl (by decide) (fun _ => rfl) rfl hl.1 rfl (Nat.le_of_ble_eq_true rfl) ⟨Nat.le_refl _, Nat.le_refl _⟩ dX5_forward_15 (fun r2 u2 H locs h hP hD hS => ?_)
    refine lv_iconst (v := (0 : Int32)) hx hb dX5_forward_18 (by decide) ?_
    refine lv_iload_n hx hb dX5_forward_19 rfl (lv_at hl 1 rfl) ?_
    refine z_cSi (As := [.int (0 : Int32), .int x1]) (rest := [.int r2]) (wr := []) (wn := fun u => []) (c_X5_between l D cI cJ cB tU tM tS  H.size (0 : Int32) x1 _ h) ⟨hx, hb, hml, hown, hts⟩ (va_cwS 2 hts gX5_forward_X5_between rfl rfl rfl hd_X5_between.2 ⟨Nat.le_of_ble_eq_true rfl, Nat.le_of_ble_eq_true rfl⟩) hX hK hP hD hS hA [] [] [] rfl rfl rfl (by decide) (fun _ => rfl) rfl hl.1 rfl (Nat.le_of_ble_eq_true rfl) ⟨Nat.le_refl _, Nat.le_refl _⟩ dX5_forward_20 (fun r3 u3 H locs h hP hD hS => ?_)
    refine lv_ior hx hb dX5_forward_23 ?_
    exact z_iret hQ hx hb hr rfl hlocks hK () h hP hD hS dX5_forward_24
  · have h := And.right h c1
    refine lv_iload_n hx hb dX5_forward_5 rfl (lv_at hl 0 rfl) ?_
    refine lv_iload_n hx hb dX5_forward_6 rfl (lv_at hl 1 rfl) ?_
    refine z_cSi (As := [.int x0, .int x1]) (rest := []) (wr := []) (wn := fun u => []) (c_X5_between l D cI cJ cB tU tM tS  H.size x0 x1 _ h) ⟨hx, hb, hml, hown, hts⟩ (va_cwS 2 hts gX5_forward_X5_between rfl rfl rfl hd_X5_between.2 ⟨Nat.le_of_ble_eq_true rfl, Nat.le_of_ble_eq_true rfl⟩) hX hK hP hD hS hA [] [] [] rfl rfl rfl (by decide) (fun _ => rfl) rfl hl.1 rfl (Nat.le_of_ble_eq_true rfl) ⟨Nat.le_refl _, Nat.le_refl _⟩ dX5_forward_7 (fun r4 u4 H locs h hP hD hS => ?_)
    refine lv_goto (tgt := 24) hx hb dX5_forward_10 (by decide) ?_
    exact z_iret hQ hx hb hr rfl hlocks hK () h hP hD hS dX5_forward_24
theorem hd_X5_learn : yX5_learn.cls = RX5 ∧ yX5_learn.cls ≠ "java/lang/invoke/MethodHandle" ∧ yX5_learn.cls ≠ "java/lang/invoke/VarHandle" ∧ (parseMethodDescriptor yX5_learn.desc).map (fun d => d.parameters.length) = some 1 := by decide +kernel
set_option maxHeartbeats 4000000 in
set_option maxRecDepth 100000 in
theorem c_X5_learn (l : Launch) (D : va_G) (cI cJ cB : ClassId) (tU tM tS : Nat) (q_p0 q_p1 q_p0_covered q_p0_counts q_p0_earlier q_p0_closed q_p0_simple q_p0_coefficients q_p1_led q_p1_turnedLed : Nat) (sz : Nat) (v_p1_way : Int32) (v_p1_size : Int32) (v_p0_number : Int32) (v_p0_falling : Int32) (f_p1_led : (Nat → Int32)) (f_p0_covered : (Nat → Int32))  (P : Int32 → Int32 → (Nat → Int32) → Prop) (h : M_X5_learn v_p1_way v_p1_size v_p0_number v_p0_falling f_p1_led f_p0_covered P) : Met l yX5_learn wsX5_learn ({ frames := 2, cells := 0, slots := 0, locals := 43 }) (va_Pc [.ref q_p0, .ref q_p1] (zPre D cI cJ cB tU tM tS [(q_p0, .inr (3, [.int v_p0_number, .int v_p0_falling, .ref q_p0_covered, .ref q_p0_counts, .ref q_p0_earlier, .ref q_p0_closed, .ref q_p0_simple, .ref q_p0_coefficients])), (q_p1, .inr (0, [.int v_p1_size, .int v_p1_way, .ref q_p1_led, .ref q_p1_turnedLed])), (q_p0_covered, .inl (cI, 8, .inl f_p0_covered)), (q_p1_led, .inl (cI, 8, .inl f_p1_led))] sz)) (va_Qv (fun u : Int32 × Int32 × (Nat → Int32) => P u.1 u.2.1 u.2.2) (fun u t => zPost D cI cJ cB (va_A [(q_p0, .inr (3, [.int v_p0_number, .int v_p0_falling, .ref q_p0_covered, .ref q_p0_counts, .ref q_p0_earlier, .ref q_p0_closed, .ref q_p0_simple, .ref q_p0_coefficients])), (q_p1, .inr (0, [.int v_p1_size, .int v_p1_way, .ref q_p1_led, .ref q_p1_turnedLed])), (q_p0_covered, .inl (cI, 8, .inl f_p0_covered)), (q_p1_led, .inl (cI, 8, .inl f_p1_led))] sz) [(q_p0, .inr (3, [.int u.1, .int u.2.1, .ref q_p0_covered, .ref q_p0_counts, .ref q_p0_earlier, .ref q_p0_closed, .ref q_p0_simple, .ref q_p0_coefficients])), (q_p1, .inr (0, [.int v_p1_size, .int v_p1_way, .ref q_p1_led, .ref q_p1_turnedLed])), (q_p0_covered, .inl (cI, 8, .inl u.2.2)), (q_p1_led, .inl (cI, 8, .inl f_p1_led))] t) (va_A [(q_p0, .inr (3, [.int v_p0_number, .int v_p0_falling, .ref q_p0_covered, .ref q_p0_counts, .ref q_p0_earlier, .ref q_p0_closed, .ref q_p0_simple, .ref q_p0_coefficients])), (q_p1, .inr (0, [.int v_p1_size, .int v_p1_way, .ref q_p1_led, .ref q_p1_turnedLed])), (q_p0_covered, .inl (cI, 8, .inl f_p0_covered)), (q_p1_led, .inl (cI, 8, .inl f_p1_led))] sz)) 0 0 (va_A [(q_p0, .inr (3, [.int v_p0_number, .int v_p0_falling, .ref q_p0_covered, .ref q_p0_counts, .ref q_p0_earlier, .ref q_p0_closed, .ref q_p0_simple, .ref q_p0_coefficients])), (q_p1, .inr (0, [.int v_p1_size, .int v_p1_way, .ref q_p1_led, .ref q_p1_turnedLed])), (q_p0_covered, .inl (cI, 8, .inl f_p0_covered)), (q_p1_led, .inl (cI, 8, .inl f_p1_led))] sz) := by
  refine z_met (cc := cX5_learn) (maxL := 5) (ret := none) (Qc := fun A => va_Qv (fun u : Int32 × Int32 × (Nat → Int32) => P u.1 u.2.1 u.2.2) (fun u t => zPost D cI cJ cB A [(q_p0, .inr (3, [.int u.1, .int u.2.1, .ref q_p0_covered, .ref q_p0_counts, .ref q_p0_earlier, .ref q_p0_closed, .ref q_p0_simple, .ref q_p0_coefficients])), (q_p1, .inr (0, [.int v_p1_size, .int v_p1_way, .ref q_p1_led, .ref q_p1_turnedLed])), (q_p0_covered, .inl (cI, 8, .inl u.2.2)), (q_p1_led, .inl (cI, 8, .inl f_p1_led))] t) A) (by decide) rfl [.ref q_p0, .ref q_p1] (Nat.le_of_ble_eq_true rfl) ?_
  intro p e s m args below meth c A hx hb hr hts hown hml hlocks hA hX hK H locs hP hD hS ls hl Q hQ
  have hown : s.vm.findClass RX5 = some m.cls := hown
  have hl : lv_has ls 5 [(0, .ref q_p0), (1, .ref q_p1)] := hl
  have hw0 : (Cond.fieldLink RX5 37 "ForcedRings$Pieces" "number" "I").before args s = true := hts _ (List.mem_of_getElem? (i := 1) rfl)
  have hw1 : (Cond.fieldLink RX5 41 "ForcedRings$Pieces" "falling" "I").before args s = true := hts _ (List.mem_of_getElem? (i := 2) rfl)
  have hw2 : (Cond.fieldLink RX5 44 "ForcedRings$Chart" "led" "[I").before args s = true := hts _ (List.mem_of_getElem? (i := 3) rfl)
  have hw3 : (Cond.fieldLink RX5 47 "ForcedRings$Chart" "size" "I").before args s = true := hts _ (List.mem_of_getElem? (i := 4) rfl)
  have hw4 : (Cond.fieldLink RX5 50 "ForcedRings$Chart" "way" "I").before args s = true := hts _ (List.mem_of_getElem? (i := 5) rfl)
  have hw5 : (Cond.fieldLink RX5 9 "ForcedRings$Pieces" "covered" "[I").before args s = true := hts _ (List.mem_of_getElem? (i := 6) rfl)
  have hw6 : (Cond.methodLink RX5 57 Lib.Math.min.name).before args s = true := hts _ (List.mem_of_getElem? (i := 7) rfl)
  have hw7 : (Cond.static Lib.Math.min.name).before args s = true := hts _ (List.mem_of_getElem? (i := 8) rfl)
  have hw8 : (Cond.initialized "java/lang/Math").before args s = true := hts _ (List.mem_of_getElem? (i := 9) rfl)
  have hw9 : (Cond.code Lib.Math.min.name Lib.Math.min.code 2 (some .int)).before args s = true := hts _ (List.mem_of_getElem? (i := 10) rfl)
  have hw10 : (Cond.methodLink RX5 63 Lib.Math.max.name).before args s = true := hts _ (List.mem_of_getElem? (i := 11) rfl)
  have hw11 : (Cond.static Lib.Math.max.name).before args s = true := hts _ (List.mem_of_getElem? (i := 12) rfl)
  have hw12 : (Cond.code Lib.Math.max.name Lib.Math.max.code 2 (some .int)).before args s = true := hts _ (List.mem_of_getElem? (i := 13) rfl)
  have hinX0 : ∀ w ∈ wsX00, w ∈ wsX5_learn := fun _ h => List.mem_cons_of_mem _ (List.mem_append_right _ h)
  have hinX5 : ∀ w ∈ wsX50, w ∈ wsX5_learn := fun _ h => List.mem_cons_of_mem _ (List.mem_append_left _ (List.mem_append_right _ h))
  refine lv_aload_n hx hb dX5_learn_0 rfl (lv_at hl 0 rfl) ?_
  refine lv_aload_n hx hb dX5_learn_1 rfl (lv_at hl 1 rfl) ?_
  refine z_cVi (As := []) (rest := [.ref q_p0]) (wr := [(q_p0, .inr (3, [.int v_p0_number, .int v_p0_falling, .ref q_p0_covered, .ref q_p0_counts, .ref q_p0_earlier, .ref q_p0_closed, .ref q_p0_simple, .ref q_p0_coefficients])), (q_p0_covered, .inl (cI, 8, .inl f_p0_covered)), (q_p1_led, .inl (cI, 8, .inl f_p1_led))]) (wn := fun u => [(q_p0, .inr (3, [.int v_p0_number, .int v_p0_falling, .ref q_p0_covered, .ref q_p0_counts, .ref q_p0_earlier, .ref q_p0_closed, .ref q_p0_simple, .ref q_p0_coefficients])), (q_p1, .inr (0, [.int v_p1_size, .int v_p1_way, .ref q_p1_led, .ref q_p1_turnedLed])), (q_p0_covered, .inl (cI, 8, .inl f_p0_covered)), (q_p1_led, .inl (cI, 8, .inl f_p1_led))]) (c_X0_pieceNumber l D cI cJ cB tU tM tS q_p1 q_p1_led q_p1_turnedLed H.size v_p1_way v_p1_size _ h) ⟨hx, hb, hml, hown, hts⟩ (cwV 0 hts gX5_learn_X0_pieceNumber rfl rfl rfl hd_X0_pieceNumber ⟨Nat.le_of_ble_eq_true rfl, Nat.le_of_ble_eq_true rfl⟩) hX hK hP hD hS hA [1] [0, 2, 3] [0, 3, 1, 2] rfl rfl rfl (by decide) (fun _ => rfl) (q0 := 1) (ci := 0) rfl rfl rfl hl.1 rfl (Nat.le_of_ble_eq_true rfl) ⟨Nat.le_refl _, Nat.le_refl _⟩ dX5_learn_2 (fun r1 u1 H locs h hP hD hS => ?_)
  refine z_put (ci := 3) (C := RX5) (T := TX5) (N := 8) (ty := .int) (wn := [(q_p0, .inr (3, [.int r1, .int v_p0_falling, .ref q_p0_covered, .ref q_p0_counts, .ref q_p0_earlier, .ref q_p0_closed, .ref q_p0_simple, .ref q_p0_coefficients])), (q_p1, .inr (0, [.int v_p1_size, .int v_p1_way, .ref q_p1_led, .ref q_p1_turnedLed])), (q_p0_covered, .inl (cI, 8, .inl f_p0_covered)), (q_p1_led, .inl (cI, 8, .inl f_p1_led))]) hx hb hts hinX5 tyX5 tyX5_ok nmX5 hown hK hP hD hS 0 rfl rfl 0 (by decide) hw0 (fun _ h9 => h9) rfl (by decide +kernel) rfl rfl (Nat.le_of_ble_eq_true rfl) dX5_learn_5 rfl (fun H locs hP hD hS => ?_)
  refine lv_aload_n hx hb dX5_learn_8 rfl (lv_at hl 0 rfl) ?_
  refine lv_iconst (v := (0 : Int32)) hx hb dX5_learn_9 (by decide) ?_
  refine z_put (ci := 3) (C := RX5) (T := TX5) (N := 8) (ty := .int) (wn := [(q_p0, .inr (3, [.int r1, .int (0 : Int32), .ref q_p0_covered, .ref q_p0_counts, .ref q_p0_earlier, .ref q_p0_closed, .ref q_p0_simple, .ref q_p0_coefficients])), (q_p1, .inr (0, [.int v_p1_size, .int v_p1_way, .ref q_p1_led, .ref q_p1_turnedLed])), (q_p0_covered, .inl (cI, 8, .inl f_p0_covered)), (q_p1_led, .inl (cI, 8, .inl f_p1_led))]) hx hb hts hinX5 tyX5 tyX5_ok nmX5 hown hK hP hD hS 0 rfl rfl 1 (by decide) hw1 (fun _ h9 => h9) rfl (by decide +kernel) rfl rfl (Nat.le_of_ble_eq_true rfl) dX5_learn_10 rfl (fun H locs hP hD hS => ?_)
  refine lv_iconst (v := (0 : Int32)) hx hb dX5_learn_13 (by decide) ?_
  refine lv_istore_n (lv' := [(2, .int (0 : Int32)), (0, .ref q_p0), (1, .ref q_p1)]) hx hb dX5_learn_14 rfl hl (by decide) rfl (fun ls hl => ?_)
  have k15 : ∀ (v_p0_number : Int32) (n15 : Nat) (l2 : Int32) (v_p0_falling : Int32) (f_p0_covered : (Nat → Int32)) (H : Heap) (locs : List Loc) (ls : Array Slot), LP3 (M_X5_learn_l15 v_p1_way v_p1_size f_p1_led P v_p0_number) n15 l2 v_p0_falling f_p0_covered → va_P D vwCl [(q_p0, .inr (3, [.int v_p0_number, .int v_p0_falling, .ref q_p0_covered, .ref q_p0_counts, .ref q_p0_earlier, .ref q_p0_closed, .ref q_p0_simple, .ref q_p0_coefficients])), (q_p1, .inr (0, [.int v_p1_size, .int v_p1_way, .ref q_p1_led, .ref q_p1_turnedLed])), (q_p0_covered, .inl (cI, 8, .inl f_p0_covered)), (q_p1_led, .inl (cI, 8, .inl f_p1_led))] H → va_D A [(q_p0, .inr (3, [.int v_p0_number, .int v_p0_falling, .ref q_p0_covered, .ref q_p0_counts, .ref q_p0_earlier, .ref q_p0_closed, .ref q_p0_simple, .ref q_p0_coefficients])), (q_p1, .inr (0, [.int v_p1_size, .int v_p1_way, .ref q_p1_led, .ref q_p1_turnedLed])), (q_p0_covered, .inl (cI, 8, .inl f_p0_covered)), (q_p1_led, .inl (cI, 8, .inl f_p1_led))] → va_S A s.heap H locs → lv_has ls 5 [(0, .ref q_p0), (1, .ref q_p1), (2, .int l2)] → W p l e { frames := 2, cells := 0, slots := 0, locals := 43 } s m args below meth c H locs 0 0 Q (F0 m 15 ls []) := by
    intro v_p0_number n15
    induction n15 with
    | zero =>
      intro l2 v_p0_falling f_p0_covered H locs ls h
      exact False.elim h
    | succ n15 ih15 =>
      intro l2 v_p0_falling f_p0_covered H locs ls h hP hD hS hl
      have h : M_X5_learn_l15 v_p1_way v_p1_size f_p1_led P v_p0_number (LP3 (M_X5_learn_l15 v_p1_way v_p1_size f_p1_led P v_p0_number) n15) l2 v_p0_falling f_p0_covered := h
      refine lv_iload_n hx hb dX5_learn_15 rfl (lv_at hl 2 rfl) ?_
      refine lv_aload_n hx hb dX5_learn_16 rfl (lv_at hl 0 rfl) ?_
      refine va_get (ci := 3) (C := RX5) (T := TX5) (N := 8) (v := .int v_p0_number) hx hb hts hinX5 hown hK hP 0 rfl rfl 0 (by decide) hw0 (fun _ h9 => h9) rfl dX5_learn_17 ?_
      refine lv_icmp_ge (tgt := 130) hx hb dX5_learn_20 (by decide) (fun c2 => ?_) (fun c2 => ?_)
      · have h := And.left h c2
        exact z_vret hQ hx hb hr hlocks hK (v_p0_number, v_p0_falling, f_p0_covered) h hP hD hS dX5_learn_130
      · have h := And.right h c2
        refine lv_aload_n hx hb dX5_learn_23 rfl (lv_at hl 1 rfl) ?_
        refine va_get (ci := 0) (C := RX0) (T := TX0) (N := 4) (v := .ref q_p1_led) hx hb hts hinX0 hown hK hP 1 rfl rfl 2 (by decide) hw2 (fun _ h9 => h9) rfl dX5_learn_24 ?_
        refine lv_iload_n hx hb dX5_learn_27 rfl (lv_at hl 2 rfl) ?_
        obtain ⟨hi3, h⟩ := h
        refine va_iald hx hb hK hP 3 0 rfl rfl hi3 dX5_learn_28 ?_
        refine lv_istore_n (lv' := [(3, .int (f_p1_led l2.toNatClampNeg)), (0, .ref q_p0), (1, .ref q_p1), (2, .int l2)]) hx hb dX5_learn_29 rfl hl (by decide) rfl (fun ls hl => ?_)
        refine lv_aload_n hx hb dX5_learn_30 rfl (lv_at hl 2 rfl) ?_
        refine va_get (ci := 0) (C := RX0) (T := TX0) (N := 4) (v := .ref q_p1_led) hx hb hts hinX0 hown hK hP 1 rfl rfl 2 (by decide) hw2 (fun _ h9 => h9) rfl dX5_learn_31 ?_
        refine lv_iload_n hx hb dX5_learn_34 rfl (lv_at hl 3 rfl) ?_
        refine lv_iconst (v := (1 : Int32)) hx hb dX5_learn_35 (by decide) ?_
        refine lv_iadd hx hb dX5_learn_36 ?_
        refine lv_aload_n hx hb dX5_learn_37 rfl (lv_at hl 2 rfl) ?_
        refine va_get (ci := 0) (C := RX0) (T := TX0) (N := 4) (v := .int v_p1_size) hx hb hts hinX0 hown hK hP 1 rfl rfl 0 (by decide) hw3 (fun _ h9 => h9) rfl dX5_learn_38 ?_
        have k51 : ∀ (l2 : Int32) (l3 : Int32) (s1 : Int32) (v_p0_falling : Int32) (f_p0_covered : (Nat → Int32)) (H : Heap) (locs : List Loc) (ls : Array Slot), M_X5_learn_b51 v_p1_way v_p1_size f_p1_led (LP3 (M_X5_learn_l15 v_p1_way v_p1_size f_p1_led P v_p0_number) n15) P l2 l3 s1 v_p0_number v_p0_falling f_p0_covered → va_P D vwCl [(q_p0, .inr (3, [.int v_p0_number, .int v_p0_falling, .ref q_p0_covered, .ref q_p0_counts, .ref q_p0_earlier, .ref q_p0_closed, .ref q_p0_simple, .ref q_p0_coefficients])), (q_p1, .inr (0, [.int v_p1_size, .int v_p1_way, .ref q_p1_led, .ref q_p1_turnedLed])), (q_p0_covered, .inl (cI, 8, .inl f_p0_covered)), (q_p1_led, .inl (cI, 8, .inl f_p1_led))] H → va_D A [(q_p0, .inr (3, [.int v_p0_number, .int v_p0_falling, .ref q_p0_covered, .ref q_p0_counts, .ref q_p0_earlier, .ref q_p0_closed, .ref q_p0_simple, .ref q_p0_coefficients])), (q_p1, .inr (0, [.int v_p1_size, .int v_p1_way, .ref q_p1_led, .ref q_p1_turnedLed])), (q_p0_covered, .inl (cI, 8, .inl f_p0_covered)), (q_p1_led, .inl (cI, 8, .inl f_p1_led))] → va_S A s.heap H locs → lv_has ls 5 [(0, .ref q_p0), (1, .ref q_p1), (2, .int l2), (3, .int l3)] → W p l e { frames := 2, cells := 0, slots := 0, locals := 43 } s m args below meth c H locs 0 0 Q (F0 m 51 ls [.int s1, .ref q_p1_led]) := by
          intro l2 l3 s1 v_p0_falling f_p0_covered H locs ls h hP hD hS hl
          obtain ⟨hi4, h⟩ := h
          refine va_iald hx hb hK hP 3 0 rfl rfl hi4 dX5_learn_51 ?_
          refine lv_istore (lv' := [(4, .int (f_p1_led s1.toNatClampNeg)), (0, .ref q_p0), (1, .ref q_p1), (2, .int l2), (3, .int l3)]) hx hb dX5_learn_52 hl (by decide) rfl (fun ls hl => ?_)
          refine lv_aload_n hx hb dX5_learn_54 rfl (lv_at hl 2 rfl) ?_
          refine va_get (ci := 0) (C := RX0) (T := TX0) (N := 4) (v := .int v_p1_way) hx hb hts hinX0 hown hK hP 1 rfl rfl 1 (by decide) hw4 (fun _ h9 => h9) rfl dX5_learn_55 ?_
          refine lv_iconst (v := (1 : Int32)) hx hb dX5_learn_58 (by decide) ?_
          refine lv_icmp_ne (tgt := 81) hx hb dX5_learn_59 (by decide) (fun c5 => ?_) (fun c5 => ?_)
          · have h := And.right h c5
            refine lv_aload_n hx hb dX5_learn_81 rfl (lv_at hl 1 rfl) ?_
            refine va_get (ci := 3) (C := RX5) (T := TX5) (N := 8) (v := .ref q_p0_covered) hx hb hts hinX5 hown hK hP 0 rfl rfl 2 (by decide) hw5 (fun _ h9 => h9) rfl dX5_learn_82 ?_
            refine lv_iload_n hx hb dX5_learn_85 rfl (lv_at hl 3 rfl) ?_
            refine lv_iload_n hx hb dX5_learn_86 rfl (lv_at hl 4 rfl) ?_
            refine lv_iload hx hb dX5_learn_87 (lv_at hl 0 rfl) ?_
            refine va_mmin hx hb (hml.trans hl.1.symm) hown hw6 hw7 hw8 hw9 (Nat.le_of_ble_eq_true rfl) (Nat.le_of_ble_eq_true rfl) (Nat.le_refl _) (Nat.le_refl _) dX5_learn_89 ?_
            refine lv_iload_n hx hb dX5_learn_92 rfl (lv_at hl 4 rfl) ?_
            refine lv_iload hx hb dX5_learn_93 (lv_at hl 0 rfl) ?_
            refine va_mmax hx hb (hml.trans hl.1.symm) hown hw10 hw11 hw8 hw12 (Nat.le_of_ble_eq_true rfl) (Nat.le_of_ble_eq_true rfl) (Nat.le_refl _) (Nat.le_refl _) dX5_learn_95 ?_
            refine z_cSi (As := [.int (if (f_p1_led s1.toNatClampNeg) < l3 then (f_p1_led s1.toNatClampNeg) else l3), .int (if l3 < (f_p1_led s1.toNatClampNeg) then (f_p1_led s1.toNatClampNeg) else l3)]) (rest := [.int l2, .ref q_p0_covered]) (wr := [(q_p0, .inr (3, [.int v_p0_number, .int v_p0_falling, .ref q_p0_covered, .ref q_p0_counts, .ref q_p0_earlier, .ref q_p0_closed, .ref q_p0_simple, .ref q_p0_coefficients])), (q_p1, .inr (0, [.int v_p1_size, .int v_p1_way, .ref q_p1_led, .ref q_p1_turnedLed])), (q_p0_covered, .inl (cI, 8, .inl f_p0_covered)), (q_p1_led, .inl (cI, 8, .inl f_p1_led))]) (wn := fun u => [(q_p0, .inr (3, [.int v_p0_number, .int v_p0_falling, .ref q_p0_covered, .ref q_p0_counts, .ref q_p0_earlier, .ref q_p0_closed, .ref q_p0_simple, .ref q_p0_coefficients])), (q_p1, .inr (0, [.int v_p1_size, .int v_p1_way, .ref q_p1_led, .ref q_p1_turnedLed])), (q_p0_covered, .inl (cI, 8, .inl f_p0_covered)), (q_p1_led, .inl (cI, 8, .inl f_p1_led))]) (c_X5_between l D cI cJ cB tU tM tS  H.size (if (f_p1_led s1.toNatClampNeg) < l3 then (f_p1_led s1.toNatClampNeg) else l3) (if l3 < (f_p1_led s1.toNatClampNeg) then (f_p1_led s1.toNatClampNeg) else l3) _ h) ⟨hx, hb, hml, hown, hts⟩ (va_cwS 2 hts gX5_learn_X5_between rfl rfl rfl hd_X5_between.2 ⟨Nat.le_of_ble_eq_true rfl, Nat.le_of_ble_eq_true rfl⟩) hX hK hP hD hS hA [] [0, 1, 2, 3] [0, 1, 2, 3] rfl rfl rfl (by decide) (fun _ => rfl) rfl hl.1 rfl (Nat.le_of_ble_eq_true rfl) ⟨Nat.le_refl _, Nat.le_refl _⟩ dX5_learn_98 (fun r6 u6 H locs h hP hD hS => ?_)
            obtain ⟨hi7, h⟩ := h
            refine z_iast (wn := [(q_p0, .inr (3, [.int v_p0_number, .int v_p0_falling, .ref q_p0_covered, .ref q_p0_counts, .ref q_p0_earlier, .ref q_p0_closed, .ref q_p0_simple, .ref q_p0_coefficients])), (q_p1, .inr (0, [.int v_p1_size, .int v_p1_way, .ref q_p1_led, .ref q_p1_turnedLed])), (q_p0_covered, .inl (cI, 8, .inl (upd f_p0_covered l2.toNatClampNeg r6))), (q_p1_led, .inl (cI, 8, .inl f_p1_led))]) hx hb hK hP hD hS 2 rfl hi7 dX5_learn_101 rfl (fun H locs hP hD hS => ?_)
            refine lv_aload_n hx hb dX5_learn_102 rfl (lv_at hl 1 rfl) ?_
            refine lv_dup hx hb dX5_learn_103 rfl ?_
            refine va_get (ci := 3) (C := RX5) (T := TX5) (N := 8) (v := .int v_p0_falling) hx hb hts hinX5 hown hK hP 0 rfl rfl 1 (by decide) hw1 (fun _ h9 => h9) rfl dX5_learn_104 ?_
            refine lv_iload_n hx hb dX5_learn_107 rfl (lv_at hl 4 rfl) ?_
            refine lv_iload hx hb dX5_learn_108 (lv_at hl 0 rfl) ?_
            refine lv_icmp_le (tgt := 119) hx hb dX5_learn_110 (by decide) (fun c8 => ?_) (fun c8 => ?_)
            · have h := And.left h c8
              refine lv_iconst (v := (0 : Int32)) hx hb dX5_learn_119 (by decide) ?_
              refine lv_ior hx hb dX5_learn_120 ?_
              refine z_put (ci := 3) (C := RX5) (T := TX5) (N := 8) (ty := .int) (wn := [(q_p0, .inr (3, [.int v_p0_number, .int (v_p0_falling ||| (0 : Int32)), .ref q_p0_covered, .ref q_p0_counts, .ref q_p0_earlier, .ref q_p0_closed, .ref q_p0_simple, .ref q_p0_coefficients])), (q_p1, .inr (0, [.int v_p1_size, .int v_p1_way, .ref q_p1_led, .ref q_p1_turnedLed])), (q_p0_covered, .inl (cI, 8, .inl (upd f_p0_covered l2.toNatClampNeg r6))), (q_p1_led, .inl (cI, 8, .inl f_p1_led))]) hx hb hts hinX5 tyX5 tyX5_ok nmX5 hown hK hP hD hS 0 rfl rfl 1 (by decide) hw1 (fun _ h9 => h9) rfl (by decide +kernel) rfl rfl (Nat.le_of_ble_eq_true rfl) dX5_learn_121 rfl (fun H locs hP hD hS => ?_)
              refine lv_iinc (v := (l2 + 1)) (lv' := [(2, .int (l2 + 1)), (4, .int (f_p1_led s1.toNatClampNeg)), (0, .ref q_p0), (1, .ref q_p1), (3, .int l3)]) hx hb dX5_learn_124 hl (k := 3) rfl rfl (by decide) rfl (fun ls hl => ?_)
              refine lv_goto (tgt := 15) hx hb dX5_learn_127 (by decide) ?_
              exact ih15 (l2 + 1) (v_p0_falling ||| (0 : Int32)) (upd f_p0_covered l2.toNatClampNeg r6) _ _ _ h hP hD hS (lv_sub hl [2, 3, 0] rfl)
            · have h := And.right h c8
              refine lv_iconst (v := (1 : Int32)) hx hb dX5_learn_113 (by decide) ?_
              refine lv_iload_n hx hb dX5_learn_114 rfl (lv_at hl 3 rfl) ?_
              refine lv_ishl hx hb dX5_learn_115 ?_
              refine lv_goto (tgt := 120) hx hb dX5_learn_116 (by decide) ?_
              refine lv_ior hx hb dX5_learn_120 ?_
              refine z_put (ci := 3) (C := RX5) (T := TX5) (N := 8) (ty := .int) (wn := [(q_p0, .inr (3, [.int v_p0_number, .int (v_p0_falling ||| ((1 : Int32) <<< (l2 &&& 31))), .ref q_p0_covered, .ref q_p0_counts, .ref q_p0_earlier, .ref q_p0_closed, .ref q_p0_simple, .ref q_p0_coefficients])), (q_p1, .inr (0, [.int v_p1_size, .int v_p1_way, .ref q_p1_led, .ref q_p1_turnedLed])), (q_p0_covered, .inl (cI, 8, .inl (upd f_p0_covered l2.toNatClampNeg r6))), (q_p1_led, .inl (cI, 8, .inl f_p1_led))]) hx hb hts hinX5 tyX5 tyX5_ok nmX5 hown hK hP hD hS 0 rfl rfl 1 (by decide) hw1 (fun _ h9 => h9) rfl (by decide +kernel) rfl rfl (Nat.le_of_ble_eq_true rfl) dX5_learn_121 rfl (fun H locs hP hD hS => ?_)
              refine lv_iinc (v := (l2 + 1)) (lv' := [(2, .int (l2 + 1)), (4, .int (f_p1_led s1.toNatClampNeg)), (0, .ref q_p0), (1, .ref q_p1), (3, .int l3)]) hx hb dX5_learn_124 hl (k := 3) rfl rfl (by decide) rfl (fun ls hl => ?_)
              refine lv_goto (tgt := 15) hx hb dX5_learn_127 (by decide) ?_
              exact ih15 (l2 + 1) (v_p0_falling ||| ((1 : Int32) <<< (l2 &&& 31))) (upd f_p0_covered l2.toNatClampNeg r6) _ _ _ h hP hD hS (lv_sub hl [2, 3, 0] rfl)
          · have h := And.left h c5
            refine lv_aload_n hx hb dX5_learn_62 rfl (lv_at hl 1 rfl) ?_
            refine va_get (ci := 3) (C := RX5) (T := TX5) (N := 8) (v := .ref q_p0_covered) hx hb hts hinX5 hown hK hP 0 rfl rfl 2 (by decide) hw5 (fun _ h9 => h9) rfl dX5_learn_63 ?_
            refine lv_iload_n hx hb dX5_learn_66 rfl (lv_at hl 3 rfl) ?_
            refine lv_iload_n hx hb dX5_learn_67 rfl (lv_at hl 4 rfl) ?_
            refine lv_iload hx hb dX5_learn_68 (lv_at hl 0 rfl) ?_
            refine lv_aload_n hx hb dX5_learn_70 rfl (lv_at hl 2 rfl) ?_
            refine va_get (ci := 0) (C := RX0) (T := TX0) (N := 4) (v := .int v_p1_size) hx hb hts hinX0 hown hK hP 1 rfl rfl 0 (by decide) hw3 (fun _ h9 => h9) rfl dX5_learn_71 ?_
            refine z_cSi (As := [.int l3, .int (f_p1_led s1.toNatClampNeg), .int v_p1_size]) (rest := [.int l2, .ref q_p0_covered]) (wr := [(q_p0, .inr (3, [.int v_p0_number, .int v_p0_falling, .ref q_p0_covered, .ref q_p0_counts, .ref q_p0_earlier, .ref q_p0_closed, .ref q_p0_simple, .ref q_p0_coefficients])), (q_p1, .inr (0, [.int v_p1_size, .int v_p1_way, .ref q_p1_led, .ref q_p1_turnedLed])), (q_p0_covered, .inl (cI, 8, .inl f_p0_covered)), (q_p1_led, .inl (cI, 8, .inl f_p1_led))]) (wn := fun u => [(q_p0, .inr (3, [.int v_p0_number, .int v_p0_falling, .ref q_p0_covered, .ref q_p0_counts, .ref q_p0_earlier, .ref q_p0_closed, .ref q_p0_simple, .ref q_p0_coefficients])), (q_p1, .inr (0, [.int v_p1_size, .int v_p1_way, .ref q_p1_led, .ref q_p1_turnedLed])), (q_p0_covered, .inl (cI, 8, .inl f_p0_covered)), (q_p1_led, .inl (cI, 8, .inl f_p1_led))]) (c_X5_forward l D cI cJ cB tU tM tS  H.size l3 (f_p1_led s1.toNatClampNeg) v_p1_size _ h) ⟨hx, hb, hml, hown, hts⟩ (va_cwS 3 hts gX5_learn_X5_forward rfl rfl rfl hd_X5_forward.2 ⟨Nat.le_of_ble_eq_true rfl, Nat.le_of_ble_eq_true rfl⟩) hX hK hP hD hS hA [] [0, 1, 2, 3] [0, 1, 2, 3] rfl rfl rfl (by decide) (fun _ => rfl) rfl hl.1 rfl (Nat.le_of_ble_eq_true rfl) ⟨Nat.le_refl _, Nat.le_refl _⟩ dX5_learn_74 (fun r9 u9 H locs h hP hD hS => ?_)
            obtain ⟨hi10, h⟩ := h
            refine z_iast (wn := [(q_p0, .inr (3, [.int v_p0_number, .int v_p0_falling, .ref q_p0_covered, .ref q_p0_counts, .ref q_p0_earlier, .ref q_p0_closed, .ref q_p0_simple, .ref q_p0_coefficients])), (q_p1, .inr (0, [.int v_p1_size, .int v_p1_way, .ref q_p1_led, .ref q_p1_turnedLed])), (q_p0_covered, .inl (cI, 8, .inl (upd f_p0_covered l2.toNatClampNeg r9))), (q_p1_led, .inl (cI, 8, .inl f_p1_led))]) hx hb hK hP hD hS 2 rfl hi10 dX5_learn_77 rfl (fun H locs hP hD hS => ?_)
            refine lv_goto (tgt := 124) hx hb dX5_learn_78 (by decide) ?_
            refine lv_iinc (v := (l2 + 1)) (lv' := [(2, .int (l2 + 1)), (4, .int (f_p1_led s1.toNatClampNeg)), (0, .ref q_p0), (1, .ref q_p1), (3, .int l3)]) hx hb dX5_learn_124 hl (k := 3) rfl rfl (by decide) rfl (fun ls hl => ?_)
            refine lv_goto (tgt := 15) hx hb dX5_learn_127 (by decide) ?_
            exact ih15 (l2 + 1) v_p0_falling (upd f_p0_covered l2.toNatClampNeg r9) _ _ _ h hP hD hS (lv_sub hl [2, 3, 0] rfl)
        refine lv_icmp_ge (tgt := 50) hx hb dX5_learn_41 (by decide) (fun c11 => ?_) (fun c11 => ?_)
        · have h := And.left h c11
          refine lv_iconst (v := (0 : Int32)) hx hb dX5_learn_50 (by decide) ?_
          exact k51 l2 (f_p1_led l2.toNatClampNeg) (0 : Int32) v_p0_falling f_p0_covered _ _ _ h hP hD hS (lv_sub hl [1, 2, 3, 0] rfl)
        · have h := And.right h c11
          refine lv_iload_n hx hb dX5_learn_44 rfl (lv_at hl 3 rfl) ?_
          refine lv_iconst (v := (1 : Int32)) hx hb dX5_learn_45 (by decide) ?_
          refine lv_iadd hx hb dX5_learn_46 ?_
          refine lv_goto (tgt := 51) hx hb dX5_learn_47 (by decide) ?_
          exact k51 l2 (f_p1_led l2.toNatClampNeg) (l2 + (1 : Int32)) v_p0_falling f_p0_covered _ _ _ h hP hD hS (lv_sub hl [1, 2, 3, 0] rfl)
  obtain ⟨n15, h⟩ := h
  exact k15 r1 n15 (0 : Int32) (0 : Int32) f_p0_covered _ _ _ h hP hD hS (lv_sub hl [1, 2, 0] rfl)
theorem hd_X4_startWith : yX4_startWith.cls = RX4 ∧ yX4_startWith.cls ≠ "java/lang/invoke/MethodHandle" ∧ yX4_startWith.cls ≠ "java/lang/invoke/VarHandle" ∧ (parseMethodDescriptor yX4_startWith.desc).map (fun d => d.parameters.length) = some 1 := by decide +kernel
set_option maxHeartbeats 4000000 in
set_option maxRecDepth 100000 in
theorem c_X4_startWith (l : Launch) (D : va_G) (cI cJ cB : ClassId) (tU tM tS : Nat) (q_p0 q_p1 q_p0_pieces q_p0_amount q_p0_found q_p0_loop q_p0_lessRows q_p0_leads q_p1_led q_p1_turnedLed q_p0_pieces_covered q_p0_pieces_counts q_p0_pieces_earlier q_p0_pieces_closed q_p0_pieces_simple q_p0_pieces_coefficients : Nat) (sz : Nat) (v_p1_size : Int32) (v_p0_soughtSize : Int32) (f_p1_led : (Nat → Int32)) (v_p0_soughtMap : Int32) (v_p1_way : Int32) (v_p0_pieces_number : Int32) (v_p0_pieces_falling : Int32) (f_p0_pieces_covered : (Nat → Int32)) (f_p0_amount : (Nat → Int32))  (P : Int32 → Int32 → Int32 → Int32 → (Nat → Int32) → (Nat → Int32) → Prop) (h : M_X4_startWith v_p1_size v_p0_soughtSize f_p1_led v_p0_soughtMap v_p1_way v_p0_pieces_number v_p0_pieces_falling f_p0_pieces_covered f_p0_amount P) : Met l yX4_startWith wsX4_startWith ({ frames := 3, cells := 0, slots := 0, locals := 67 }) (va_Pc [.ref q_p0, .ref q_p1] (zPre D cI cJ cB tU tM tS [(q_p0, .inr (2, [.int v_p0_soughtSize, .int v_p0_soughtMap, .ref q_p0_pieces, .ref q_p0_amount, .ref q_p0_found, .ref q_p0_loop, .ref q_p0_lessRows, .ref q_p0_leads])), (q_p1, .inr (0, [.int v_p1_size, .int v_p1_way, .ref q_p1_led, .ref q_p1_turnedLed])), (q_p0_pieces, .inr (3, [.int v_p0_pieces_number, .int v_p0_pieces_falling, .ref q_p0_pieces_covered, .ref q_p0_pieces_counts, .ref q_p0_pieces_earlier, .ref q_p0_pieces_closed, .ref q_p0_pieces_simple, .ref q_p0_pieces_coefficients])), (q_p0_amount, .inl (cI, 7, .inl f_p0_amount)), (q_p1_led, .inl (cI, 8, .inl f_p1_led)), (q_p0_pieces_covered, .inl (cI, 8, .inl f_p0_pieces_covered))] sz)) (va_Qv (fun u : Int32 × Int32 × Int32 × Int32 × (Nat → Int32) × (Nat → Int32) => P u.1 u.2.1 u.2.2.1 u.2.2.2.1 u.2.2.2.2.1 u.2.2.2.2.2) (fun u t => zPost D cI cJ cB (va_A [(q_p0, .inr (2, [.int v_p0_soughtSize, .int v_p0_soughtMap, .ref q_p0_pieces, .ref q_p0_amount, .ref q_p0_found, .ref q_p0_loop, .ref q_p0_lessRows, .ref q_p0_leads])), (q_p1, .inr (0, [.int v_p1_size, .int v_p1_way, .ref q_p1_led, .ref q_p1_turnedLed])), (q_p0_pieces, .inr (3, [.int v_p0_pieces_number, .int v_p0_pieces_falling, .ref q_p0_pieces_covered, .ref q_p0_pieces_counts, .ref q_p0_pieces_earlier, .ref q_p0_pieces_closed, .ref q_p0_pieces_simple, .ref q_p0_pieces_coefficients])), (q_p0_amount, .inl (cI, 7, .inl f_p0_amount)), (q_p1_led, .inl (cI, 8, .inl f_p1_led)), (q_p0_pieces_covered, .inl (cI, 8, .inl f_p0_pieces_covered))] sz) [(q_p0, .inr (2, [.int u.1, .int u.2.1, .ref q_p0_pieces, .ref q_p0_amount, .ref q_p0_found, .ref q_p0_loop, .ref q_p0_lessRows, .ref q_p0_leads])), (q_p1, .inr (0, [.int v_p1_size, .int v_p1_way, .ref q_p1_led, .ref q_p1_turnedLed])), (q_p0_pieces, .inr (3, [.int u.2.2.1, .int u.2.2.2.1, .ref q_p0_pieces_covered, .ref q_p0_pieces_counts, .ref q_p0_pieces_earlier, .ref q_p0_pieces_closed, .ref q_p0_pieces_simple, .ref q_p0_pieces_coefficients])), (q_p0_amount, .inl (cI, 7, .inl u.2.2.2.2.2)), (q_p1_led, .inl (cI, 8, .inl f_p1_led)), (q_p0_pieces_covered, .inl (cI, 8, .inl u.2.2.2.2.1))] t) (va_A [(q_p0, .inr (2, [.int v_p0_soughtSize, .int v_p0_soughtMap, .ref q_p0_pieces, .ref q_p0_amount, .ref q_p0_found, .ref q_p0_loop, .ref q_p0_lessRows, .ref q_p0_leads])), (q_p1, .inr (0, [.int v_p1_size, .int v_p1_way, .ref q_p1_led, .ref q_p1_turnedLed])), (q_p0_pieces, .inr (3, [.int v_p0_pieces_number, .int v_p0_pieces_falling, .ref q_p0_pieces_covered, .ref q_p0_pieces_counts, .ref q_p0_pieces_earlier, .ref q_p0_pieces_closed, .ref q_p0_pieces_simple, .ref q_p0_pieces_coefficients])), (q_p0_amount, .inl (cI, 7, .inl f_p0_amount)), (q_p1_led, .inl (cI, 8, .inl f_p1_led)), (q_p0_pieces_covered, .inl (cI, 8, .inl f_p0_pieces_covered))] sz)) 0 0 (va_A [(q_p0, .inr (2, [.int v_p0_soughtSize, .int v_p0_soughtMap, .ref q_p0_pieces, .ref q_p0_amount, .ref q_p0_found, .ref q_p0_loop, .ref q_p0_lessRows, .ref q_p0_leads])), (q_p1, .inr (0, [.int v_p1_size, .int v_p1_way, .ref q_p1_led, .ref q_p1_turnedLed])), (q_p0_pieces, .inr (3, [.int v_p0_pieces_number, .int v_p0_pieces_falling, .ref q_p0_pieces_covered, .ref q_p0_pieces_counts, .ref q_p0_pieces_earlier, .ref q_p0_pieces_closed, .ref q_p0_pieces_simple, .ref q_p0_pieces_coefficients])), (q_p0_amount, .inl (cI, 7, .inl f_p0_amount)), (q_p1_led, .inl (cI, 8, .inl f_p1_led)), (q_p0_pieces_covered, .inl (cI, 8, .inl f_p0_pieces_covered))] sz) := by
  refine z_met (cc := cX4_startWith) (maxL := 3) (ret := none) (Qc := fun A => va_Qv (fun u : Int32 × Int32 × Int32 × Int32 × (Nat → Int32) × (Nat → Int32) => P u.1 u.2.1 u.2.2.1 u.2.2.2.1 u.2.2.2.2.1 u.2.2.2.2.2) (fun u t => zPost D cI cJ cB A [(q_p0, .inr (2, [.int u.1, .int u.2.1, .ref q_p0_pieces, .ref q_p0_amount, .ref q_p0_found, .ref q_p0_loop, .ref q_p0_lessRows, .ref q_p0_leads])), (q_p1, .inr (0, [.int v_p1_size, .int v_p1_way, .ref q_p1_led, .ref q_p1_turnedLed])), (q_p0_pieces, .inr (3, [.int u.2.2.1, .int u.2.2.2.1, .ref q_p0_pieces_covered, .ref q_p0_pieces_counts, .ref q_p0_pieces_earlier, .ref q_p0_pieces_closed, .ref q_p0_pieces_simple, .ref q_p0_pieces_coefficients])), (q_p0_amount, .inl (cI, 7, .inl u.2.2.2.2.2)), (q_p1_led, .inl (cI, 8, .inl f_p1_led)), (q_p0_pieces_covered, .inl (cI, 8, .inl u.2.2.2.2.1))] t) A) (by decide) rfl [.ref q_p0, .ref q_p1] (Nat.le_of_ble_eq_true rfl) ?_
  intro p e s m args below meth c A hx hb hr hts hown hml hlocks hA hX hK H locs hP hD hS ls hl Q hQ
  have hown : s.vm.findClass RX4 = some m.cls := hown
  have hl : lv_has ls 3 [(0, .ref q_p0), (1, .ref q_p1)] := hl
  have hw0 : (Cond.fieldLink RX4 46 "ForcedRings$Chart" "size" "I").before args s = true := hts _ (List.mem_of_getElem? (i := 1) rfl)
  have hw1 : (Cond.fieldLink RX4 42 "ForcedRings$Patterns" "soughtSize" "I").before args s = true := hts _ (List.mem_of_getElem? (i := 2) rfl)
  have hw2 : (Cond.fieldLink RX4 51 "ForcedRings$Patterns" "soughtMap" "I").before args s = true := hts _ (List.mem_of_getElem? (i := 3) rfl)
  have hw3 : (Cond.fieldLink RX4 10 "ForcedRings$Patterns" "pieces" "LForcedRings$Pieces;").before args s = true := hts _ (List.mem_of_getElem? (i := 4) rfl)
  have hw4 : (Cond.fieldLink RX4 16 "ForcedRings$Patterns" "amount" "[I").before args s = true := hts _ (List.mem_of_getElem? (i := 5) rfl)
  have hinX0 : ∀ w ∈ wsX00, w ∈ wsX4_startWith := fun _ h => List.mem_cons_of_mem _ (List.mem_append_left _ (List.mem_append_left _ (List.mem_append_right _ h)))
  have hinX4 : ∀ w ∈ wsX40, w ∈ wsX4_startWith := fun _ h => List.mem_cons_of_mem _ (List.mem_append_left _ (List.mem_append_right _ h))
  refine lv_aload_n hx hb dX4_startWith_0 rfl (lv_at hl 0 rfl) ?_
  refine lv_aload_n hx hb dX4_startWith_1 rfl (lv_at hl 1 rfl) ?_
  refine va_get (ci := 0) (C := RX0) (T := TX0) (N := 4) (v := .int v_p1_size) hx hb hts hinX0 hown hK hP 1 rfl rfl 0 (by decide) hw0 (fun _ h9 => h9) rfl dX4_startWith_2 ?_
  refine z_put (ci := 2) (C := RX4) (T := TX4) (N := 8) (ty := .int) (wn := [(q_p0, .inr (2, [.int v_p1_size, .int v_p0_soughtMap, .ref q_p0_pieces, .ref q_p0_amount, .ref q_p0_found, .ref q_p0_loop, .ref q_p0_lessRows, .ref q_p0_leads])), (q_p1, .inr (0, [.int v_p1_size, .int v_p1_way, .ref q_p1_led, .ref q_p1_turnedLed])), (q_p0_pieces, .inr (3, [.int v_p0_pieces_number, .int v_p0_pieces_falling, .ref q_p0_pieces_covered, .ref q_p0_pieces_counts, .ref q_p0_pieces_earlier, .ref q_p0_pieces_closed, .ref q_p0_pieces_simple, .ref q_p0_pieces_coefficients])), (q_p0_amount, .inl (cI, 7, .inl f_p0_amount)), (q_p1_led, .inl (cI, 8, .inl f_p1_led)), (q_p0_pieces_covered, .inl (cI, 8, .inl f_p0_pieces_covered))]) hx hb hts hinX4 tyX4 tyX4_ok nmX4 hown hK hP hD hS 0 rfl rfl 0 (by decide) hw1 (fun _ h9 => h9) rfl (by decide +kernel) rfl rfl (Nat.le_of_ble_eq_true rfl) dX4_startWith_5 rfl (fun H locs hP hD hS => ?_)
  refine lv_aload_n hx hb dX4_startWith_8 rfl (lv_at hl 0 rfl) ?_
  refine lv_aload_n hx hb dX4_startWith_9 rfl (lv_at hl 1 rfl) ?_
  refine z_cVi (As := []) (rest := [.ref q_p0]) (wr := [(q_p0, .inr (2, [.int v_p1_size, .int v_p0_soughtMap, .ref q_p0_pieces, .ref q_p0_amount, .ref q_p0_found, .ref q_p0_loop, .ref q_p0_lessRows, .ref q_p0_leads])), (q_p0_pieces, .inr (3, [.int v_p0_pieces_number, .int v_p0_pieces_falling, .ref q_p0_pieces_covered, .ref q_p0_pieces_counts, .ref q_p0_pieces_earlier, .ref q_p0_pieces_closed, .ref q_p0_pieces_simple, .ref q_p0_pieces_coefficients])), (q_p0_amount, .inl (cI, 7, .inl f_p0_amount)), (q_p0_pieces_covered, .inl (cI, 8, .inl f_p0_pieces_covered))]) (wn := fun u => [(q_p0, .inr (2, [.int v_p1_size, .int v_p0_soughtMap, .ref q_p0_pieces, .ref q_p0_amount, .ref q_p0_found, .ref q_p0_loop, .ref q_p0_lessRows, .ref q_p0_leads])), (q_p1, .inr (0, [.int v_p1_size, .int v_p1_way, .ref q_p1_led, .ref q_p1_turnedLed])), (q_p0_pieces, .inr (3, [.int v_p0_pieces_number, .int v_p0_pieces_falling, .ref q_p0_pieces_covered, .ref q_p0_pieces_counts, .ref q_p0_pieces_earlier, .ref q_p0_pieces_closed, .ref q_p0_pieces_simple, .ref q_p0_pieces_coefficients])), (q_p0_amount, .inl (cI, 7, .inl f_p0_amount)), (q_p1_led, .inl (cI, 8, .inl f_p1_led)), (q_p0_pieces_covered, .inl (cI, 8, .inl f_p0_pieces_covered))]) (c_X0_packed l D cI cJ cB tU tM tS q_p1 q_p1_led q_p1_turnedLed H.size f_p1_led v_p1_size v_p1_way _ h) ⟨hx, hb, hml, hown, hts⟩ (cwV 0 hts gX4_startWith_X0_packed rfl rfl rfl hd_X0_packed ⟨Nat.le_of_ble_eq_true rfl, Nat.le_of_ble_eq_true rfl⟩) hX hK hP hD hS hA [1, 4] [0, 2, 3, 5] [0, 4, 1, 2, 5, 3] rfl rfl rfl (by decide) (fun _ => rfl) (q0 := 1) (ci := 0) rfl rfl rfl hl.1 rfl (Nat.le_of_ble_eq_true rfl) ⟨Nat.le_refl _, Nat.le_refl _⟩ dX4_startWith_10 (fun r1 u1 H locs h hP hD hS => ?_)
  refine z_put (ci := 2) (C := RX4) (T := TX4) (N := 8) (ty := .int) (wn := [(q_p0, .inr (2, [.int v_p1_size, .int r1, .ref q_p0_pieces, .ref q_p0_amount, .ref q_p0_found, .ref q_p0_loop, .ref q_p0_lessRows, .ref q_p0_leads])), (q_p1, .inr (0, [.int v_p1_size, .int v_p1_way, .ref q_p1_led, .ref q_p1_turnedLed])), (q_p0_pieces, .inr (3, [.int v_p0_pieces_number, .int v_p0_pieces_falling, .ref q_p0_pieces_covered, .ref q_p0_pieces_counts, .ref q_p0_pieces_earlier, .ref q_p0_pieces_closed, .ref q_p0_pieces_simple, .ref q_p0_pieces_coefficients])), (q_p0_amount, .inl (cI, 7, .inl f_p0_amount)), (q_p1_led, .inl (cI, 8, .inl f_p1_led)), (q_p0_pieces_covered, .inl (cI, 8, .inl f_p0_pieces_covered))]) hx hb hts hinX4 tyX4 tyX4_ok nmX4 hown hK hP hD hS 0 rfl rfl 1 (by decide) hw2 (fun _ h9 => h9) rfl (by decide +kernel) rfl rfl (Nat.le_of_ble_eq_true rfl) dX4_startWith_13 rfl (fun H locs hP hD hS => ?_)
  refine lv_aload_n hx hb dX4_startWith_16 rfl (lv_at hl 0 rfl) ?_
  refine va_get (ci := 2) (C := RX4) (T := TX4) (N := 8) (v := .ref q_p0_pieces) hx hb hts hinX4 hown hK hP 0 rfl rfl 2 (by decide) hw3 (fun _ h9 => h9) rfl dX4_startWith_17 ?_
  refine lv_aload_n hx hb dX4_startWith_20 rfl (lv_at hl 1 rfl) ?_
  refine z_cVv (As := [.ref q_p1]) (rest := []) (wr := [(q_p0, .inr (2, [.int v_p1_size, .int r1, .ref q_p0_pieces, .ref q_p0_amount, .ref q_p0_found, .ref q_p0_loop, .ref q_p0_lessRows, .ref q_p0_leads])), (q_p0_amount, .inl (cI, 7, .inl f_p0_amount))]) (wn := fun u => [(q_p0, .inr (2, [.int v_p1_size, .int r1, .ref q_p0_pieces, .ref q_p0_amount, .ref q_p0_found, .ref q_p0_loop, .ref q_p0_lessRows, .ref q_p0_leads])), (q_p1, .inr (0, [.int v_p1_size, .int v_p1_way, .ref q_p1_led, .ref q_p1_turnedLed])), (q_p0_pieces, .inr (3, [.int u.1, .int u.2.1, .ref q_p0_pieces_covered, .ref q_p0_pieces_counts, .ref q_p0_pieces_earlier, .ref q_p0_pieces_closed, .ref q_p0_pieces_simple, .ref q_p0_pieces_coefficients])), (q_p0_amount, .inl (cI, 7, .inl f_p0_amount)), (q_p1_led, .inl (cI, 8, .inl f_p1_led)), (q_p0_pieces_covered, .inl (cI, 8, .inl u.2.2))]) (c_X5_learn l D cI cJ cB tU tM tS q_p0_pieces q_p1 q_p0_pieces_covered q_p0_pieces_counts q_p0_pieces_earlier q_p0_pieces_closed q_p0_pieces_simple q_p0_pieces_coefficients q_p1_led q_p1_turnedLed H.size v_p1_way v_p1_size v_p0_pieces_number v_p0_pieces_falling f_p1_led f_p0_pieces_covered _ h) ⟨hx, hb, hml, hown, hts⟩ (cwV 1 hts gX4_startWith_X5_learn rfl rfl rfl hd_X5_learn ⟨Nat.le_of_ble_eq_true rfl, Nat.le_of_ble_eq_true rfl⟩) hX hK hP hD hS hA [2, 1, 5, 4] [0, 3] [0, 3, 2, 1, 5, 4] rfl rfl rfl (by decide) (fun _ => rfl) (q0 := 2) (ci := 3) rfl rfl rfl hl.1 rfl (Nat.le_of_ble_eq_true rfl) ⟨Nat.le_refl _, Nat.le_refl _⟩ dX4_startWith_21 (fun u2 H locs h hP hD hS => ?_)
  obtain ⟨m2_0, m2_1, m2_2⟩ := u2
  refine lv_iconst (v := (0 : Int32)) hx hb dX4_startWith_24 (by decide) ?_
  refine lv_istore_n (lv' := [(2, .int (0 : Int32)), (0, .ref q_p0), (1, .ref q_p1)]) hx hb dX4_startWith_25 rfl hl (by decide) rfl (fun ls hl => ?_)
  have k26 : ∀ (v_p0_soughtSize : Int32) (v_p0_soughtMap : Int32) (v_p0_pieces_number : Int32) (v_p0_pieces_falling : Int32) (f_p0_pieces_covered : (Nat → Int32)) (n26 : Nat) (l2 : Int32) (f_p0_amount : (Nat → Int32)) (H : Heap) (locs : List Loc) (ls : Array Slot), LP2 (M_X4_startWith_l26 v_p1_size f_p1_led v_p1_way P v_p0_soughtSize v_p0_soughtMap v_p0_pieces_number v_p0_pieces_falling f_p0_pieces_covered) n26 l2 f_p0_amount → va_P D vwCl [(q_p0, .inr (2, [.int v_p0_soughtSize, .int v_p0_soughtMap, .ref q_p0_pieces, .ref q_p0_amount, .ref q_p0_found, .ref q_p0_loop, .ref q_p0_lessRows, .ref q_p0_leads])), (q_p1, .inr (0, [.int v_p1_size, .int v_p1_way, .ref q_p1_led, .ref q_p1_turnedLed])), (q_p0_pieces, .inr (3, [.int v_p0_pieces_number, .int v_p0_pieces_falling, .ref q_p0_pieces_covered, .ref q_p0_pieces_counts, .ref q_p0_pieces_earlier, .ref q_p0_pieces_closed, .ref q_p0_pieces_simple, .ref q_p0_pieces_coefficients])), (q_p0_amount, .inl (cI, 7, .inl f_p0_amount)), (q_p1_led, .inl (cI, 8, .inl f_p1_led)), (q_p0_pieces_covered, .inl (cI, 8, .inl f_p0_pieces_covered))] H → va_D A [(q_p0, .inr (2, [.int v_p0_soughtSize, .int v_p0_soughtMap, .ref q_p0_pieces, .ref q_p0_amount, .ref q_p0_found, .ref q_p0_loop, .ref q_p0_lessRows, .ref q_p0_leads])), (q_p1, .inr (0, [.int v_p1_size, .int v_p1_way, .ref q_p1_led, .ref q_p1_turnedLed])), (q_p0_pieces, .inr (3, [.int v_p0_pieces_number, .int v_p0_pieces_falling, .ref q_p0_pieces_covered, .ref q_p0_pieces_counts, .ref q_p0_pieces_earlier, .ref q_p0_pieces_closed, .ref q_p0_pieces_simple, .ref q_p0_pieces_coefficients])), (q_p0_amount, .inl (cI, 7, .inl f_p0_amount)), (q_p1_led, .inl (cI, 8, .inl f_p1_led)), (q_p0_pieces_covered, .inl (cI, 8, .inl f_p0_pieces_covered))] → va_S A s.heap H locs → lv_has ls 3 [(0, .ref q_p0), (2, .int l2)] → W p l e { frames := 3, cells := 0, slots := 0, locals := 67 } s m args below meth c H locs 0 0 Q (F0 m 26 ls []) := by
    intro v_p0_soughtSize v_p0_soughtMap v_p0_pieces_number v_p0_pieces_falling f_p0_pieces_covered n26
    induction n26 with
    | zero =>
      intro l2 f_p0_amount H locs ls h
      exact False.elim h
    | succ n26 ih26 =>
      intro l2 f_p0_amount H locs ls h hP hD hS hl
      have h : M_X4_startWith_l26 v_p1_size f_p1_led v_p1_way P v_p0_soughtSize v_p0_soughtMap v_p0_pieces_number v_p0_pieces_falling f_p0_pieces_covered (LP2 (M_X4_startWith_l26 v_p1_size f_p1_led v_p1_way P v_p0_soughtSize v_p0_soughtMap v_p0_pieces_number v_p0_pieces_falling f_p0_pieces_covered) n26) l2 f_p0_amount := h
      refine lv_iload_n hx hb dX4_startWith_26 rfl (lv_at hl 1 rfl) ?_
      refine lv_bipush (v := (6 : Int32)) hx hb dX4_startWith_27 (by decide) ?_
      refine lv_icmp_gt (tgt := 45) hx hb dX4_startWith_29 (by decide) (fun c3 => ?_) (fun c3 => ?_)
      · have h := And.left h c3
        exact z_vret hQ hx hb hr hlocks hK (v_p0_soughtSize, v_p0_soughtMap, v_p0_pieces_number, v_p0_pieces_falling, f_p0_pieces_covered, f_p0_amount) h hP hD hS dX4_startWith_45
      · have h := And.right h c3
        refine lv_aload_n hx hb dX4_startWith_32 rfl (lv_at hl 0 rfl) ?_
        refine va_get (ci := 2) (C := RX4) (T := TX4) (N := 8) (v := .ref q_p0_amount) hx hb hts hinX4 hown hK hP 0 rfl rfl 3 (by decide) hw4 (fun _ h9 => h9) rfl dX4_startWith_33 ?_
        refine lv_iload_n hx hb dX4_startWith_36 rfl (lv_at hl 1 rfl) ?_
        refine lv_iconst (v := (-1 : Int32)) hx hb dX4_startWith_37 (by decide) ?_
        obtain ⟨hi4, h⟩ := h
        refine z_iast (wn := [(q_p0, .inr (2, [.int v_p0_soughtSize, .int v_p0_soughtMap, .ref q_p0_pieces, .ref q_p0_amount, .ref q_p0_found, .ref q_p0_loop, .ref q_p0_lessRows, .ref q_p0_leads])), (q_p1, .inr (0, [.int v_p1_size, .int v_p1_way, .ref q_p1_led, .ref q_p1_turnedLed])), (q_p0_pieces, .inr (3, [.int v_p0_pieces_number, .int v_p0_pieces_falling, .ref q_p0_pieces_covered, .ref q_p0_pieces_counts, .ref q_p0_pieces_earlier, .ref q_p0_pieces_closed, .ref q_p0_pieces_simple, .ref q_p0_pieces_coefficients])), (q_p0_amount, .inl (cI, 7, .inl (upd f_p0_amount l2.toNatClampNeg (-1 : Int32)))), (q_p1_led, .inl (cI, 8, .inl f_p1_led)), (q_p0_pieces_covered, .inl (cI, 8, .inl f_p0_pieces_covered))]) hx hb hK hP hD hS 3 rfl hi4 dX4_startWith_38 rfl (fun H locs hP hD hS => ?_)
        refine lv_iinc (v := (l2 + 1)) (lv' := [(2, .int (l2 + 1)), (0, .ref q_p0)]) hx hb dX4_startWith_39 hl (k := 1) rfl rfl (by decide) rfl (fun ls hl => ?_)
        refine lv_goto (tgt := 26) hx hb dX4_startWith_42 (by decide) ?_
        exact ih26 (l2 + 1) (upd f_p0_amount l2.toNatClampNeg (-1 : Int32)) _ _ _ h hP hD hS (lv_sub hl [1, 0] rfl)
  obtain ⟨n26, h⟩ := h
  exact k26 v_p1_size r1 m2_0 m2_1 m2_2 n26 (0 : Int32) f_p0_amount _ _ _ h hP hD hS (lv_sub hl [1, 0] rfl)
theorem hd_X4_ringFigures : yX4_ringFigures.cls = RX4 ∧ yX4_ringFigures.cls ≠ "java/lang/invoke/MethodHandle" ∧ yX4_ringFigures.cls ≠ "java/lang/invoke/VarHandle" ∧ (parseMethodDescriptor yX4_ringFigures.desc).map (fun d => d.parameters.length) = some 2 := by decide +kernel
set_option maxHeartbeats 4000000 in
set_option maxRecDepth 100000 in
theorem c_X4_ringFigures (l : Launch) (D : va_G) (cI cJ cB : ClassId) (tU tM tS : Nat) (q_p1 q_p1_led q_p1_turnedLed : Nat) (sz : Nat) (x0 : Int32) (v_p1_size : Int32) (f_p1_led : (Nat → Int32)) (v_p1_way : Int32) (P : Int32 → Prop) (h : M_X4_ringFigures x0 v_p1_size f_p1_led P) : Met l yX4_ringFigures wsX4_ringFigures ({ frames := 1, cells := 0, slots := 0, locals := 20 }) (va_Pc [.int x0, .ref q_p1] (zPre D cI cJ cB tU tM tS [(q_p1, .inr (0, [.int v_p1_size, .int v_p1_way, .ref q_p1_led, .ref q_p1_turnedLed])), (q_p1_led, .inl (cI, 8, .inl f_p1_led))] sz)) (va_Qi (fun (r : Int32) (u : Unit) => P r ) (fun u t => zPost D cI cJ cB (va_A [(q_p1, .inr (0, [.int v_p1_size, .int v_p1_way, .ref q_p1_led, .ref q_p1_turnedLed])), (q_p1_led, .inl (cI, 8, .inl f_p1_led))] sz) [(q_p1, .inr (0, [.int v_p1_size, .int v_p1_way, .ref q_p1_led, .ref q_p1_turnedLed])), (q_p1_led, .inl (cI, 8, .inl f_p1_led))] t) (va_A [(q_p1, .inr (0, [.int v_p1_size, .int v_p1_way, .ref q_p1_led, .ref q_p1_turnedLed])), (q_p1_led, .inl (cI, 8, .inl f_p1_led))] sz)) 0 0 (va_A [(q_p1, .inr (0, [.int v_p1_size, .int v_p1_way, .ref q_p1_led, .ref q_p1_turnedLed])), (q_p1_led, .inl (cI, 8, .inl f_p1_led))] sz) := by
  refine z_met (cc := cX4_ringFigures) (maxL := 5) (ret := (some .int)) (Qc := fun A => va_Qi (fun (r : Int32) (u : Unit) => P r ) (fun u t => zPost D cI cJ cB A [(q_p1, .inr (0, [.int v_p1_size, .int v_p1_way, .ref q_p1_led, .ref q_p1_turnedLed])), (q_p1_led, .inl (cI, 8, .inl f_p1_led))] t) A) (by decide) rfl [.int x0, .ref q_p1] (Nat.le_of_ble_eq_true rfl) ?_
  intro p e s m args below meth c A hx hb hr hts hown hml hlocks hA hX hK H locs hP hD hS ls hl Q hQ
  have hown : s.vm.findClass RX4 = some m.cls := hown
  have hl : lv_has ls 5 [(0, .int x0), (1, .ref q_p1)] := hl
  have hw0 : (Cond.fieldLink RX4 46 "ForcedRings$Chart" "size" "I").before args s = true := hts _ (List.mem_of_getElem? (i := 1) rfl)
  have hw1 : (Cond.fieldLink RX4 97 "ForcedRings$Chart" "led" "[I").before args s = true := hts _ (List.mem_of_getElem? (i := 2) rfl)
  have hinX0 : ∀ w ∈ wsX00, w ∈ wsX4_ringFigures := fun _ h => List.mem_cons_of_mem _ (List.mem_append_right _ h)
  refine lv_iconst (v := (0 : Int32)) hx hb dX4_ringFigures_0 (by decide) ?_
  refine lv_istore_n (lv' := [(2, .int (0 : Int32)), (0, .int x0), (1, .ref q_p1)]) hx hb dX4_ringFigures_1 rfl hl (by decide) rfl (fun ls hl => ?_)
  refine lv_iconst (v := (0 : Int32)) hx hb dX4_ringFigures_2 (by decide) ?_
  refine lv_istore_n (lv' := [(3, .int (0 : Int32)), (2, .int (0 : Int32)), (0, .int x0), (1, .ref q_p1)]) hx hb dX4_ringFigures_3 rfl hl (by decide) rfl (fun ls hl => ?_)
  have k4 : ∀  (n4 : Nat) (l2 : Int32) (l3 : Int32) (H : Heap) (locs : List Loc) (ls : Array Slot), LP2 (M_X4_ringFigures_l4 x0 v_p1_size f_p1_led P ) n4 l2 l3 → va_P D vwCl [(q_p1, .inr (0, [.int v_p1_size, .int v_p1_way, .ref q_p1_led, .ref q_p1_turnedLed])), (q_p1_led, .inl (cI, 8, .inl f_p1_led))] H → va_D A [(q_p1, .inr (0, [.int v_p1_size, .int v_p1_way, .ref q_p1_led, .ref q_p1_turnedLed])), (q_p1_led, .inl (cI, 8, .inl f_p1_led))] → va_S A s.heap H locs → lv_has ls 5 [(0, .int x0), (1, .ref q_p1), (2, .int l2), (3, .int l3)] → W p l e { frames := 1, cells := 0, slots := 0, locals := 20 } s m args below meth c H locs 0 0 Q (F0 m 4 ls []) := by
    intro  n4
    induction n4 with
    | zero =>
      intro l2 l3 H locs ls h
      exact False.elim h
    | succ n4 ih4 =>
      intro l2 l3 H locs ls h hP hD hS hl
      have h : M_X4_ringFigures_l4 x0 v_p1_size f_p1_led P  (LP2 (M_X4_ringFigures_l4 x0 v_p1_size f_p1_led P ) n4) l2 l3 := h
      refine lv_iload_n hx hb dX4_ringFigures_4 rfl (lv_at hl 3 rfl) ?_
      refine lv_aload_n hx hb dX4_ringFigures_5 rfl (lv_at hl 1 rfl) ?_
      refine va_get (ci := 0) (C := RX0) (T := TX0) (N := 4) (v := .int v_p1_size) hx hb hts hinX0 hown hK hP 0 rfl rfl 0 (by decide) hw0 (fun _ h9 => h9) rfl dX4_ringFigures_6 ?_
      refine lv_icmp_ge (tgt := 52) hx hb dX4_ringFigures_9 (by decide) (fun c1 => ?_) (fun c1 => ?_)
      · have h := And.left h c1
        refine lv_iload_n hx hb dX4_ringFigures_52 rfl (lv_at hl 2 rfl) ?_
        exact z_iret hQ hx hb hr rfl hlocks hK () h hP hD hS dX4_ringFigures_53
      · have h := And.right h c1
        refine lv_iload_n hx hb dX4_ringFigures_12 rfl (lv_at hl 0 rfl) ?_
        refine lv_iload_n hx hb dX4_ringFigures_13 rfl (lv_at hl 3 rfl) ?_
        refine lv_ishr hx hb dX4_ringFigures_14 ?_
        refine lv_iconst (v := (1 : Int32)) hx hb dX4_ringFigures_15 (by decide) ?_
        refine lv_iand hx hb dX4_ringFigures_16 ?_
        refine lv_iconst (v := (1 : Int32)) hx hb dX4_ringFigures_17 (by decide) ?_
        refine lv_icmp_ne (tgt := 46) hx hb dX4_ringFigures_18 (by decide) (fun c2 => ?_) (fun c2 => ?_)
        · have h := And.right h c2
          refine lv_iinc (v := (l3 + 1)) (lv' := [(3, .int (l3 + 1)), (0, .int x0), (1, .ref q_p1), (2, .int l2)]) hx hb dX4_ringFigures_46 hl (k := 3) rfl rfl (by decide) rfl (fun ls hl => ?_)
          refine lv_goto (tgt := 4) hx hb dX4_ringFigures_49 (by decide) ?_
          exact ih4 l2 (l3 + 1) _ _ _ h hP hD hS (lv_sub hl [1, 2, 3, 0] rfl)
        · have h := And.left h c2
          refine lv_iload_n hx hb dX4_ringFigures_21 rfl (lv_at hl 0 rfl) ?_
          refine lv_iconst (v := (1 : Int32)) hx hb dX4_ringFigures_22 (by decide) ?_
          refine lv_aload_n hx hb dX4_ringFigures_23 rfl (lv_at hl 1 rfl) ?_
          refine va_get (ci := 0) (C := RX0) (T := TX0) (N := 4) (v := .ref q_p1_led) hx hb hts hinX0 hown hK hP 0 rfl rfl 2 (by decide) hw1 (fun _ h9 => h9) rfl dX4_ringFigures_24 ?_
          refine lv_iload_n hx hb dX4_ringFigures_27 rfl (lv_at hl 3 rfl) ?_
          obtain ⟨hi3, h⟩ := h
          refine va_iald hx hb hK hP 1 0 rfl rfl hi3 dX4_ringFigures_28 ?_
          refine lv_ishl hx hb dX4_ringFigures_29 ?_
          refine lv_iconst (v := (1 : Int32)) hx hb dX4_ringFigures_30 (by decide) ?_
          refine lv_isub hx hb dX4_ringFigures_31 ?_
          refine lv_iand hx hb dX4_ringFigures_32 ?_
          refine lv_topi (fun y4 ey4 => ?_)
          have h := h y4 ey4
          refine lv_istore (lv' := [(4, .int y4), (0, .int x0), (1, .ref q_p1), (2, .int l2), (3, .int l3)]) hx hb dX4_ringFigures_33 hl (by decide) rfl (fun ls hl => ?_)
          refine lv_iload_n hx hb dX4_ringFigures_35 rfl (lv_at hl 3 rfl) ?_
          refine lv_bipush (v := (10 : Int32)) hx hb dX4_ringFigures_36 (by decide) ?_
          refine lv_imul hx hb dX4_ringFigures_38 ?_
          refine lv_iload hx hb dX4_ringFigures_39 (lv_at hl 0 rfl) ?_
          refine z_cSi (As := [.int y4]) (rest := [.int (l2 * (10 : Int32))]) (wr := [(q_p1, .inr (0, [.int v_p1_size, .int v_p1_way, .ref q_p1_led, .ref q_p1_turnedLed])), (q_p1_led, .inl (cI, 8, .inl f_p1_led))]) (wn := fun u => [(q_p1, .inr (0, [.int v_p1_size, .int v_p1_way, .ref q_p1_led, .ref q_p1_turnedLed])), (q_p1_led, .inl (cI, 8, .inl f_p1_led))]) (c_J6_bitCount_0f7a4 l D cI cJ cB tU tM tS  H.size y4 _ h) ⟨hx, hb, hml, hown, hts⟩ (va_cwS 1 hts gX4_ringFigures_J6_bitCount_0f7a4 rfl rfl rfl hd_J6_bitCount_0f7a4.2 ⟨Nat.le_of_ble_eq_true rfl, Nat.le_of_ble_eq_true rfl⟩) hX hK hP hD hS hA [] [0, 1] [0, 1] rfl rfl rfl (by decide) (fun _ => rfl) rfl hl.1 rfl (Nat.le_of_ble_eq_true rfl) ⟨Nat.le_refl _, Nat.le_refl _⟩ dX4_ringFigures_41 (fun r5 u5 H locs h hP hD hS => ?_)
          refine lv_iadd hx hb dX4_ringFigures_44 ?_
          refine lv_istore_n (lv' := [(2, .int ((l2 * (10 : Int32)) + r5)), (4, .int y4), (0, .int x0), (1, .ref q_p1), (3, .int l3)]) hx hb dX4_ringFigures_45 rfl hl (by decide) rfl (fun ls hl => ?_)
          refine lv_iinc (v := (l3 + 1)) (lv' := [(3, .int (l3 + 1)), (2, .int ((l2 * (10 : Int32)) + r5)), (4, .int y4), (0, .int x0), (1, .ref q_p1)]) hx hb dX4_ringFigures_46 hl (k := 4) rfl rfl (by decide) rfl (fun ls hl => ?_)
          refine lv_goto (tgt := 4) hx hb dX4_ringFigures_49 (by decide) ?_
          exact ih4 ((l2 * (10 : Int32)) + r5) (l3 + 1) _ _ _ h hP hD hS (lv_sub hl [3, 4, 1, 0] rfl)
  obtain ⟨n4, h⟩ := h
  exact k4  n4 (0 : Int32) (0 : Int32) _ _ _ h hP hD hS (lv_sub hl [2, 3, 1, 0] rfl)
theorem hd_X4_add : yX4_add.cls = RX4 ∧ yX4_add.cls ≠ "java/lang/invoke/MethodHandle" ∧ yX4_add.cls ≠ "java/lang/invoke/VarHandle" ∧ (parseMethodDescriptor yX4_add.desc).map (fun d => d.parameters.length) = some 2 := by decide +kernel
set_option maxHeartbeats 4000000 in
set_option maxRecDepth 100000 in
theorem c_X4_add (l : Launch) (D : va_G) (cI cJ cB : ClassId) (tU tM tS : Nat) (q_p0 q_p0_pieces q_p0_amount q_p0_found q_p0_loop q_p0_lessRows q_p0_leads : Nat) (sz : Nat) (x1 : Int32) (x2 : Int32) (f_p0_amount : (Nat → Int32)) (f_p0_found : (Nat → Int32)) (v_p0_soughtSize : Int32) (v_p0_soughtMap : Int32) (P : (Nat → Int32) → (Nat → Int32) → Prop) (h : M_X4_add x1 x2 f_p0_amount f_p0_found P) : Met l yX4_add wsX4_add ({ frames := 2, cells := 0, slots := 0, locals := 48 }) (va_Pc [.ref q_p0, .int x1, .int x2] (zPre D cI cJ cB tU tM tS [(q_p0, .inr (2, [.int v_p0_soughtSize, .int v_p0_soughtMap, .ref q_p0_pieces, .ref q_p0_amount, .ref q_p0_found, .ref q_p0_loop, .ref q_p0_lessRows, .ref q_p0_leads])), (q_p0_amount, .inl (cI, 7, .inl f_p0_amount)), (q_p0_found, .inl (cI, 153, .inl f_p0_found))] sz)) (va_Qv (fun u : (Nat → Int32) × (Nat → Int32) => P u.1 u.2) (fun u t => zPost D cI cJ cB (va_A [(q_p0, .inr (2, [.int v_p0_soughtSize, .int v_p0_soughtMap, .ref q_p0_pieces, .ref q_p0_amount, .ref q_p0_found, .ref q_p0_loop, .ref q_p0_lessRows, .ref q_p0_leads])), (q_p0_amount, .inl (cI, 7, .inl f_p0_amount)), (q_p0_found, .inl (cI, 153, .inl f_p0_found))] sz) [(q_p0, .inr (2, [.int v_p0_soughtSize, .int v_p0_soughtMap, .ref q_p0_pieces, .ref q_p0_amount, .ref q_p0_found, .ref q_p0_loop, .ref q_p0_lessRows, .ref q_p0_leads])), (q_p0_amount, .inl (cI, 7, .inl u.2)), (q_p0_found, .inl (cI, 153, .inl u.1))] t) (va_A [(q_p0, .inr (2, [.int v_p0_soughtSize, .int v_p0_soughtMap, .ref q_p0_pieces, .ref q_p0_amount, .ref q_p0_found, .ref q_p0_loop, .ref q_p0_lessRows, .ref q_p0_leads])), (q_p0_amount, .inl (cI, 7, .inl f_p0_amount)), (q_p0_found, .inl (cI, 153, .inl f_p0_found))] sz)) 0 0 (va_A [(q_p0, .inr (2, [.int v_p0_soughtSize, .int v_p0_soughtMap, .ref q_p0_pieces, .ref q_p0_amount, .ref q_p0_found, .ref q_p0_loop, .ref q_p0_lessRows, .ref q_p0_leads])), (q_p0_amount, .inl (cI, 7, .inl f_p0_amount)), (q_p0_found, .inl (cI, 153, .inl f_p0_found))] sz) := by
  refine z_met (cc := cX4_add) (maxL := 5) (ret := none) (Qc := fun A => va_Qv (fun u : (Nat → Int32) × (Nat → Int32) => P u.1 u.2) (fun u t => zPost D cI cJ cB A [(q_p0, .inr (2, [.int v_p0_soughtSize, .int v_p0_soughtMap, .ref q_p0_pieces, .ref q_p0_amount, .ref q_p0_found, .ref q_p0_loop, .ref q_p0_lessRows, .ref q_p0_leads])), (q_p0_amount, .inl (cI, 7, .inl u.2)), (q_p0_found, .inl (cI, 153, .inl u.1))] t) A) (by decide) rfl [.ref q_p0, .int x1, .int x2] (Nat.le_of_ble_eq_true rfl) ?_
  intro p e s m args below meth c A hx hb hr hts hown hml hlocks hA hX hK H locs hP hD hS ls hl Q hQ
  have hown : s.vm.findClass RX4 = some m.cls := hown
  have hl : lv_has ls 5 [(0, .ref q_p0), (1, .int x1), (2, .int x2)] := hl
  have hw0 : (Cond.fieldLink RX4 16 "ForcedRings$Patterns" "amount" "[I").before args s = true := hts _ (List.mem_of_getElem? (i := 1) rfl)
  have hw1 : (Cond.fieldLink RX4 100 "ForcedRings$Patterns" "MOST" "[I").before args s = true := hts _ (List.mem_of_getElem? (i := 2) rfl)
  have hw2 : (Cond.fieldLink RX4 32 "ForcedRings$Patterns" "START" "[I").before args s = true := hts _ (List.mem_of_getElem? (i := 3) rfl)
  have hw3 : (Cond.fieldLink RX4 20 "ForcedRings$Patterns" "found" "[I").before args s = true := hts _ (List.mem_of_getElem? (i := 4) rfl)
  have hinX4 : ∀ w ∈ wsX40, w ∈ wsX4_add := fun _ h => List.mem_cons_of_mem _ (List.mem_append_right _ h)
  refine lv_aload_n hx hb dX4_add_0 rfl (lv_at hl 0 rfl) ?_
  refine lv_iload_n hx hb dX4_add_1 rfl (lv_at hl 1 rfl) ?_
  refine lv_iload_n hx hb dX4_add_2 rfl (lv_at hl 2 rfl) ?_
  refine z_cVi (As := [.int x1, .int x2]) (rest := []) (wr := []) (wn := fun u => [(q_p0, .inr (2, [.int v_p0_soughtSize, .int v_p0_soughtMap, .ref q_p0_pieces, .ref q_p0_amount, .ref q_p0_found, .ref q_p0_loop, .ref q_p0_lessRows, .ref q_p0_leads])), (q_p0_amount, .inl (cI, 7, .inl f_p0_amount)), (q_p0_found, .inl (cI, 153, .inl f_p0_found))]) (c_X4_placeFor l D cI cJ cB tU tM tS q_p0 q_p0_pieces q_p0_amount q_p0_found q_p0_loop q_p0_lessRows q_p0_leads H.size x1 x2 f_p0_amount f_p0_found v_p0_soughtSize v_p0_soughtMap _ h) ⟨hx, hb, hml, hown, hts⟩ (cwV 2 hts gX4_add_X4_placeFor rfl rfl rfl hd_X4_placeFor ⟨Nat.le_of_ble_eq_true rfl, Nat.le_of_ble_eq_true rfl⟩) hX hK hP hD hS hA [0, 1, 2] [] [0, 1, 2] rfl rfl rfl (by decide) (fun _ => rfl) (q0 := 0) (ci := 2) rfl rfl rfl hl.1 rfl (Nat.le_of_ble_eq_true rfl) ⟨Nat.le_refl _, Nat.le_refl _⟩ dX4_add_3 (fun r1 u1 H locs h hP hD hS => ?_)
  refine lv_istore_n (lv' := [(3, .int r1), (0, .ref q_p0), (1, .int x1), (2, .int x2)]) hx hb dX4_add_6 rfl hl (by decide) rfl (fun ls hl => ?_)
  refine lv_aload_n hx hb dX4_add_7 rfl (lv_at hl 1 rfl) ?_
  refine va_get (ci := 2) (C := RX4) (T := TX4) (N := 8) (v := .ref q_p0_amount) hx hb hts hinX4 hown hK hP 0 rfl rfl 3 (by decide) hw0 (fun _ h9 => h9) rfl dX4_add_8 ?_
  refine lv_iload_n hx hb dX4_add_11 rfl (lv_at hl 2 rfl) ?_
  obtain ⟨hi2, h⟩ := h
  refine va_iald hx hb hK hP 1 0 rfl rfl hi2 dX4_add_12 ?_
  refine va_gets hx hb hX.2.1.1 hS hown hw1 (fun _ h9 => h9) dX4_add_13 ?_
  refine lv_iload_n hx hb dX4_add_16 rfl (lv_at hl 2 rfl) ?_
  obtain ⟨hi3, h⟩ := h
  refine va_ti (v := .int (kM x1.toNatClampNeg)) hx hb hX.2.1.2 hS hi3 rfl dX4_add_17 ?_
  refine lv_icmp_ge (tgt := 41) hx hb dX4_add_18 (by decide) (fun c4 => ?_) (fun c4 => ?_)
  · have h := And.left h c4
    exact z_vret hQ hx hb hr hlocks hK (f_p0_found, f_p0_amount) h hP hD hS dX4_add_41
  · have h := And.right h c4
    refine lv_iload_n hx hb dX4_add_21 rfl (lv_at hl 0 rfl) ?_
    refine lv_aload_n hx hb dX4_add_22 rfl (lv_at hl 1 rfl) ?_
    refine va_get (ci := 2) (C := RX4) (T := TX4) (N := 8) (v := .ref q_p0_amount) hx hb hts hinX4 hown hK hP 0 rfl rfl 3 (by decide) hw0 (fun _ h9 => h9) rfl dX4_add_23 ?_
    refine lv_iload_n hx hb dX4_add_26 rfl (lv_at hl 2 rfl) ?_
    obtain ⟨hi5, h⟩ := h
    refine va_iald hx hb hK hP 1 0 rfl rfl hi5 dX4_add_27 ?_
    have k56 : ∀ (l3 : Int32) (l4 : Int32) (f_p0_found : (Nat → Int32)) (f_p0_amount : (Nat → Int32)) (H : Heap) (locs : List Loc) (ls : Array Slot), M_X4_add_b56 x1 x2 P l3 l4 f_p0_found f_p0_amount → va_P D vwCl [(q_p0, .inr (2, [.int v_p0_soughtSize, .int v_p0_soughtMap, .ref q_p0_pieces, .ref q_p0_amount, .ref q_p0_found, .ref q_p0_loop, .ref q_p0_lessRows, .ref q_p0_leads])), (q_p0_amount, .inl (cI, 7, .inl f_p0_amount)), (q_p0_found, .inl (cI, 153, .inl f_p0_found))] H → va_D A [(q_p0, .inr (2, [.int v_p0_soughtSize, .int v_p0_soughtMap, .ref q_p0_pieces, .ref q_p0_amount, .ref q_p0_found, .ref q_p0_loop, .ref q_p0_lessRows, .ref q_p0_leads])), (q_p0_amount, .inl (cI, 7, .inl f_p0_amount)), (q_p0_found, .inl (cI, 153, .inl f_p0_found))] → va_S A s.heap H locs → lv_has ls 5 [(0, .ref q_p0), (1, .int x1), (2, .int x2), (3, .int l3), (4, .int l4)] → W p l e { frames := 2, cells := 0, slots := 0, locals := 48 } s m args below meth c H locs 0 0 Q (F0 m 56 ls []) := by
      intro l3 l4 f_p0_found f_p0_amount H locs ls h hP hD hS hl
      have k56 : ∀ (l3 : Int32) (f_p0_amount : (Nat → Int32)) (n56 : Nat) (l4 : Int32) (f_p0_found : (Nat → Int32)) (H : Heap) (locs : List Loc) (ls : Array Slot), LP2 (M_X4_add_l56 x1 x2 P l3 f_p0_amount) n56 l4 f_p0_found → va_P D vwCl [(q_p0, .inr (2, [.int v_p0_soughtSize, .int v_p0_soughtMap, .ref q_p0_pieces, .ref q_p0_amount, .ref q_p0_found, .ref q_p0_loop, .ref q_p0_lessRows, .ref q_p0_leads])), (q_p0_amount, .inl (cI, 7, .inl f_p0_amount)), (q_p0_found, .inl (cI, 153, .inl f_p0_found))] H → va_D A [(q_p0, .inr (2, [.int v_p0_soughtSize, .int v_p0_soughtMap, .ref q_p0_pieces, .ref q_p0_amount, .ref q_p0_found, .ref q_p0_loop, .ref q_p0_lessRows, .ref q_p0_leads])), (q_p0_amount, .inl (cI, 7, .inl f_p0_amount)), (q_p0_found, .inl (cI, 153, .inl f_p0_found))] → va_S A s.heap H locs → lv_has ls 5 [(0, .ref q_p0), (1, .int x1), (2, .int x2), (3, .int l3), (4, .int l4)] → W p l e { frames := 2, cells := 0, slots := 0, locals := 48 } s m args below meth c H locs 0 0 Q (F0 m 56 ls []) := by
        intro l3 f_p0_amount n56
        induction n56 with
        | zero =>
          intro l4 f_p0_found H locs ls h
          exact False.elim h
        | succ n56 ih56 =>
          intro l4 f_p0_found H locs ls h hP hD hS hl
          have h : M_X4_add_l56 x1 x2 P l3 f_p0_amount (LP2 (M_X4_add_l56 x1 x2 P l3 f_p0_amount) n56) l4 f_p0_found := h
          refine lv_iload hx hb dX4_add_56 (lv_at hl 4 rfl) ?_
          refine va_gets hx hb hX.2.2.1 hS hown hw2 (fun _ h9 => h9) dX4_add_58 ?_
          refine lv_iload_n hx hb dX4_add_61 rfl (lv_at hl 1 rfl) ?_
          obtain ⟨hi6, h⟩ := h
          refine va_ti (v := .int (kS x1.toNatClampNeg)) hx hb hX.2.2.2 hS hi6 rfl dX4_add_62 ?_
          refine lv_iload_n hx hb dX4_add_63 rfl (lv_at hl 3 rfl) ?_
          refine lv_iadd hx hb dX4_add_64 ?_
          refine lv_icmp_le (tgt := 90) hx hb dX4_add_65 (by decide) (fun c7 => ?_) (fun c7 => ?_)
          · have h := And.left h c7
            refine lv_aload_n hx hb dX4_add_90 rfl (lv_at hl 0 rfl) ?_
            refine va_get (ci := 2) (C := RX4) (T := TX4) (N := 8) (v := .ref q_p0_found) hx hb hts hinX4 hown hK hP 0 rfl rfl 4 (by decide) hw3 (fun _ h9 => h9) rfl dX4_add_91 ?_
            refine va_gets hx hb hX.2.2.1 hS hown hw2 (fun _ h9 => h9) dX4_add_94 ?_
            refine lv_iload_n hx hb dX4_add_97 rfl (lv_at hl 1 rfl) ?_
            obtain ⟨hi8, h⟩ := h
            refine va_ti (v := .int (kS x1.toNatClampNeg)) hx hb hX.2.2.2 hS hi8 rfl dX4_add_98 ?_
            refine lv_iload_n hx hb dX4_add_99 rfl (lv_at hl 3 rfl) ?_
            refine lv_iadd hx hb dX4_add_100 ?_
            refine lv_iload_n hx hb dX4_add_101 rfl (lv_at hl 2 rfl) ?_
            obtain ⟨hi9, h⟩ := h
            refine z_iast (wn := [(q_p0, .inr (2, [.int v_p0_soughtSize, .int v_p0_soughtMap, .ref q_p0_pieces, .ref q_p0_amount, .ref q_p0_found, .ref q_p0_loop, .ref q_p0_lessRows, .ref q_p0_leads])), (q_p0_amount, .inl (cI, 7, .inl f_p0_amount)), (q_p0_found, .inl (cI, 153, .inl (upd f_p0_found ((kS x1.toNatClampNeg) + l3).toNatClampNeg x2)))]) hx hb hK hP hD hS 2 rfl hi9 dX4_add_102 rfl (fun H locs hP hD hS => ?_)
            refine lv_aload_n hx hb dX4_add_103 rfl (lv_at hl 0 rfl) ?_
            refine va_get (ci := 2) (C := RX4) (T := TX4) (N := 8) (v := .ref q_p0_amount) hx hb hts hinX4 hown hK hP 0 rfl rfl 3 (by decide) hw0 (fun _ h9 => h9) rfl dX4_add_104 ?_
            refine lv_iload_n hx hb dX4_add_107 rfl (lv_at hl 1 rfl) ?_
            refine lv_dup2_11 hx hb dX4_add_108 rfl rfl ?_
            obtain ⟨hi10, h⟩ := h
            refine va_iald hx hb hK hP 1 0 rfl rfl hi10 dX4_add_109 ?_
            refine lv_iconst (v := (1 : Int32)) hx hb dX4_add_110 (by decide) ?_
            refine lv_iadd hx hb dX4_add_111 ?_
            obtain ⟨hi11, h⟩ := h
            refine z_iast (wn := [(q_p0, .inr (2, [.int v_p0_soughtSize, .int v_p0_soughtMap, .ref q_p0_pieces, .ref q_p0_amount, .ref q_p0_found, .ref q_p0_loop, .ref q_p0_lessRows, .ref q_p0_leads])), (q_p0_amount, .inl (cI, 7, .inl (upd f_p0_amount x1.toNatClampNeg ((f_p0_amount x1.toNatClampNeg) + (1 : Int32))))), (q_p0_found, .inl (cI, 153, .inl (upd f_p0_found ((kS x1.toNatClampNeg) + l3).toNatClampNeg x2)))]) hx hb hK hP hD hS 1 rfl hi11 dX4_add_112 rfl (fun H locs hP hD hS => ?_)
            exact z_vret hQ hx hb hr hlocks hK ((upd f_p0_found ((kS x1.toNatClampNeg) + l3).toNatClampNeg x2), (upd f_p0_amount x1.toNatClampNeg ((f_p0_amount x1.toNatClampNeg) + (1 : Int32)))) h hP hD hS dX4_add_113
          · have h := And.right h c7
            refine lv_aload_n hx hb dX4_add_68 rfl (lv_at hl 0 rfl) ?_
            refine va_get (ci := 2) (C := RX4) (T := TX4) (N := 8) (v := .ref q_p0_found) hx hb hts hinX4 hown hK hP 0 rfl rfl 4 (by decide) hw3 (fun _ h9 => h9) rfl dX4_add_69 ?_
            refine lv_iload hx hb dX4_add_72 (lv_at hl 4 rfl) ?_
            refine lv_aload_n hx hb dX4_add_74 rfl (lv_at hl 0 rfl) ?_
            refine va_get (ci := 2) (C := RX4) (T := TX4) (N := 8) (v := .ref q_p0_found) hx hb hts hinX4 hown hK hP 0 rfl rfl 4 (by decide) hw3 (fun _ h9 => h9) rfl dX4_add_75 ?_
            refine lv_iload hx hb dX4_add_78 (lv_at hl 4 rfl) ?_
            refine lv_iconst (v := (1 : Int32)) hx hb dX4_add_80 (by decide) ?_
            refine lv_isub hx hb dX4_add_81 ?_
            obtain ⟨hi12, h⟩ := h
            refine va_iald hx hb hK hP 2 0 rfl rfl hi12 dX4_add_82 ?_
            obtain ⟨hi13, h⟩ := h
            refine z_iast (wn := [(q_p0, .inr (2, [.int v_p0_soughtSize, .int v_p0_soughtMap, .ref q_p0_pieces, .ref q_p0_amount, .ref q_p0_found, .ref q_p0_loop, .ref q_p0_lessRows, .ref q_p0_leads])), (q_p0_amount, .inl (cI, 7, .inl f_p0_amount)), (q_p0_found, .inl (cI, 153, .inl (upd f_p0_found l4.toNatClampNeg (f_p0_found (l4 - (1 : Int32)).toNatClampNeg))))]) hx hb hK hP hD hS 2 rfl hi13 dX4_add_83 rfl (fun H locs hP hD hS => ?_)
            refine lv_iinc (v := (l4 + (-1))) (lv' := [(4, .int (l4 + (-1))), (0, .ref q_p0), (1, .int x1), (2, .int x2), (3, .int l3)]) hx hb dX4_add_84 hl (k := 4) rfl rfl (by decide) rfl (fun ls hl => ?_)
            refine lv_goto (tgt := 56) hx hb dX4_add_87 (by decide) ?_
            exact ih56 (l4 + (-1)) (upd f_p0_found l4.toNatClampNeg (f_p0_found (l4 - (1 : Int32)).toNatClampNeg)) _ _ _ h hP hD hS (lv_sub hl [1, 2, 3, 4, 0] rfl)
      obtain ⟨n56, h⟩ := h
      exact k56 l3 f_p0_amount n56 l4 f_p0_found _ _ _ h hP hD hS (lv_sub hl [0, 1, 2, 3, 4] rfl)
    refine lv_icmp_ge (tgt := 42) hx hb dX4_add_28 (by decide) (fun c14 => ?_) (fun c14 => ?_)
    · have h := And.left h c14
      refine va_gets hx hb hX.2.2.1 hS hown hw2 (fun _ h9 => h9) dX4_add_42 ?_
      refine lv_iload_n hx hb dX4_add_45 rfl (lv_at hl 2 rfl) ?_
      obtain ⟨hi15, h⟩ := h
      refine va_ti (v := .int (kS x1.toNatClampNeg)) hx hb hX.2.2.2 hS hi15 rfl dX4_add_46 ?_
      refine lv_aload_n hx hb dX4_add_47 rfl (lv_at hl 1 rfl) ?_
      refine va_get (ci := 2) (C := RX4) (T := TX4) (N := 8) (v := .ref q_p0_amount) hx hb hts hinX4 hown hK hP 0 rfl rfl 3 (by decide) hw0 (fun _ h9 => h9) rfl dX4_add_48 ?_
      refine lv_iload_n hx hb dX4_add_51 rfl (lv_at hl 2 rfl) ?_
      obtain ⟨hi16, h⟩ := h
      refine va_iald hx hb hK hP 1 0 rfl rfl hi16 dX4_add_52 ?_
      refine lv_iadd hx hb dX4_add_53 ?_
      refine lv_istore (lv' := [(4, .int ((kS x1.toNatClampNeg) + (f_p0_amount x1.toNatClampNeg))), (3, .int r1), (0, .ref q_p0), (1, .int x1), (2, .int x2)]) hx hb dX4_add_54 hl (by decide) rfl (fun ls hl => ?_)
      exact k56 r1 ((kS x1.toNatClampNeg) + (f_p0_amount x1.toNatClampNeg)) f_p0_found f_p0_amount _ _ _ h hP hD hS (lv_sub hl [2, 3, 4, 1, 0] rfl)
    · have h := And.right h c14
      refine lv_aload_n hx hb dX4_add_31 rfl (lv_at hl 1 rfl) ?_
      refine lv_iload_n hx hb dX4_add_32 rfl (lv_at hl 2 rfl) ?_
      refine lv_iload_n hx hb dX4_add_33 rfl (lv_at hl 0 rfl) ?_
      refine z_cVi (As := [.int x1, .int r1]) (rest := []) (wr := [(q_p0_amount, .inl (cI, 7, .inl f_p0_amount))]) (wn := fun u => [(q_p0, .inr (2, [.int v_p0_soughtSize, .int v_p0_soughtMap, .ref q_p0_pieces, .ref q_p0_amount, .ref q_p0_found, .ref q_p0_loop, .ref q_p0_lessRows, .ref q_p0_leads])), (q_p0_amount, .inl (cI, 7, .inl f_p0_amount)), (q_p0_found, .inl (cI, 153, .inl f_p0_found))]) (c_X4_at l D cI cJ cB tU tM tS q_p0 q_p0_pieces q_p0_amount q_p0_found q_p0_loop q_p0_lessRows q_p0_leads H.size x1 r1 f_p0_found v_p0_soughtSize v_p0_soughtMap _ h) ⟨hx, hb, hml, hown, hts⟩ (cwV 2 hts gX4_add_X4_at rfl rfl rfl hd_X4_at ⟨Nat.le_of_ble_eq_true rfl, Nat.le_of_ble_eq_true rfl⟩) hX hK hP hD hS hA [0, 2] [1] [1, 0, 2] rfl rfl rfl (by decide) (fun _ => rfl) (q0 := 0) (ci := 2) rfl rfl rfl hl.1 rfl (Nat.le_of_ble_eq_true rfl) ⟨Nat.le_refl _, Nat.le_refl _⟩ dX4_add_34 (fun r17 u17 H locs h hP hD hS => ?_)
      refine lv_iload_n hx hb dX4_add_37 rfl (lv_at hl 3 rfl) ?_
      refine lv_icmp_ne (tgt := 42) hx hb dX4_add_38 (by decide) (fun c18 => ?_) (fun c18 => ?_)
      · have h := And.right h c18
        refine va_gets hx hb hX.2.2.1 hS hown hw2 (fun _ h9 => h9) dX4_add_42 ?_
        refine lv_iload_n hx hb dX4_add_45 rfl (lv_at hl 2 rfl) ?_
        obtain ⟨hi19, h⟩ := h
        refine va_ti (v := .int (kS x1.toNatClampNeg)) hx hb hX.2.2.2 hS hi19 rfl dX4_add_46 ?_
        refine lv_aload_n hx hb dX4_add_47 rfl (lv_at hl 1 rfl) ?_
        refine va_get (ci := 2) (C := RX4) (T := TX4) (N := 8) (v := .ref q_p0_amount) hx hb hts hinX4 hown hK hP 0 rfl rfl 3 (by decide) hw0 (fun _ h9 => h9) rfl dX4_add_48 ?_
        refine lv_iload_n hx hb dX4_add_51 rfl (lv_at hl 2 rfl) ?_
        obtain ⟨hi20, h⟩ := h
        refine va_iald hx hb hK hP 1 0 rfl rfl hi20 dX4_add_52 ?_
        refine lv_iadd hx hb dX4_add_53 ?_
        refine lv_istore (lv' := [(4, .int ((kS x1.toNatClampNeg) + (f_p0_amount x1.toNatClampNeg))), (3, .int r1), (0, .ref q_p0), (1, .int x1), (2, .int x2)]) hx hb dX4_add_54 hl (by decide) rfl (fun ls hl => ?_)
        exact k56 r1 ((kS x1.toNatClampNeg) + (f_p0_amount x1.toNatClampNeg)) f_p0_found f_p0_amount _ _ _ h hP hD hS (lv_sub hl [2, 3, 4, 1, 0] rfl)
      · have h := And.left h c18
        exact z_vret hQ hx hb hr hlocks hK (f_p0_found, f_p0_amount) h hP hD hS dX4_add_41
theorem hd_X4_addRings : yX4_addRings.cls = RX4 ∧ yX4_addRings.cls ≠ "java/lang/invoke/MethodHandle" ∧ yX4_addRings.cls ≠ "java/lang/invoke/VarHandle" ∧ (parseMethodDescriptor yX4_addRings.desc).map (fun d => d.parameters.length) = some 2 := by decide +kernel
set_option maxHeartbeats 4000000 in
set_option maxRecDepth 100000 in
theorem c_X4_addRings (l : Launch) (D : va_G) (cI cJ cB : ClassId) (tU tM tS : Nat) (q_p0 q_p2 q_p0_pieces q_p0_amount q_p0_found q_p0_loop q_p0_lessRows q_p0_leads q_p2_led q_p2_turnedLed : Nat) (sz : Nat) (x1 : Int32) (v_p2_size : Int32) (f_p2_led : (Nat → Int32)) (f_p0_amount : (Nat → Int32)) (f_p0_found : (Nat → Int32)) (v_p0_soughtSize : Int32) (v_p0_soughtMap : Int32) (v_p2_way : Int32) (P : (Nat → Int32) → (Nat → Int32) → Prop) (h : M_X4_addRings x1 v_p2_size f_p2_led f_p0_amount f_p0_found P) : Met l yX4_addRings wsX4_addRings ({ frames := 3, cells := 0, slots := 0, locals := 72 }) (va_Pc [.ref q_p0, .int x1, .ref q_p2] (zPre D cI cJ cB tU tM tS [(q_p0, .inr (2, [.int v_p0_soughtSize, .int v_p0_soughtMap, .ref q_p0_pieces, .ref q_p0_amount, .ref q_p0_found, .ref q_p0_loop, .ref q_p0_lessRows, .ref q_p0_leads])), (q_p2, .inr (0, [.int v_p2_size, .int v_p2_way, .ref q_p2_led, .ref q_p2_turnedLed])), (q_p0_amount, .inl (cI, 7, .inl f_p0_amount)), (q_p0_found, .inl (cI, 153, .inl f_p0_found)), (q_p2_led, .inl (cI, 8, .inl f_p2_led))] sz)) (va_Qv (fun u : (Nat → Int32) × (Nat → Int32) => P u.1 u.2) (fun u t => zPost D cI cJ cB (va_A [(q_p0, .inr (2, [.int v_p0_soughtSize, .int v_p0_soughtMap, .ref q_p0_pieces, .ref q_p0_amount, .ref q_p0_found, .ref q_p0_loop, .ref q_p0_lessRows, .ref q_p0_leads])), (q_p2, .inr (0, [.int v_p2_size, .int v_p2_way, .ref q_p2_led, .ref q_p2_turnedLed])), (q_p0_amount, .inl (cI, 7, .inl f_p0_amount)), (q_p0_found, .inl (cI, 153, .inl f_p0_found)), (q_p2_led, .inl (cI, 8, .inl f_p2_led))] sz) [(q_p0, .inr (2, [.int v_p0_soughtSize, .int v_p0_soughtMap, .ref q_p0_pieces, .ref q_p0_amount, .ref q_p0_found, .ref q_p0_loop, .ref q_p0_lessRows, .ref q_p0_leads])), (q_p2, .inr (0, [.int v_p2_size, .int v_p2_way, .ref q_p2_led, .ref q_p2_turnedLed])), (q_p0_amount, .inl (cI, 7, .inl u.2)), (q_p0_found, .inl (cI, 153, .inl u.1)), (q_p2_led, .inl (cI, 8, .inl f_p2_led))] t) (va_A [(q_p0, .inr (2, [.int v_p0_soughtSize, .int v_p0_soughtMap, .ref q_p0_pieces, .ref q_p0_amount, .ref q_p0_found, .ref q_p0_loop, .ref q_p0_lessRows, .ref q_p0_leads])), (q_p2, .inr (0, [.int v_p2_size, .int v_p2_way, .ref q_p2_led, .ref q_p2_turnedLed])), (q_p0_amount, .inl (cI, 7, .inl f_p0_amount)), (q_p0_found, .inl (cI, 153, .inl f_p0_found)), (q_p2_led, .inl (cI, 8, .inl f_p2_led))] sz)) 0 0 (va_A [(q_p0, .inr (2, [.int v_p0_soughtSize, .int v_p0_soughtMap, .ref q_p0_pieces, .ref q_p0_amount, .ref q_p0_found, .ref q_p0_loop, .ref q_p0_lessRows, .ref q_p0_leads])), (q_p2, .inr (0, [.int v_p2_size, .int v_p2_way, .ref q_p2_led, .ref q_p2_turnedLed])), (q_p0_amount, .inl (cI, 7, .inl f_p0_amount)), (q_p0_found, .inl (cI, 153, .inl f_p0_found)), (q_p2_led, .inl (cI, 8, .inl f_p2_led))] sz) := by
  refine z_met (cc := cX4_addRings) (maxL := 5) (ret := none) (Qc := fun A => va_Qv (fun u : (Nat → Int32) × (Nat → Int32) => P u.1 u.2) (fun u t => zPost D cI cJ cB A [(q_p0, .inr (2, [.int v_p0_soughtSize, .int v_p0_soughtMap, .ref q_p0_pieces, .ref q_p0_amount, .ref q_p0_found, .ref q_p0_loop, .ref q_p0_lessRows, .ref q_p0_leads])), (q_p2, .inr (0, [.int v_p2_size, .int v_p2_way, .ref q_p2_led, .ref q_p2_turnedLed])), (q_p0_amount, .inl (cI, 7, .inl u.2)), (q_p0_found, .inl (cI, 153, .inl u.1)), (q_p2_led, .inl (cI, 8, .inl f_p2_led))] t) A) (by decide) rfl [.ref q_p0, .int x1, .ref q_p2] (Nat.le_of_ble_eq_true rfl) ?_
  intro p e s m args below meth c A hx hb hr hts hown hml hlocks hA hX hK H locs hP hD hS ls hl Q hQ
  have hown : s.vm.findClass RX4 = some m.cls := hown
  have hl : lv_has ls 5 [(0, .ref q_p0), (1, .int x1), (2, .ref q_p2)] := hl
  have hw0 : (Cond.fieldLink RX4 46 "ForcedRings$Chart" "size" "I").before args s = true := hts _ (List.mem_of_getElem? (i := 1) rfl)
  have hinX0 : ∀ w ∈ wsX00, w ∈ wsX4_addRings := fun _ h => List.mem_cons_of_mem _ (List.mem_append_left _ (List.mem_append_right _ h))
  refine lv_iconst (v := (0 : Int32)) hx hb dX4_addRings_0 (by decide) ?_
  refine lv_istore_n (lv' := [(3, .int (0 : Int32)), (0, .ref q_p0), (1, .int x1), (2, .ref q_p2)]) hx hb dX4_addRings_1 rfl hl (by decide) rfl (fun ls hl => ?_)
  have k2 : ∀  (n2 : Nat) (l3 : Int32) (f_p0_found : (Nat → Int32)) (f_p0_amount : (Nat → Int32)) (H : Heap) (locs : List Loc) (ls : Array Slot), LP3 (M_X4_addRings_l2 x1 v_p2_size f_p2_led P ) n2 l3 f_p0_found f_p0_amount → va_P D vwCl [(q_p0, .inr (2, [.int v_p0_soughtSize, .int v_p0_soughtMap, .ref q_p0_pieces, .ref q_p0_amount, .ref q_p0_found, .ref q_p0_loop, .ref q_p0_lessRows, .ref q_p0_leads])), (q_p2, .inr (0, [.int v_p2_size, .int v_p2_way, .ref q_p2_led, .ref q_p2_turnedLed])), (q_p0_amount, .inl (cI, 7, .inl f_p0_amount)), (q_p0_found, .inl (cI, 153, .inl f_p0_found)), (q_p2_led, .inl (cI, 8, .inl f_p2_led))] H → va_D A [(q_p0, .inr (2, [.int v_p0_soughtSize, .int v_p0_soughtMap, .ref q_p0_pieces, .ref q_p0_amount, .ref q_p0_found, .ref q_p0_loop, .ref q_p0_lessRows, .ref q_p0_leads])), (q_p2, .inr (0, [.int v_p2_size, .int v_p2_way, .ref q_p2_led, .ref q_p2_turnedLed])), (q_p0_amount, .inl (cI, 7, .inl f_p0_amount)), (q_p0_found, .inl (cI, 153, .inl f_p0_found)), (q_p2_led, .inl (cI, 8, .inl f_p2_led))] → va_S A s.heap H locs → lv_has ls 5 [(0, .ref q_p0), (1, .int x1), (2, .ref q_p2), (3, .int l3)] → W p l e { frames := 3, cells := 0, slots := 0, locals := 72 } s m args below meth c H locs 0 0 Q (F0 m 2 ls []) := by
    intro  n2
    induction n2 with
    | zero =>
      intro l3 f_p0_found f_p0_amount H locs ls h
      exact False.elim h
    | succ n2 ih2 =>
      intro l3 f_p0_found f_p0_amount H locs ls h hP hD hS hl
      have h : M_X4_addRings_l2 x1 v_p2_size f_p2_led P  (LP3 (M_X4_addRings_l2 x1 v_p2_size f_p2_led P ) n2) l3 f_p0_found f_p0_amount := h
      refine lv_iload_n hx hb dX4_addRings_2 rfl (lv_at hl 3 rfl) ?_
      refine lv_aload_n hx hb dX4_addRings_3 rfl (lv_at hl 2 rfl) ?_
      refine va_get (ci := 0) (C := RX0) (T := TX0) (N := 4) (v := .int v_p2_size) hx hb hts hinX0 hown hK hP 1 rfl rfl 0 (by decide) hw0 (fun _ h9 => h9) rfl dX4_addRings_4 ?_
      refine lv_icmp_ge (tgt := 51) hx hb dX4_addRings_7 (by decide) (fun c1 => ?_) (fun c1 => ?_)
      · have h := And.left h c1
        exact z_vret hQ hx hb hr hlocks hK (f_p0_found, f_p0_amount) h hP hD hS dX4_addRings_51
      · have h := And.right h c1
        refine lv_aload_n hx hb dX4_addRings_10 rfl (lv_at hl 2 rfl) ?_
        refine lv_iload_n hx hb dX4_addRings_11 rfl (lv_at hl 3 rfl) ?_
        refine z_cVi (As := [.int l3]) (rest := []) (wr := [(q_p0, .inr (2, [.int v_p0_soughtSize, .int v_p0_soughtMap, .ref q_p0_pieces, .ref q_p0_amount, .ref q_p0_found, .ref q_p0_loop, .ref q_p0_lessRows, .ref q_p0_leads])), (q_p0_amount, .inl (cI, 7, .inl f_p0_amount)), (q_p0_found, .inl (cI, 153, .inl f_p0_found))]) (wn := fun u => [(q_p0, .inr (2, [.int v_p0_soughtSize, .int v_p0_soughtMap, .ref q_p0_pieces, .ref q_p0_amount, .ref q_p0_found, .ref q_p0_loop, .ref q_p0_lessRows, .ref q_p0_leads])), (q_p2, .inr (0, [.int v_p2_size, .int v_p2_way, .ref q_p2_led, .ref q_p2_turnedLed])), (q_p0_amount, .inl (cI, 7, .inl f_p0_amount)), (q_p0_found, .inl (cI, 153, .inl f_p0_found)), (q_p2_led, .inl (cI, 8, .inl f_p2_led))]) (c_X0_ringBits l D cI cJ cB tU tM tS q_p2 q_p2_led q_p2_turnedLed H.size l3 v_p2_size f_p2_led v_p2_way _ h) ⟨hx, hb, hml, hown, hts⟩ (cwV 1 hts gX4_addRings_X0_ringBits rfl rfl rfl hd_X0_ringBits ⟨Nat.le_of_ble_eq_true rfl, Nat.le_of_ble_eq_true rfl⟩) hX hK hP hD hS hA [1, 4] [0, 2, 3] [0, 3, 1, 2, 4] rfl rfl rfl (by decide) (fun _ => rfl) (q0 := 1) (ci := 0) rfl rfl rfl hl.1 rfl (Nat.le_of_ble_eq_true rfl) ⟨Nat.le_refl _, Nat.le_refl _⟩ dX4_addRings_12 (fun r2 u2 H locs h hP hD hS => ?_)
        refine lv_istore (lv' := [(4, .int r2), (0, .ref q_p0), (1, .int x1), (2, .ref q_p2), (3, .int l3)]) hx hb dX4_addRings_15 hl (by decide) rfl (fun ls hl => ?_)
        refine lv_aload_n hx hb dX4_addRings_17 rfl (lv_at hl 3 rfl) ?_
        refine lv_iload_n hx hb dX4_addRings_18 rfl (lv_at hl 4 rfl) ?_
        refine z_cVi (As := [.int l3]) (rest := []) (wr := [(q_p0, .inr (2, [.int v_p0_soughtSize, .int v_p0_soughtMap, .ref q_p0_pieces, .ref q_p0_amount, .ref q_p0_found, .ref q_p0_loop, .ref q_p0_lessRows, .ref q_p0_leads])), (q_p0_amount, .inl (cI, 7, .inl f_p0_amount)), (q_p0_found, .inl (cI, 153, .inl f_p0_found))]) (wn := fun u => [(q_p0, .inr (2, [.int v_p0_soughtSize, .int v_p0_soughtMap, .ref q_p0_pieces, .ref q_p0_amount, .ref q_p0_found, .ref q_p0_loop, .ref q_p0_lessRows, .ref q_p0_leads])), (q_p2, .inr (0, [.int v_p2_size, .int v_p2_way, .ref q_p2_led, .ref q_p2_turnedLed])), (q_p0_amount, .inl (cI, 7, .inl f_p0_amount)), (q_p0_found, .inl (cI, 153, .inl f_p0_found)), (q_p2_led, .inl (cI, 8, .inl f_p2_led))]) (c_X0_isLeastOfRing l D cI cJ cB tU tM tS q_p2 q_p2_led q_p2_turnedLed H.size l3 v_p2_size f_p2_led v_p2_way _ h) ⟨hx, hb, hml, hown, hts⟩ (cwV 1 hts gX4_addRings_X0_isLeastOfRing rfl rfl rfl hd_X0_isLeastOfRing ⟨Nat.le_of_ble_eq_true rfl, Nat.le_of_ble_eq_true rfl⟩) hX hK hP hD hS hA [1, 4] [0, 2, 3] [0, 3, 1, 2, 4] rfl rfl rfl (by decide) (fun _ => rfl) (q0 := 1) (ci := 0) rfl rfl rfl hl.1 rfl (Nat.le_of_ble_eq_true rfl) ⟨Nat.le_refl _, Nat.le_refl _⟩ dX4_addRings_19 (fun r3 u3 H locs h hP hD hS => ?_)
        refine lv_if_eq (tgt := 45) hx hb dX4_addRings_22 (by decide) (fun c4 => ?_) (fun c4 => ?_)
        · have h := And.left h c4
          refine lv_iinc (v := (l3 + 1)) (lv' := [(3, .int (l3 + 1)), (4, .int r2), (0, .ref q_p0), (1, .int x1), (2, .ref q_p2)]) hx hb dX4_addRings_45 hl (k := 4) rfl rfl (by decide) rfl (fun ls hl => ?_)
          refine lv_goto (tgt := 2) hx hb dX4_addRings_48 (by decide) ?_
          exact ih2 (l3 + 1) f_p0_found f_p0_amount _ _ _ h hP hD hS (lv_sub hl [2, 3, 4, 0] rfl)
        · have h := And.right h c4
          refine lv_iload hx hb dX4_addRings_25 (lv_at hl 0 rfl) ?_
          refine z_cSi (As := [.int r2]) (rest := []) (wr := [(q_p0, .inr (2, [.int v_p0_soughtSize, .int v_p0_soughtMap, .ref q_p0_pieces, .ref q_p0_amount, .ref q_p0_found, .ref q_p0_loop, .ref q_p0_lessRows, .ref q_p0_leads])), (q_p2, .inr (0, [.int v_p2_size, .int v_p2_way, .ref q_p2_led, .ref q_p2_turnedLed])), (q_p0_amount, .inl (cI, 7, .inl f_p0_amount)), (q_p0_found, .inl (cI, 153, .inl f_p0_found)), (q_p2_led, .inl (cI, 8, .inl f_p2_led))]) (wn := fun u => [(q_p0, .inr (2, [.int v_p0_soughtSize, .int v_p0_soughtMap, .ref q_p0_pieces, .ref q_p0_amount, .ref q_p0_found, .ref q_p0_loop, .ref q_p0_lessRows, .ref q_p0_leads])), (q_p2, .inr (0, [.int v_p2_size, .int v_p2_way, .ref q_p2_led, .ref q_p2_turnedLed])), (q_p0_amount, .inl (cI, 7, .inl f_p0_amount)), (q_p0_found, .inl (cI, 153, .inl f_p0_found)), (q_p2_led, .inl (cI, 8, .inl f_p2_led))]) (c_J6_bitCount_0f7a4 l D cI cJ cB tU tM tS  H.size r2 _ h) ⟨hx, hb, hml, hown, hts⟩ (va_cwS 1 hts gX4_addRings_J6_bitCount_0f7a4 rfl rfl rfl hd_J6_bitCount_0f7a4.2 ⟨Nat.le_of_ble_eq_true rfl, Nat.le_of_ble_eq_true rfl⟩) hX hK hP hD hS hA [] [0, 1, 2, 3, 4] [0, 1, 2, 3, 4] rfl rfl rfl (by decide) (fun _ => rfl) rfl hl.1 rfl (Nat.le_of_ble_eq_true rfl) ⟨Nat.le_refl _, Nat.le_refl _⟩ dX4_addRings_27 (fun r5 u5 H locs h hP hD hS => ?_)
          refine lv_iload_n hx hb dX4_addRings_30 rfl (lv_at hl 2 rfl) ?_
          refine lv_icmp_ne (tgt := 45) hx hb dX4_addRings_31 (by decide) (fun c6 => ?_) (fun c6 => ?_)
          · have h := And.right h c6
            refine lv_iinc (v := (l3 + 1)) (lv' := [(3, .int (l3 + 1)), (4, .int r2), (0, .ref q_p0), (1, .int x1), (2, .ref q_p2)]) hx hb dX4_addRings_45 hl (k := 4) rfl rfl (by decide) rfl (fun ls hl => ?_)
            refine lv_goto (tgt := 2) hx hb dX4_addRings_48 (by decide) ?_
            exact ih2 (l3 + 1) f_p0_found f_p0_amount _ _ _ h hP hD hS (lv_sub hl [2, 3, 4, 0] rfl)
          · have h := And.left h c6
            refine lv_aload_n hx hb dX4_addRings_34 rfl (lv_at hl 1 rfl) ?_
            refine lv_iload_n hx hb dX4_addRings_35 rfl (lv_at hl 2 rfl) ?_
            refine lv_iload hx hb dX4_addRings_36 (lv_at hl 0 rfl) ?_
            refine lv_aload_n hx hb dX4_addRings_38 rfl (lv_at hl 3 rfl) ?_
            refine z_cSi (As := [.int r2, .ref q_p2]) (rest := [.int x1, .ref q_p0]) (wr := [(q_p0, .inr (2, [.int v_p0_soughtSize, .int v_p0_soughtMap, .ref q_p0_pieces, .ref q_p0_amount, .ref q_p0_found, .ref q_p0_loop, .ref q_p0_lessRows, .ref q_p0_leads])), (q_p0_amount, .inl (cI, 7, .inl f_p0_amount)), (q_p0_found, .inl (cI, 153, .inl f_p0_found))]) (wn := fun u => [(q_p0, .inr (2, [.int v_p0_soughtSize, .int v_p0_soughtMap, .ref q_p0_pieces, .ref q_p0_amount, .ref q_p0_found, .ref q_p0_loop, .ref q_p0_lessRows, .ref q_p0_leads])), (q_p2, .inr (0, [.int v_p2_size, .int v_p2_way, .ref q_p2_led, .ref q_p2_turnedLed])), (q_p0_amount, .inl (cI, 7, .inl f_p0_amount)), (q_p0_found, .inl (cI, 153, .inl f_p0_found)), (q_p2_led, .inl (cI, 8, .inl f_p2_led))]) (c_X4_ringFigures l D cI cJ cB tU tM tS q_p2 q_p2_led q_p2_turnedLed H.size r2 v_p2_size f_p2_led v_p2_way _ h) ⟨hx, hb, hml, hown, hts⟩ (va_cwS 2 hts gX4_addRings_X4_ringFigures rfl rfl rfl hd_X4_ringFigures.2 ⟨Nat.le_of_ble_eq_true rfl, Nat.le_of_ble_eq_true rfl⟩) hX hK hP hD hS hA [1, 4] [0, 2, 3] [0, 3, 1, 2, 4] rfl rfl rfl (by decide) (fun _ => rfl) rfl hl.1 rfl (Nat.le_of_ble_eq_true rfl) ⟨Nat.le_refl _, Nat.le_refl _⟩ dX4_addRings_39 (fun r7 u7 H locs h hP hD hS => ?_)
            refine z_cVv (As := [.int x1, .int r7]) (rest := []) (wr := [(q_p2, .inr (0, [.int v_p2_size, .int v_p2_way, .ref q_p2_led, .ref q_p2_turnedLed])), (q_p2_led, .inl (cI, 8, .inl f_p2_led))]) (wn := fun u => [(q_p0, .inr (2, [.int v_p0_soughtSize, .int v_p0_soughtMap, .ref q_p0_pieces, .ref q_p0_amount, .ref q_p0_found, .ref q_p0_loop, .ref q_p0_lessRows, .ref q_p0_leads])), (q_p2, .inr (0, [.int v_p2_size, .int v_p2_way, .ref q_p2_led, .ref q_p2_turnedLed])), (q_p0_amount, .inl (cI, 7, .inl u.2)), (q_p0_found, .inl (cI, 153, .inl u.1)), (q_p2_led, .inl (cI, 8, .inl f_p2_led))]) (c_X4_add l D cI cJ cB tU tM tS q_p0 q_p0_pieces q_p0_amount q_p0_found q_p0_loop q_p0_lessRows q_p0_leads H.size x1 r7 f_p0_amount f_p0_found v_p0_soughtSize v_p0_soughtMap _ h) ⟨hx, hb, hml, hown, hts⟩ (cwV 2 hts gX4_addRings_X4_add rfl rfl rfl hd_X4_add ⟨Nat.le_of_ble_eq_true rfl, Nat.le_of_ble_eq_true rfl⟩) hX hK hP hD hS hA [0, 2, 3] [1, 4] [2, 0, 3, 4, 1] rfl rfl rfl (by decide) (fun _ => rfl) (q0 := 0) (ci := 2) rfl rfl rfl hl.1 rfl (Nat.le_of_ble_eq_true rfl) ⟨Nat.le_refl _, Nat.le_refl _⟩ dX4_addRings_42 (fun u8 H locs h hP hD hS => ?_)
            obtain ⟨m8_0, m8_1⟩ := u8
            refine lv_iinc (v := (l3 + 1)) (lv' := [(3, .int (l3 + 1)), (4, .int r2), (0, .ref q_p0), (1, .int x1), (2, .ref q_p2)]) hx hb dX4_addRings_45 hl (k := 4) rfl rfl (by decide) rfl (fun ls hl => ?_)
            refine lv_goto (tgt := 2) hx hb dX4_addRings_48 (by decide) ?_
            exact ih2 (l3 + 1) m8_0 m8_1 _ _ _ h hP hD hS (lv_sub hl [2, 3, 4, 0] rfl)
  obtain ⟨n2, h⟩ := h
  exact k2  n2 (0 : Int32) f_p0_found f_p0_amount _ _ _ h hP hD hS (lv_sub hl [1, 2, 3, 0] rfl)
theorem hd_X5_isCovered : yX5_isCovered.cls = RX5 ∧ yX5_isCovered.cls ≠ "java/lang/invoke/MethodHandle" ∧ yX5_isCovered.cls ≠ "java/lang/invoke/VarHandle" ∧ (parseMethodDescriptor yX5_isCovered.desc).map (fun d => d.parameters.length) = some 2 := by decide +kernel
set_option maxHeartbeats 4000000 in
set_option maxRecDepth 100000 in
theorem c_X5_isCovered (l : Launch) (D : va_G) (cI cJ cB : ClassId) (tU tM tS : Nat) (q_p0 q_p0_covered q_p0_counts q_p0_earlier q_p0_closed q_p0_simple q_p0_coefficients : Nat) (sz : Nat) (x1 : Int32) (x2 : Int32) (f_p0_covered : (Nat → Int32)) (v_p0_number : Int32) (v_p0_falling : Int32) (P : Int32 → Prop) (h : M_X5_isCovered x1 x2 f_p0_covered P) : Met l yX5_isCovered wsX5_isCovered ({ frames := 0, cells := 0, slots := 0, locals := 0 }) (va_Pc [.ref q_p0, .int x1, .int x2] (zPre D cI cJ cB tU tM tS [(q_p0, .inr (3, [.int v_p0_number, .int v_p0_falling, .ref q_p0_covered, .ref q_p0_counts, .ref q_p0_earlier, .ref q_p0_closed, .ref q_p0_simple, .ref q_p0_coefficients])), (q_p0_covered, .inl (cI, 8, .inl f_p0_covered))] sz)) (va_Qi (fun (r : Int32) (u : Unit) => P r ) (fun u t => zPost D cI cJ cB (va_A [(q_p0, .inr (3, [.int v_p0_number, .int v_p0_falling, .ref q_p0_covered, .ref q_p0_counts, .ref q_p0_earlier, .ref q_p0_closed, .ref q_p0_simple, .ref q_p0_coefficients])), (q_p0_covered, .inl (cI, 8, .inl f_p0_covered))] sz) [(q_p0, .inr (3, [.int v_p0_number, .int v_p0_falling, .ref q_p0_covered, .ref q_p0_counts, .ref q_p0_earlier, .ref q_p0_closed, .ref q_p0_simple, .ref q_p0_coefficients])), (q_p0_covered, .inl (cI, 8, .inl f_p0_covered))] t) (va_A [(q_p0, .inr (3, [.int v_p0_number, .int v_p0_falling, .ref q_p0_covered, .ref q_p0_counts, .ref q_p0_earlier, .ref q_p0_closed, .ref q_p0_simple, .ref q_p0_coefficients])), (q_p0_covered, .inl (cI, 8, .inl f_p0_covered))] sz)) 0 0 (va_A [(q_p0, .inr (3, [.int v_p0_number, .int v_p0_falling, .ref q_p0_covered, .ref q_p0_counts, .ref q_p0_earlier, .ref q_p0_closed, .ref q_p0_simple, .ref q_p0_coefficients])), (q_p0_covered, .inl (cI, 8, .inl f_p0_covered))] sz) := by
  refine z_met (cc := cX5_isCovered) (maxL := 3) (ret := (some .boolean)) (Qc := fun A => va_Qi (fun (r : Int32) (u : Unit) => P r ) (fun u t => zPost D cI cJ cB A [(q_p0, .inr (3, [.int v_p0_number, .int v_p0_falling, .ref q_p0_covered, .ref q_p0_counts, .ref q_p0_earlier, .ref q_p0_closed, .ref q_p0_simple, .ref q_p0_coefficients])), (q_p0_covered, .inl (cI, 8, .inl f_p0_covered))] t) A) (by decide) rfl [.ref q_p0, .int x1, .int x2] (Nat.le_of_ble_eq_true rfl) ?_
  intro p e s m args below meth c A hx hb hr hts hown hml hlocks hA hX hK H locs hP hD hS ls hl Q hQ
  have hown : s.vm.findClass RX5 = some m.cls := hown
  have hl : lv_has ls 3 [(0, .ref q_p0), (1, .int x1), (2, .int x2)] := hl
  have hw0 : (Cond.fieldLink RX5 9 "ForcedRings$Pieces" "covered" "[I").before args s = true := hts _ (List.mem_of_getElem? (i := 1) rfl)
  have hinX5 : ∀ w ∈ wsX50, w ∈ wsX5_isCovered := fun _ h => List.mem_cons_of_mem _ (List.mem_append_right _ h)
  refine lv_aload_n hx hb dX5_isCovered_0 rfl (lv_at hl 0 rfl) ?_
  refine va_get (ci := 3) (C := RX5) (T := TX5) (N := 8) (v := .ref q_p0_covered) hx hb hts hinX5 hown hK hP 0 rfl rfl 2 (by decide) hw0 (fun _ h9 => h9) rfl dX5_isCovered_1 ?_
  refine lv_iload_n hx hb dX5_isCovered_4 rfl (lv_at hl 2 rfl) ?_
  obtain ⟨hi1, h⟩ := h
  refine va_iald hx hb hK hP 1 0 rfl rfl hi1 dX5_isCovered_5 ?_
  refine lv_iload_n hx hb dX5_isCovered_6 rfl (lv_at hl 1 rfl) ?_
  refine lv_ishr hx hb dX5_isCovered_7 ?_
  refine lv_iconst (v := (1 : Int32)) hx hb dX5_isCovered_8 (by decide) ?_
  refine lv_iand hx hb dX5_isCovered_9 ?_
  refine lv_iconst (v := (1 : Int32)) hx hb dX5_isCovered_10 (by decide) ?_
  refine lv_icmp_ne (tgt := 18) hx hb dX5_isCovered_11 (by decide) (fun c2 => ?_) (fun c2 => ?_)
  · have h := And.right h c2
    refine lv_iconst (v := (0 : Int32)) hx hb dX5_isCovered_18 (by decide) ?_
    exact z_iret hQ hx hb hr rfl hlocks hK () h hP hD hS dX5_isCovered_19
  · have h := And.left h c2
    refine lv_iconst (v := (1 : Int32)) hx hb dX5_isCovered_14 (by decide) ?_
    refine lv_goto (tgt := 19) hx hb dX5_isCovered_15 (by decide) ?_
    exact z_iret hQ hx hb hr rfl hlocks hK () h hP hD hS dX5_isCovered_19
theorem hd_X4_firstOther : yX4_firstOther.cls = RX4 ∧ yX4_firstOther.cls ≠ "java/lang/invoke/MethodHandle" ∧ yX4_firstOther.cls ≠ "java/lang/invoke/VarHandle" ∧ (parseMethodDescriptor yX4_firstOther.desc).map (fun d => d.parameters.length) = some 3 := by decide +kernel
set_option maxHeartbeats 4000000 in
set_option maxRecDepth 100000 in
theorem c_X4_firstOther (l : Launch) (D : va_G) (cI cJ cB : ClassId) (tU tM tS : Nat) (q_p0 q_p0_pieces q_p0_amount q_p0_found q_p0_loop q_p0_lessRows q_p0_leads : Nat) (sz : Nat) (x1 : Int32) (x2 : Int32) (x3 : Int32) (f_p0_loop : (Nat → Int32)) (v_p0_soughtSize : Int32) (v_p0_soughtMap : Int32) (P : Int32 → Prop) (h : M_X4_firstOther x1 x2 x3 f_p0_loop P) : Met l yX4_firstOther wsX4_firstOther ({ frames := 0, cells := 0, slots := 0, locals := 0 }) (va_Pc [.ref q_p0, .int x1, .int x2, .int x3] (zPre D cI cJ cB tU tM tS [(q_p0, .inr (2, [.int v_p0_soughtSize, .int v_p0_soughtMap, .ref q_p0_pieces, .ref q_p0_amount, .ref q_p0_found, .ref q_p0_loop, .ref q_p0_lessRows, .ref q_p0_leads])), (q_p0_loop, .inl (cI, 12, .inl f_p0_loop))] sz)) (va_Qi (fun (r : Int32) (u : Unit) => P r ) (fun u t => zPost D cI cJ cB (va_A [(q_p0, .inr (2, [.int v_p0_soughtSize, .int v_p0_soughtMap, .ref q_p0_pieces, .ref q_p0_amount, .ref q_p0_found, .ref q_p0_loop, .ref q_p0_lessRows, .ref q_p0_leads])), (q_p0_loop, .inl (cI, 12, .inl f_p0_loop))] sz) [(q_p0, .inr (2, [.int v_p0_soughtSize, .int v_p0_soughtMap, .ref q_p0_pieces, .ref q_p0_amount, .ref q_p0_found, .ref q_p0_loop, .ref q_p0_lessRows, .ref q_p0_leads])), (q_p0_loop, .inl (cI, 12, .inl f_p0_loop))] t) (va_A [(q_p0, .inr (2, [.int v_p0_soughtSize, .int v_p0_soughtMap, .ref q_p0_pieces, .ref q_p0_amount, .ref q_p0_found, .ref q_p0_loop, .ref q_p0_lessRows, .ref q_p0_leads])), (q_p0_loop, .inl (cI, 12, .inl f_p0_loop))] sz)) 0 0 (va_A [(q_p0, .inr (2, [.int v_p0_soughtSize, .int v_p0_soughtMap, .ref q_p0_pieces, .ref q_p0_amount, .ref q_p0_found, .ref q_p0_loop, .ref q_p0_lessRows, .ref q_p0_leads])), (q_p0_loop, .inl (cI, 12, .inl f_p0_loop))] sz) := by
  refine z_met (cc := cX4_firstOther) (maxL := 5) (ret := (some .int)) (Qc := fun A => va_Qi (fun (r : Int32) (u : Unit) => P r ) (fun u t => zPost D cI cJ cB A [(q_p0, .inr (2, [.int v_p0_soughtSize, .int v_p0_soughtMap, .ref q_p0_pieces, .ref q_p0_amount, .ref q_p0_found, .ref q_p0_loop, .ref q_p0_lessRows, .ref q_p0_leads])), (q_p0_loop, .inl (cI, 12, .inl f_p0_loop))] t) A) (by decide) rfl [.ref q_p0, .int x1, .int x2, .int x3] (Nat.le_of_ble_eq_true rfl) ?_
  intro p e s m args below meth c A hx hb hr hts hown hml hlocks hA hX hK H locs hP hD hS ls hl Q hQ
  have hown : s.vm.findClass RX4 = some m.cls := hown
  have hl : lv_has ls 5 [(0, .ref q_p0), (1, .int x1), (2, .int x2), (3, .int x3)] := hl
  have hw0 : (Cond.fieldLink RX4 23 "ForcedRings$Patterns" "loop" "[I").before args s = true := hts _ (List.mem_of_getElem? (i := 1) rfl)
  have hinX4 : ∀ w ∈ wsX40, w ∈ wsX4_firstOther := fun _ h => List.mem_cons_of_mem _ (List.mem_append_right _ h)
  refine lv_iconst (v := (0 : Int32)) hx hb dX4_firstOther_0 (by decide) ?_
  refine lv_istore (lv' := [(4, .int (0 : Int32)), (0, .ref q_p0), (1, .int x1), (2, .int x2), (3, .int x3)]) hx hb dX4_firstOther_1 hl (by decide) rfl (fun ls hl => ?_)
  have k3 : ∀  (n3 : Nat) (l4 : Int32) (H : Heap) (locs : List Loc) (ls : Array Slot), LP1 (M_X4_firstOther_l3 x1 x2 x3 f_p0_loop P ) n3 l4 → va_P D vwCl [(q_p0, .inr (2, [.int v_p0_soughtSize, .int v_p0_soughtMap, .ref q_p0_pieces, .ref q_p0_amount, .ref q_p0_found, .ref q_p0_loop, .ref q_p0_lessRows, .ref q_p0_leads])), (q_p0_loop, .inl (cI, 12, .inl f_p0_loop))] H → va_D A [(q_p0, .inr (2, [.int v_p0_soughtSize, .int v_p0_soughtMap, .ref q_p0_pieces, .ref q_p0_amount, .ref q_p0_found, .ref q_p0_loop, .ref q_p0_lessRows, .ref q_p0_leads])), (q_p0_loop, .inl (cI, 12, .inl f_p0_loop))] → va_S A s.heap H locs → lv_has ls 5 [(0, .ref q_p0), (1, .int x1), (2, .int x2), (3, .int x3), (4, .int l4)] → W p l e { frames := 0, cells := 0, slots := 0, locals := 0 } s m args below meth c H locs 0 0 Q (F0 m 3 ls []) := by
    intro  n3
    induction n3 with
    | zero =>
      intro l4 H locs ls h
      exact False.elim h
    | succ n3 ih3 =>
      intro l4 H locs ls h hP hD hS hl
      have h : M_X4_firstOther_l3 x1 x2 x3 f_p0_loop P  (LP1 (M_X4_firstOther_l3 x1 x2 x3 f_p0_loop P ) n3) l4 := h
      refine lv_iload hx hb dX4_firstOther_3 (lv_at hl 4 rfl) ?_
      refine lv_iload_n hx hb dX4_firstOther_5 rfl (lv_at hl 1 rfl) ?_
      refine lv_icmp_ge (tgt := 36) hx hb dX4_firstOther_6 (by decide) (fun c1 => ?_) (fun c1 => ?_)
      · have h := And.left h c1
        refine lv_iload hx hb dX4_firstOther_36 (lv_at hl 4 rfl) ?_
        exact z_iret hQ hx hb hr rfl hlocks hK () h hP hD hS dX4_firstOther_38
      · have h := And.right h c1
        refine lv_aload_n hx hb dX4_firstOther_9 rfl (lv_at hl 0 rfl) ?_
        refine va_get (ci := 2) (C := RX4) (T := TX4) (N := 8) (v := .ref q_p0_loop) hx hb hts hinX4 hown hK hP 0 rfl rfl 5 (by decide) hw0 (fun _ h9 => h9) rfl dX4_firstOther_10 ?_
        refine lv_iload_n hx hb dX4_firstOther_13 rfl (lv_at hl 2 rfl) ?_
        refine lv_iload hx hb dX4_firstOther_14 (lv_at hl 4 rfl) ?_
        refine lv_iadd hx hb dX4_firstOther_16 ?_
        obtain ⟨hi2, h⟩ := h
        refine va_iald hx hb hK hP 1 0 rfl rfl hi2 dX4_firstOther_17 ?_
        refine lv_aload_n hx hb dX4_firstOther_18 rfl (lv_at hl 0 rfl) ?_
        refine va_get (ci := 2) (C := RX4) (T := TX4) (N := 8) (v := .ref q_p0_loop) hx hb hts hinX4 hown hK hP 0 rfl rfl 5 (by decide) hw0 (fun _ h9 => h9) rfl dX4_firstOther_19 ?_
        refine lv_iload_n hx hb dX4_firstOther_22 rfl (lv_at hl 3 rfl) ?_
        refine lv_iload hx hb dX4_firstOther_23 (lv_at hl 4 rfl) ?_
        refine lv_iadd hx hb dX4_firstOther_25 ?_
        obtain ⟨hi3, h⟩ := h
        refine va_iald hx hb hK hP 1 0 rfl rfl hi3 dX4_firstOther_26 ?_
        refine lv_icmp_ne (tgt := 36) hx hb dX4_firstOther_27 (by decide) (fun c4 => ?_) (fun c4 => ?_)
        · have h := And.right h c4
          refine lv_iload hx hb dX4_firstOther_36 (lv_at hl 4 rfl) ?_
          exact z_iret hQ hx hb hr rfl hlocks hK () h hP hD hS dX4_firstOther_38
        · have h := And.left h c4
          refine lv_iinc (v := (l4 + 1)) (lv' := [(4, .int (l4 + 1)), (0, .ref q_p0), (1, .int x1), (2, .int x2), (3, .int x3)]) hx hb dX4_firstOther_30 hl (k := 4) rfl rfl (by decide) rfl (fun ls hl => ?_)
          refine lv_goto (tgt := 3) hx hb dX4_firstOther_33 (by decide) ?_
          exact ih3 (l4 + 1) _ _ _ h hP hD hS (lv_sub hl [1, 2, 3, 4, 0] rfl)
  obtain ⟨n3, h⟩ := h
  exact k3  n3 (0 : Int32) _ _ _ h hP hD hS (lv_sub hl [1, 2, 3, 4, 0] rfl)
theorem hd_X5_falls : yX5_falls.cls = RX5 ∧ yX5_falls.cls ≠ "java/lang/invoke/MethodHandle" ∧ yX5_falls.cls ≠ "java/lang/invoke/VarHandle" ∧ (parseMethodDescriptor yX5_falls.desc).map (fun d => d.parameters.length) = some 1 := by decide +kernel
set_option maxHeartbeats 4000000 in
set_option maxRecDepth 100000 in
theorem c_X5_falls (l : Launch) (D : va_G) (cI cJ cB : ClassId) (tU tM tS : Nat) (q_p0 q_p0_covered q_p0_counts q_p0_earlier q_p0_closed q_p0_simple q_p0_coefficients : Nat) (sz : Nat) (x1 : Int32) (v_p0_falling : Int32) (v_p0_number : Int32) (P : Int32 → Prop) (h : M_X5_falls x1 v_p0_falling P) : Met l yX5_falls wsX5_falls ({ frames := 0, cells := 0, slots := 0, locals := 0 }) (va_Pc [.ref q_p0, .int x1] (zPre D cI cJ cB tU tM tS [(q_p0, .inr (3, [.int v_p0_number, .int v_p0_falling, .ref q_p0_covered, .ref q_p0_counts, .ref q_p0_earlier, .ref q_p0_closed, .ref q_p0_simple, .ref q_p0_coefficients]))] sz)) (va_Qi (fun (r : Int32) (u : Unit) => P r ) (fun u t => zPost D cI cJ cB (va_A [(q_p0, .inr (3, [.int v_p0_number, .int v_p0_falling, .ref q_p0_covered, .ref q_p0_counts, .ref q_p0_earlier, .ref q_p0_closed, .ref q_p0_simple, .ref q_p0_coefficients]))] sz) [(q_p0, .inr (3, [.int v_p0_number, .int v_p0_falling, .ref q_p0_covered, .ref q_p0_counts, .ref q_p0_earlier, .ref q_p0_closed, .ref q_p0_simple, .ref q_p0_coefficients]))] t) (va_A [(q_p0, .inr (3, [.int v_p0_number, .int v_p0_falling, .ref q_p0_covered, .ref q_p0_counts, .ref q_p0_earlier, .ref q_p0_closed, .ref q_p0_simple, .ref q_p0_coefficients]))] sz)) 0 0 (va_A [(q_p0, .inr (3, [.int v_p0_number, .int v_p0_falling, .ref q_p0_covered, .ref q_p0_counts, .ref q_p0_earlier, .ref q_p0_closed, .ref q_p0_simple, .ref q_p0_coefficients]))] sz) := by
  refine z_met (cc := cX5_falls) (maxL := 2) (ret := (some .boolean)) (Qc := fun A => va_Qi (fun (r : Int32) (u : Unit) => P r ) (fun u t => zPost D cI cJ cB A [(q_p0, .inr (3, [.int v_p0_number, .int v_p0_falling, .ref q_p0_covered, .ref q_p0_counts, .ref q_p0_earlier, .ref q_p0_closed, .ref q_p0_simple, .ref q_p0_coefficients]))] t) A) (by decide) rfl [.ref q_p0, .int x1] (Nat.le_of_ble_eq_true rfl) ?_
  intro p e s m args below meth c A hx hb hr hts hown hml hlocks hA hX hK H locs hP hD hS ls hl Q hQ
  have hown : s.vm.findClass RX5 = some m.cls := hown
  have hl : lv_has ls 2 [(0, .ref q_p0), (1, .int x1)] := hl
  have hw0 : (Cond.fieldLink RX5 41 "ForcedRings$Pieces" "falling" "I").before args s = true := hts _ (List.mem_of_getElem? (i := 1) rfl)
  have hinX5 : ∀ w ∈ wsX50, w ∈ wsX5_falls := fun _ h => List.mem_cons_of_mem _ (List.mem_append_right _ h)
  refine lv_aload_n hx hb dX5_falls_0 rfl (lv_at hl 0 rfl) ?_
  refine va_get (ci := 3) (C := RX5) (T := TX5) (N := 8) (v := .int v_p0_falling) hx hb hts hinX5 hown hK hP 0 rfl rfl 1 (by decide) hw0 (fun _ h9 => h9) rfl dX5_falls_1 ?_
  refine lv_iload_n hx hb dX5_falls_4 rfl (lv_at hl 1 rfl) ?_
  refine lv_ishr hx hb dX5_falls_5 ?_
  refine lv_iconst (v := (1 : Int32)) hx hb dX5_falls_6 (by decide) ?_
  refine lv_iand hx hb dX5_falls_7 ?_
  refine lv_iconst (v := (1 : Int32)) hx hb dX5_falls_8 (by decide) ?_
  refine lv_icmp_ne (tgt := 16) hx hb dX5_falls_9 (by decide) (fun c1 => ?_) (fun c1 => ?_)
  · have h := And.right h c1
    refine lv_iconst (v := (0 : Int32)) hx hb dX5_falls_16 (by decide) ?_
    exact z_iret hQ hx hb hr rfl hlocks hK () h hP hD hS dX5_falls_17
  · have h := And.left h c1
    refine lv_iconst (v := (1 : Int32)) hx hb dX5_falls_12 (by decide) ?_
    refine lv_goto (tgt := 17) hx hb dX5_falls_13 (by decide) ?_
    exact z_iret hQ hx hb hr rfl hlocks hK () h hP hD hS dX5_falls_17
theorem hd_X4_isLess : yX4_isLess.cls = RX4 ∧ yX4_isLess.cls ≠ "java/lang/invoke/MethodHandle" ∧ yX4_isLess.cls ≠ "java/lang/invoke/VarHandle" ∧ (parseMethodDescriptor yX4_isLess.desc).map (fun d => d.parameters.length) = some 3 := by decide +kernel
set_option maxHeartbeats 4000000 in
set_option maxRecDepth 100000 in
theorem c_X4_isLess (l : Launch) (D : va_G) (cI cJ cB : ClassId) (tU tM tS : Nat) (q_p0 q_p0_pieces q_p0_amount q_p0_found q_p0_loop q_p0_lessRows q_p0_leads q_p0_pieces_covered q_p0_pieces_counts q_p0_pieces_earlier q_p0_pieces_closed q_p0_pieces_simple q_p0_pieces_coefficients : Nat) (sz : Nat) (x1 : Int32) (x2 : Int32) (x3 : Int32) (f_p0_loop : (Nat → Int32)) (v_p0_pieces_falling : Int32) (v_p0_soughtSize : Int32) (v_p0_soughtMap : Int32) (v_p0_pieces_number : Int32) (P : Int32 → Prop) (h : M_X4_isLess x1 x2 x3 f_p0_loop v_p0_pieces_falling P) : Met l yX4_isLess wsX4_isLess ({ frames := 1, cells := 0, slots := 0, locals := 21 }) (va_Pc [.ref q_p0, .int x1, .int x2, .int x3] (zPre D cI cJ cB tU tM tS [(q_p0, .inr (2, [.int v_p0_soughtSize, .int v_p0_soughtMap, .ref q_p0_pieces, .ref q_p0_amount, .ref q_p0_found, .ref q_p0_loop, .ref q_p0_lessRows, .ref q_p0_leads])), (q_p0_loop, .inl (cI, 12, .inl f_p0_loop)), (q_p0_pieces, .inr (3, [.int v_p0_pieces_number, .int v_p0_pieces_falling, .ref q_p0_pieces_covered, .ref q_p0_pieces_counts, .ref q_p0_pieces_earlier, .ref q_p0_pieces_closed, .ref q_p0_pieces_simple, .ref q_p0_pieces_coefficients]))] sz)) (va_Qi (fun (r : Int32) (u : Unit) => P r ) (fun u t => zPost D cI cJ cB (va_A [(q_p0, .inr (2, [.int v_p0_soughtSize, .int v_p0_soughtMap, .ref q_p0_pieces, .ref q_p0_amount, .ref q_p0_found, .ref q_p0_loop, .ref q_p0_lessRows, .ref q_p0_leads])), (q_p0_loop, .inl (cI, 12, .inl f_p0_loop)), (q_p0_pieces, .inr (3, [.int v_p0_pieces_number, .int v_p0_pieces_falling, .ref q_p0_pieces_covered, .ref q_p0_pieces_counts, .ref q_p0_pieces_earlier, .ref q_p0_pieces_closed, .ref q_p0_pieces_simple, .ref q_p0_pieces_coefficients]))] sz) [(q_p0, .inr (2, [.int v_p0_soughtSize, .int v_p0_soughtMap, .ref q_p0_pieces, .ref q_p0_amount, .ref q_p0_found, .ref q_p0_loop, .ref q_p0_lessRows, .ref q_p0_leads])), (q_p0_loop, .inl (cI, 12, .inl f_p0_loop)), (q_p0_pieces, .inr (3, [.int v_p0_pieces_number, .int v_p0_pieces_falling, .ref q_p0_pieces_covered, .ref q_p0_pieces_counts, .ref q_p0_pieces_earlier, .ref q_p0_pieces_closed, .ref q_p0_pieces_simple, .ref q_p0_pieces_coefficients]))] t) (va_A [(q_p0, .inr (2, [.int v_p0_soughtSize, .int v_p0_soughtMap, .ref q_p0_pieces, .ref q_p0_amount, .ref q_p0_found, .ref q_p0_loop, .ref q_p0_lessRows, .ref q_p0_leads])), (q_p0_loop, .inl (cI, 12, .inl f_p0_loop)), (q_p0_pieces, .inr (3, [.int v_p0_pieces_number, .int v_p0_pieces_falling, .ref q_p0_pieces_covered, .ref q_p0_pieces_counts, .ref q_p0_pieces_earlier, .ref q_p0_pieces_closed, .ref q_p0_pieces_simple, .ref q_p0_pieces_coefficients]))] sz)) 0 0 (va_A [(q_p0, .inr (2, [.int v_p0_soughtSize, .int v_p0_soughtMap, .ref q_p0_pieces, .ref q_p0_amount, .ref q_p0_found, .ref q_p0_loop, .ref q_p0_lessRows, .ref q_p0_leads])), (q_p0_loop, .inl (cI, 12, .inl f_p0_loop)), (q_p0_pieces, .inr (3, [.int v_p0_pieces_number, .int v_p0_pieces_falling, .ref q_p0_pieces_covered, .ref q_p0_pieces_counts, .ref q_p0_pieces_earlier, .ref q_p0_pieces_closed, .ref q_p0_pieces_simple, .ref q_p0_pieces_coefficients]))] sz) := by
  refine z_met (cc := cX4_isLess) (maxL := 6) (ret := (some .boolean)) (Qc := fun A => va_Qi (fun (r : Int32) (u : Unit) => P r ) (fun u t => zPost D cI cJ cB A [(q_p0, .inr (2, [.int v_p0_soughtSize, .int v_p0_soughtMap, .ref q_p0_pieces, .ref q_p0_amount, .ref q_p0_found, .ref q_p0_loop, .ref q_p0_lessRows, .ref q_p0_leads])), (q_p0_loop, .inl (cI, 12, .inl f_p0_loop)), (q_p0_pieces, .inr (3, [.int v_p0_pieces_number, .int v_p0_pieces_falling, .ref q_p0_pieces_covered, .ref q_p0_pieces_counts, .ref q_p0_pieces_earlier, .ref q_p0_pieces_closed, .ref q_p0_pieces_simple, .ref q_p0_pieces_coefficients]))] t) A) (by decide) rfl [.ref q_p0, .int x1, .int x2, .int x3] (Nat.le_of_ble_eq_true rfl) ?_
  intro p e s m args below meth c A hx hb hr hts hown hml hlocks hA hX hK H locs hP hD hS ls hl Q hQ
  have hown : s.vm.findClass RX4 = some m.cls := hown
  have hl : lv_has ls 6 [(0, .ref q_p0), (1, .int x1), (2, .int x2), (3, .int x3)] := hl
  have hw0 : (Cond.fieldLink RX4 23 "ForcedRings$Patterns" "loop" "[I").before args s = true := hts _ (List.mem_of_getElem? (i := 2) rfl)
  have hw1 : (Cond.fieldLink RX4 10 "ForcedRings$Patterns" "pieces" "LForcedRings$Pieces;").before args s = true := hts _ (List.mem_of_getElem? (i := 1) rfl)
  have hinX4 : ∀ w ∈ wsX40, w ∈ wsX4_isLess := fun _ h => List.mem_cons_of_mem _ (List.mem_append_left _ (List.mem_append_right _ h))
  refine lv_iconst (v := (1 : Int32)) hx hb dX4_isLess_0 (by decide) ?_
  refine lv_istore (lv' := [(4, .int (1 : Int32)), (0, .ref q_p0), (1, .int x1), (2, .int x2), (3, .int x3)]) hx hb dX4_isLess_1 hl (by decide) rfl (fun ls hl => ?_)
  refine lv_iconst (v := (0 : Int32)) hx hb dX4_isLess_3 (by decide) ?_
  refine lv_istore (lv' := [(5, .int (0 : Int32)), (4, .int (1 : Int32)), (0, .ref q_p0), (1, .int x1), (2, .int x2), (3, .int x3)]) hx hb dX4_isLess_4 hl (by decide) rfl (fun ls hl => ?_)
  have k6 : ∀  (n6 : Nat) (l4 : Int32) (l5 : Int32) (H : Heap) (locs : List Loc) (ls : Array Slot), LP2 (M_X4_isLess_l6 x1 x2 x3 f_p0_loop v_p0_pieces_falling P ) n6 l4 l5 → va_P D vwCl [(q_p0, .inr (2, [.int v_p0_soughtSize, .int v_p0_soughtMap, .ref q_p0_pieces, .ref q_p0_amount, .ref q_p0_found, .ref q_p0_loop, .ref q_p0_lessRows, .ref q_p0_leads])), (q_p0_loop, .inl (cI, 12, .inl f_p0_loop)), (q_p0_pieces, .inr (3, [.int v_p0_pieces_number, .int v_p0_pieces_falling, .ref q_p0_pieces_covered, .ref q_p0_pieces_counts, .ref q_p0_pieces_earlier, .ref q_p0_pieces_closed, .ref q_p0_pieces_simple, .ref q_p0_pieces_coefficients]))] H → va_D A [(q_p0, .inr (2, [.int v_p0_soughtSize, .int v_p0_soughtMap, .ref q_p0_pieces, .ref q_p0_amount, .ref q_p0_found, .ref q_p0_loop, .ref q_p0_lessRows, .ref q_p0_leads])), (q_p0_loop, .inl (cI, 12, .inl f_p0_loop)), (q_p0_pieces, .inr (3, [.int v_p0_pieces_number, .int v_p0_pieces_falling, .ref q_p0_pieces_covered, .ref q_p0_pieces_counts, .ref q_p0_pieces_earlier, .ref q_p0_pieces_closed, .ref q_p0_pieces_simple, .ref q_p0_pieces_coefficients]))] → va_S A s.heap H locs → lv_has ls 6 [(0, .ref q_p0), (1, .int x1), (2, .int x2), (3, .int x3), (4, .int l4), (5, .int l5)] → W p l e { frames := 1, cells := 0, slots := 0, locals := 21 } s m args below meth c H locs 0 0 Q (F0 m 6 ls []) := by
    intro  n6
    induction n6 with
    | zero =>
      intro l4 l5 H locs ls h
      exact False.elim h
    | succ n6 ih6 =>
      intro l4 l5 H locs ls h hP hD hS hl
      have h : M_X4_isLess_l6 x1 x2 x3 f_p0_loop v_p0_pieces_falling P  (LP2 (M_X4_isLess_l6 x1 x2 x3 f_p0_loop v_p0_pieces_falling P ) n6) l4 l5 := h
      refine lv_iload hx hb dX4_isLess_6 (lv_at hl 5 rfl) ?_
      refine lv_iload_n hx hb dX4_isLess_8 rfl (lv_at hl 3 rfl) ?_
      refine lv_icmp_ge (tgt := 49) hx hb dX4_isLess_9 (by decide) (fun c1 => ?_) (fun c1 => ?_)
      · have h := And.left h c1
        refine lv_iload hx hb dX4_isLess_49 (lv_at hl 4 rfl) ?_
        refine lv_aload_n hx hb dX4_isLess_51 rfl (lv_at hl 0 rfl) ?_
        refine va_get (ci := 2) (C := RX4) (T := TX4) (N := 8) (v := .ref q_p0_loop) hx hb hts hinX4 hown hK hP 0 rfl rfl 5 (by decide) hw0 (fun _ h9 => h9) rfl dX4_isLess_52 ?_
        refine lv_iload_n hx hb dX4_isLess_55 rfl (lv_at hl 1 rfl) ?_
        refine lv_iload_n hx hb dX4_isLess_56 rfl (lv_at hl 3 rfl) ?_
        refine lv_iadd hx hb dX4_isLess_57 ?_
        obtain ⟨hi2, h⟩ := h
        refine va_iald hx hb hK hP 1 0 rfl rfl hi2 dX4_isLess_58 ?_
        refine lv_aload_n hx hb dX4_isLess_59 rfl (lv_at hl 0 rfl) ?_
        refine va_get (ci := 2) (C := RX4) (T := TX4) (N := 8) (v := .ref q_p0_loop) hx hb hts hinX4 hown hK hP 0 rfl rfl 5 (by decide) hw0 (fun _ h9 => h9) rfl dX4_isLess_60 ?_
        refine lv_iload_n hx hb dX4_isLess_63 rfl (lv_at hl 2 rfl) ?_
        refine lv_iload_n hx hb dX4_isLess_64 rfl (lv_at hl 3 rfl) ?_
        refine lv_iadd hx hb dX4_isLess_65 ?_
        obtain ⟨hi3, h⟩ := h
        refine va_iald hx hb hK hP 1 0 rfl rfl hi3 dX4_isLess_66 ?_
        have k75 : ∀ (s0 : Int32) (s1 : Int32) (H : Heap) (locs : List Loc) (ls : Array Slot), M_X4_isLess_b75 x1 x2 x3 f_p0_loop v_p0_pieces_falling P s0 s1 → va_P D vwCl [(q_p0, .inr (2, [.int v_p0_soughtSize, .int v_p0_soughtMap, .ref q_p0_pieces, .ref q_p0_amount, .ref q_p0_found, .ref q_p0_loop, .ref q_p0_lessRows, .ref q_p0_leads])), (q_p0_loop, .inl (cI, 12, .inl f_p0_loop)), (q_p0_pieces, .inr (3, [.int v_p0_pieces_number, .int v_p0_pieces_falling, .ref q_p0_pieces_covered, .ref q_p0_pieces_counts, .ref q_p0_pieces_earlier, .ref q_p0_pieces_closed, .ref q_p0_pieces_simple, .ref q_p0_pieces_coefficients]))] H → va_D A [(q_p0, .inr (2, [.int v_p0_soughtSize, .int v_p0_soughtMap, .ref q_p0_pieces, .ref q_p0_amount, .ref q_p0_found, .ref q_p0_loop, .ref q_p0_lessRows, .ref q_p0_leads])), (q_p0_loop, .inl (cI, 12, .inl f_p0_loop)), (q_p0_pieces, .inr (3, [.int v_p0_pieces_number, .int v_p0_pieces_falling, .ref q_p0_pieces_covered, .ref q_p0_pieces_counts, .ref q_p0_pieces_earlier, .ref q_p0_pieces_closed, .ref q_p0_pieces_simple, .ref q_p0_pieces_coefficients]))] → va_S A s.heap H locs → lv_has ls 6 [] → W p l e { frames := 1, cells := 0, slots := 0, locals := 21 } s m args below meth c H locs 0 0 Q (F0 m 75 ls [.int s1, .int s0]) := by
          intro s0 s1 H locs ls h hP hD hS hl
          refine lv_icmp_ne (tgt := 82) hx hb dX4_isLess_75 (by decide) (fun c4 => ?_) (fun c4 => ?_)
          · have h := And.right h c4
            refine lv_iconst (v := (0 : Int32)) hx hb dX4_isLess_82 (by decide) ?_
            exact z_iret hQ hx hb hr rfl hlocks hK () h hP hD hS dX4_isLess_83
          · have h := And.left h c4
            refine lv_iconst (v := (1 : Int32)) hx hb dX4_isLess_78 (by decide) ?_
            refine lv_goto (tgt := 83) hx hb dX4_isLess_79 (by decide) ?_
            exact z_iret hQ hx hb hr rfl hlocks hK () h hP hD hS dX4_isLess_83
        refine lv_icmp_ge (tgt := 74) hx hb dX4_isLess_67 (by decide) (fun c5 => ?_) (fun c5 => ?_)
        · have h := And.left h c5
          refine lv_iconst (v := (0 : Int32)) hx hb dX4_isLess_74 (by decide) ?_
          exact k75 l4 (0 : Int32) _ _ _ h hP hD hS (lv_sub hl [] rfl)
        · have h := And.right h c5
          refine lv_iconst (v := (1 : Int32)) hx hb dX4_isLess_70 (by decide) ?_
          refine lv_goto (tgt := 75) hx hb dX4_isLess_71 (by decide) ?_
          exact k75 l4 (1 : Int32) _ _ _ h hP hD hS (lv_sub hl [] rfl)
      · have h := And.right h c1
        refine lv_aload_n hx hb dX4_isLess_12 rfl (lv_at hl 0 rfl) ?_
        refine va_get (ci := 2) (C := RX4) (T := TX4) (N := 8) (v := .ref q_p0_pieces) hx hb hts hinX4 hown hK hP 0 rfl rfl 2 (by decide) hw1 (fun _ h9 => h9) rfl dX4_isLess_13 ?_
        refine lv_aload_n hx hb dX4_isLess_16 rfl (lv_at hl 0 rfl) ?_
        refine va_get (ci := 2) (C := RX4) (T := TX4) (N := 8) (v := .ref q_p0_loop) hx hb hts hinX4 hown hK hP 0 rfl rfl 5 (by decide) hw0 (fun _ h9 => h9) rfl dX4_isLess_17 ?_
        refine lv_iload_n hx hb dX4_isLess_20 rfl (lv_at hl 1 rfl) ?_
        refine lv_iload hx hb dX4_isLess_21 (lv_at hl 5 rfl) ?_
        refine lv_iadd hx hb dX4_isLess_23 ?_
        obtain ⟨hi6, h⟩ := h
        refine va_iald hx hb hK hP 1 0 rfl rfl hi6 dX4_isLess_24 ?_
        refine z_cVi (As := [.int (f_p0_loop (x1 + l5).toNatClampNeg)]) (rest := []) (wr := [(q_p0, .inr (2, [.int v_p0_soughtSize, .int v_p0_soughtMap, .ref q_p0_pieces, .ref q_p0_amount, .ref q_p0_found, .ref q_p0_loop, .ref q_p0_lessRows, .ref q_p0_leads])), (q_p0_loop, .inl (cI, 12, .inl f_p0_loop))]) (wn := fun u => [(q_p0, .inr (2, [.int v_p0_soughtSize, .int v_p0_soughtMap, .ref q_p0_pieces, .ref q_p0_amount, .ref q_p0_found, .ref q_p0_loop, .ref q_p0_lessRows, .ref q_p0_leads])), (q_p0_loop, .inl (cI, 12, .inl f_p0_loop)), (q_p0_pieces, .inr (3, [.int v_p0_pieces_number, .int v_p0_pieces_falling, .ref q_p0_pieces_covered, .ref q_p0_pieces_counts, .ref q_p0_pieces_earlier, .ref q_p0_pieces_closed, .ref q_p0_pieces_simple, .ref q_p0_pieces_coefficients]))]) (c_X5_falls l D cI cJ cB tU tM tS q_p0_pieces q_p0_pieces_covered q_p0_pieces_counts q_p0_pieces_earlier q_p0_pieces_closed q_p0_pieces_simple q_p0_pieces_coefficients H.size (f_p0_loop (x1 + l5).toNatClampNeg) v_p0_pieces_falling v_p0_pieces_number _ h) ⟨hx, hb, hml, hown, hts⟩ (cwV 1 hts gX4_isLess_X5_falls rfl rfl rfl hd_X5_falls ⟨Nat.le_of_ble_eq_true rfl, Nat.le_of_ble_eq_true rfl⟩) hX hK hP hD hS hA [2] [0, 1] [0, 1, 2] rfl rfl rfl (by decide) (fun _ => rfl) (q0 := 2) (ci := 3) rfl rfl rfl hl.1 rfl (Nat.le_of_ble_eq_true rfl) ⟨Nat.le_refl _, Nat.le_refl _⟩ dX4_isLess_25 (fun r7 u7 H locs h hP hD hS => ?_)
        refine lv_if_eq (tgt := 43) hx hb dX4_isLess_28 (by decide) (fun c8 => ?_) (fun c8 => ?_)
        · have h := And.left h c8
          refine lv_iinc (v := (l5 + 1)) (lv' := [(5, .int (l5 + 1)), (0, .ref q_p0), (1, .int x1), (2, .int x2), (3, .int x3), (4, .int l4)]) hx hb dX4_isLess_43 hl (k := 5) rfl rfl (by decide) rfl (fun ls hl => ?_)
          refine lv_goto (tgt := 6) hx hb dX4_isLess_46 (by decide) ?_
          exact ih6 l4 (l5 + 1) _ _ _ h hP hD hS (lv_sub hl [1, 2, 3, 4, 5, 0] rfl)
        · have h := And.right h c8
          refine lv_iload hx hb dX4_isLess_31 (lv_at hl 4 rfl) ?_
          refine lv_if_ne (tgt := 40) hx hb dX4_isLess_33 (by decide) (fun c9 => ?_) (fun c9 => ?_)
          · have h := And.right h c9
            refine lv_iconst (v := (0 : Int32)) hx hb dX4_isLess_40 (by decide) ?_
            refine lv_istore (lv' := [(4, .int (0 : Int32)), (0, .ref q_p0), (1, .int x1), (2, .int x2), (3, .int x3), (5, .int l5)]) hx hb dX4_isLess_41 hl (by decide) rfl (fun ls hl => ?_)
            refine lv_iinc (v := (l5 + 1)) (lv' := [(5, .int (l5 + 1)), (4, .int (0 : Int32)), (0, .ref q_p0), (1, .int x1), (2, .int x2), (3, .int x3)]) hx hb dX4_isLess_43 hl (k := 5) rfl rfl (by decide) rfl (fun ls hl => ?_)
            refine lv_goto (tgt := 6) hx hb dX4_isLess_46 (by decide) ?_
            exact ih6 (0 : Int32) (l5 + 1) _ _ _ h hP hD hS (lv_sub hl [2, 3, 4, 5, 1, 0] rfl)
          · have h := And.left h c9
            refine lv_iconst (v := (1 : Int32)) hx hb dX4_isLess_36 (by decide) ?_
            refine lv_goto (tgt := 41) hx hb dX4_isLess_37 (by decide) ?_
            refine lv_istore (lv' := [(4, .int (1 : Int32)), (0, .ref q_p0), (1, .int x1), (2, .int x2), (3, .int x3), (5, .int l5)]) hx hb dX4_isLess_41 hl (by decide) rfl (fun ls hl => ?_)
            refine lv_iinc (v := (l5 + 1)) (lv' := [(5, .int (l5 + 1)), (4, .int (1 : Int32)), (0, .ref q_p0), (1, .int x1), (2, .int x2), (3, .int x3)]) hx hb dX4_isLess_43 hl (k := 5) rfl rfl (by decide) rfl (fun ls hl => ?_)
            refine lv_goto (tgt := 6) hx hb dX4_isLess_46 (by decide) ?_
            exact ih6 (1 : Int32) (l5 + 1) _ _ _ h hP hD hS (lv_sub hl [2, 3, 4, 5, 1, 0] rfl)
  obtain ⟨n6, h⟩ := h
  exact k6  n6 (1 : Int32) (0 : Int32) _ _ _ h hP hD hS (lv_sub hl [2, 3, 4, 5, 1, 0] rfl)
theorem hd_X4_numberRows : yX4_numberRows.cls = RX4 ∧ yX4_numberRows.cls ≠ "java/lang/invoke/MethodHandle" ∧ yX4_numberRows.cls ≠ "java/lang/invoke/VarHandle" ∧ (parseMethodDescriptor yX4_numberRows.desc).map (fun d => d.parameters.length) = some 1 := by decide +kernel
set_option maxHeartbeats 4000000 in
set_option maxRecDepth 100000 in
theorem c_X4_numberRows (l : Launch) (D : va_G) (cI cJ cB : ClassId) (tU tM tS : Nat) (q_p0 q_p0_pieces q_p0_amount q_p0_found q_p0_loop q_p0_lessRows q_p0_leads q_p0_pieces_covered q_p0_pieces_counts q_p0_pieces_earlier q_p0_pieces_closed q_p0_pieces_simple q_p0_pieces_coefficients : Nat) (sz : Nat) (x1 : Int32) (f_p0_loop : (Nat → Int32)) (v_p0_pieces_falling : Int32) (f_p0_lessRows : (Nat → Int32)) (v_p0_soughtSize : Int32) (v_p0_soughtMap : Int32) (v_p0_pieces_number : Int32) (P : Int32 → (Nat → Int32) → Prop) (h : M_X4_numberRows x1 f_p0_loop v_p0_pieces_falling f_p0_lessRows P) : Met l yX4_numberRows wsX4_numberRows ({ frames := 2, cells := 0, slots := 0, locals := 46 }) (va_Pc [.ref q_p0, .int x1] (zPre D cI cJ cB tU tM tS [(q_p0, .inr (2, [.int v_p0_soughtSize, .int v_p0_soughtMap, .ref q_p0_pieces, .ref q_p0_amount, .ref q_p0_found, .ref q_p0_loop, .ref q_p0_lessRows, .ref q_p0_leads])), (q_p0_loop, .inl (cI, 12, .inl f_p0_loop)), (q_p0_pieces, .inr (3, [.int v_p0_pieces_number, .int v_p0_pieces_falling, .ref q_p0_pieces_covered, .ref q_p0_pieces_counts, .ref q_p0_pieces_earlier, .ref q_p0_pieces_closed, .ref q_p0_pieces_simple, .ref q_p0_pieces_coefficients])), (q_p0_lessRows, .inl (cI, 6, .inl f_p0_lessRows))] sz)) (va_Qi (fun (r : Int32) (u : (Nat → Int32)) => P r u) (fun u t => zPost D cI cJ cB (va_A [(q_p0, .inr (2, [.int v_p0_soughtSize, .int v_p0_soughtMap, .ref q_p0_pieces, .ref q_p0_amount, .ref q_p0_found, .ref q_p0_loop, .ref q_p0_lessRows, .ref q_p0_leads])), (q_p0_loop, .inl (cI, 12, .inl f_p0_loop)), (q_p0_pieces, .inr (3, [.int v_p0_pieces_number, .int v_p0_pieces_falling, .ref q_p0_pieces_covered, .ref q_p0_pieces_counts, .ref q_p0_pieces_earlier, .ref q_p0_pieces_closed, .ref q_p0_pieces_simple, .ref q_p0_pieces_coefficients])), (q_p0_lessRows, .inl (cI, 6, .inl f_p0_lessRows))] sz) [(q_p0, .inr (2, [.int v_p0_soughtSize, .int v_p0_soughtMap, .ref q_p0_pieces, .ref q_p0_amount, .ref q_p0_found, .ref q_p0_loop, .ref q_p0_lessRows, .ref q_p0_leads])), (q_p0_loop, .inl (cI, 12, .inl f_p0_loop)), (q_p0_pieces, .inr (3, [.int v_p0_pieces_number, .int v_p0_pieces_falling, .ref q_p0_pieces_covered, .ref q_p0_pieces_counts, .ref q_p0_pieces_earlier, .ref q_p0_pieces_closed, .ref q_p0_pieces_simple, .ref q_p0_pieces_coefficients])), (q_p0_lessRows, .inl (cI, 6, .inl u))] t) (va_A [(q_p0, .inr (2, [.int v_p0_soughtSize, .int v_p0_soughtMap, .ref q_p0_pieces, .ref q_p0_amount, .ref q_p0_found, .ref q_p0_loop, .ref q_p0_lessRows, .ref q_p0_leads])), (q_p0_loop, .inl (cI, 12, .inl f_p0_loop)), (q_p0_pieces, .inr (3, [.int v_p0_pieces_number, .int v_p0_pieces_falling, .ref q_p0_pieces_covered, .ref q_p0_pieces_counts, .ref q_p0_pieces_earlier, .ref q_p0_pieces_closed, .ref q_p0_pieces_simple, .ref q_p0_pieces_coefficients])), (q_p0_lessRows, .inl (cI, 6, .inl f_p0_lessRows))] sz)) 0 0 (va_A [(q_p0, .inr (2, [.int v_p0_soughtSize, .int v_p0_soughtMap, .ref q_p0_pieces, .ref q_p0_amount, .ref q_p0_found, .ref q_p0_loop, .ref q_p0_lessRows, .ref q_p0_leads])), (q_p0_loop, .inl (cI, 12, .inl f_p0_loop)), (q_p0_pieces, .inr (3, [.int v_p0_pieces_number, .int v_p0_pieces_falling, .ref q_p0_pieces_covered, .ref q_p0_pieces_counts, .ref q_p0_pieces_earlier, .ref q_p0_pieces_closed, .ref q_p0_pieces_simple, .ref q_p0_pieces_coefficients])), (q_p0_lessRows, .inl (cI, 6, .inl f_p0_lessRows))] sz) := by
  refine z_met (cc := cX4_numberRows) (maxL := 5) (ret := (some .boolean)) (Qc := fun A => va_Qi (fun (r : Int32) (u : (Nat → Int32)) => P r u) (fun u t => zPost D cI cJ cB A [(q_p0, .inr (2, [.int v_p0_soughtSize, .int v_p0_soughtMap, .ref q_p0_pieces, .ref q_p0_amount, .ref q_p0_found, .ref q_p0_loop, .ref q_p0_lessRows, .ref q_p0_leads])), (q_p0_loop, .inl (cI, 12, .inl f_p0_loop)), (q_p0_pieces, .inr (3, [.int v_p0_pieces_number, .int v_p0_pieces_falling, .ref q_p0_pieces_covered, .ref q_p0_pieces_counts, .ref q_p0_pieces_earlier, .ref q_p0_pieces_closed, .ref q_p0_pieces_simple, .ref q_p0_pieces_coefficients])), (q_p0_lessRows, .inl (cI, 6, .inl u))] t) A) (by decide) rfl [.ref q_p0, .int x1] (Nat.le_of_ble_eq_true rfl) ?_
  intro p e s m args below meth c A hx hb hr hts hown hml hlocks hA hX hK H locs hP hD hS ls hl Q hQ
  have hown : s.vm.findClass RX4 = some m.cls := hown
  have hl : lv_has ls 5 [(0, .ref q_p0), (1, .int x1)] := hl
  have hw0 : (Cond.fieldLink RX4 26 "ForcedRings$Patterns" "lessRows" "[I").before args s = true := hts _ (List.mem_of_getElem? (i := 1) rfl)
  have hinX4 : ∀ w ∈ wsX40, w ∈ wsX4_numberRows := fun _ h => List.mem_cons_of_mem _ (List.mem_append_left _ (List.mem_append_right _ h))
  refine lv_iconst (v := (0 : Int32)) hx hb dX4_numberRows_0 (by decide) ?_
  refine lv_istore_n (lv' := [(2, .int (0 : Int32)), (0, .ref q_p0), (1, .int x1)]) hx hb dX4_numberRows_1 rfl hl (by decide) rfl (fun ls hl => ?_)
  have k2 : ∀  (n2 : Nat) (l2 : Int32) (f_p0_lessRows : (Nat → Int32)) (H : Heap) (locs : List Loc) (ls : Array Slot), LP2 (M_X4_numberRows_l2 x1 f_p0_loop v_p0_pieces_falling P ) n2 l2 f_p0_lessRows → va_P D vwCl [(q_p0, .inr (2, [.int v_p0_soughtSize, .int v_p0_soughtMap, .ref q_p0_pieces, .ref q_p0_amount, .ref q_p0_found, .ref q_p0_loop, .ref q_p0_lessRows, .ref q_p0_leads])), (q_p0_loop, .inl (cI, 12, .inl f_p0_loop)), (q_p0_pieces, .inr (3, [.int v_p0_pieces_number, .int v_p0_pieces_falling, .ref q_p0_pieces_covered, .ref q_p0_pieces_counts, .ref q_p0_pieces_earlier, .ref q_p0_pieces_closed, .ref q_p0_pieces_simple, .ref q_p0_pieces_coefficients])), (q_p0_lessRows, .inl (cI, 6, .inl f_p0_lessRows))] H → va_D A [(q_p0, .inr (2, [.int v_p0_soughtSize, .int v_p0_soughtMap, .ref q_p0_pieces, .ref q_p0_amount, .ref q_p0_found, .ref q_p0_loop, .ref q_p0_lessRows, .ref q_p0_leads])), (q_p0_loop, .inl (cI, 12, .inl f_p0_loop)), (q_p0_pieces, .inr (3, [.int v_p0_pieces_number, .int v_p0_pieces_falling, .ref q_p0_pieces_covered, .ref q_p0_pieces_counts, .ref q_p0_pieces_earlier, .ref q_p0_pieces_closed, .ref q_p0_pieces_simple, .ref q_p0_pieces_coefficients])), (q_p0_lessRows, .inl (cI, 6, .inl f_p0_lessRows))] → va_S A s.heap H locs → lv_has ls 5 [(0, .ref q_p0), (1, .int x1), (2, .int l2)] → W p l e { frames := 2, cells := 0, slots := 0, locals := 46 } s m args below meth c H locs 0 0 Q (F0 m 2 ls []) := by
    intro  n2
    induction n2 with
    | zero =>
      intro l2 f_p0_lessRows H locs ls h
      exact False.elim h
    | succ n2 ih2 =>
      intro l2 f_p0_lessRows H locs ls h hP hD hS hl
      have h : M_X4_numberRows_l2 x1 f_p0_loop v_p0_pieces_falling P  (LP2 (M_X4_numberRows_l2 x1 f_p0_loop v_p0_pieces_falling P ) n2) l2 f_p0_lessRows := h
      refine lv_iload_n hx hb dX4_numberRows_2 rfl (lv_at hl 2 rfl) ?_
      refine lv_iload_n hx hb dX4_numberRows_3 rfl (lv_at hl 1 rfl) ?_
      refine lv_icmp_ge (tgt := 20) hx hb dX4_numberRows_4 (by decide) (fun c1 => ?_) (fun c1 => ?_)
      · have h := And.left h c1
        refine lv_iconst (v := (0 : Int32)) hx hb dX4_numberRows_20 (by decide) ?_
        refine lv_istore_n (lv' := [(2, .int (0 : Int32)), (0, .ref q_p0), (1, .int x1)]) hx hb dX4_numberRows_21 rfl hl (by decide) rfl (fun ls hl => ?_)
        have k22 : ∀  (n22 : Nat) (l2 : Int32) (f_p0_lessRows : (Nat → Int32)) (H : Heap) (locs : List Loc) (ls : Array Slot), LP2 (M_X4_numberRows_l22 x1 f_p0_loop v_p0_pieces_falling P ) n22 l2 f_p0_lessRows → va_P D vwCl [(q_p0, .inr (2, [.int v_p0_soughtSize, .int v_p0_soughtMap, .ref q_p0_pieces, .ref q_p0_amount, .ref q_p0_found, .ref q_p0_loop, .ref q_p0_lessRows, .ref q_p0_leads])), (q_p0_loop, .inl (cI, 12, .inl f_p0_loop)), (q_p0_pieces, .inr (3, [.int v_p0_pieces_number, .int v_p0_pieces_falling, .ref q_p0_pieces_covered, .ref q_p0_pieces_counts, .ref q_p0_pieces_earlier, .ref q_p0_pieces_closed, .ref q_p0_pieces_simple, .ref q_p0_pieces_coefficients])), (q_p0_lessRows, .inl (cI, 6, .inl f_p0_lessRows))] H → va_D A [(q_p0, .inr (2, [.int v_p0_soughtSize, .int v_p0_soughtMap, .ref q_p0_pieces, .ref q_p0_amount, .ref q_p0_found, .ref q_p0_loop, .ref q_p0_lessRows, .ref q_p0_leads])), (q_p0_loop, .inl (cI, 12, .inl f_p0_loop)), (q_p0_pieces, .inr (3, [.int v_p0_pieces_number, .int v_p0_pieces_falling, .ref q_p0_pieces_covered, .ref q_p0_pieces_counts, .ref q_p0_pieces_earlier, .ref q_p0_pieces_closed, .ref q_p0_pieces_simple, .ref q_p0_pieces_coefficients])), (q_p0_lessRows, .inl (cI, 6, .inl f_p0_lessRows))] → va_S A s.heap H locs → lv_has ls 5 [(0, .ref q_p0), (1, .int x1), (2, .int l2)] → W p l e { frames := 2, cells := 0, slots := 0, locals := 46 } s m args below meth c H locs 0 0 Q (F0 m 22 ls []) := by
          intro  n22
          induction n22 with
          | zero =>
            intro l2 f_p0_lessRows H locs ls h
            exact False.elim h
          | succ n22 ih22 =>
            intro l2 f_p0_lessRows H locs ls h hP hD hS hl
            have h : M_X4_numberRows_l22 x1 f_p0_loop v_p0_pieces_falling P  (LP2 (M_X4_numberRows_l22 x1 f_p0_loop v_p0_pieces_falling P ) n22) l2 f_p0_lessRows := h
            refine lv_iload_n hx hb dX4_numberRows_22 rfl (lv_at hl 2 rfl) ?_
            refine lv_iload_n hx hb dX4_numberRows_23 rfl (lv_at hl 1 rfl) ?_
            refine lv_icmp_ge (tgt := 90) hx hb dX4_numberRows_24 (by decide) (fun c2 => ?_) (fun c2 => ?_)
            · have h := And.left h c2
              refine lv_iconst (v := (1 : Int32)) hx hb dX4_numberRows_90 (by decide) ?_
              exact z_iret hQ hx hb hr rfl hlocks hK f_p0_lessRows h hP hD hS dX4_numberRows_91
            · have h := And.right h c2
              refine lv_iload_n hx hb dX4_numberRows_27 rfl (lv_at hl 2 rfl) ?_
              refine lv_iconst (v := (1 : Int32)) hx hb dX4_numberRows_28 (by decide) ?_
              refine lv_iadd hx hb dX4_numberRows_29 ?_
              refine lv_istore_n (lv' := [(3, .int (l2 + (1 : Int32))), (0, .ref q_p0), (1, .int x1), (2, .int l2)]) hx hb dX4_numberRows_30 rfl hl (by decide) rfl (fun ls hl => ?_)
              have k31 : ∀ (l2 : Int32) (n31 : Nat) (l3 : Int32) (f_p0_lessRows : (Nat → Int32)) (H : Heap) (locs : List Loc) (ls : Array Slot), LP2 (M_X4_numberRows_l31 x1 f_p0_loop v_p0_pieces_falling (LP2 (M_X4_numberRows_l22 x1 f_p0_loop v_p0_pieces_falling P ) n22) P l2) n31 l3 f_p0_lessRows → va_P D vwCl [(q_p0, .inr (2, [.int v_p0_soughtSize, .int v_p0_soughtMap, .ref q_p0_pieces, .ref q_p0_amount, .ref q_p0_found, .ref q_p0_loop, .ref q_p0_lessRows, .ref q_p0_leads])), (q_p0_loop, .inl (cI, 12, .inl f_p0_loop)), (q_p0_pieces, .inr (3, [.int v_p0_pieces_number, .int v_p0_pieces_falling, .ref q_p0_pieces_covered, .ref q_p0_pieces_counts, .ref q_p0_pieces_earlier, .ref q_p0_pieces_closed, .ref q_p0_pieces_simple, .ref q_p0_pieces_coefficients])), (q_p0_lessRows, .inl (cI, 6, .inl f_p0_lessRows))] H → va_D A [(q_p0, .inr (2, [.int v_p0_soughtSize, .int v_p0_soughtMap, .ref q_p0_pieces, .ref q_p0_amount, .ref q_p0_found, .ref q_p0_loop, .ref q_p0_lessRows, .ref q_p0_leads])), (q_p0_loop, .inl (cI, 12, .inl f_p0_loop)), (q_p0_pieces, .inr (3, [.int v_p0_pieces_number, .int v_p0_pieces_falling, .ref q_p0_pieces_covered, .ref q_p0_pieces_counts, .ref q_p0_pieces_earlier, .ref q_p0_pieces_closed, .ref q_p0_pieces_simple, .ref q_p0_pieces_coefficients])), (q_p0_lessRows, .inl (cI, 6, .inl f_p0_lessRows))] → va_S A s.heap H locs → lv_has ls 5 [(0, .ref q_p0), (1, .int x1), (2, .int l2), (3, .int l3)] → W p l e { frames := 2, cells := 0, slots := 0, locals := 46 } s m args below meth c H locs 0 0 Q (F0 m 31 ls []) := by
                intro l2 n31
                induction n31 with
                | zero =>
                  intro l3 f_p0_lessRows H locs ls h
                  exact False.elim h
                | succ n31 ih31 =>
                  intro l3 f_p0_lessRows H locs ls h hP hD hS hl
                  have h : M_X4_numberRows_l31 x1 f_p0_loop v_p0_pieces_falling (LP2 (M_X4_numberRows_l22 x1 f_p0_loop v_p0_pieces_falling P ) n22) P l2 (LP2 (M_X4_numberRows_l31 x1 f_p0_loop v_p0_pieces_falling (LP2 (M_X4_numberRows_l22 x1 f_p0_loop v_p0_pieces_falling P ) n22) P l2) n31) l3 f_p0_lessRows := h
                  refine lv_iload_n hx hb dX4_numberRows_31 rfl (lv_at hl 3 rfl) ?_
                  refine lv_iload_n hx hb dX4_numberRows_32 rfl (lv_at hl 1 rfl) ?_
                  refine lv_icmp_ge (tgt := 84) hx hb dX4_numberRows_33 (by decide) (fun c3 => ?_) (fun c3 => ?_)
                  · have h := And.left h c3
                    refine lv_iinc (v := (l2 + 1)) (lv' := [(2, .int (l2 + 1)), (0, .ref q_p0), (1, .int x1), (3, .int l3)]) hx hb dX4_numberRows_84 hl (k := 2) rfl rfl (by decide) rfl (fun ls hl => ?_)
                    refine lv_goto (tgt := 22) hx hb dX4_numberRows_87 (by decide) ?_
                    exact ih22 (l2 + 1) f_p0_lessRows _ _ _ h hP hD hS (lv_sub hl [1, 2, 0] rfl)
                  · have h := And.right h c3
                    refine lv_aload_n hx hb dX4_numberRows_36 rfl (lv_at hl 0 rfl) ?_
                    refine lv_iload_n hx hb dX4_numberRows_37 rfl (lv_at hl 1 rfl) ?_
                    refine lv_iload_n hx hb dX4_numberRows_38 rfl (lv_at hl 2 rfl) ?_
                    refine lv_iload_n hx hb dX4_numberRows_39 rfl (lv_at hl 3 rfl) ?_
                    refine z_cVi (As := [.int x1, .int l2, .int l3]) (rest := []) (wr := [(q_p0_pieces, .inr (3, [.int v_p0_pieces_number, .int v_p0_pieces_falling, .ref q_p0_pieces_covered, .ref q_p0_pieces_counts, .ref q_p0_pieces_earlier, .ref q_p0_pieces_closed, .ref q_p0_pieces_simple, .ref q_p0_pieces_coefficients])), (q_p0_lessRows, .inl (cI, 6, .inl f_p0_lessRows))]) (wn := fun u => [(q_p0, .inr (2, [.int v_p0_soughtSize, .int v_p0_soughtMap, .ref q_p0_pieces, .ref q_p0_amount, .ref q_p0_found, .ref q_p0_loop, .ref q_p0_lessRows, .ref q_p0_leads])), (q_p0_loop, .inl (cI, 12, .inl f_p0_loop)), (q_p0_pieces, .inr (3, [.int v_p0_pieces_number, .int v_p0_pieces_falling, .ref q_p0_pieces_covered, .ref q_p0_pieces_counts, .ref q_p0_pieces_earlier, .ref q_p0_pieces_closed, .ref q_p0_pieces_simple, .ref q_p0_pieces_coefficients])), (q_p0_lessRows, .inl (cI, 6, .inl f_p0_lessRows))]) (c_X4_firstOther l D cI cJ cB tU tM tS q_p0 q_p0_pieces q_p0_amount q_p0_found q_p0_loop q_p0_lessRows q_p0_leads H.size x1 l2 l3 f_p0_loop v_p0_soughtSize v_p0_soughtMap _ h) ⟨hx, hb, hml, hown, hts⟩ (cwV 3 hts gX4_numberRows_X4_firstOther rfl rfl rfl hd_X4_firstOther ⟨Nat.le_of_ble_eq_true rfl, Nat.le_of_ble_eq_true rfl⟩) hX hK hP hD hS hA [0, 1] [2, 3] [2, 3, 0, 1] rfl rfl rfl (by decide) (fun _ => rfl) (q0 := 0) (ci := 2) rfl rfl rfl hl.1 rfl (Nat.le_of_ble_eq_true rfl) ⟨Nat.le_refl _, Nat.le_refl _⟩ dX4_numberRows_40 (fun r4 u4 H locs h hP hD hS => ?_)
                    refine lv_istore (lv' := [(4, .int r4), (0, .ref q_p0), (1, .int x1), (2, .int l2), (3, .int l3)]) hx hb dX4_numberRows_43 hl (by decide) rfl (fun ls hl => ?_)
                    refine lv_iload hx hb dX4_numberRows_45 (lv_at hl 0 rfl) ?_
                    refine lv_iload_n hx hb dX4_numberRows_47 rfl (lv_at hl 2 rfl) ?_
                    refine lv_icmp_ne (tgt := 53) hx hb dX4_numberRows_48 (by decide) (fun c5 => ?_) (fun c5 => ?_)
                    · have h := And.right h c5
                      refine lv_aload_n hx hb dX4_numberRows_53 rfl (lv_at hl 1 rfl) ?_
                      refine va_get (ci := 2) (C := RX4) (T := TX4) (N := 8) (v := .ref q_p0_lessRows) hx hb hts hinX4 hown hK hP 0 rfl rfl 6 (by decide) hw0 (fun _ h9 => h9) rfl dX4_numberRows_54 ?_
                      refine lv_aload_n hx hb dX4_numberRows_57 rfl (lv_at hl 1 rfl) ?_
                      refine lv_iload_n hx hb dX4_numberRows_58 rfl (lv_at hl 3 rfl) ?_
                      refine lv_iload_n hx hb dX4_numberRows_59 rfl (lv_at hl 4 rfl) ?_
                      refine lv_iload hx hb dX4_numberRows_60 (lv_at hl 0 rfl) ?_
                      refine z_cVi (As := [.int l2, .int l3, .int r4]) (rest := [.ref q_p0_lessRows]) (wr := [(q_p0_lessRows, .inl (cI, 6, .inl f_p0_lessRows))]) (wn := fun u => [(q_p0, .inr (2, [.int v_p0_soughtSize, .int v_p0_soughtMap, .ref q_p0_pieces, .ref q_p0_amount, .ref q_p0_found, .ref q_p0_loop, .ref q_p0_lessRows, .ref q_p0_leads])), (q_p0_loop, .inl (cI, 12, .inl f_p0_loop)), (q_p0_pieces, .inr (3, [.int v_p0_pieces_number, .int v_p0_pieces_falling, .ref q_p0_pieces_covered, .ref q_p0_pieces_counts, .ref q_p0_pieces_earlier, .ref q_p0_pieces_closed, .ref q_p0_pieces_simple, .ref q_p0_pieces_coefficients])), (q_p0_lessRows, .inl (cI, 6, .inl f_p0_lessRows))]) (c_X4_isLess l D cI cJ cB tU tM tS q_p0 q_p0_pieces q_p0_amount q_p0_found q_p0_loop q_p0_lessRows q_p0_leads q_p0_pieces_covered q_p0_pieces_counts q_p0_pieces_earlier q_p0_pieces_closed q_p0_pieces_simple q_p0_pieces_coefficients H.size l2 l3 r4 f_p0_loop v_p0_pieces_falling v_p0_soughtSize v_p0_soughtMap v_p0_pieces_number _ h) ⟨hx, hb, hml, hown, hts⟩ (cwV 3 hts gX4_numberRows_X4_isLess rfl rfl rfl hd_X4_isLess ⟨Nat.le_of_ble_eq_true rfl, Nat.le_of_ble_eq_true rfl⟩) hX hK hP hD hS hA [0, 1, 2] [3] [1, 2, 3, 0] rfl rfl rfl (by decide) (fun _ => rfl) (q0 := 0) (ci := 2) rfl rfl rfl hl.1 rfl (Nat.le_of_ble_eq_true rfl) ⟨Nat.le_refl _, Nat.le_refl _⟩ dX4_numberRows_62 (fun r6 u6 H locs h hP hD hS => ?_)
                      refine lv_if_eq (tgt := 72) hx hb dX4_numberRows_65 (by decide) (fun c7 => ?_) (fun c7 => ?_)
                      · have h := And.left h c7
                        refine lv_iload_n hx hb dX4_numberRows_72 rfl (lv_at hl 3 rfl) ?_
                        refine lv_dup2_11 hx hb dX4_numberRows_73 rfl rfl ?_
                        obtain ⟨hi8, h⟩ := h
                        refine va_iald hx hb hK hP 3 0 rfl rfl hi8 dX4_numberRows_74 ?_
                        refine lv_iconst (v := (1 : Int32)) hx hb dX4_numberRows_75 (by decide) ?_
                        refine lv_iadd hx hb dX4_numberRows_76 ?_
                        obtain ⟨hi9, h⟩ := h
                        refine z_iast (wn := [(q_p0, .inr (2, [.int v_p0_soughtSize, .int v_p0_soughtMap, .ref q_p0_pieces, .ref q_p0_amount, .ref q_p0_found, .ref q_p0_loop, .ref q_p0_lessRows, .ref q_p0_leads])), (q_p0_loop, .inl (cI, 12, .inl f_p0_loop)), (q_p0_pieces, .inr (3, [.int v_p0_pieces_number, .int v_p0_pieces_falling, .ref q_p0_pieces_covered, .ref q_p0_pieces_counts, .ref q_p0_pieces_earlier, .ref q_p0_pieces_closed, .ref q_p0_pieces_simple, .ref q_p0_pieces_coefficients])), (q_p0_lessRows, .inl (cI, 6, .inl (upd f_p0_lessRows l2.toNatClampNeg ((f_p0_lessRows l2.toNatClampNeg) + (1 : Int32)))))]) hx hb hK hP hD hS 3 rfl hi9 dX4_numberRows_77 rfl (fun H locs hP hD hS => ?_)
                        refine lv_iinc (v := (l3 + 1)) (lv' := [(3, .int (l3 + 1)), (4, .int r4), (0, .ref q_p0), (1, .int x1), (2, .int l2)]) hx hb dX4_numberRows_78 hl (k := 4) rfl rfl (by decide) rfl (fun ls hl => ?_)
                        refine lv_goto (tgt := 31) hx hb dX4_numberRows_81 (by decide) ?_
                        exact ih31 (l3 + 1) (upd f_p0_lessRows l2.toNatClampNeg ((f_p0_lessRows l2.toNatClampNeg) + (1 : Int32))) _ _ _ h hP hD hS (lv_sub hl [2, 3, 4, 0] rfl)
                      · have h := And.right h c7
                        refine lv_iload_n hx hb dX4_numberRows_68 rfl (lv_at hl 4 rfl) ?_
                        refine lv_goto (tgt := 73) hx hb dX4_numberRows_69 (by decide) ?_
                        refine lv_dup2_11 hx hb dX4_numberRows_73 rfl rfl ?_
                        obtain ⟨hi10, h⟩ := h
                        refine va_iald hx hb hK hP 3 0 rfl rfl hi10 dX4_numberRows_74 ?_
                        refine lv_iconst (v := (1 : Int32)) hx hb dX4_numberRows_75 (by decide) ?_
                        refine lv_iadd hx hb dX4_numberRows_76 ?_
                        obtain ⟨hi11, h⟩ := h
                        refine z_iast (wn := [(q_p0, .inr (2, [.int v_p0_soughtSize, .int v_p0_soughtMap, .ref q_p0_pieces, .ref q_p0_amount, .ref q_p0_found, .ref q_p0_loop, .ref q_p0_lessRows, .ref q_p0_leads])), (q_p0_loop, .inl (cI, 12, .inl f_p0_loop)), (q_p0_pieces, .inr (3, [.int v_p0_pieces_number, .int v_p0_pieces_falling, .ref q_p0_pieces_covered, .ref q_p0_pieces_counts, .ref q_p0_pieces_earlier, .ref q_p0_pieces_closed, .ref q_p0_pieces_simple, .ref q_p0_pieces_coefficients])), (q_p0_lessRows, .inl (cI, 6, .inl (upd f_p0_lessRows l3.toNatClampNeg ((f_p0_lessRows l3.toNatClampNeg) + (1 : Int32)))))]) hx hb hK hP hD hS 3 rfl hi11 dX4_numberRows_77 rfl (fun H locs hP hD hS => ?_)
                        refine lv_iinc (v := (l3 + 1)) (lv' := [(3, .int (l3 + 1)), (4, .int r4), (0, .ref q_p0), (1, .int x1), (2, .int l2)]) hx hb dX4_numberRows_78 hl (k := 4) rfl rfl (by decide) rfl (fun ls hl => ?_)
                        refine lv_goto (tgt := 31) hx hb dX4_numberRows_81 (by decide) ?_
                        exact ih31 (l3 + 1) (upd f_p0_lessRows l3.toNatClampNeg ((f_p0_lessRows l3.toNatClampNeg) + (1 : Int32))) _ _ _ h hP hD hS (lv_sub hl [2, 3, 4, 0] rfl)
                    · have h := And.left h c5
                      refine lv_iconst (v := (0 : Int32)) hx hb dX4_numberRows_51 (by decide) ?_
                      exact z_iret hQ hx hb hr rfl hlocks hK f_p0_lessRows h hP hD hS dX4_numberRows_52
              obtain ⟨n31, h⟩ := h
              exact k31 l2 n31 (l2 + (1 : Int32)) f_p0_lessRows _ _ _ h hP hD hS (lv_sub hl [1, 2, 3, 0] rfl)
        obtain ⟨n22, h⟩ := h
        exact k22  n22 (0 : Int32) f_p0_lessRows _ _ _ h hP hD hS (lv_sub hl [1, 2, 0] rfl)
      · have h := And.right h c1
        refine lv_aload_n hx hb dX4_numberRows_7 rfl (lv_at hl 0 rfl) ?_
        refine va_get (ci := 2) (C := RX4) (T := TX4) (N := 8) (v := .ref q_p0_lessRows) hx hb hts hinX4 hown hK hP 0 rfl rfl 6 (by decide) hw0 (fun _ h9 => h9) rfl dX4_numberRows_8 ?_
        refine lv_iload_n hx hb dX4_numberRows_11 rfl (lv_at hl 2 rfl) ?_
        refine lv_iconst (v := (0 : Int32)) hx hb dX4_numberRows_12 (by decide) ?_
        obtain ⟨hi12, h⟩ := h
        refine z_iast (wn := [(q_p0, .inr (2, [.int v_p0_soughtSize, .int v_p0_soughtMap, .ref q_p0_pieces, .ref q_p0_amount, .ref q_p0_found, .ref q_p0_loop, .ref q_p0_lessRows, .ref q_p0_leads])), (q_p0_loop, .inl (cI, 12, .inl f_p0_loop)), (q_p0_pieces, .inr (3, [.int v_p0_pieces_number, .int v_p0_pieces_falling, .ref q_p0_pieces_covered, .ref q_p0_pieces_counts, .ref q_p0_pieces_earlier, .ref q_p0_pieces_closed, .ref q_p0_pieces_simple, .ref q_p0_pieces_coefficients])), (q_p0_lessRows, .inl (cI, 6, .inl (upd f_p0_lessRows l2.toNatClampNeg (0 : Int32))))]) hx hb hK hP hD hS 3 rfl hi12 dX4_numberRows_13 rfl (fun H locs hP hD hS => ?_)
        refine lv_iinc (v := (l2 + 1)) (lv' := [(2, .int (l2 + 1)), (0, .ref q_p0), (1, .int x1)]) hx hb dX4_numberRows_14 hl (k := 2) rfl rfl (by decide) rfl (fun ls hl => ?_)
        refine lv_goto (tgt := 2) hx hb dX4_numberRows_17 (by decide) ?_
        exact ih2 (l2 + 1) (upd f_p0_lessRows l2.toNatClampNeg (0 : Int32)) _ _ _ h hP hD hS (lv_sub hl [1, 2, 0] rfl)
  obtain ⟨n2, h⟩ := h
  exact k2  n2 (0 : Int32) f_p0_lessRows _ _ _ h hP hD hS (lv_sub hl [1, 2, 0] rfl)
theorem hd_X4_loopFigures : yX4_loopFigures.cls = RX4 ∧ yX4_loopFigures.cls ≠ "java/lang/invoke/MethodHandle" ∧ yX4_loopFigures.cls ≠ "java/lang/invoke/VarHandle" ∧ (parseMethodDescriptor yX4_loopFigures.desc).map (fun d => d.parameters.length) = some 1 := by decide +kernel
set_option maxHeartbeats 4000000 in
set_option maxRecDepth 100000 in
theorem c_X4_loopFigures (l : Launch) (D : va_G) (cI cJ cB : ClassId) (tU tM tS : Nat) (q_p0 q_p0_pieces q_p0_amount q_p0_found q_p0_loop q_p0_lessRows q_p0_leads : Nat) (sz : Nat) (x1 : Int32) (f_p0_leads : (Nat → Int32)) (f_p0_lessRows : (Nat → Int32)) (v_p0_soughtSize : Int32) (v_p0_soughtMap : Int32) (P : Int32 → (Nat → Int32) → Prop) (h : M_X4_loopFigures x1 f_p0_leads f_p0_lessRows P) : Met l yX4_loopFigures wsX4_loopFigures ({ frames := 0, cells := 0, slots := 0, locals := 0 }) (va_Pc [.ref q_p0, .int x1] (zPre D cI cJ cB tU tM tS [(q_p0, .inr (2, [.int v_p0_soughtSize, .int v_p0_soughtMap, .ref q_p0_pieces, .ref q_p0_amount, .ref q_p0_found, .ref q_p0_loop, .ref q_p0_lessRows, .ref q_p0_leads])), (q_p0_leads, .inl (cI, 6, .inl f_p0_leads)), (q_p0_lessRows, .inl (cI, 6, .inl f_p0_lessRows))] sz)) (va_Qi (fun (r : Int32) (u : (Nat → Int32)) => P r u) (fun u t => zPost D cI cJ cB (va_A [(q_p0, .inr (2, [.int v_p0_soughtSize, .int v_p0_soughtMap, .ref q_p0_pieces, .ref q_p0_amount, .ref q_p0_found, .ref q_p0_loop, .ref q_p0_lessRows, .ref q_p0_leads])), (q_p0_leads, .inl (cI, 6, .inl f_p0_leads)), (q_p0_lessRows, .inl (cI, 6, .inl f_p0_lessRows))] sz) [(q_p0, .inr (2, [.int v_p0_soughtSize, .int v_p0_soughtMap, .ref q_p0_pieces, .ref q_p0_amount, .ref q_p0_found, .ref q_p0_loop, .ref q_p0_lessRows, .ref q_p0_leads])), (q_p0_leads, .inl (cI, 6, .inl u)), (q_p0_lessRows, .inl (cI, 6, .inl f_p0_lessRows))] t) (va_A [(q_p0, .inr (2, [.int v_p0_soughtSize, .int v_p0_soughtMap, .ref q_p0_pieces, .ref q_p0_amount, .ref q_p0_found, .ref q_p0_loop, .ref q_p0_lessRows, .ref q_p0_leads])), (q_p0_leads, .inl (cI, 6, .inl f_p0_leads)), (q_p0_lessRows, .inl (cI, 6, .inl f_p0_lessRows))] sz)) 0 0 (va_A [(q_p0, .inr (2, [.int v_p0_soughtSize, .int v_p0_soughtMap, .ref q_p0_pieces, .ref q_p0_amount, .ref q_p0_found, .ref q_p0_loop, .ref q_p0_lessRows, .ref q_p0_leads])), (q_p0_leads, .inl (cI, 6, .inl f_p0_leads)), (q_p0_lessRows, .inl (cI, 6, .inl f_p0_lessRows))] sz) := by
  refine z_met (cc := cX4_loopFigures) (maxL := 4) (ret := (some .int)) (Qc := fun A => va_Qi (fun (r : Int32) (u : (Nat → Int32)) => P r u) (fun u t => zPost D cI cJ cB A [(q_p0, .inr (2, [.int v_p0_soughtSize, .int v_p0_soughtMap, .ref q_p0_pieces, .ref q_p0_amount, .ref q_p0_found, .ref q_p0_loop, .ref q_p0_lessRows, .ref q_p0_leads])), (q_p0_leads, .inl (cI, 6, .inl u)), (q_p0_lessRows, .inl (cI, 6, .inl f_p0_lessRows))] t) A) (by decide) rfl [.ref q_p0, .int x1] (Nat.le_of_ble_eq_true rfl) ?_
  intro p e s m args below meth c A hx hb hr hts hown hml hlocks hA hX hK H locs hP hD hS ls hl Q hQ
  have hown : s.vm.findClass RX4 = some m.cls := hown
  have hl : lv_has ls 4 [(0, .ref q_p0), (1, .int x1)] := hl
  have hw0 : (Cond.fieldLink RX4 29 "ForcedRings$Patterns" "leads" "[I").before args s = true := hts _ (List.mem_of_getElem? (i := 1) rfl)
  have hw1 : (Cond.fieldLink RX4 26 "ForcedRings$Patterns" "lessRows" "[I").before args s = true := hts _ (List.mem_of_getElem? (i := 2) rfl)
  have hinX4 : ∀ w ∈ wsX40, w ∈ wsX4_loopFigures := fun _ h => List.mem_cons_of_mem _ (List.mem_append_right _ h)
  refine lv_iconst (v := (0 : Int32)) hx hb dX4_loopFigures_0 (by decide) ?_
  refine lv_istore_n (lv' := [(2, .int (0 : Int32)), (0, .ref q_p0), (1, .int x1)]) hx hb dX4_loopFigures_1 rfl hl (by decide) rfl (fun ls hl => ?_)
  have k2 : ∀  (n2 : Nat) (l2 : Int32) (f_p0_leads : (Nat → Int32)) (H : Heap) (locs : List Loc) (ls : Array Slot), LP2 (M_X4_loopFigures_l2 x1 f_p0_lessRows P ) n2 l2 f_p0_leads → va_P D vwCl [(q_p0, .inr (2, [.int v_p0_soughtSize, .int v_p0_soughtMap, .ref q_p0_pieces, .ref q_p0_amount, .ref q_p0_found, .ref q_p0_loop, .ref q_p0_lessRows, .ref q_p0_leads])), (q_p0_leads, .inl (cI, 6, .inl f_p0_leads)), (q_p0_lessRows, .inl (cI, 6, .inl f_p0_lessRows))] H → va_D A [(q_p0, .inr (2, [.int v_p0_soughtSize, .int v_p0_soughtMap, .ref q_p0_pieces, .ref q_p0_amount, .ref q_p0_found, .ref q_p0_loop, .ref q_p0_lessRows, .ref q_p0_leads])), (q_p0_leads, .inl (cI, 6, .inl f_p0_leads)), (q_p0_lessRows, .inl (cI, 6, .inl f_p0_lessRows))] → va_S A s.heap H locs → lv_has ls 4 [(0, .ref q_p0), (1, .int x1), (2, .int l2)] → W p l e { frames := 0, cells := 0, slots := 0, locals := 0 } s m args below meth c H locs 0 0 Q (F0 m 2 ls []) := by
    intro  n2
    induction n2 with
    | zero =>
      intro l2 f_p0_leads H locs ls h
      exact False.elim h
    | succ n2 ih2 =>
      intro l2 f_p0_leads H locs ls h hP hD hS hl
      have h : M_X4_loopFigures_l2 x1 f_p0_lessRows P  (LP2 (M_X4_loopFigures_l2 x1 f_p0_lessRows P ) n2) l2 f_p0_leads := h
      refine lv_iload_n hx hb dX4_loopFigures_2 rfl (lv_at hl 2 rfl) ?_
      refine lv_iload_n hx hb dX4_loopFigures_3 rfl (lv_at hl 1 rfl) ?_
      refine lv_icmp_ge (tgt := 43) hx hb dX4_loopFigures_4 (by decide) (fun c1 => ?_) (fun c1 => ?_)
      · have h := And.left h c1
        refine lv_iconst (v := (0 : Int32)) hx hb dX4_loopFigures_43 (by decide) ?_
        refine lv_istore_n (lv' := [(2, .int (0 : Int32)), (0, .ref q_p0), (1, .int x1)]) hx hb dX4_loopFigures_44 rfl hl (by decide) rfl (fun ls hl => ?_)
        refine lv_iconst (v := (0 : Int32)) hx hb dX4_loopFigures_45 (by decide) ?_
        refine lv_istore_n (lv' := [(3, .int (0 : Int32)), (2, .int (0 : Int32)), (0, .ref q_p0), (1, .int x1)]) hx hb dX4_loopFigures_46 rfl hl (by decide) rfl (fun ls hl => ?_)
        have k47 : ∀ (f_p0_leads : (Nat → Int32)) (n47 : Nat) (l2 : Int32) (l3 : Int32) (H : Heap) (locs : List Loc) (ls : Array Slot), LP2 (M_X4_loopFigures_l47 x1 f_p0_lessRows P f_p0_leads) n47 l2 l3 → va_P D vwCl [(q_p0, .inr (2, [.int v_p0_soughtSize, .int v_p0_soughtMap, .ref q_p0_pieces, .ref q_p0_amount, .ref q_p0_found, .ref q_p0_loop, .ref q_p0_lessRows, .ref q_p0_leads])), (q_p0_leads, .inl (cI, 6, .inl f_p0_leads)), (q_p0_lessRows, .inl (cI, 6, .inl f_p0_lessRows))] H → va_D A [(q_p0, .inr (2, [.int v_p0_soughtSize, .int v_p0_soughtMap, .ref q_p0_pieces, .ref q_p0_amount, .ref q_p0_found, .ref q_p0_loop, .ref q_p0_lessRows, .ref q_p0_leads])), (q_p0_leads, .inl (cI, 6, .inl f_p0_leads)), (q_p0_lessRows, .inl (cI, 6, .inl f_p0_lessRows))] → va_S A s.heap H locs → lv_has ls 4 [(0, .ref q_p0), (1, .int x1), (2, .int l2), (3, .int l3)] → W p l e { frames := 0, cells := 0, slots := 0, locals := 0 } s m args below meth c H locs 0 0 Q (F0 m 47 ls []) := by
          intro f_p0_leads n47
          induction n47 with
          | zero =>
            intro l2 l3 H locs ls h
            exact False.elim h
          | succ n47 ih47 =>
            intro l2 l3 H locs ls h hP hD hS hl
            have h : M_X4_loopFigures_l47 x1 f_p0_lessRows P f_p0_leads (LP2 (M_X4_loopFigures_l47 x1 f_p0_lessRows P f_p0_leads) n47) l2 l3 := h
            refine lv_iload_n hx hb dX4_loopFigures_47 rfl (lv_at hl 3 rfl) ?_
            refine lv_iload_n hx hb dX4_loopFigures_48 rfl (lv_at hl 1 rfl) ?_
            refine lv_icmp_ge (tgt := 70) hx hb dX4_loopFigures_49 (by decide) (fun c2 => ?_) (fun c2 => ?_)
            · have h := And.left h c2
              refine lv_iload_n hx hb dX4_loopFigures_70 rfl (lv_at hl 2 rfl) ?_
              exact z_iret hQ hx hb hr rfl hlocks hK f_p0_leads h hP hD hS dX4_loopFigures_71
            · have h := And.right h c2
              refine lv_iload_n hx hb dX4_loopFigures_52 rfl (lv_at hl 2 rfl) ?_
              refine lv_bipush (v := (10 : Int32)) hx hb dX4_loopFigures_53 (by decide) ?_
              refine lv_imul hx hb dX4_loopFigures_55 ?_
              refine lv_aload_n hx hb dX4_loopFigures_56 rfl (lv_at hl 0 rfl) ?_
              refine va_get (ci := 2) (C := RX4) (T := TX4) (N := 8) (v := .ref q_p0_leads) hx hb hts hinX4 hown hK hP 0 rfl rfl 7 (by decide) hw0 (fun _ h9 => h9) rfl dX4_loopFigures_57 ?_
              refine lv_iload_n hx hb dX4_loopFigures_60 rfl (lv_at hl 3 rfl) ?_
              obtain ⟨hi3, h⟩ := h
              refine va_iald hx hb hK hP 1 0 rfl rfl hi3 dX4_loopFigures_61 ?_
              refine lv_iadd hx hb dX4_loopFigures_62 ?_
              refine lv_istore_n (lv' := [(2, .int ((l2 * (10 : Int32)) + (f_p0_leads l3.toNatClampNeg))), (0, .ref q_p0), (1, .int x1), (3, .int l3)]) hx hb dX4_loopFigures_63 rfl hl (by decide) rfl (fun ls hl => ?_)
              refine lv_iinc (v := (l3 + 1)) (lv' := [(3, .int (l3 + 1)), (2, .int ((l2 * (10 : Int32)) + (f_p0_leads l3.toNatClampNeg))), (0, .ref q_p0), (1, .int x1)]) hx hb dX4_loopFigures_64 hl (k := 3) rfl rfl (by decide) rfl (fun ls hl => ?_)
              refine lv_goto (tgt := 47) hx hb dX4_loopFigures_67 (by decide) ?_
              exact ih47 ((l2 * (10 : Int32)) + (f_p0_leads l3.toNatClampNeg)) (l3 + 1) _ _ _ h hP hD hS (lv_sub hl [2, 3, 1, 0] rfl)
        obtain ⟨n47, h⟩ := h
        exact k47 f_p0_leads n47 (0 : Int32) (0 : Int32) _ _ _ h hP hD hS (lv_sub hl [2, 3, 1, 0] rfl)
      · have h := And.right h c1
        refine lv_aload_n hx hb dX4_loopFigures_7 rfl (lv_at hl 0 rfl) ?_
        refine va_get (ci := 2) (C := RX4) (T := TX4) (N := 8) (v := .ref q_p0_leads) hx hb hts hinX4 hown hK hP 0 rfl rfl 7 (by decide) hw0 (fun _ h9 => h9) rfl dX4_loopFigures_8 ?_
        refine lv_aload_n hx hb dX4_loopFigures_11 rfl (lv_at hl 0 rfl) ?_
        refine va_get (ci := 2) (C := RX4) (T := TX4) (N := 8) (v := .ref q_p0_lessRows) hx hb hts hinX4 hown hK hP 0 rfl rfl 6 (by decide) hw1 (fun _ h9 => h9) rfl dX4_loopFigures_12 ?_
        refine lv_iload_n hx hb dX4_loopFigures_15 rfl (lv_at hl 2 rfl) ?_
        obtain ⟨hi4, h⟩ := h
        refine va_iald hx hb hK hP 2 0 rfl rfl hi4 dX4_loopFigures_16 ?_
        refine lv_aload_n hx hb dX4_loopFigures_17 rfl (lv_at hl 0 rfl) ?_
        refine va_get (ci := 2) (C := RX4) (T := TX4) (N := 8) (v := .ref q_p0_lessRows) hx hb hts hinX4 hown hK hP 0 rfl rfl 6 (by decide) hw1 (fun _ h9 => h9) rfl dX4_loopFigures_18 ?_
        refine lv_iload_n hx hb dX4_loopFigures_21 rfl (lv_at hl 2 rfl) ?_
        refine lv_iconst (v := (1 : Int32)) hx hb dX4_loopFigures_22 (by decide) ?_
        refine lv_iadd hx hb dX4_loopFigures_23 ?_
        refine lv_iload_n hx hb dX4_loopFigures_24 rfl (lv_at hl 1 rfl) ?_
        refine lv_icmp_ge (tgt := 34) hx hb dX4_loopFigures_25 (by decide) (fun c5 => ?_) (fun c5 => ?_)
        · have h := And.left h c5
          refine lv_iconst (v := (0 : Int32)) hx hb dX4_loopFigures_34 (by decide) ?_
          obtain ⟨hi6, h⟩ := h
          refine va_iald hx hb hK hP 2 0 rfl rfl hi6 dX4_loopFigures_35 ?_
          obtain ⟨hi7, h⟩ := h
          refine z_iast (wn := [(q_p0, .inr (2, [.int v_p0_soughtSize, .int v_p0_soughtMap, .ref q_p0_pieces, .ref q_p0_amount, .ref q_p0_found, .ref q_p0_loop, .ref q_p0_lessRows, .ref q_p0_leads])), (q_p0_leads, .inl (cI, 6, .inl (upd f_p0_leads (f_p0_lessRows l2.toNatClampNeg).toNatClampNeg (f_p0_lessRows (0 : Int32).toNatClampNeg)))), (q_p0_lessRows, .inl (cI, 6, .inl f_p0_lessRows))]) hx hb hK hP hD hS 1 rfl hi7 dX4_loopFigures_36 rfl (fun H locs hP hD hS => ?_)
          refine lv_iinc (v := (l2 + 1)) (lv' := [(2, .int (l2 + 1)), (0, .ref q_p0), (1, .int x1)]) hx hb dX4_loopFigures_37 hl (k := 2) rfl rfl (by decide) rfl (fun ls hl => ?_)
          refine lv_goto (tgt := 2) hx hb dX4_loopFigures_40 (by decide) ?_
          exact ih2 (l2 + 1) (upd f_p0_leads (f_p0_lessRows l2.toNatClampNeg).toNatClampNeg (f_p0_lessRows (0 : Int32).toNatClampNeg)) _ _ _ h hP hD hS (lv_sub hl [1, 2, 0] rfl)
        · have h := And.right h c5
          refine lv_iload_n hx hb dX4_loopFigures_28 rfl (lv_at hl 2 rfl) ?_
          refine lv_iconst (v := (1 : Int32)) hx hb dX4_loopFigures_29 (by decide) ?_
          refine lv_iadd hx hb dX4_loopFigures_30 ?_
          refine lv_goto (tgt := 35) hx hb dX4_loopFigures_31 (by decide) ?_
          obtain ⟨hi8, h⟩ := h
          refine va_iald hx hb hK hP 2 0 rfl rfl hi8 dX4_loopFigures_35 ?_
          obtain ⟨hi9, h⟩ := h
          refine z_iast (wn := [(q_p0, .inr (2, [.int v_p0_soughtSize, .int v_p0_soughtMap, .ref q_p0_pieces, .ref q_p0_amount, .ref q_p0_found, .ref q_p0_loop, .ref q_p0_lessRows, .ref q_p0_leads])), (q_p0_leads, .inl (cI, 6, .inl (upd f_p0_leads (f_p0_lessRows l2.toNatClampNeg).toNatClampNeg (f_p0_lessRows (l2 + (1 : Int32)).toNatClampNeg)))), (q_p0_lessRows, .inl (cI, 6, .inl f_p0_lessRows))]) hx hb hK hP hD hS 1 rfl hi9 dX4_loopFigures_36 rfl (fun H locs hP hD hS => ?_)
          refine lv_iinc (v := (l2 + 1)) (lv' := [(2, .int (l2 + 1)), (0, .ref q_p0), (1, .int x1)]) hx hb dX4_loopFigures_37 hl (k := 2) rfl rfl (by decide) rfl (fun ls hl => ?_)
          refine lv_goto (tgt := 2) hx hb dX4_loopFigures_40 (by decide) ?_
          exact ih2 (l2 + 1) (upd f_p0_leads (f_p0_lessRows l2.toNatClampNeg).toNatClampNeg (f_p0_lessRows (l2 + (1 : Int32)).toNatClampNeg)) _ _ _ h hP hD hS (lv_sub hl [1, 2, 0] rfl)
  obtain ⟨n2, h⟩ := h
  exact k2  n2 (0 : Int32) f_p0_leads _ _ _ h hP hD hS (lv_sub hl [1, 2, 0] rfl)
theorem hd_X4_takeLoop : yX4_takeLoop.cls = RX4 ∧ yX4_takeLoop.cls ≠ "java/lang/invoke/MethodHandle" ∧ yX4_takeLoop.cls ≠ "java/lang/invoke/VarHandle" ∧ (parseMethodDescriptor yX4_takeLoop.desc).map (fun d => d.parameters.length) = some 1 := by decide +kernel
set_option maxHeartbeats 4000000 in
set_option maxRecDepth 100000 in
theorem c_X4_takeLoop (l : Launch) (D : va_G) (cI cJ cB : ClassId) (tU tM tS : Nat) (q_p0 q_p0_pieces q_p0_amount q_p0_found q_p0_loop q_p0_lessRows q_p0_leads q_p0_pieces_covered q_p0_pieces_counts q_p0_pieces_earlier q_p0_pieces_closed q_p0_pieces_simple q_p0_pieces_coefficients : Nat) (sz : Nat) (x1 : Int32) (f_p0_loop : (Nat → Int32)) (f_p0_pieces_covered : (Nat → Int32)) (v_p0_pieces_falling : Int32) (f_p0_lessRows : (Nat → Int32)) (f_p0_leads : (Nat → Int32)) (f_p0_amount : (Nat → Int32)) (f_p0_found : (Nat → Int32)) (v_p0_soughtSize : Int32) (v_p0_soughtMap : Int32) (v_p0_pieces_number : Int32) (P : (Nat → Int32) → (Nat → Int32) → (Nat → Int32) → (Nat → Int32) → (Nat → Int32) → Prop) (h : M_X4_takeLoop x1 f_p0_loop f_p0_pieces_covered v_p0_pieces_falling f_p0_lessRows f_p0_leads f_p0_amount f_p0_found P) : Met l yX4_takeLoop wsX4_takeLoop ({ frames := 3, cells := 0, slots := 0, locals := 72 }) (va_Pc [.ref q_p0, .int x1] (zPre D cI cJ cB tU tM tS [(q_p0, .inr (2, [.int v_p0_soughtSize, .int v_p0_soughtMap, .ref q_p0_pieces, .ref q_p0_amount, .ref q_p0_found, .ref q_p0_loop, .ref q_p0_lessRows, .ref q_p0_leads])), (q_p0_loop, .inl (cI, 12, .inl f_p0_loop)), (q_p0_pieces, .inr (3, [.int v_p0_pieces_number, .int v_p0_pieces_falling, .ref q_p0_pieces_covered, .ref q_p0_pieces_counts, .ref q_p0_pieces_earlier, .ref q_p0_pieces_closed, .ref q_p0_pieces_simple, .ref q_p0_pieces_coefficients])), (q_p0_lessRows, .inl (cI, 6, .inl f_p0_lessRows)), (q_p0_leads, .inl (cI, 6, .inl f_p0_leads)), (q_p0_amount, .inl (cI, 7, .inl f_p0_amount)), (q_p0_found, .inl (cI, 153, .inl f_p0_found)), (q_p0_pieces_covered, .inl (cI, 8, .inl f_p0_pieces_covered))] sz)) (va_Qv (fun u : (Nat → Int32) × (Nat → Int32) × (Nat → Int32) × (Nat → Int32) × (Nat → Int32) => P u.1 u.2.1 u.2.2.1 u.2.2.2.1 u.2.2.2.2) (fun u t => zPost D cI cJ cB (va_A [(q_p0, .inr (2, [.int v_p0_soughtSize, .int v_p0_soughtMap, .ref q_p0_pieces, .ref q_p0_amount, .ref q_p0_found, .ref q_p0_loop, .ref q_p0_lessRows, .ref q_p0_leads])), (q_p0_loop, .inl (cI, 12, .inl f_p0_loop)), (q_p0_pieces, .inr (3, [.int v_p0_pieces_number, .int v_p0_pieces_falling, .ref q_p0_pieces_covered, .ref q_p0_pieces_counts, .ref q_p0_pieces_earlier, .ref q_p0_pieces_closed, .ref q_p0_pieces_simple, .ref q_p0_pieces_coefficients])), (q_p0_lessRows, .inl (cI, 6, .inl f_p0_lessRows)), (q_p0_leads, .inl (cI, 6, .inl f_p0_leads)), (q_p0_amount, .inl (cI, 7, .inl f_p0_amount)), (q_p0_found, .inl (cI, 153, .inl f_p0_found)), (q_p0_pieces_covered, .inl (cI, 8, .inl f_p0_pieces_covered))] sz) [(q_p0, .inr (2, [.int v_p0_soughtSize, .int v_p0_soughtMap, .ref q_p0_pieces, .ref q_p0_amount, .ref q_p0_found, .ref q_p0_loop, .ref q_p0_lessRows, .ref q_p0_leads])), (q_p0_loop, .inl (cI, 12, .inl u.1)), (q_p0_pieces, .inr (3, [.int v_p0_pieces_number, .int v_p0_pieces_falling, .ref q_p0_pieces_covered, .ref q_p0_pieces_counts, .ref q_p0_pieces_earlier, .ref q_p0_pieces_closed, .ref q_p0_pieces_simple, .ref q_p0_pieces_coefficients])), (q_p0_lessRows, .inl (cI, 6, .inl u.2.1)), (q_p0_leads, .inl (cI, 6, .inl u.2.2.1)), (q_p0_amount, .inl (cI, 7, .inl u.2.2.2.2)), (q_p0_found, .inl (cI, 153, .inl u.2.2.2.1)), (q_p0_pieces_covered, .inl (cI, 8, .inl f_p0_pieces_covered))] t) (va_A [(q_p0, .inr (2, [.int v_p0_soughtSize, .int v_p0_soughtMap, .ref q_p0_pieces, .ref q_p0_amount, .ref q_p0_found, .ref q_p0_loop, .ref q_p0_lessRows, .ref q_p0_leads])), (q_p0_loop, .inl (cI, 12, .inl f_p0_loop)), (q_p0_pieces, .inr (3, [.int v_p0_pieces_number, .int v_p0_pieces_falling, .ref q_p0_pieces_covered, .ref q_p0_pieces_counts, .ref q_p0_pieces_earlier, .ref q_p0_pieces_closed, .ref q_p0_pieces_simple, .ref q_p0_pieces_coefficients])), (q_p0_lessRows, .inl (cI, 6, .inl f_p0_lessRows)), (q_p0_leads, .inl (cI, 6, .inl f_p0_leads)), (q_p0_amount, .inl (cI, 7, .inl f_p0_amount)), (q_p0_found, .inl (cI, 153, .inl f_p0_found)), (q_p0_pieces_covered, .inl (cI, 8, .inl f_p0_pieces_covered))] sz)) 0 0 (va_A [(q_p0, .inr (2, [.int v_p0_soughtSize, .int v_p0_soughtMap, .ref q_p0_pieces, .ref q_p0_amount, .ref q_p0_found, .ref q_p0_loop, .ref q_p0_lessRows, .ref q_p0_leads])), (q_p0_loop, .inl (cI, 12, .inl f_p0_loop)), (q_p0_pieces, .inr (3, [.int v_p0_pieces_number, .int v_p0_pieces_falling, .ref q_p0_pieces_covered, .ref q_p0_pieces_counts, .ref q_p0_pieces_earlier, .ref q_p0_pieces_closed, .ref q_p0_pieces_simple, .ref q_p0_pieces_coefficients])), (q_p0_lessRows, .inl (cI, 6, .inl f_p0_lessRows)), (q_p0_leads, .inl (cI, 6, .inl f_p0_leads)), (q_p0_amount, .inl (cI, 7, .inl f_p0_amount)), (q_p0_found, .inl (cI, 153, .inl f_p0_found)), (q_p0_pieces_covered, .inl (cI, 8, .inl f_p0_pieces_covered))] sz) := by
  refine z_met (cc := cX4_takeLoop) (maxL := 2) (ret := none) (Qc := fun A => va_Qv (fun u : (Nat → Int32) × (Nat → Int32) × (Nat → Int32) × (Nat → Int32) × (Nat → Int32) => P u.1 u.2.1 u.2.2.1 u.2.2.2.1 u.2.2.2.2) (fun u t => zPost D cI cJ cB A [(q_p0, .inr (2, [.int v_p0_soughtSize, .int v_p0_soughtMap, .ref q_p0_pieces, .ref q_p0_amount, .ref q_p0_found, .ref q_p0_loop, .ref q_p0_lessRows, .ref q_p0_leads])), (q_p0_loop, .inl (cI, 12, .inl u.1)), (q_p0_pieces, .inr (3, [.int v_p0_pieces_number, .int v_p0_pieces_falling, .ref q_p0_pieces_covered, .ref q_p0_pieces_counts, .ref q_p0_pieces_earlier, .ref q_p0_pieces_closed, .ref q_p0_pieces_simple, .ref q_p0_pieces_coefficients])), (q_p0_lessRows, .inl (cI, 6, .inl u.2.1)), (q_p0_leads, .inl (cI, 6, .inl u.2.2.1)), (q_p0_amount, .inl (cI, 7, .inl u.2.2.2.2)), (q_p0_found, .inl (cI, 153, .inl u.2.2.2.1)), (q_p0_pieces_covered, .inl (cI, 8, .inl f_p0_pieces_covered))] t) A) (by decide) rfl [.ref q_p0, .int x1] (Nat.le_of_ble_eq_true rfl) ?_
  intro p e s m args below meth c A hx hb hr hts hown hml hlocks hA hX hK H locs hP hD hS ls hl Q hQ
  have hown : s.vm.findClass RX4 = some m.cls := hown
  have hl : lv_has ls 2 [(0, .ref q_p0), (1, .int x1)] := hl
  have hw0 : (Cond.fieldLink RX4 10 "ForcedRings$Patterns" "pieces" "LForcedRings$Pieces;").before args s = true := hts _ (List.mem_of_getElem? (i := 1) rfl)
  have hw1 : (Cond.fieldLink RX4 23 "ForcedRings$Patterns" "loop" "[I").before args s = true := hts _ (List.mem_of_getElem? (i := 2) rfl)
  have hw2 : (Cond.methodLink RX4 111 arraycopyName).before args s = true := hts _ (List.mem_of_getElem? (i := 3) rfl)
  have hw3 : (Cond.native arraycopyName).before args s = true := hts _ (List.mem_of_getElem? (i := 4) rfl)
  have hw4 : (Cond.static arraycopyName).before args s = true := hts _ (List.mem_of_getElem? (i := 5) rfl)
  have hw5 : (Cond.initialized "java/lang/System").before args s = true := hts _ (List.mem_of_getElem? (i := 6) rfl)
  have hinX4 : ∀ w ∈ wsX40, w ∈ wsX4_takeLoop := fun _ h => List.mem_cons_of_mem _ (List.mem_append_left _ (List.mem_append_right _ h))
  refine lv_aload_n hx hb dX4_takeLoop_0 rfl (lv_at hl 0 rfl) ?_
  refine va_get (ci := 2) (C := RX4) (T := TX4) (N := 8) (v := .ref q_p0_pieces) hx hb hts hinX4 hown hK hP 0 rfl rfl 2 (by decide) hw0 (fun _ h9 => h9) rfl dX4_takeLoop_1 ?_
  refine lv_aload_n hx hb dX4_takeLoop_4 rfl (lv_at hl 0 rfl) ?_
  refine va_get (ci := 2) (C := RX4) (T := TX4) (N := 8) (v := .ref q_p0_loop) hx hb hts hinX4 hown hK hP 0 rfl rfl 5 (by decide) hw1 (fun _ h9 => h9) rfl dX4_takeLoop_5 ?_
  refine lv_iconst (v := (0 : Int32)) hx hb dX4_takeLoop_8 (by decide) ?_
  obtain ⟨hi1, h⟩ := h
  refine va_iald hx hb hK hP 1 0 rfl rfl hi1 dX4_takeLoop_9 ?_
  refine lv_aload_n hx hb dX4_takeLoop_10 rfl (lv_at hl 0 rfl) ?_
  refine va_get (ci := 2) (C := RX4) (T := TX4) (N := 8) (v := .ref q_p0_loop) hx hb hts hinX4 hown hK hP 0 rfl rfl 5 (by decide) hw1 (fun _ h9 => h9) rfl dX4_takeLoop_11 ?_
  refine lv_iload_n hx hb dX4_takeLoop_14 rfl (lv_at hl 1 rfl) ?_
  refine lv_iconst (v := (1 : Int32)) hx hb dX4_takeLoop_15 (by decide) ?_
  refine lv_isub hx hb dX4_takeLoop_16 ?_
  obtain ⟨hi2, h⟩ := h
  refine va_iald hx hb hK hP 1 0 rfl rfl hi2 dX4_takeLoop_17 ?_
  refine z_cVi (As := [.int (f_p0_loop (0 : Int32).toNatClampNeg), .int (f_p0_loop (x1 - (1 : Int32)).toNatClampNeg)]) (rest := []) (wr := [(q_p0, .inr (2, [.int v_p0_soughtSize, .int v_p0_soughtMap, .ref q_p0_pieces, .ref q_p0_amount, .ref q_p0_found, .ref q_p0_loop, .ref q_p0_lessRows, .ref q_p0_leads])), (q_p0_loop, .inl (cI, 12, .inl f_p0_loop)), (q_p0_lessRows, .inl (cI, 6, .inl f_p0_lessRows)), (q_p0_leads, .inl (cI, 6, .inl f_p0_leads)), (q_p0_amount, .inl (cI, 7, .inl f_p0_amount)), (q_p0_found, .inl (cI, 153, .inl f_p0_found))]) (wn := fun u => [(q_p0, .inr (2, [.int v_p0_soughtSize, .int v_p0_soughtMap, .ref q_p0_pieces, .ref q_p0_amount, .ref q_p0_found, .ref q_p0_loop, .ref q_p0_lessRows, .ref q_p0_leads])), (q_p0_loop, .inl (cI, 12, .inl f_p0_loop)), (q_p0_pieces, .inr (3, [.int v_p0_pieces_number, .int v_p0_pieces_falling, .ref q_p0_pieces_covered, .ref q_p0_pieces_counts, .ref q_p0_pieces_earlier, .ref q_p0_pieces_closed, .ref q_p0_pieces_simple, .ref q_p0_pieces_coefficients])), (q_p0_lessRows, .inl (cI, 6, .inl f_p0_lessRows)), (q_p0_leads, .inl (cI, 6, .inl f_p0_leads)), (q_p0_amount, .inl (cI, 7, .inl f_p0_amount)), (q_p0_found, .inl (cI, 153, .inl f_p0_found)), (q_p0_pieces_covered, .inl (cI, 8, .inl f_p0_pieces_covered))]) (c_X5_isCovered l D cI cJ cB tU tM tS q_p0_pieces q_p0_pieces_covered q_p0_pieces_counts q_p0_pieces_earlier q_p0_pieces_closed q_p0_pieces_simple q_p0_pieces_coefficients H.size (f_p0_loop (0 : Int32).toNatClampNeg) (f_p0_loop (x1 - (1 : Int32)).toNatClampNeg) f_p0_pieces_covered v_p0_pieces_number v_p0_pieces_falling _ h) ⟨hx, hb, hml, hown, hts⟩ (cwV 2 hts gX4_takeLoop_X5_isCovered rfl rfl rfl hd_X5_isCovered ⟨Nat.le_of_ble_eq_true rfl, Nat.le_of_ble_eq_true rfl⟩) hX hK hP hD hS hA [2, 7] [0, 1, 3, 4, 5, 6] [0, 1, 6, 2, 3, 4, 5, 7] rfl rfl rfl (by decide) (fun _ => rfl) (q0 := 2) (ci := 3) rfl rfl rfl hl.1 rfl (Nat.le_of_ble_eq_true rfl) ⟨Nat.le_refl _, Nat.le_refl _⟩ dX4_takeLoop_18 (fun r3 u3 H locs h hP hD hS => ?_)
  refine lv_if_ne (tgt := 25) hx hb dX4_takeLoop_21 (by decide) (fun c4 => ?_) (fun c4 => ?_)
  · have h := And.right h c4
    refine lv_aload_n hx hb dX4_takeLoop_25 rfl (lv_at hl 0 rfl) ?_
    refine va_get (ci := 2) (C := RX4) (T := TX4) (N := 8) (v := .ref q_p0_loop) hx hb hts hinX4 hown hK hP 0 rfl rfl 5 (by decide) hw1 (fun _ h9 => h9) rfl dX4_takeLoop_26 ?_
    refine lv_iconst (v := (0 : Int32)) hx hb dX4_takeLoop_29 (by decide) ?_
    refine lv_aload_n hx hb dX4_takeLoop_30 rfl (lv_at hl 0 rfl) ?_
    refine va_get (ci := 2) (C := RX4) (T := TX4) (N := 8) (v := .ref q_p0_loop) hx hb hts hinX4 hown hK hP 0 rfl rfl 5 (by decide) hw1 (fun _ h9 => h9) rfl dX4_takeLoop_31 ?_
    refine lv_iload_n hx hb dX4_takeLoop_34 rfl (lv_at hl 1 rfl) ?_
    refine lv_iload_n hx hb dX4_takeLoop_35 rfl (lv_at hl 1 rfl) ?_
    obtain ⟨⟨ha5, hb5, hc5, hd5, he5⟩, h⟩ := h
    refine z_copyi (wn := [(q_p0, .inr (2, [.int v_p0_soughtSize, .int v_p0_soughtMap, .ref q_p0_pieces, .ref q_p0_amount, .ref q_p0_found, .ref q_p0_loop, .ref q_p0_lessRows, .ref q_p0_leads])), (q_p0_loop, .inl (cI, 12, .inl (va_cpy f_p0_loop f_p0_loop (0 : Int32).toNatClampNeg x1.toNatClampNeg x1.toNatClampNeg))), (q_p0_pieces, .inr (3, [.int v_p0_pieces_number, .int v_p0_pieces_falling, .ref q_p0_pieces_covered, .ref q_p0_pieces_counts, .ref q_p0_pieces_earlier, .ref q_p0_pieces_closed, .ref q_p0_pieces_simple, .ref q_p0_pieces_coefficients])), (q_p0_lessRows, .inl (cI, 6, .inl f_p0_lessRows)), (q_p0_leads, .inl (cI, 6, .inl f_p0_leads)), (q_p0_amount, .inl (cI, 7, .inl f_p0_amount)), (q_p0_found, .inl (cI, 153, .inl f_p0_found)), (q_p0_pieces_covered, .inl (cI, 8, .inl f_p0_pieces_covered))]) hx hb (hml.trans hl.1.symm) hown hw2 hw3 hw4 hw5 hK hP hD hS 1 1 rfl rfl ha5 hb5 hc5 hd5 he5 (Nat.le_of_ble_eq_true rfl) (Nat.le_of_ble_eq_true rfl) dX4_takeLoop_36 rfl (fun H locs hP hD hS => ?_)
    refine lv_aload_n hx hb dX4_takeLoop_39 rfl (lv_at hl 0 rfl) ?_
    refine lv_iload_n hx hb dX4_takeLoop_40 rfl (lv_at hl 1 rfl) ?_
    refine z_cVi (As := [.int x1]) (rest := []) (wr := [(q_p0_leads, .inl (cI, 6, .inl f_p0_leads)), (q_p0_amount, .inl (cI, 7, .inl f_p0_amount)), (q_p0_found, .inl (cI, 153, .inl f_p0_found)), (q_p0_pieces_covered, .inl (cI, 8, .inl f_p0_pieces_covered))]) (wn := fun u => [(q_p0, .inr (2, [.int v_p0_soughtSize, .int v_p0_soughtMap, .ref q_p0_pieces, .ref q_p0_amount, .ref q_p0_found, .ref q_p0_loop, .ref q_p0_lessRows, .ref q_p0_leads])), (q_p0_loop, .inl (cI, 12, .inl (va_cpy f_p0_loop f_p0_loop (0 : Int32).toNatClampNeg x1.toNatClampNeg x1.toNatClampNeg))), (q_p0_pieces, .inr (3, [.int v_p0_pieces_number, .int v_p0_pieces_falling, .ref q_p0_pieces_covered, .ref q_p0_pieces_counts, .ref q_p0_pieces_earlier, .ref q_p0_pieces_closed, .ref q_p0_pieces_simple, .ref q_p0_pieces_coefficients])), (q_p0_lessRows, .inl (cI, 6, .inl u)), (q_p0_leads, .inl (cI, 6, .inl f_p0_leads)), (q_p0_amount, .inl (cI, 7, .inl f_p0_amount)), (q_p0_found, .inl (cI, 153, .inl f_p0_found)), (q_p0_pieces_covered, .inl (cI, 8, .inl f_p0_pieces_covered))]) (c_X4_numberRows l D cI cJ cB tU tM tS q_p0 q_p0_pieces q_p0_amount q_p0_found q_p0_loop q_p0_lessRows q_p0_leads q_p0_pieces_covered q_p0_pieces_counts q_p0_pieces_earlier q_p0_pieces_closed q_p0_pieces_simple q_p0_pieces_coefficients H.size x1 (va_cpy f_p0_loop f_p0_loop (0 : Int32).toNatClampNeg x1.toNatClampNeg x1.toNatClampNeg) v_p0_pieces_falling f_p0_lessRows v_p0_soughtSize v_p0_soughtMap v_p0_pieces_number _ h) ⟨hx, hb, hml, hown, hts⟩ (cwV 1 hts gX4_takeLoop_X4_numberRows rfl rfl rfl hd_X4_numberRows ⟨Nat.le_of_ble_eq_true rfl, Nat.le_of_ble_eq_true rfl⟩) hX hK hP hD hS hA [0, 1, 2, 3] [4, 5, 6, 7] [4, 5, 6, 7, 0, 1, 2, 3] rfl rfl rfl (by decide) (fun _ => rfl) (q0 := 0) (ci := 2) rfl rfl rfl hl.1 rfl (Nat.le_of_ble_eq_true rfl) ⟨Nat.le_refl _, Nat.le_refl _⟩ dX4_takeLoop_41 (fun r6 m6_0 H locs h hP hD hS => ?_)
    refine lv_if_eq (tgt := 57) hx hb dX4_takeLoop_44 (by decide) (fun c7 => ?_) (fun c7 => ?_)
    · have h := And.left h c7
      exact z_vret hQ hx hb hr hlocks hK ((va_cpy f_p0_loop f_p0_loop (0 : Int32).toNatClampNeg x1.toNatClampNeg x1.toNatClampNeg), m6_0, f_p0_leads, f_p0_found, f_p0_amount) h hP hD hS dX4_takeLoop_57
    · have h := And.right h c7
      refine lv_aload_n hx hb dX4_takeLoop_47 rfl (lv_at hl 0 rfl) ?_
      refine lv_iload_n hx hb dX4_takeLoop_48 rfl (lv_at hl 1 rfl) ?_
      refine lv_aload_n hx hb dX4_takeLoop_49 rfl (lv_at hl 0 rfl) ?_
      refine lv_iload_n hx hb dX4_takeLoop_50 rfl (lv_at hl 1 rfl) ?_
      refine z_cVi (As := [.int x1]) (rest := [.int x1, .ref q_p0]) (wr := [(q_p0_loop, .inl (cI, 12, .inl (va_cpy f_p0_loop f_p0_loop (0 : Int32).toNatClampNeg x1.toNatClampNeg x1.toNatClampNeg))), (q_p0_pieces, .inr (3, [.int v_p0_pieces_number, .int v_p0_pieces_falling, .ref q_p0_pieces_covered, .ref q_p0_pieces_counts, .ref q_p0_pieces_earlier, .ref q_p0_pieces_closed, .ref q_p0_pieces_simple, .ref q_p0_pieces_coefficients])), (q_p0_amount, .inl (cI, 7, .inl f_p0_amount)), (q_p0_found, .inl (cI, 153, .inl f_p0_found)), (q_p0_pieces_covered, .inl (cI, 8, .inl f_p0_pieces_covered))]) (wn := fun u => [(q_p0, .inr (2, [.int v_p0_soughtSize, .int v_p0_soughtMap, .ref q_p0_pieces, .ref q_p0_amount, .ref q_p0_found, .ref q_p0_loop, .ref q_p0_lessRows, .ref q_p0_leads])), (q_p0_loop, .inl (cI, 12, .inl (va_cpy f_p0_loop f_p0_loop (0 : Int32).toNatClampNeg x1.toNatClampNeg x1.toNatClampNeg))), (q_p0_pieces, .inr (3, [.int v_p0_pieces_number, .int v_p0_pieces_falling, .ref q_p0_pieces_covered, .ref q_p0_pieces_counts, .ref q_p0_pieces_earlier, .ref q_p0_pieces_closed, .ref q_p0_pieces_simple, .ref q_p0_pieces_coefficients])), (q_p0_lessRows, .inl (cI, 6, .inl m6_0)), (q_p0_leads, .inl (cI, 6, .inl u)), (q_p0_amount, .inl (cI, 7, .inl f_p0_amount)), (q_p0_found, .inl (cI, 153, .inl f_p0_found)), (q_p0_pieces_covered, .inl (cI, 8, .inl f_p0_pieces_covered))]) (c_X4_loopFigures l D cI cJ cB tU tM tS q_p0 q_p0_pieces q_p0_amount q_p0_found q_p0_loop q_p0_lessRows q_p0_leads H.size x1 f_p0_leads m6_0 v_p0_soughtSize v_p0_soughtMap _ h) ⟨hx, hb, hml, hown, hts⟩ (cwV 1 hts gX4_takeLoop_X4_loopFigures rfl rfl rfl hd_X4_loopFigures ⟨Nat.le_of_ble_eq_true rfl, Nat.le_of_ble_eq_true rfl⟩) hX hK hP hD hS hA [0, 4, 3] [1, 2, 5, 6, 7] [5, 0, 1, 7, 6, 2, 3, 4] rfl rfl rfl (by decide) (fun _ => rfl) (q0 := 0) (ci := 2) rfl rfl rfl hl.1 rfl (Nat.le_of_ble_eq_true rfl) ⟨Nat.le_refl _, Nat.le_refl _⟩ dX4_takeLoop_51 (fun r8 m8_0 H locs h hP hD hS => ?_)
      refine z_cVv (As := [.int x1, .int r8]) (rest := []) (wr := [(q_p0_loop, .inl (cI, 12, .inl (va_cpy f_p0_loop f_p0_loop (0 : Int32).toNatClampNeg x1.toNatClampNeg x1.toNatClampNeg))), (q_p0_pieces, .inr (3, [.int v_p0_pieces_number, .int v_p0_pieces_falling, .ref q_p0_pieces_covered, .ref q_p0_pieces_counts, .ref q_p0_pieces_earlier, .ref q_p0_pieces_closed, .ref q_p0_pieces_simple, .ref q_p0_pieces_coefficients])), (q_p0_lessRows, .inl (cI, 6, .inl m6_0)), (q_p0_leads, .inl (cI, 6, .inl m8_0)), (q_p0_pieces_covered, .inl (cI, 8, .inl f_p0_pieces_covered))]) (wn := fun u => [(q_p0, .inr (2, [.int v_p0_soughtSize, .int v_p0_soughtMap, .ref q_p0_pieces, .ref q_p0_amount, .ref q_p0_found, .ref q_p0_loop, .ref q_p0_lessRows, .ref q_p0_leads])), (q_p0_loop, .inl (cI, 12, .inl (va_cpy f_p0_loop f_p0_loop (0 : Int32).toNatClampNeg x1.toNatClampNeg x1.toNatClampNeg))), (q_p0_pieces, .inr (3, [.int v_p0_pieces_number, .int v_p0_pieces_falling, .ref q_p0_pieces_covered, .ref q_p0_pieces_counts, .ref q_p0_pieces_earlier, .ref q_p0_pieces_closed, .ref q_p0_pieces_simple, .ref q_p0_pieces_coefficients])), (q_p0_lessRows, .inl (cI, 6, .inl m6_0)), (q_p0_leads, .inl (cI, 6, .inl m8_0)), (q_p0_amount, .inl (cI, 7, .inl u.2)), (q_p0_found, .inl (cI, 153, .inl u.1)), (q_p0_pieces_covered, .inl (cI, 8, .inl f_p0_pieces_covered))]) (c_X4_add l D cI cJ cB tU tM tS q_p0 q_p0_pieces q_p0_amount q_p0_found q_p0_loop q_p0_lessRows q_p0_leads H.size x1 r8 f_p0_amount f_p0_found v_p0_soughtSize v_p0_soughtMap _ h) ⟨hx, hb, hml, hown, hts⟩ (cwV 2 hts gX4_takeLoop_X4_add rfl rfl rfl hd_X4_add ⟨Nat.le_of_ble_eq_true rfl, Nat.le_of_ble_eq_true rfl⟩) hX hK hP hD hS hA [0, 5, 6] [1, 2, 3, 4, 7] [5, 0, 1, 2, 3, 6, 7, 4] rfl rfl rfl (by decide) (fun _ => rfl) (q0 := 0) (ci := 2) rfl rfl rfl hl.1 rfl (Nat.le_of_ble_eq_true rfl) ⟨Nat.le_refl _, Nat.le_refl _⟩ dX4_takeLoop_54 (fun u9 H locs h hP hD hS => ?_)
      obtain ⟨m9_0, m9_1⟩ := u9
      exact z_vret hQ hx hb hr hlocks hK ((va_cpy f_p0_loop f_p0_loop (0 : Int32).toNatClampNeg x1.toNatClampNeg x1.toNatClampNeg), m6_0, m8_0, m9_0, m9_1) h hP hD hS dX4_takeLoop_57
  · have h := And.left h c4
    exact z_vret hQ hx hb hr hlocks hK (f_p0_loop, f_p0_lessRows, f_p0_leads, f_p0_found, f_p0_amount) h hP hD hS dX4_takeLoop_24
theorem hd_X4_extend : yX4_extend.cls = RX4 ∧ yX4_extend.cls ≠ "java/lang/invoke/MethodHandle" ∧ yX4_extend.cls ≠ "java/lang/invoke/VarHandle" ∧ (parseMethodDescriptor yX4_extend.desc).map (fun d => d.parameters.length) = some 3 := by decide +kernel
set_option maxHeartbeats 4000000 in
set_option maxRecDepth 100000 in
theorem c_X4_extend (l : Launch) (D : va_G) (cI cJ cB : ClassId) (tU tM tS : Nat) (q_p0 q_p0_pieces q_p0_amount q_p0_found q_p0_loop q_p0_lessRows q_p0_leads q_p0_pieces_covered q_p0_pieces_counts q_p0_pieces_earlier q_p0_pieces_closed q_p0_pieces_simple q_p0_pieces_coefficients : Nat) : ∀ (d : Nat) (sz : Nat) (x1 : Int32) (x2 : Int32) (f_p0_amount : (Nat → Int32)) (f_p0_loop : (Nat → Int32)) (v_p0_pieces_number : Int32) (f_p0_pieces_covered : (Nat → Int32)) (v_p0_pieces_falling : Int32) (f_p0_lessRows : (Nat → Int32)) (f_p0_leads : (Nat → Int32)) (f_p0_found : (Nat → Int32)) (v_p0_soughtSize : Int32) (v_p0_soughtMap : Int32) (P : (Nat → Int32) → (Nat → Int32) → (Nat → Int32) → (Nat → Int32) → (Nat → Int32) → Prop), M_X4_extend d x1 x2 f_p0_amount f_p0_loop v_p0_pieces_number f_p0_pieces_covered v_p0_pieces_falling f_p0_lessRows f_p0_leads f_p0_found P → Met l yX4_extend wsX4_extend ({ frames := 4 + d, cells := 0, slots := 0, locals := 93 + d * 24 }) (va_Pc [.ref q_p0, .int x1, .int x2] (zPre D cI cJ cB tU tM tS [(q_p0, .inr (2, [.int v_p0_soughtSize, .int v_p0_soughtMap, .ref q_p0_pieces, .ref q_p0_amount, .ref q_p0_found, .ref q_p0_loop, .ref q_p0_lessRows, .ref q_p0_leads])), (q_p0_amount, .inl (cI, 7, .inl f_p0_amount)), (q_p0_loop, .inl (cI, 12, .inl f_p0_loop)), (q_p0_pieces, .inr (3, [.int v_p0_pieces_number, .int v_p0_pieces_falling, .ref q_p0_pieces_covered, .ref q_p0_pieces_counts, .ref q_p0_pieces_earlier, .ref q_p0_pieces_closed, .ref q_p0_pieces_simple, .ref q_p0_pieces_coefficients])), (q_p0_lessRows, .inl (cI, 6, .inl f_p0_lessRows)), (q_p0_leads, .inl (cI, 6, .inl f_p0_leads)), (q_p0_found, .inl (cI, 153, .inl f_p0_found)), (q_p0_pieces_covered, .inl (cI, 8, .inl f_p0_pieces_covered))] sz)) (va_Qv (fun u : (Nat → Int32) × (Nat → Int32) × (Nat → Int32) × (Nat → Int32) × (Nat → Int32) => P u.1 u.2.1 u.2.2.1 u.2.2.2.1 u.2.2.2.2) (fun u t => zPost D cI cJ cB (va_A [(q_p0, .inr (2, [.int v_p0_soughtSize, .int v_p0_soughtMap, .ref q_p0_pieces, .ref q_p0_amount, .ref q_p0_found, .ref q_p0_loop, .ref q_p0_lessRows, .ref q_p0_leads])), (q_p0_amount, .inl (cI, 7, .inl f_p0_amount)), (q_p0_loop, .inl (cI, 12, .inl f_p0_loop)), (q_p0_pieces, .inr (3, [.int v_p0_pieces_number, .int v_p0_pieces_falling, .ref q_p0_pieces_covered, .ref q_p0_pieces_counts, .ref q_p0_pieces_earlier, .ref q_p0_pieces_closed, .ref q_p0_pieces_simple, .ref q_p0_pieces_coefficients])), (q_p0_lessRows, .inl (cI, 6, .inl f_p0_lessRows)), (q_p0_leads, .inl (cI, 6, .inl f_p0_leads)), (q_p0_found, .inl (cI, 153, .inl f_p0_found)), (q_p0_pieces_covered, .inl (cI, 8, .inl f_p0_pieces_covered))] sz) [(q_p0, .inr (2, [.int v_p0_soughtSize, .int v_p0_soughtMap, .ref q_p0_pieces, .ref q_p0_amount, .ref q_p0_found, .ref q_p0_loop, .ref q_p0_lessRows, .ref q_p0_leads])), (q_p0_amount, .inl (cI, 7, .inl u.2.2.2.2)), (q_p0_loop, .inl (cI, 12, .inl u.1)), (q_p0_pieces, .inr (3, [.int v_p0_pieces_number, .int v_p0_pieces_falling, .ref q_p0_pieces_covered, .ref q_p0_pieces_counts, .ref q_p0_pieces_earlier, .ref q_p0_pieces_closed, .ref q_p0_pieces_simple, .ref q_p0_pieces_coefficients])), (q_p0_lessRows, .inl (cI, 6, .inl u.2.1)), (q_p0_leads, .inl (cI, 6, .inl u.2.2.1)), (q_p0_found, .inl (cI, 153, .inl u.2.2.2.1)), (q_p0_pieces_covered, .inl (cI, 8, .inl f_p0_pieces_covered))] t) (va_A [(q_p0, .inr (2, [.int v_p0_soughtSize, .int v_p0_soughtMap, .ref q_p0_pieces, .ref q_p0_amount, .ref q_p0_found, .ref q_p0_loop, .ref q_p0_lessRows, .ref q_p0_leads])), (q_p0_amount, .inl (cI, 7, .inl f_p0_amount)), (q_p0_loop, .inl (cI, 12, .inl f_p0_loop)), (q_p0_pieces, .inr (3, [.int v_p0_pieces_number, .int v_p0_pieces_falling, .ref q_p0_pieces_covered, .ref q_p0_pieces_counts, .ref q_p0_pieces_earlier, .ref q_p0_pieces_closed, .ref q_p0_pieces_simple, .ref q_p0_pieces_coefficients])), (q_p0_lessRows, .inl (cI, 6, .inl f_p0_lessRows)), (q_p0_leads, .inl (cI, 6, .inl f_p0_leads)), (q_p0_found, .inl (cI, 153, .inl f_p0_found)), (q_p0_pieces_covered, .inl (cI, 8, .inl f_p0_pieces_covered))] sz)) 0 0 (va_A [(q_p0, .inr (2, [.int v_p0_soughtSize, .int v_p0_soughtMap, .ref q_p0_pieces, .ref q_p0_amount, .ref q_p0_found, .ref q_p0_loop, .ref q_p0_lessRows, .ref q_p0_leads])), (q_p0_amount, .inl (cI, 7, .inl f_p0_amount)), (q_p0_loop, .inl (cI, 12, .inl f_p0_loop)), (q_p0_pieces, .inr (3, [.int v_p0_pieces_number, .int v_p0_pieces_falling, .ref q_p0_pieces_covered, .ref q_p0_pieces_counts, .ref q_p0_pieces_earlier, .ref q_p0_pieces_closed, .ref q_p0_pieces_simple, .ref q_p0_pieces_coefficients])), (q_p0_lessRows, .inl (cI, 6, .inl f_p0_lessRows)), (q_p0_leads, .inl (cI, 6, .inl f_p0_leads)), (q_p0_found, .inl (cI, 153, .inl f_p0_found)), (q_p0_pieces_covered, .inl (cI, 8, .inl f_p0_pieces_covered))] sz) := by
  intro d
  induction d with
  | zero =>
    intro sz x1 x2 f_p0_amount f_p0_loop v_p0_pieces_number f_p0_pieces_covered v_p0_pieces_falling f_p0_lessRows f_p0_leads f_p0_found v_p0_soughtSize v_p0_soughtMap P h
    exact False.elim h
  | succ d ihd =>
  intro sz x1 x2 f_p0_amount f_p0_loop v_p0_pieces_number f_p0_pieces_covered v_p0_pieces_falling f_p0_lessRows f_p0_leads f_p0_found v_p0_soughtSize v_p0_soughtMap P h
  have h : Mb_X4_extend (M_X4_extend d) x1 x2 f_p0_amount f_p0_loop v_p0_pieces_number f_p0_pieces_covered v_p0_pieces_falling f_p0_lessRows f_p0_leads f_p0_found P := h
  refine z_met (cc := cX4_extend) (maxL := 5) (ret := none) (Qc := fun A => va_Qv (fun u : (Nat → Int32) × (Nat → Int32) × (Nat → Int32) × (Nat → Int32) × (Nat → Int32) => P u.1 u.2.1 u.2.2.1 u.2.2.2.1 u.2.2.2.2) (fun u t => zPost D cI cJ cB A [(q_p0, .inr (2, [.int v_p0_soughtSize, .int v_p0_soughtMap, .ref q_p0_pieces, .ref q_p0_amount, .ref q_p0_found, .ref q_p0_loop, .ref q_p0_lessRows, .ref q_p0_leads])), (q_p0_amount, .inl (cI, 7, .inl u.2.2.2.2)), (q_p0_loop, .inl (cI, 12, .inl u.1)), (q_p0_pieces, .inr (3, [.int v_p0_pieces_number, .int v_p0_pieces_falling, .ref q_p0_pieces_covered, .ref q_p0_pieces_counts, .ref q_p0_pieces_earlier, .ref q_p0_pieces_closed, .ref q_p0_pieces_simple, .ref q_p0_pieces_coefficients])), (q_p0_lessRows, .inl (cI, 6, .inl u.2.1)), (q_p0_leads, .inl (cI, 6, .inl u.2.2.1)), (q_p0_found, .inl (cI, 153, .inl u.2.2.2.1)), (q_p0_pieces_covered, .inl (cI, 8, .inl f_p0_pieces_covered))] t) A) (by decide) rfl [.ref q_p0, .int x1, .int x2] (Nat.le_of_ble_eq_true rfl) ?_
  intro p e s m args below meth c A hx hb hr hts hown hml hlocks hA hX hK H locs hP hD hS ls hl Q hQ
  have hown : s.vm.findClass RX4 = some m.cls := hown
  have hl : lv_has ls 5 [(0, .ref q_p0), (1, .int x1), (2, .int x2)] := hl
  have hw0 : (Cond.fieldLink RX4 16 "ForcedRings$Patterns" "amount" "[I").before args s = true := hts _ (List.mem_of_getElem? (i := 1) rfl)
  have hw1 : (Cond.fieldLink RX4 100 "ForcedRings$Patterns" "MOST" "[I").before args s = true := hts _ (List.mem_of_getElem? (i := 2) rfl)
  have hw2 : (Cond.fieldLink RX4 23 "ForcedRings$Patterns" "loop" "[I").before args s = true := hts _ (List.mem_of_getElem? (i := 3) rfl)
  have hw3 : (Cond.fieldLink RX4 10 "ForcedRings$Patterns" "pieces" "LForcedRings$Pieces;").before args s = true := hts _ (List.mem_of_getElem? (i := 4) rfl)
  have hw4 : (Cond.fieldLink RX4 66 "ForcedRings$Pieces" "number" "I").before args s = true := hts _ (List.mem_of_getElem? (i := 5) rfl)
  have hinX4 : ∀ w ∈ wsX40, w ∈ wsX4_extend := fun _ h => List.mem_cons_of_mem _ (List.mem_append_left _ (List.mem_append_right _ h))
  have hinX5 : ∀ w ∈ wsX50, w ∈ wsX4_extend := fun _ h => List.mem_cons_of_mem _ (List.mem_append_right _ h)
  refine lv_iload_n hx hb dX4_extend_0 rfl (lv_at hl 2 rfl) ?_
  refine lv_iconst (v := (1 : Int32)) hx hb dX4_extend_1 (by decide) ?_
  refine lv_icmp_lt (tgt := 24) hx hb dX4_extend_2 (by decide) (fun c1 => ?_) (fun c1 => ?_)
  · have h := And.left h c1
    exact z_vret hQ hx hb hr hlocks hK (f_p0_loop, f_p0_lessRows, f_p0_leads, f_p0_found, f_p0_amount) h hP hD hS dX4_extend_24
  · have h := And.right h c1
    refine lv_iload_n hx hb dX4_extend_5 rfl (lv_at hl 2 rfl) ?_
    refine lv_iload_n hx hb dX4_extend_6 rfl (lv_at hl 1 rfl) ?_
    refine lv_icmp_gt (tgt := 24) hx hb dX4_extend_7 (by decide) (fun c2 => ?_) (fun c2 => ?_)
    · have h := And.left h c2
      exact z_vret hQ hx hb hr hlocks hK (f_p0_loop, f_p0_lessRows, f_p0_leads, f_p0_found, f_p0_amount) h hP hD hS dX4_extend_24
    · have h := And.right h c2
      refine lv_aload_n hx hb dX4_extend_10 rfl (lv_at hl 0 rfl) ?_
      refine va_get (ci := 2) (C := RX4) (T := TX4) (N := 8) (v := .ref q_p0_amount) hx hb hts hinX4 hown hK hP 0 rfl rfl 3 (by decide) hw0 (fun _ h9 => h9) rfl dX4_extend_11 ?_
      refine lv_iload_n hx hb dX4_extend_14 rfl (lv_at hl 1 rfl) ?_
      obtain ⟨hi3, h⟩ := h
      refine va_iald hx hb hK hP 1 0 rfl rfl hi3 dX4_extend_15 ?_
      refine va_gets hx hb hX.2.1.1 hS hown hw1 (fun _ h9 => h9) dX4_extend_16 ?_
      refine lv_iload_n hx hb dX4_extend_19 rfl (lv_at hl 1 rfl) ?_
      obtain ⟨hi4, h⟩ := h
      refine va_ti (v := .int (kM x1.toNatClampNeg)) hx hb hX.2.1.2 hS hi4 rfl dX4_extend_20 ?_
      refine lv_icmp_lt (tgt := 25) hx hb dX4_extend_21 (by decide) (fun c5 => ?_) (fun c5 => ?_)
      · have h := And.left h c5
        refine lv_iload_n hx hb dX4_extend_25 rfl (lv_at hl 2 rfl) ?_
        refine lv_iload_n hx hb dX4_extend_26 rfl (lv_at hl 1 rfl) ?_
        refine lv_icmp_ne (tgt := 36) hx hb dX4_extend_27 (by decide) (fun c6 => ?_) (fun c6 => ?_)
        · have h := And.right h c6
          refine lv_aload_n hx hb dX4_extend_36 rfl (lv_at hl 0 rfl) ?_
          refine va_get (ci := 2) (C := RX4) (T := TX4) (N := 8) (v := .ref q_p0_loop) hx hb hts hinX4 hown hK hP 0 rfl rfl 5 (by decide) hw2 (fun _ h9 => h9) rfl dX4_extend_37 ?_
          refine lv_astore_n (lv' := [(3, .ref q_p0_loop), (0, .ref q_p0), (1, .int x1), (2, .int x2)]) hx hb dX4_extend_40 rfl hl (by decide) rfl (fun ls hl => ?_)
          refine lv_aload_n hx hb dX4_extend_41 rfl (lv_at hl 0 rfl) ?_
          refine lv_iconst (v := (0 : Int32)) hx hb dX4_extend_42 (by decide) ?_
          obtain ⟨hi7, h⟩ := h
          refine va_iald hx hb hK hP 2 0 rfl rfl hi7 dX4_extend_43 ?_
          refine lv_istore (lv' := [(4, .int (f_p0_loop (0 : Int32).toNatClampNeg)), (3, .ref q_p0_loop), (0, .ref q_p0), (1, .int x1), (2, .int x2)]) hx hb dX4_extend_44 hl (by decide) rfl (fun ls hl => ?_)
          have k46 : ∀  (n46 : Nat) (l4 : Int32) (f_p0_loop : (Nat → Int32)) (f_p0_lessRows : (Nat → Int32)) (f_p0_leads : (Nat → Int32)) (f_p0_found : (Nat → Int32)) (f_p0_amount : (Nat → Int32)) (H : Heap) (locs : List Loc) (ls : Array Slot), LP6 (M_X4_extend_l46 (M_X4_extend d) x1 x2 v_p0_pieces_number f_p0_pieces_covered v_p0_pieces_falling P ) n46 l4 f_p0_loop f_p0_lessRows f_p0_leads f_p0_found f_p0_amount → va_P D vwCl [(q_p0, .inr (2, [.int v_p0_soughtSize, .int v_p0_soughtMap, .ref q_p0_pieces, .ref q_p0_amount, .ref q_p0_found, .ref q_p0_loop, .ref q_p0_lessRows, .ref q_p0_leads])), (q_p0_amount, .inl (cI, 7, .inl f_p0_amount)), (q_p0_loop, .inl (cI, 12, .inl f_p0_loop)), (q_p0_pieces, .inr (3, [.int v_p0_pieces_number, .int v_p0_pieces_falling, .ref q_p0_pieces_covered, .ref q_p0_pieces_counts, .ref q_p0_pieces_earlier, .ref q_p0_pieces_closed, .ref q_p0_pieces_simple, .ref q_p0_pieces_coefficients])), (q_p0_lessRows, .inl (cI, 6, .inl f_p0_lessRows)), (q_p0_leads, .inl (cI, 6, .inl f_p0_leads)), (q_p0_found, .inl (cI, 153, .inl f_p0_found)), (q_p0_pieces_covered, .inl (cI, 8, .inl f_p0_pieces_covered))] H → va_D A [(q_p0, .inr (2, [.int v_p0_soughtSize, .int v_p0_soughtMap, .ref q_p0_pieces, .ref q_p0_amount, .ref q_p0_found, .ref q_p0_loop, .ref q_p0_lessRows, .ref q_p0_leads])), (q_p0_amount, .inl (cI, 7, .inl f_p0_amount)), (q_p0_loop, .inl (cI, 12, .inl f_p0_loop)), (q_p0_pieces, .inr (3, [.int v_p0_pieces_number, .int v_p0_pieces_falling, .ref q_p0_pieces_covered, .ref q_p0_pieces_counts, .ref q_p0_pieces_earlier, .ref q_p0_pieces_closed, .ref q_p0_pieces_simple, .ref q_p0_pieces_coefficients])), (q_p0_lessRows, .inl (cI, 6, .inl f_p0_lessRows)), (q_p0_leads, .inl (cI, 6, .inl f_p0_leads)), (q_p0_found, .inl (cI, 153, .inl f_p0_found)), (q_p0_pieces_covered, .inl (cI, 8, .inl f_p0_pieces_covered))] → va_S A s.heap H locs → lv_has ls 5 [(0, .ref q_p0), (1, .int x1), (2, .int x2), (3, .ref q_p0_loop), (4, .int l4)] → W p l e { frames := 4 + (d + 1), cells := 0, slots := 0, locals := 93 + (d + 1) * 24 } s m args below meth c H locs 0 0 Q (F0 m 46 ls []) := by
            intro  n46
            induction n46 with
            | zero =>
              intro l4 f_p0_loop f_p0_lessRows f_p0_leads f_p0_found f_p0_amount H locs ls h
              exact False.elim h
            | succ n46 ih46 =>
              intro l4 f_p0_loop f_p0_lessRows f_p0_leads f_p0_found f_p0_amount H locs ls h hP hD hS hl
              have h : M_X4_extend_l46 (M_X4_extend d) x1 x2 v_p0_pieces_number f_p0_pieces_covered v_p0_pieces_falling P  (LP6 (M_X4_extend_l46 (M_X4_extend d) x1 x2 v_p0_pieces_number f_p0_pieces_covered v_p0_pieces_falling P ) n46) l4 f_p0_loop f_p0_lessRows f_p0_leads f_p0_found f_p0_amount := h
              refine lv_iload hx hb dX4_extend_46 (lv_at hl 4 rfl) ?_
              refine lv_aload_n hx hb dX4_extend_48 rfl (lv_at hl 0 rfl) ?_
              refine va_get (ci := 2) (C := RX4) (T := TX4) (N := 8) (v := .ref q_p0_pieces) hx hb hts hinX4 hown hK hP 0 rfl rfl 2 (by decide) hw3 (fun _ h9 => h9) rfl dX4_extend_49 ?_
              refine va_get (ci := 3) (C := RX5) (T := TX5) (N := 8) (v := .int v_p0_pieces_number) hx hb hts hinX5 hown hK hP 3 rfl rfl 0 (by decide) hw4 (fun _ h9 => h9) rfl dX4_extend_52 ?_
              refine lv_icmp_ge (tgt := 94) hx hb dX4_extend_55 (by decide) (fun c8 => ?_) (fun c8 => ?_)
              · have h := And.left h c8
                exact z_vret hQ hx hb hr hlocks hK (f_p0_loop, f_p0_lessRows, f_p0_leads, f_p0_found, f_p0_amount) h hP hD hS dX4_extend_94
              · have h := And.right h c8
                refine lv_aload_n hx hb dX4_extend_58 rfl (lv_at hl 0 rfl) ?_
                refine va_get (ci := 2) (C := RX4) (T := TX4) (N := 8) (v := .ref q_p0_pieces) hx hb hts hinX4 hown hK hP 0 rfl rfl 2 (by decide) hw3 (fun _ h9 => h9) rfl dX4_extend_59 ?_
                refine lv_iload hx hb dX4_extend_62 (lv_at hl 4 rfl) ?_
                refine lv_aload_n hx hb dX4_extend_64 rfl (lv_at hl 3 rfl) ?_
                refine lv_iload_n hx hb dX4_extend_65 rfl (lv_at hl 2 rfl) ?_
                refine lv_iconst (v := (1 : Int32)) hx hb dX4_extend_66 (by decide) ?_
                refine lv_isub hx hb dX4_extend_67 ?_
                obtain ⟨hi9, h⟩ := h
                refine va_iald hx hb hK hP 2 0 rfl rfl hi9 dX4_extend_68 ?_
                refine z_cVi (As := [.int l4, .int (f_p0_loop (x2 - (1 : Int32)).toNatClampNeg)]) (rest := []) (wr := [(q_p0, .inr (2, [.int v_p0_soughtSize, .int v_p0_soughtMap, .ref q_p0_pieces, .ref q_p0_amount, .ref q_p0_found, .ref q_p0_loop, .ref q_p0_lessRows, .ref q_p0_leads])), (q_p0_amount, .inl (cI, 7, .inl f_p0_amount)), (q_p0_loop, .inl (cI, 12, .inl f_p0_loop)), (q_p0_lessRows, .inl (cI, 6, .inl f_p0_lessRows)), (q_p0_leads, .inl (cI, 6, .inl f_p0_leads)), (q_p0_found, .inl (cI, 153, .inl f_p0_found))]) (wn := fun u => [(q_p0, .inr (2, [.int v_p0_soughtSize, .int v_p0_soughtMap, .ref q_p0_pieces, .ref q_p0_amount, .ref q_p0_found, .ref q_p0_loop, .ref q_p0_lessRows, .ref q_p0_leads])), (q_p0_amount, .inl (cI, 7, .inl f_p0_amount)), (q_p0_loop, .inl (cI, 12, .inl f_p0_loop)), (q_p0_pieces, .inr (3, [.int v_p0_pieces_number, .int v_p0_pieces_falling, .ref q_p0_pieces_covered, .ref q_p0_pieces_counts, .ref q_p0_pieces_earlier, .ref q_p0_pieces_closed, .ref q_p0_pieces_simple, .ref q_p0_pieces_coefficients])), (q_p0_lessRows, .inl (cI, 6, .inl f_p0_lessRows)), (q_p0_leads, .inl (cI, 6, .inl f_p0_leads)), (q_p0_found, .inl (cI, 153, .inl f_p0_found)), (q_p0_pieces_covered, .inl (cI, 8, .inl f_p0_pieces_covered))]) (c_X5_isCovered l D cI cJ cB tU tM tS q_p0_pieces q_p0_pieces_covered q_p0_pieces_counts q_p0_pieces_earlier q_p0_pieces_closed q_p0_pieces_simple q_p0_pieces_coefficients H.size l4 (f_p0_loop (x2 - (1 : Int32)).toNatClampNeg) f_p0_pieces_covered v_p0_pieces_number v_p0_pieces_falling _ h) ⟨hx, hb, hml, hown, hts⟩ (cwV 2 hts gX4_extend_X5_isCovered rfl rfl rfl hd_X5_isCovered (by constructor <;> (dsimp only; omega))) hX hK hP hD hS hA [3, 7] [0, 1, 2, 4, 5, 6] [0, 1, 2, 6, 3, 4, 5, 7] rfl rfl rfl (by decide) (fun _ => rfl) (q0 := 3) (ci := 3) rfl rfl rfl hl.1 rfl (Nat.le_of_ble_eq_true rfl) ⟨Nat.le_refl _, Nat.le_refl _⟩ dX4_extend_69 (fun r10 u10 H locs h hP hD hS => ?_)
                refine lv_if_eq (tgt := 88) hx hb dX4_extend_72 (by decide) (fun c11 => ?_) (fun c11 => ?_)
                · have h := And.left h c11
                  refine lv_iinc (v := (l4 + 1)) (lv' := [(4, .int (l4 + 1)), (0, .ref q_p0), (1, .int x1), (2, .int x2), (3, .ref q_p0_loop)]) hx hb dX4_extend_88 hl (k := 4) rfl rfl (by decide) rfl (fun ls hl => ?_)
                  refine lv_goto (tgt := 46) hx hb dX4_extend_91 (by decide) ?_
                  exact ih46 (l4 + 1) f_p0_loop f_p0_lessRows f_p0_leads f_p0_found f_p0_amount _ _ _ h hP hD hS (lv_sub hl [1, 2, 3, 4, 0] rfl)
                · have h := And.right h c11
                  refine lv_aload_n hx hb dX4_extend_75 rfl (lv_at hl 3 rfl) ?_
                  refine lv_iload_n hx hb dX4_extend_76 rfl (lv_at hl 2 rfl) ?_
                  refine lv_iload hx hb dX4_extend_77 (lv_at hl 4 rfl) ?_
                  obtain ⟨hi12, h⟩ := h
                  refine z_iast (wn := [(q_p0, .inr (2, [.int v_p0_soughtSize, .int v_p0_soughtMap, .ref q_p0_pieces, .ref q_p0_amount, .ref q_p0_found, .ref q_p0_loop, .ref q_p0_lessRows, .ref q_p0_leads])), (q_p0_amount, .inl (cI, 7, .inl f_p0_amount)), (q_p0_loop, .inl (cI, 12, .inl (upd f_p0_loop x2.toNatClampNeg l4))), (q_p0_pieces, .inr (3, [.int v_p0_pieces_number, .int v_p0_pieces_falling, .ref q_p0_pieces_covered, .ref q_p0_pieces_counts, .ref q_p0_pieces_earlier, .ref q_p0_pieces_closed, .ref q_p0_pieces_simple, .ref q_p0_pieces_coefficients])), (q_p0_lessRows, .inl (cI, 6, .inl f_p0_lessRows)), (q_p0_leads, .inl (cI, 6, .inl f_p0_leads)), (q_p0_found, .inl (cI, 153, .inl f_p0_found)), (q_p0_pieces_covered, .inl (cI, 8, .inl f_p0_pieces_covered))]) hx hb hK hP hD hS 2 rfl hi12 dX4_extend_79 rfl (fun H locs hP hD hS => ?_)
                  refine lv_aload_n hx hb dX4_extend_80 rfl (lv_at hl 0 rfl) ?_
                  refine lv_iload_n hx hb dX4_extend_81 rfl (lv_at hl 1 rfl) ?_
                  refine lv_iload_n hx hb dX4_extend_82 rfl (lv_at hl 2 rfl) ?_
                  refine lv_iconst (v := (1 : Int32)) hx hb dX4_extend_83 (by decide) ?_
                  refine lv_iadd hx hb dX4_extend_84 ?_
                  refine z_cSv (As := [.ref q_p0, .int x1, .int (x2 + (1 : Int32))]) (rest := []) (wr := []) (wn := fun u => [(q_p0, .inr (2, [.int v_p0_soughtSize, .int v_p0_soughtMap, .ref q_p0_pieces, .ref q_p0_amount, .ref q_p0_found, .ref q_p0_loop, .ref q_p0_lessRows, .ref q_p0_leads])), (q_p0_amount, .inl (cI, 7, .inl u.2.2.2.2)), (q_p0_loop, .inl (cI, 12, .inl u.1)), (q_p0_pieces, .inr (3, [.int v_p0_pieces_number, .int v_p0_pieces_falling, .ref q_p0_pieces_covered, .ref q_p0_pieces_counts, .ref q_p0_pieces_earlier, .ref q_p0_pieces_closed, .ref q_p0_pieces_simple, .ref q_p0_pieces_coefficients])), (q_p0_lessRows, .inl (cI, 6, .inl u.2.1)), (q_p0_leads, .inl (cI, 6, .inl u.2.2.1)), (q_p0_found, .inl (cI, 153, .inl u.2.2.2.1)), (q_p0_pieces_covered, .inl (cI, 8, .inl f_p0_pieces_covered))]) (ihd H.size x1 (x2 + (1 : Int32)) f_p0_amount (upd f_p0_loop x2.toNatClampNeg l4) v_p0_pieces_number f_p0_pieces_covered v_p0_pieces_falling f_p0_lessRows f_p0_leads f_p0_found v_p0_soughtSize v_p0_soughtMap _ h) ⟨hx, hb, hml, hown, hts⟩ (va_cwS 3 hts gX4_extend_X4_extend rfl rfl rfl hd_X4_extend.2 (by constructor <;> (dsimp only; omega))) hX hK hP hD hS hA [0, 1, 2, 3, 4, 5, 6, 7] [] [0, 1, 2, 3, 4, 5, 6, 7] rfl rfl rfl (by decide) (fun _ => rfl) rfl hl.1 rfl (Nat.le_of_ble_eq_true rfl) ⟨Nat.le_refl _, Nat.le_refl _⟩ dX4_extend_85 (fun u13 H locs h hP hD hS => ?_)
                  obtain ⟨m13_0, m13_1, m13_2, m13_3, m13_4⟩ := u13
                  refine lv_iinc (v := (l4 + 1)) (lv' := [(4, .int (l4 + 1)), (0, .ref q_p0), (1, .int x1), (2, .int x2), (3, .ref q_p0_loop)]) hx hb dX4_extend_88 hl (k := 4) rfl rfl (by decide) rfl (fun ls hl => ?_)
                  refine lv_goto (tgt := 46) hx hb dX4_extend_91 (by decide) ?_
                  exact ih46 (l4 + 1) m13_0 m13_1 m13_2 m13_3 m13_4 _ _ _ h hP hD hS (lv_sub hl [1, 2, 3, 4, 0] rfl)
          obtain ⟨n46, h⟩ := h
          exact k46  n46 (f_p0_loop (0 : Int32).toNatClampNeg) f_p0_loop f_p0_lessRows f_p0_leads f_p0_found f_p0_amount _ _ _ h hP hD hS (lv_sub hl [2, 3, 4, 1, 0] rfl)
        · have h := And.left h c6
          refine lv_aload_n hx hb dX4_extend_30 rfl (lv_at hl 0 rfl) ?_
          refine lv_iload_n hx hb dX4_extend_31 rfl (lv_at hl 1 rfl) ?_
          refine z_cVv (As := [.int x1]) (rest := []) (wr := []) (wn := fun u => [(q_p0, .inr (2, [.int v_p0_soughtSize, .int v_p0_soughtMap, .ref q_p0_pieces, .ref q_p0_amount, .ref q_p0_found, .ref q_p0_loop, .ref q_p0_lessRows, .ref q_p0_leads])), (q_p0_amount, .inl (cI, 7, .inl u.2.2.2.2)), (q_p0_loop, .inl (cI, 12, .inl u.1)), (q_p0_pieces, .inr (3, [.int v_p0_pieces_number, .int v_p0_pieces_falling, .ref q_p0_pieces_covered, .ref q_p0_pieces_counts, .ref q_p0_pieces_earlier, .ref q_p0_pieces_closed, .ref q_p0_pieces_simple, .ref q_p0_pieces_coefficients])), (q_p0_lessRows, .inl (cI, 6, .inl u.2.1)), (q_p0_leads, .inl (cI, 6, .inl u.2.2.1)), (q_p0_found, .inl (cI, 153, .inl u.2.2.2.1)), (q_p0_pieces_covered, .inl (cI, 8, .inl f_p0_pieces_covered))]) (c_X4_takeLoop l D cI cJ cB tU tM tS q_p0 q_p0_pieces q_p0_amount q_p0_found q_p0_loop q_p0_lessRows q_p0_leads q_p0_pieces_covered q_p0_pieces_counts q_p0_pieces_earlier q_p0_pieces_closed q_p0_pieces_simple q_p0_pieces_coefficients H.size x1 f_p0_loop f_p0_pieces_covered v_p0_pieces_falling f_p0_lessRows f_p0_leads f_p0_amount f_p0_found v_p0_soughtSize v_p0_soughtMap v_p0_pieces_number _ h) ⟨hx, hb, hml, hown, hts⟩ (cwV 1 hts gX4_extend_X4_takeLoop rfl rfl rfl hd_X4_takeLoop (by constructor <;> (dsimp only; omega))) hX hK hP hD hS hA [0, 2, 3, 4, 5, 1, 6, 7] [] [0, 5, 1, 2, 3, 4, 6, 7] rfl rfl rfl (by decide) (fun _ => rfl) (q0 := 0) (ci := 2) rfl rfl rfl hl.1 rfl (Nat.le_of_ble_eq_true rfl) ⟨Nat.le_refl _, Nat.le_refl _⟩ dX4_extend_32 (fun u14 H locs h hP hD hS => ?_)
          obtain ⟨m14_0, m14_1, m14_2, m14_3, m14_4⟩ := u14
          exact z_vret hQ hx hb hr hlocks hK (m14_0, m14_1, m14_2, m14_3, m14_4) h hP hD hS dX4_extend_35
      · have h := And.right h c5
        exact z_vret hQ hx hb hr hlocks hK (f_p0_loop, f_p0_lessRows, f_p0_leads, f_p0_found, f_p0_amount) h hP hD hS dX4_extend_24
theorem hd_X4_seek : yX4_seek.cls = RX4 ∧ yX4_seek.cls ≠ "java/lang/invoke/MethodHandle" ∧ yX4_seek.cls ≠ "java/lang/invoke/VarHandle" ∧ (parseMethodDescriptor yX4_seek.desc).map (fun d => d.parameters.length) = some 2 := by decide +kernel
set_option maxHeartbeats 4000000 in
set_option maxRecDepth 100000 in
theorem c_X4_seek (l : Launch) (D : va_G) (cI cJ cB : ClassId) (tU tM tS : Nat) (q_p0 q_p2 q_p0_pieces q_p0_amount q_p0_found q_p0_loop q_p0_lessRows q_p0_leads q_p2_led q_p2_turnedLed q_p0_pieces_covered q_p0_pieces_counts q_p0_pieces_earlier q_p0_pieces_closed q_p0_pieces_simple q_p0_pieces_coefficients : Nat) (sz : Nat) (x1 : Int32) (v_p0_soughtSize : Int32) (v_p2_size : Int32) (f_p2_led : (Nat → Int32)) (v_p0_soughtMap : Int32) (v_p2_way : Int32) (v_p0_pieces_number : Int32) (v_p0_pieces_falling : Int32) (f_p0_pieces_covered : (Nat → Int32)) (f_p0_amount : (Nat → Int32)) (f_p0_found : (Nat → Int32)) (f_p0_loop : (Nat → Int32)) (f_p0_lessRows : (Nat → Int32)) (f_p0_leads : (Nat → Int32))  (P : Int32 → Int32 → Int32 → Int32 → (Nat → Int32) → (Nat → Int32) → (Nat → Int32) → (Nat → Int32) → (Nat → Int32) → (Nat → Int32) → Prop) (h : M_X4_seek x1 v_p0_soughtSize v_p2_size f_p2_led v_p0_soughtMap v_p2_way v_p0_pieces_number v_p0_pieces_falling f_p0_pieces_covered f_p0_amount f_p0_found f_p0_loop f_p0_lessRows f_p0_leads P) : Met l yX4_seek wsX4_seek ({ frames := 13, cells := 0, slots := 0, locals := 309 }) (va_Pc [.ref q_p0, .int x1, .ref q_p2] (zPre D cI cJ cB tU tM tS [(q_p0, .inr (2, [.int v_p0_soughtSize, .int v_p0_soughtMap, .ref q_p0_pieces, .ref q_p0_amount, .ref q_p0_found, .ref q_p0_loop, .ref q_p0_lessRows, .ref q_p0_leads])), (q_p2, .inr (0, [.int v_p2_size, .int v_p2_way, .ref q_p2_led, .ref q_p2_turnedLed])), (q_p0_pieces, .inr (3, [.int v_p0_pieces_number, .int v_p0_pieces_falling, .ref q_p0_pieces_covered, .ref q_p0_pieces_counts, .ref q_p0_pieces_earlier, .ref q_p0_pieces_closed, .ref q_p0_pieces_simple, .ref q_p0_pieces_coefficients])), (q_p0_amount, .inl (cI, 7, .inl f_p0_amount)), (q_p0_found, .inl (cI, 153, .inl f_p0_found)), (q_p0_loop, .inl (cI, 12, .inl f_p0_loop)), (q_p0_lessRows, .inl (cI, 6, .inl f_p0_lessRows)), (q_p0_leads, .inl (cI, 6, .inl f_p0_leads)), (q_p2_led, .inl (cI, 8, .inl f_p2_led)), (q_p0_pieces_covered, .inl (cI, 8, .inl f_p0_pieces_covered))] sz)) (va_Qv (fun u : Int32 × Int32 × Int32 × Int32 × (Nat → Int32) × (Nat → Int32) × (Nat → Int32) × (Nat → Int32) × (Nat → Int32) × (Nat → Int32) => P u.1 u.2.1 u.2.2.1 u.2.2.2.1 u.2.2.2.2.1 u.2.2.2.2.2.1 u.2.2.2.2.2.2.1 u.2.2.2.2.2.2.2.1 u.2.2.2.2.2.2.2.2.1 u.2.2.2.2.2.2.2.2.2) (fun u t => zPost D cI cJ cB (va_A [(q_p0, .inr (2, [.int v_p0_soughtSize, .int v_p0_soughtMap, .ref q_p0_pieces, .ref q_p0_amount, .ref q_p0_found, .ref q_p0_loop, .ref q_p0_lessRows, .ref q_p0_leads])), (q_p2, .inr (0, [.int v_p2_size, .int v_p2_way, .ref q_p2_led, .ref q_p2_turnedLed])), (q_p0_pieces, .inr (3, [.int v_p0_pieces_number, .int v_p0_pieces_falling, .ref q_p0_pieces_covered, .ref q_p0_pieces_counts, .ref q_p0_pieces_earlier, .ref q_p0_pieces_closed, .ref q_p0_pieces_simple, .ref q_p0_pieces_coefficients])), (q_p0_amount, .inl (cI, 7, .inl f_p0_amount)), (q_p0_found, .inl (cI, 153, .inl f_p0_found)), (q_p0_loop, .inl (cI, 12, .inl f_p0_loop)), (q_p0_lessRows, .inl (cI, 6, .inl f_p0_lessRows)), (q_p0_leads, .inl (cI, 6, .inl f_p0_leads)), (q_p2_led, .inl (cI, 8, .inl f_p2_led)), (q_p0_pieces_covered, .inl (cI, 8, .inl f_p0_pieces_covered))] sz) [(q_p0, .inr (2, [.int u.1, .int u.2.1, .ref q_p0_pieces, .ref q_p0_amount, .ref q_p0_found, .ref q_p0_loop, .ref q_p0_lessRows, .ref q_p0_leads])), (q_p2, .inr (0, [.int v_p2_size, .int v_p2_way, .ref q_p2_led, .ref q_p2_turnedLed])), (q_p0_pieces, .inr (3, [.int u.2.2.1, .int u.2.2.2.1, .ref q_p0_pieces_covered, .ref q_p0_pieces_counts, .ref q_p0_pieces_earlier, .ref q_p0_pieces_closed, .ref q_p0_pieces_simple, .ref q_p0_pieces_coefficients])), (q_p0_amount, .inl (cI, 7, .inl u.2.2.2.2.2.1)), (q_p0_found, .inl (cI, 153, .inl u.2.2.2.2.2.2.1)), (q_p0_loop, .inl (cI, 12, .inl u.2.2.2.2.2.2.2.1)), (q_p0_lessRows, .inl (cI, 6, .inl u.2.2.2.2.2.2.2.2.1)), (q_p0_leads, .inl (cI, 6, .inl u.2.2.2.2.2.2.2.2.2)), (q_p2_led, .inl (cI, 8, .inl f_p2_led)), (q_p0_pieces_covered, .inl (cI, 8, .inl u.2.2.2.2.1))] t) (va_A [(q_p0, .inr (2, [.int v_p0_soughtSize, .int v_p0_soughtMap, .ref q_p0_pieces, .ref q_p0_amount, .ref q_p0_found, .ref q_p0_loop, .ref q_p0_lessRows, .ref q_p0_leads])), (q_p2, .inr (0, [.int v_p2_size, .int v_p2_way, .ref q_p2_led, .ref q_p2_turnedLed])), (q_p0_pieces, .inr (3, [.int v_p0_pieces_number, .int v_p0_pieces_falling, .ref q_p0_pieces_covered, .ref q_p0_pieces_counts, .ref q_p0_pieces_earlier, .ref q_p0_pieces_closed, .ref q_p0_pieces_simple, .ref q_p0_pieces_coefficients])), (q_p0_amount, .inl (cI, 7, .inl f_p0_amount)), (q_p0_found, .inl (cI, 153, .inl f_p0_found)), (q_p0_loop, .inl (cI, 12, .inl f_p0_loop)), (q_p0_lessRows, .inl (cI, 6, .inl f_p0_lessRows)), (q_p0_leads, .inl (cI, 6, .inl f_p0_leads)), (q_p2_led, .inl (cI, 8, .inl f_p2_led)), (q_p0_pieces_covered, .inl (cI, 8, .inl f_p0_pieces_covered))] sz)) 0 0 (va_A [(q_p0, .inr (2, [.int v_p0_soughtSize, .int v_p0_soughtMap, .ref q_p0_pieces, .ref q_p0_amount, .ref q_p0_found, .ref q_p0_loop, .ref q_p0_lessRows, .ref q_p0_leads])), (q_p2, .inr (0, [.int v_p2_size, .int v_p2_way, .ref q_p2_led, .ref q_p2_turnedLed])), (q_p0_pieces, .inr (3, [.int v_p0_pieces_number, .int v_p0_pieces_falling, .ref q_p0_pieces_covered, .ref q_p0_pieces_counts, .ref q_p0_pieces_earlier, .ref q_p0_pieces_closed, .ref q_p0_pieces_simple, .ref q_p0_pieces_coefficients])), (q_p0_amount, .inl (cI, 7, .inl f_p0_amount)), (q_p0_found, .inl (cI, 153, .inl f_p0_found)), (q_p0_loop, .inl (cI, 12, .inl f_p0_loop)), (q_p0_lessRows, .inl (cI, 6, .inl f_p0_lessRows)), (q_p0_leads, .inl (cI, 6, .inl f_p0_leads)), (q_p2_led, .inl (cI, 8, .inl f_p2_led)), (q_p0_pieces_covered, .inl (cI, 8, .inl f_p0_pieces_covered))] sz) := by
  refine z_met (cc := cX4_seek) (maxL := 4) (ret := none) (Qc := fun A => va_Qv (fun u : Int32 × Int32 × Int32 × Int32 × (Nat → Int32) × (Nat → Int32) × (Nat → Int32) × (Nat → Int32) × (Nat → Int32) × (Nat → Int32) => P u.1 u.2.1 u.2.2.1 u.2.2.2.1 u.2.2.2.2.1 u.2.2.2.2.2.1 u.2.2.2.2.2.2.1 u.2.2.2.2.2.2.2.1 u.2.2.2.2.2.2.2.2.1 u.2.2.2.2.2.2.2.2.2) (fun u t => zPost D cI cJ cB A [(q_p0, .inr (2, [.int u.1, .int u.2.1, .ref q_p0_pieces, .ref q_p0_amount, .ref q_p0_found, .ref q_p0_loop, .ref q_p0_lessRows, .ref q_p0_leads])), (q_p2, .inr (0, [.int v_p2_size, .int v_p2_way, .ref q_p2_led, .ref q_p2_turnedLed])), (q_p0_pieces, .inr (3, [.int u.2.2.1, .int u.2.2.2.1, .ref q_p0_pieces_covered, .ref q_p0_pieces_counts, .ref q_p0_pieces_earlier, .ref q_p0_pieces_closed, .ref q_p0_pieces_simple, .ref q_p0_pieces_coefficients])), (q_p0_amount, .inl (cI, 7, .inl u.2.2.2.2.2.1)), (q_p0_found, .inl (cI, 153, .inl u.2.2.2.2.2.2.1)), (q_p0_loop, .inl (cI, 12, .inl u.2.2.2.2.2.2.2.1)), (q_p0_lessRows, .inl (cI, 6, .inl u.2.2.2.2.2.2.2.2.1)), (q_p0_leads, .inl (cI, 6, .inl u.2.2.2.2.2.2.2.2.2)), (q_p2_led, .inl (cI, 8, .inl f_p2_led)), (q_p0_pieces_covered, .inl (cI, 8, .inl u.2.2.2.2.1))] t) A) (by decide) rfl [.ref q_p0, .int x1, .ref q_p2] (Nat.le_of_ble_eq_true rfl) ?_
  intro p e s m args below meth c A hx hb hr hts hown hml hlocks hA hX hK H locs hP hD hS ls hl Q hQ
  have hown : s.vm.findClass RX4 = some m.cls := hown
  have hl : lv_has ls 4 [(0, .ref q_p0), (1, .int x1), (2, .ref q_p2)] := hl
  have hw0 : (Cond.fieldLink RX4 42 "ForcedRings$Patterns" "soughtSize" "I").before args s = true := hts _ (List.mem_of_getElem? (i := 1) rfl)
  have hw1 : (Cond.fieldLink RX4 46 "ForcedRings$Chart" "size" "I").before args s = true := hts _ (List.mem_of_getElem? (i := 2) rfl)
  have hw2 : (Cond.fieldLink RX4 16 "ForcedRings$Patterns" "amount" "[I").before args s = true := hts _ (List.mem_of_getElem? (i := 4) rfl)
  have hw3 : (Cond.fieldLink RX4 10 "ForcedRings$Patterns" "pieces" "LForcedRings$Pieces;").before args s = true := hts _ (List.mem_of_getElem? (i := 5) rfl)
  have hw4 : (Cond.fieldLink RX4 66 "ForcedRings$Pieces" "number" "I").before args s = true := hts _ (List.mem_of_getElem? (i := 6) rfl)
  have hw5 : (Cond.fieldLink RX4 23 "ForcedRings$Patterns" "loop" "[I").before args s = true := hts _ (List.mem_of_getElem? (i := 7) rfl)
  have hw6 : (Cond.fieldLink RX4 51 "ForcedRings$Patterns" "soughtMap" "I").before args s = true := hts _ (List.mem_of_getElem? (i := 3) rfl)
  have hinX0 : ∀ w ∈ wsX00, w ∈ wsX4_seek := fun _ h => List.mem_cons_of_mem _ (List.mem_append_left _ (List.mem_append_right _ h))
  have hinX4 : ∀ w ∈ wsX40, w ∈ wsX4_seek := fun _ h => List.mem_cons_of_mem _ (List.mem_append_left _ (List.mem_append_left _ (List.mem_append_right _ h)))
  have hinX5 : ∀ w ∈ wsX50, w ∈ wsX4_seek := fun _ h => List.mem_cons_of_mem _ (List.mem_append_right _ h)
  refine lv_aload_n hx hb dX4_seek_0 rfl (lv_at hl 0 rfl) ?_
  refine va_get (ci := 2) (C := RX4) (T := TX4) (N := 8) (v := .int v_p0_soughtSize) hx hb hts hinX4 hown hK hP 0 rfl rfl 0 (by decide) hw0 (fun _ h9 => h9) rfl dX4_seek_1 ?_
  refine lv_aload_n hx hb dX4_seek_4 rfl (lv_at hl 2 rfl) ?_
  refine va_get (ci := 0) (C := RX0) (T := TX0) (N := 4) (v := .int v_p2_size) hx hb hts hinX0 hown hK hP 1 rfl rfl 0 (by decide) hw1 (fun _ h9 => h9) rfl dX4_seek_5 ?_
  have k27 : ∀ (v_p0_soughtSize : Int32) (v_p0_soughtMap : Int32) (v_p0_pieces_number : Int32) (v_p0_pieces_falling : Int32) (f_p0_pieces_covered : (Nat → Int32)) (f_p0_amount : (Nat → Int32)) (f_p0_found : (Nat → Int32)) (f_p0_loop : (Nat → Int32)) (f_p0_lessRows : (Nat → Int32)) (f_p0_leads : (Nat → Int32)) (H : Heap) (locs : List Loc) (ls : Array Slot), M_X4_seek_b27 x1 v_p2_size f_p2_led v_p2_way P v_p0_soughtSize v_p0_soughtMap v_p0_pieces_number v_p0_pieces_falling f_p0_pieces_covered f_p0_amount f_p0_found f_p0_loop f_p0_lessRows f_p0_leads → va_P D vwCl [(q_p0, .inr (2, [.int v_p0_soughtSize, .int v_p0_soughtMap, .ref q_p0_pieces, .ref q_p0_amount, .ref q_p0_found, .ref q_p0_loop, .ref q_p0_lessRows, .ref q_p0_leads])), (q_p2, .inr (0, [.int v_p2_size, .int v_p2_way, .ref q_p2_led, .ref q_p2_turnedLed])), (q_p0_pieces, .inr (3, [.int v_p0_pieces_number, .int v_p0_pieces_falling, .ref q_p0_pieces_covered, .ref q_p0_pieces_counts, .ref q_p0_pieces_earlier, .ref q_p0_pieces_closed, .ref q_p0_pieces_simple, .ref q_p0_pieces_coefficients])), (q_p0_amount, .inl (cI, 7, .inl f_p0_amount)), (q_p0_found, .inl (cI, 153, .inl f_p0_found)), (q_p0_loop, .inl (cI, 12, .inl f_p0_loop)), (q_p0_lessRows, .inl (cI, 6, .inl f_p0_lessRows)), (q_p0_leads, .inl (cI, 6, .inl f_p0_leads)), (q_p2_led, .inl (cI, 8, .inl f_p2_led)), (q_p0_pieces_covered, .inl (cI, 8, .inl f_p0_pieces_covered))] H → va_D A [(q_p0, .inr (2, [.int v_p0_soughtSize, .int v_p0_soughtMap, .ref q_p0_pieces, .ref q_p0_amount, .ref q_p0_found, .ref q_p0_loop, .ref q_p0_lessRows, .ref q_p0_leads])), (q_p2, .inr (0, [.int v_p2_size, .int v_p2_way, .ref q_p2_led, .ref q_p2_turnedLed])), (q_p0_pieces, .inr (3, [.int v_p0_pieces_number, .int v_p0_pieces_falling, .ref q_p0_pieces_covered, .ref q_p0_pieces_counts, .ref q_p0_pieces_earlier, .ref q_p0_pieces_closed, .ref q_p0_pieces_simple, .ref q_p0_pieces_coefficients])), (q_p0_amount, .inl (cI, 7, .inl f_p0_amount)), (q_p0_found, .inl (cI, 153, .inl f_p0_found)), (q_p0_loop, .inl (cI, 12, .inl f_p0_loop)), (q_p0_lessRows, .inl (cI, 6, .inl f_p0_lessRows)), (q_p0_leads, .inl (cI, 6, .inl f_p0_leads)), (q_p2_led, .inl (cI, 8, .inl f_p2_led)), (q_p0_pieces_covered, .inl (cI, 8, .inl f_p0_pieces_covered))] → va_S A s.heap H locs → lv_has ls 4 [(0, .ref q_p0), (1, .int x1), (2, .ref q_p2)] → W p l e { frames := 13, cells := 0, slots := 0, locals := 309 } s m args below meth c H locs 0 0 Q (F0 m 27 ls []) := by
    intro v_p0_soughtSize v_p0_soughtMap v_p0_pieces_number v_p0_pieces_falling f_p0_pieces_covered f_p0_amount f_p0_found f_p0_loop f_p0_lessRows f_p0_leads H locs ls h hP hD hS hl
    refine lv_aload_n hx hb dX4_seek_27 rfl (lv_at hl 0 rfl) ?_
    refine va_get (ci := 2) (C := RX4) (T := TX4) (N := 8) (v := .ref q_p0_amount) hx hb hts hinX4 hown hK hP 0 rfl rfl 3 (by decide) hw2 (fun _ h9 => h9) rfl dX4_seek_28 ?_
    refine lv_iload_n hx hb dX4_seek_31 rfl (lv_at hl 1 rfl) ?_
    obtain ⟨hi1, h⟩ := h
    refine va_iald hx hb hK hP 3 0 rfl rfl hi1 dX4_seek_32 ?_
    refine lv_iconst (v := (-1 : Int32)) hx hb dX4_seek_33 (by decide) ?_
    refine lv_icmp_eq (tgt := 38) hx hb dX4_seek_34 (by decide) (fun c2 => ?_) (fun c2 => ?_)
    · have h := And.left h c2
      refine lv_aload_n hx hb dX4_seek_38 rfl (lv_at hl 0 rfl) ?_
      refine va_get (ci := 2) (C := RX4) (T := TX4) (N := 8) (v := .ref q_p0_amount) hx hb hts hinX4 hown hK hP 0 rfl rfl 3 (by decide) hw2 (fun _ h9 => h9) rfl dX4_seek_39 ?_
      refine lv_iload_n hx hb dX4_seek_42 rfl (lv_at hl 1 rfl) ?_
      refine lv_iconst (v := (0 : Int32)) hx hb dX4_seek_43 (by decide) ?_
      obtain ⟨hi3, h⟩ := h
      refine z_iast (wn := [(q_p0, .inr (2, [.int v_p0_soughtSize, .int v_p0_soughtMap, .ref q_p0_pieces, .ref q_p0_amount, .ref q_p0_found, .ref q_p0_loop, .ref q_p0_lessRows, .ref q_p0_leads])), (q_p2, .inr (0, [.int v_p2_size, .int v_p2_way, .ref q_p2_led, .ref q_p2_turnedLed])), (q_p0_pieces, .inr (3, [.int v_p0_pieces_number, .int v_p0_pieces_falling, .ref q_p0_pieces_covered, .ref q_p0_pieces_counts, .ref q_p0_pieces_earlier, .ref q_p0_pieces_closed, .ref q_p0_pieces_simple, .ref q_p0_pieces_coefficients])), (q_p0_amount, .inl (cI, 7, .inl (upd f_p0_amount x1.toNatClampNeg (0 : Int32)))), (q_p0_found, .inl (cI, 153, .inl f_p0_found)), (q_p0_loop, .inl (cI, 12, .inl f_p0_loop)), (q_p0_lessRows, .inl (cI, 6, .inl f_p0_lessRows)), (q_p0_leads, .inl (cI, 6, .inl f_p0_leads)), (q_p2_led, .inl (cI, 8, .inl f_p2_led)), (q_p0_pieces_covered, .inl (cI, 8, .inl f_p0_pieces_covered))]) hx hb hK hP hD hS 3 rfl hi3 dX4_seek_44 rfl (fun H locs hP hD hS => ?_)
      refine lv_aload_n hx hb dX4_seek_45 rfl (lv_at hl 0 rfl) ?_
      refine lv_iload_n hx hb dX4_seek_46 rfl (lv_at hl 1 rfl) ?_
      refine lv_aload_n hx hb dX4_seek_47 rfl (lv_at hl 2 rfl) ?_
      refine z_cVv (As := [.int x1, .ref q_p2]) (rest := []) (wr := [(q_p0_pieces, .inr (3, [.int v_p0_pieces_number, .int v_p0_pieces_falling, .ref q_p0_pieces_covered, .ref q_p0_pieces_counts, .ref q_p0_pieces_earlier, .ref q_p0_pieces_closed, .ref q_p0_pieces_simple, .ref q_p0_pieces_coefficients])), (q_p0_loop, .inl (cI, 12, .inl f_p0_loop)), (q_p0_lessRows, .inl (cI, 6, .inl f_p0_lessRows)), (q_p0_leads, .inl (cI, 6, .inl f_p0_leads)), (q_p0_pieces_covered, .inl (cI, 8, .inl f_p0_pieces_covered))]) (wn := fun u => [(q_p0, .inr (2, [.int v_p0_soughtSize, .int v_p0_soughtMap, .ref q_p0_pieces, .ref q_p0_amount, .ref q_p0_found, .ref q_p0_loop, .ref q_p0_lessRows, .ref q_p0_leads])), (q_p2, .inr (0, [.int v_p2_size, .int v_p2_way, .ref q_p2_led, .ref q_p2_turnedLed])), (q_p0_pieces, .inr (3, [.int v_p0_pieces_number, .int v_p0_pieces_falling, .ref q_p0_pieces_covered, .ref q_p0_pieces_counts, .ref q_p0_pieces_earlier, .ref q_p0_pieces_closed, .ref q_p0_pieces_simple, .ref q_p0_pieces_coefficients])), (q_p0_amount, .inl (cI, 7, .inl u.2)), (q_p0_found, .inl (cI, 153, .inl u.1)), (q_p0_loop, .inl (cI, 12, .inl f_p0_loop)), (q_p0_lessRows, .inl (cI, 6, .inl f_p0_lessRows)), (q_p0_leads, .inl (cI, 6, .inl f_p0_leads)), (q_p2_led, .inl (cI, 8, .inl f_p2_led)), (q_p0_pieces_covered, .inl (cI, 8, .inl f_p0_pieces_covered))]) (c_X4_addRings l D cI cJ cB tU tM tS q_p0 q_p2 q_p0_pieces q_p0_amount q_p0_found q_p0_loop q_p0_lessRows q_p0_leads q_p2_led q_p2_turnedLed H.size x1 v_p2_size f_p2_led (upd f_p0_amount x1.toNatClampNeg (0 : Int32)) f_p0_found v_p0_soughtSize v_p0_soughtMap v_p2_way _ h) ⟨hx, hb, hml, hown, hts⟩ (cwV 2 hts gX4_seek_X4_addRings rfl rfl rfl hd_X4_addRings ⟨Nat.le_of_ble_eq_true rfl, Nat.le_of_ble_eq_true rfl⟩) hX hK hP hD hS hA [0, 1, 3, 4, 8] [2, 5, 6, 7, 9] [5, 6, 0, 7, 8, 1, 2, 3, 9, 4] rfl rfl rfl (by decide) (fun _ => rfl) (q0 := 0) (ci := 2) rfl rfl rfl hl.1 rfl (Nat.le_of_ble_eq_true rfl) ⟨Nat.le_refl _, Nat.le_refl _⟩ dX4_seek_48 (fun u4 H locs h hP hD hS => ?_)
      obtain ⟨m4_0, m4_1⟩ := u4
      refine lv_iconst (v := (0 : Int32)) hx hb dX4_seek_51 (by decide) ?_
      refine lv_istore_n (lv' := [(3, .int (0 : Int32)), (0, .ref q_p0), (1, .int x1), (2, .ref q_p2)]) hx hb dX4_seek_52 rfl hl (by decide) rfl (fun ls hl => ?_)
      have k53 : ∀ (v_p0_soughtSize : Int32) (v_p0_soughtMap : Int32) (v_p0_pieces_number : Int32) (v_p0_pieces_falling : Int32) (f_p0_pieces_covered : (Nat → Int32)) (n53 : Nat) (l3 : Int32) (f_p0_amount : (Nat → Int32)) (f_p0_found : (Nat → Int32)) (f_p0_loop : (Nat → Int32)) (f_p0_lessRows : (Nat → Int32)) (f_p0_leads : (Nat → Int32)) (H : Heap) (locs : List Loc) (ls : Array Slot), LP6 (M_X4_seek_l53 x1 v_p2_size f_p2_led v_p2_way P v_p0_soughtSize v_p0_soughtMap v_p0_pieces_number v_p0_pieces_falling f_p0_pieces_covered) n53 l3 f_p0_amount f_p0_found f_p0_loop f_p0_lessRows f_p0_leads → va_P D vwCl [(q_p0, .inr (2, [.int v_p0_soughtSize, .int v_p0_soughtMap, .ref q_p0_pieces, .ref q_p0_amount, .ref q_p0_found, .ref q_p0_loop, .ref q_p0_lessRows, .ref q_p0_leads])), (q_p2, .inr (0, [.int v_p2_size, .int v_p2_way, .ref q_p2_led, .ref q_p2_turnedLed])), (q_p0_pieces, .inr (3, [.int v_p0_pieces_number, .int v_p0_pieces_falling, .ref q_p0_pieces_covered, .ref q_p0_pieces_counts, .ref q_p0_pieces_earlier, .ref q_p0_pieces_closed, .ref q_p0_pieces_simple, .ref q_p0_pieces_coefficients])), (q_p0_amount, .inl (cI, 7, .inl f_p0_amount)), (q_p0_found, .inl (cI, 153, .inl f_p0_found)), (q_p0_loop, .inl (cI, 12, .inl f_p0_loop)), (q_p0_lessRows, .inl (cI, 6, .inl f_p0_lessRows)), (q_p0_leads, .inl (cI, 6, .inl f_p0_leads)), (q_p2_led, .inl (cI, 8, .inl f_p2_led)), (q_p0_pieces_covered, .inl (cI, 8, .inl f_p0_pieces_covered))] H → va_D A [(q_p0, .inr (2, [.int v_p0_soughtSize, .int v_p0_soughtMap, .ref q_p0_pieces, .ref q_p0_amount, .ref q_p0_found, .ref q_p0_loop, .ref q_p0_lessRows, .ref q_p0_leads])), (q_p2, .inr (0, [.int v_p2_size, .int v_p2_way, .ref q_p2_led, .ref q_p2_turnedLed])), (q_p0_pieces, .inr (3, [.int v_p0_pieces_number, .int v_p0_pieces_falling, .ref q_p0_pieces_covered, .ref q_p0_pieces_counts, .ref q_p0_pieces_earlier, .ref q_p0_pieces_closed, .ref q_p0_pieces_simple, .ref q_p0_pieces_coefficients])), (q_p0_amount, .inl (cI, 7, .inl f_p0_amount)), (q_p0_found, .inl (cI, 153, .inl f_p0_found)), (q_p0_loop, .inl (cI, 12, .inl f_p0_loop)), (q_p0_lessRows, .inl (cI, 6, .inl f_p0_lessRows)), (q_p0_leads, .inl (cI, 6, .inl f_p0_leads)), (q_p2_led, .inl (cI, 8, .inl f_p2_led)), (q_p0_pieces_covered, .inl (cI, 8, .inl f_p0_pieces_covered))] → va_S A s.heap H locs → lv_has ls 4 [(0, .ref q_p0), (1, .int x1), (3, .int l3)] → W p l e { frames := 13, cells := 0, slots := 0, locals := 309 } s m args below meth c H locs 0 0 Q (F0 m 53 ls []) := by
        intro v_p0_soughtSize v_p0_soughtMap v_p0_pieces_number v_p0_pieces_falling f_p0_pieces_covered n53
        induction n53 with
        | zero =>
          intro l3 f_p0_amount f_p0_found f_p0_loop f_p0_lessRows f_p0_leads H locs ls h
          exact False.elim h
        | succ n53 ih53 =>
          intro l3 f_p0_amount f_p0_found f_p0_loop f_p0_lessRows f_p0_leads H locs ls h hP hD hS hl
          have h : M_X4_seek_l53 x1 v_p2_size f_p2_led v_p2_way P v_p0_soughtSize v_p0_soughtMap v_p0_pieces_number v_p0_pieces_falling f_p0_pieces_covered (LP6 (M_X4_seek_l53 x1 v_p2_size f_p2_led v_p2_way P v_p0_soughtSize v_p0_soughtMap v_p0_pieces_number v_p0_pieces_falling f_p0_pieces_covered) n53) l3 f_p0_amount f_p0_found f_p0_loop f_p0_lessRows f_p0_leads := h
          refine lv_iload_n hx hb dX4_seek_53 rfl (lv_at hl 2 rfl) ?_
          refine lv_aload_n hx hb dX4_seek_54 rfl (lv_at hl 0 rfl) ?_
          refine va_get (ci := 2) (C := RX4) (T := TX4) (N := 8) (v := .ref q_p0_pieces) hx hb hts hinX4 hown hK hP 0 rfl rfl 2 (by decide) hw3 (fun _ h9 => h9) rfl dX4_seek_55 ?_
          refine va_get (ci := 3) (C := RX5) (T := TX5) (N := 8) (v := .int v_p0_pieces_number) hx hb hts hinX5 hown hK hP 2 rfl rfl 0 (by decide) hw4 (fun _ h9 => h9) rfl dX4_seek_58 ?_
          refine lv_icmp_ge (tgt := 83) hx hb dX4_seek_61 (by decide) (fun c5 => ?_) (fun c5 => ?_)
          · have h := And.left h c5
            exact z_vret hQ hx hb hr hlocks hK (v_p0_soughtSize, v_p0_soughtMap, v_p0_pieces_number, v_p0_pieces_falling, f_p0_pieces_covered, f_p0_amount, f_p0_found, f_p0_loop, f_p0_lessRows, f_p0_leads) h hP hD hS dX4_seek_83
          · have h := And.right h c5
            refine lv_aload_n hx hb dX4_seek_64 rfl (lv_at hl 0 rfl) ?_
            refine va_get (ci := 2) (C := RX4) (T := TX4) (N := 8) (v := .ref q_p0_loop) hx hb hts hinX4 hown hK hP 0 rfl rfl 5 (by decide) hw5 (fun _ h9 => h9) rfl dX4_seek_65 ?_
            refine lv_iconst (v := (0 : Int32)) hx hb dX4_seek_68 (by decide) ?_
            refine lv_iload_n hx hb dX4_seek_69 rfl (lv_at hl 2 rfl) ?_
            obtain ⟨hi6, h⟩ := h
            refine z_iast (wn := [(q_p0, .inr (2, [.int v_p0_soughtSize, .int v_p0_soughtMap, .ref q_p0_pieces, .ref q_p0_amount, .ref q_p0_found, .ref q_p0_loop, .ref q_p0_lessRows, .ref q_p0_leads])), (q_p2, .inr (0, [.int v_p2_size, .int v_p2_way, .ref q_p2_led, .ref q_p2_turnedLed])), (q_p0_pieces, .inr (3, [.int v_p0_pieces_number, .int v_p0_pieces_falling, .ref q_p0_pieces_covered, .ref q_p0_pieces_counts, .ref q_p0_pieces_earlier, .ref q_p0_pieces_closed, .ref q_p0_pieces_simple, .ref q_p0_pieces_coefficients])), (q_p0_amount, .inl (cI, 7, .inl f_p0_amount)), (q_p0_found, .inl (cI, 153, .inl f_p0_found)), (q_p0_loop, .inl (cI, 12, .inl (upd f_p0_loop (0 : Int32).toNatClampNeg l3))), (q_p0_lessRows, .inl (cI, 6, .inl f_p0_lessRows)), (q_p0_leads, .inl (cI, 6, .inl f_p0_leads)), (q_p2_led, .inl (cI, 8, .inl f_p2_led)), (q_p0_pieces_covered, .inl (cI, 8, .inl f_p0_pieces_covered))]) hx hb hK hP hD hS 5 rfl hi6 dX4_seek_70 rfl (fun H locs hP hD hS => ?_)
            refine lv_aload_n hx hb dX4_seek_71 rfl (lv_at hl 0 rfl) ?_
            refine lv_iload_n hx hb dX4_seek_72 rfl (lv_at hl 1 rfl) ?_
            refine lv_iconst (v := (1 : Int32)) hx hb dX4_seek_73 (by decide) ?_
            refine z_cSv (As := [.ref q_p0, .int x1, .int (1 : Int32)]) (rest := []) (wr := [(q_p2, .inr (0, [.int v_p2_size, .int v_p2_way, .ref q_p2_led, .ref q_p2_turnedLed])), (q_p2_led, .inl (cI, 8, .inl f_p2_led))]) (wn := fun u => [(q_p0, .inr (2, [.int v_p0_soughtSize, .int v_p0_soughtMap, .ref q_p0_pieces, .ref q_p0_amount, .ref q_p0_found, .ref q_p0_loop, .ref q_p0_lessRows, .ref q_p0_leads])), (q_p2, .inr (0, [.int v_p2_size, .int v_p2_way, .ref q_p2_led, .ref q_p2_turnedLed])), (q_p0_pieces, .inr (3, [.int v_p0_pieces_number, .int v_p0_pieces_falling, .ref q_p0_pieces_covered, .ref q_p0_pieces_counts, .ref q_p0_pieces_earlier, .ref q_p0_pieces_closed, .ref q_p0_pieces_simple, .ref q_p0_pieces_coefficients])), (q_p0_amount, .inl (cI, 7, .inl u.2.2.2.2)), (q_p0_found, .inl (cI, 153, .inl u.2.2.2.1)), (q_p0_loop, .inl (cI, 12, .inl u.1)), (q_p0_lessRows, .inl (cI, 6, .inl u.2.1)), (q_p0_leads, .inl (cI, 6, .inl u.2.2.1)), (q_p2_led, .inl (cI, 8, .inl f_p2_led)), (q_p0_pieces_covered, .inl (cI, 8, .inl f_p0_pieces_covered))]) (c_X4_extend l D cI cJ cB tU tM tS q_p0 q_p0_pieces q_p0_amount q_p0_found q_p0_loop q_p0_lessRows q_p0_leads q_p0_pieces_covered q_p0_pieces_counts q_p0_pieces_earlier q_p0_pieces_closed q_p0_pieces_simple q_p0_pieces_coefficients 8 H.size x1 (1 : Int32) f_p0_amount (upd f_p0_loop (0 : Int32).toNatClampNeg l3) v_p0_pieces_number f_p0_pieces_covered v_p0_pieces_falling f_p0_lessRows f_p0_leads f_p0_found v_p0_soughtSize v_p0_soughtMap _ h) ⟨hx, hb, hml, hown, hts⟩ (va_cwS 3 hts gX4_seek_X4_extend rfl rfl rfl hd_X4_extend.2 ⟨Nat.le_of_ble_eq_true rfl, Nat.le_of_ble_eq_true rfl⟩) hX hK hP hD hS hA [0, 3, 5, 2, 6, 7, 4, 9] [1, 8] [2, 0, 5, 3, 8, 4, 6, 7, 1, 9] rfl rfl rfl (by decide) (fun _ => rfl) rfl hl.1 rfl (Nat.le_of_ble_eq_true rfl) ⟨Nat.le_refl _, Nat.le_refl _⟩ dX4_seek_74 (fun u7 H locs h hP hD hS => ?_)
            obtain ⟨m7_0, m7_1, m7_2, m7_3, m7_4⟩ := u7
            refine lv_iinc (v := (l3 + 1)) (lv' := [(3, .int (l3 + 1)), (0, .ref q_p0), (1, .int x1)]) hx hb dX4_seek_77 hl (k := 2) rfl rfl (by decide) rfl (fun ls hl => ?_)
            refine lv_goto (tgt := 53) hx hb dX4_seek_80 (by decide) ?_
            exact ih53 (l3 + 1) m7_4 m7_3 m7_0 m7_1 m7_2 _ _ _ h hP hD hS (lv_sub hl [1, 2, 0] rfl)
      obtain ⟨n53, h⟩ := h
      exact k53 v_p0_soughtSize v_p0_soughtMap v_p0_pieces_number v_p0_pieces_falling f_p0_pieces_covered n53 (0 : Int32) m4_1 m4_0 f_p0_loop f_p0_lessRows f_p0_leads _ _ _ h hP hD hS (lv_sub hl [1, 2, 0] rfl)
    · have h := And.right h c2
      exact z_vret hQ hx hb hr hlocks hK (v_p0_soughtSize, v_p0_soughtMap, v_p0_pieces_number, v_p0_pieces_falling, f_p0_pieces_covered, f_p0_amount, f_p0_found, f_p0_loop, f_p0_lessRows, f_p0_leads) h hP hD hS dX4_seek_37
  have k22 : ∀ (v_p0_soughtSize : Int32) (v_p0_soughtMap : Int32) (v_p0_pieces_number : Int32) (v_p0_pieces_falling : Int32) (f_p0_pieces_covered : (Nat → Int32)) (f_p0_amount : (Nat → Int32)) (f_p0_found : (Nat → Int32)) (f_p0_loop : (Nat → Int32)) (f_p0_lessRows : (Nat → Int32)) (f_p0_leads : (Nat → Int32)) (H : Heap) (locs : List Loc) (ls : Array Slot), M_X4_seek_b22 x1 v_p2_size f_p2_led v_p2_way P v_p0_soughtSize v_p0_soughtMap v_p0_pieces_number v_p0_pieces_falling f_p0_pieces_covered f_p0_amount f_p0_found f_p0_loop f_p0_lessRows f_p0_leads → va_P D vwCl [(q_p0, .inr (2, [.int v_p0_soughtSize, .int v_p0_soughtMap, .ref q_p0_pieces, .ref q_p0_amount, .ref q_p0_found, .ref q_p0_loop, .ref q_p0_lessRows, .ref q_p0_leads])), (q_p2, .inr (0, [.int v_p2_size, .int v_p2_way, .ref q_p2_led, .ref q_p2_turnedLed])), (q_p0_pieces, .inr (3, [.int v_p0_pieces_number, .int v_p0_pieces_falling, .ref q_p0_pieces_covered, .ref q_p0_pieces_counts, .ref q_p0_pieces_earlier, .ref q_p0_pieces_closed, .ref q_p0_pieces_simple, .ref q_p0_pieces_coefficients])), (q_p0_amount, .inl (cI, 7, .inl f_p0_amount)), (q_p0_found, .inl (cI, 153, .inl f_p0_found)), (q_p0_loop, .inl (cI, 12, .inl f_p0_loop)), (q_p0_lessRows, .inl (cI, 6, .inl f_p0_lessRows)), (q_p0_leads, .inl (cI, 6, .inl f_p0_leads)), (q_p2_led, .inl (cI, 8, .inl f_p2_led)), (q_p0_pieces_covered, .inl (cI, 8, .inl f_p0_pieces_covered))] H → va_D A [(q_p0, .inr (2, [.int v_p0_soughtSize, .int v_p0_soughtMap, .ref q_p0_pieces, .ref q_p0_amount, .ref q_p0_found, .ref q_p0_loop, .ref q_p0_lessRows, .ref q_p0_leads])), (q_p2, .inr (0, [.int v_p2_size, .int v_p2_way, .ref q_p2_led, .ref q_p2_turnedLed])), (q_p0_pieces, .inr (3, [.int v_p0_pieces_number, .int v_p0_pieces_falling, .ref q_p0_pieces_covered, .ref q_p0_pieces_counts, .ref q_p0_pieces_earlier, .ref q_p0_pieces_closed, .ref q_p0_pieces_simple, .ref q_p0_pieces_coefficients])), (q_p0_amount, .inl (cI, 7, .inl f_p0_amount)), (q_p0_found, .inl (cI, 153, .inl f_p0_found)), (q_p0_loop, .inl (cI, 12, .inl f_p0_loop)), (q_p0_lessRows, .inl (cI, 6, .inl f_p0_lessRows)), (q_p0_leads, .inl (cI, 6, .inl f_p0_leads)), (q_p2_led, .inl (cI, 8, .inl f_p2_led)), (q_p0_pieces_covered, .inl (cI, 8, .inl f_p0_pieces_covered))] → va_S A s.heap H locs → lv_has ls 4 [(0, .ref q_p0), (1, .int x1), (2, .ref q_p2)] → W p l e { frames := 13, cells := 0, slots := 0, locals := 309 } s m args below meth c H locs 0 0 Q (F0 m 22 ls []) := by
    intro v_p0_soughtSize v_p0_soughtMap v_p0_pieces_number v_p0_pieces_falling f_p0_pieces_covered f_p0_amount f_p0_found f_p0_loop f_p0_lessRows f_p0_leads H locs ls h hP hD hS hl
    refine lv_aload_n hx hb dX4_seek_22 rfl (lv_at hl 0 rfl) ?_
    refine lv_aload_n hx hb dX4_seek_23 rfl (lv_at hl 2 rfl) ?_
    refine z_cVv (As := [.ref q_p2]) (rest := []) (wr := [(q_p0_found, .inl (cI, 153, .inl f_p0_found)), (q_p0_loop, .inl (cI, 12, .inl f_p0_loop)), (q_p0_lessRows, .inl (cI, 6, .inl f_p0_lessRows)), (q_p0_leads, .inl (cI, 6, .inl f_p0_leads))]) (wn := fun u => [(q_p0, .inr (2, [.int u.1, .int u.2.1, .ref q_p0_pieces, .ref q_p0_amount, .ref q_p0_found, .ref q_p0_loop, .ref q_p0_lessRows, .ref q_p0_leads])), (q_p2, .inr (0, [.int v_p2_size, .int v_p2_way, .ref q_p2_led, .ref q_p2_turnedLed])), (q_p0_pieces, .inr (3, [.int u.2.2.1, .int u.2.2.2.1, .ref q_p0_pieces_covered, .ref q_p0_pieces_counts, .ref q_p0_pieces_earlier, .ref q_p0_pieces_closed, .ref q_p0_pieces_simple, .ref q_p0_pieces_coefficients])), (q_p0_amount, .inl (cI, 7, .inl u.2.2.2.2.2)), (q_p0_found, .inl (cI, 153, .inl f_p0_found)), (q_p0_loop, .inl (cI, 12, .inl f_p0_loop)), (q_p0_lessRows, .inl (cI, 6, .inl f_p0_lessRows)), (q_p0_leads, .inl (cI, 6, .inl f_p0_leads)), (q_p2_led, .inl (cI, 8, .inl f_p2_led)), (q_p0_pieces_covered, .inl (cI, 8, .inl u.2.2.2.2.1))]) (c_X4_startWith l D cI cJ cB tU tM tS q_p0 q_p2 q_p0_pieces q_p0_amount q_p0_found q_p0_loop q_p0_lessRows q_p0_leads q_p2_led q_p2_turnedLed q_p0_pieces_covered q_p0_pieces_counts q_p0_pieces_earlier q_p0_pieces_closed q_p0_pieces_simple q_p0_pieces_coefficients H.size v_p2_size v_p0_soughtSize f_p2_led v_p0_soughtMap v_p2_way v_p0_pieces_number v_p0_pieces_falling f_p0_pieces_covered f_p0_amount _ h) ⟨hx, hb, hml, hown, hts⟩ (cwV 1 hts gX4_seek_X4_startWith rfl rfl rfl hd_X4_startWith ⟨Nat.le_of_ble_eq_true rfl, Nat.le_of_ble_eq_true rfl⟩) hX hK hP hD hS hA [0, 1, 2, 3, 8, 9] [4, 5, 6, 7] [4, 5, 6, 7, 0, 1, 2, 3, 8, 9] rfl rfl rfl (by decide) (fun _ => rfl) (q0 := 0) (ci := 2) rfl rfl rfl hl.1 rfl (Nat.le_of_ble_eq_true rfl) ⟨Nat.le_refl _, Nat.le_refl _⟩ dX4_seek_24 (fun u8 H locs h hP hD hS => ?_)
    obtain ⟨m8_0, m8_1, m8_2, m8_3, m8_4, m8_5⟩ := u8
    exact k27 m8_0 m8_1 m8_2 m8_3 m8_4 m8_5 f_p0_found f_p0_loop f_p0_lessRows f_p0_leads _ _ _ h hP hD hS (lv_sub hl [0, 1, 2] rfl)
  refine lv_icmp_ne (tgt := 22) hx hb dX4_seek_8 (by decide) (fun c9 => ?_) (fun c9 => ?_)
  · have h := And.right h c9
    exact k22 v_p0_soughtSize v_p0_soughtMap v_p0_pieces_number v_p0_pieces_falling f_p0_pieces_covered f_p0_amount f_p0_found f_p0_loop f_p0_lessRows f_p0_leads _ _ _ h hP hD hS (lv_sub hl [0, 1, 2] rfl)
  · have h := And.left h c9
    refine lv_aload_n hx hb dX4_seek_11 rfl (lv_at hl 0 rfl) ?_
    refine va_get (ci := 2) (C := RX4) (T := TX4) (N := 8) (v := .int v_p0_soughtMap) hx hb hts hinX4 hown hK hP 0 rfl rfl 1 (by decide) hw6 (fun _ h9 => h9) rfl dX4_seek_12 ?_
    refine lv_aload_n hx hb dX4_seek_15 rfl (lv_at hl 2 rfl) ?_
    refine z_cVi (As := []) (rest := [.int v_p0_soughtMap]) (wr := [(q_p0, .inr (2, [.int v_p0_soughtSize, .int v_p0_soughtMap, .ref q_p0_pieces, .ref q_p0_amount, .ref q_p0_found, .ref q_p0_loop, .ref q_p0_lessRows, .ref q_p0_leads])), (q_p0_pieces, .inr (3, [.int v_p0_pieces_number, .int v_p0_pieces_falling, .ref q_p0_pieces_covered, .ref q_p0_pieces_counts, .ref q_p0_pieces_earlier, .ref q_p0_pieces_closed, .ref q_p0_pieces_simple, .ref q_p0_pieces_coefficients])), (q_p0_amount, .inl (cI, 7, .inl f_p0_amount)), (q_p0_found, .inl (cI, 153, .inl f_p0_found)), (q_p0_loop, .inl (cI, 12, .inl f_p0_loop)), (q_p0_lessRows, .inl (cI, 6, .inl f_p0_lessRows)), (q_p0_leads, .inl (cI, 6, .inl f_p0_leads)), (q_p0_pieces_covered, .inl (cI, 8, .inl f_p0_pieces_covered))]) (wn := fun u => [(q_p0, .inr (2, [.int v_p0_soughtSize, .int v_p0_soughtMap, .ref q_p0_pieces, .ref q_p0_amount, .ref q_p0_found, .ref q_p0_loop, .ref q_p0_lessRows, .ref q_p0_leads])), (q_p2, .inr (0, [.int v_p2_size, .int v_p2_way, .ref q_p2_led, .ref q_p2_turnedLed])), (q_p0_pieces, .inr (3, [.int v_p0_pieces_number, .int v_p0_pieces_falling, .ref q_p0_pieces_covered, .ref q_p0_pieces_counts, .ref q_p0_pieces_earlier, .ref q_p0_pieces_closed, .ref q_p0_pieces_simple, .ref q_p0_pieces_coefficients])), (q_p0_amount, .inl (cI, 7, .inl f_p0_amount)), (q_p0_found, .inl (cI, 153, .inl f_p0_found)), (q_p0_loop, .inl (cI, 12, .inl f_p0_loop)), (q_p0_lessRows, .inl (cI, 6, .inl f_p0_lessRows)), (q_p0_leads, .inl (cI, 6, .inl f_p0_leads)), (q_p2_led, .inl (cI, 8, .inl f_p2_led)), (q_p0_pieces_covered, .inl (cI, 8, .inl f_p0_pieces_covered))]) (c_X0_packed l D cI cJ cB tU tM tS q_p2 q_p2_led q_p2_turnedLed H.size f_p2_led v_p2_size v_p2_way _ h) ⟨hx, hb, hml, hown, hts⟩ (cwV 0 hts gX4_seek_X0_packed rfl rfl rfl hd_X0_packed ⟨Nat.le_of_ble_eq_true rfl, Nat.le_of_ble_eq_true rfl⟩) hX hK hP hD hS hA [1, 8] [0, 2, 3, 4, 5, 6, 7, 9] [0, 8, 1, 2, 3, 4, 5, 6, 9, 7] rfl rfl rfl (by decide) (fun _ => rfl) (q0 := 1) (ci := 0) rfl rfl rfl hl.1 rfl (Nat.le_of_ble_eq_true rfl) ⟨Nat.le_refl _, Nat.le_refl _⟩ dX4_seek_16 (fun r10 u10 H locs h hP hD hS => ?_)
    refine lv_icmp_eq (tgt := 27) hx hb dX4_seek_19 (by decide) (fun c11 => ?_) (fun c11 => ?_)
    · have h := And.left h c11
      exact k27 v_p0_soughtSize v_p0_soughtMap v_p0_pieces_number v_p0_pieces_falling f_p0_pieces_covered f_p0_amount f_p0_found f_p0_loop f_p0_lessRows f_p0_leads _ _ _ h hP hD hS (lv_sub hl [0, 1, 2] rfl)
    · have h := And.right h c11
      exact k22 v_p0_soughtSize v_p0_soughtMap v_p0_pieces_number v_p0_pieces_falling f_p0_pieces_covered f_p0_amount f_p0_found f_p0_loop f_p0_lessRows f_p0_leads _ _ _ h hP hD hS (lv_sub hl [0, 1, 2] rfl)
theorem hd_X5_holds : yX5_holds.cls = RX5 ∧ yX5_holds.cls ≠ "java/lang/invoke/MethodHandle" ∧ yX5_holds.cls ≠ "java/lang/invoke/VarHandle" ∧ (parseMethodDescriptor yX5_holds.desc).map (fun d => d.parameters.length) = some 1 := by decide +kernel
set_option maxHeartbeats 4000000 in
set_option maxRecDepth 100000 in
theorem c_X5_holds (l : Launch) (D : va_G) (cI cJ cB : ClassId) (tU tM tS : Nat) (q_p0 q_p0_covered q_p0_counts q_p0_earlier q_p0_closed q_p0_simple q_p0_coefficients : Nat) (sz : Nat) (x1 : Int32) (v_p0_number : Int32) (v_p0_falling : Int32) (P : Int32 → Prop) (h : M_X5_holds x1 v_p0_number P) : Met l yX5_holds wsX5_holds ({ frames := 0, cells := 0, slots := 0, locals := 0 }) (va_Pc [.ref q_p0, .int x1] (zPre D cI cJ cB tU tM tS [(q_p0, .inr (3, [.int v_p0_number, .int v_p0_falling, .ref q_p0_covered, .ref q_p0_counts, .ref q_p0_earlier, .ref q_p0_closed, .ref q_p0_simple, .ref q_p0_coefficients]))] sz)) (va_Qi (fun (r : Int32) (u : Unit) => P r ) (fun u t => zPost D cI cJ cB (va_A [(q_p0, .inr (3, [.int v_p0_number, .int v_p0_falling, .ref q_p0_covered, .ref q_p0_counts, .ref q_p0_earlier, .ref q_p0_closed, .ref q_p0_simple, .ref q_p0_coefficients]))] sz) [(q_p0, .inr (3, [.int v_p0_number, .int v_p0_falling, .ref q_p0_covered, .ref q_p0_counts, .ref q_p0_earlier, .ref q_p0_closed, .ref q_p0_simple, .ref q_p0_coefficients]))] t) (va_A [(q_p0, .inr (3, [.int v_p0_number, .int v_p0_falling, .ref q_p0_covered, .ref q_p0_counts, .ref q_p0_earlier, .ref q_p0_closed, .ref q_p0_simple, .ref q_p0_coefficients]))] sz)) 0 0 (va_A [(q_p0, .inr (3, [.int v_p0_number, .int v_p0_falling, .ref q_p0_covered, .ref q_p0_counts, .ref q_p0_earlier, .ref q_p0_closed, .ref q_p0_simple, .ref q_p0_coefficients]))] sz) := by
  refine z_met (cc := cX5_holds) (maxL := 2) (ret := (some .boolean)) (Qc := fun A => va_Qi (fun (r : Int32) (u : Unit) => P r ) (fun u t => zPost D cI cJ cB A [(q_p0, .inr (3, [.int v_p0_number, .int v_p0_falling, .ref q_p0_covered, .ref q_p0_counts, .ref q_p0_earlier, .ref q_p0_closed, .ref q_p0_simple, .ref q_p0_coefficients]))] t) A) (by decide) rfl [.ref q_p0, .int x1] (Nat.le_of_ble_eq_true rfl) ?_
  intro p e s m args below meth c A hx hb hr hts hown hml hlocks hA hX hK H locs hP hD hS ls hl Q hQ
  have hown : s.vm.findClass RX5 = some m.cls := hown
  have hl : lv_has ls 2 [(0, .ref q_p0), (1, .int x1)] := hl
  have hw0 : (Cond.fieldLink RX5 37 "ForcedRings$Pieces" "number" "I").before args s = true := hts _ (List.mem_of_getElem? (i := 1) rfl)
  have hinX5 : ∀ w ∈ wsX50, w ∈ wsX5_holds := fun _ h => List.mem_cons_of_mem _ (List.mem_append_right _ h)
  refine lv_iload_n hx hb dX5_holds_0 rfl (lv_at hl 1 rfl) ?_
  refine lv_if_lt (tgt := 16) hx hb dX5_holds_1 (by decide) (fun c1 => ?_) (fun c1 => ?_)
  · have h := And.left h c1
    refine lv_iconst (v := (0 : Int32)) hx hb dX5_holds_16 (by decide) ?_
    exact z_iret hQ hx hb hr rfl hlocks hK () h hP hD hS dX5_holds_17
  · have h := And.right h c1
    refine lv_iload_n hx hb dX5_holds_4 rfl (lv_at hl 1 rfl) ?_
    refine lv_aload_n hx hb dX5_holds_5 rfl (lv_at hl 0 rfl) ?_
    refine va_get (ci := 3) (C := RX5) (T := TX5) (N := 8) (v := .int v_p0_number) hx hb hts hinX5 hown hK hP 0 rfl rfl 0 (by decide) hw0 (fun _ h9 => h9) rfl dX5_holds_6 ?_
    refine lv_icmp_ge (tgt := 16) hx hb dX5_holds_9 (by decide) (fun c2 => ?_) (fun c2 => ?_)
    · have h := And.left h c2
      refine lv_iconst (v := (0 : Int32)) hx hb dX5_holds_16 (by decide) ?_
      exact z_iret hQ hx hb hr rfl hlocks hK () h hP hD hS dX5_holds_17
    · have h := And.right h c2
      refine lv_iconst (v := (1 : Int32)) hx hb dX5_holds_12 (by decide) ?_
      refine lv_goto (tgt := 17) hx hb dX5_holds_13 (by decide) ?_
      exact z_iret hQ hx hb hr rfl hlocks hK () h hP hD hS dX5_holds_17
theorem hd_X5_reachedFrom : yX5_reachedFrom.cls = RX5 ∧ yX5_reachedFrom.cls ≠ "java/lang/invoke/MethodHandle" ∧ yX5_reachedFrom.cls ≠ "java/lang/invoke/VarHandle" ∧ (parseMethodDescriptor yX5_reachedFrom.desc).map (fun d => d.parameters.length) = some 1 := by decide +kernel
set_option maxHeartbeats 4000000 in
set_option maxRecDepth 100000 in
theorem c_X5_reachedFrom (l : Launch) (D : va_G) (cI cJ cB : ClassId) (tU tM tS : Nat) (q_p0 q_p0_covered q_p0_counts q_p0_earlier q_p0_closed q_p0_simple q_p0_coefficients : Nat) (sz : Nat) (x1 : Int32) (f_p0_covered : (Nat → Int32)) (v_p0_number : Int32) (v_p0_falling : Int32) (P : Int32 → Prop) (h : M_X5_reachedFrom x1 f_p0_covered v_p0_number P) : Met l yX5_reachedFrom wsX5_reachedFrom ({ frames := 0, cells := 0, slots := 0, locals := 0 }) (va_Pc [.ref q_p0, .int x1] (zPre D cI cJ cB tU tM tS [(q_p0, .inr (3, [.int v_p0_number, .int v_p0_falling, .ref q_p0_covered, .ref q_p0_counts, .ref q_p0_earlier, .ref q_p0_closed, .ref q_p0_simple, .ref q_p0_coefficients])), (q_p0_covered, .inl (cI, 8, .inl f_p0_covered))] sz)) (va_Qi (fun (r : Int32) (u : Unit) => P r ) (fun u t => zPost D cI cJ cB (va_A [(q_p0, .inr (3, [.int v_p0_number, .int v_p0_falling, .ref q_p0_covered, .ref q_p0_counts, .ref q_p0_earlier, .ref q_p0_closed, .ref q_p0_simple, .ref q_p0_coefficients])), (q_p0_covered, .inl (cI, 8, .inl f_p0_covered))] sz) [(q_p0, .inr (3, [.int v_p0_number, .int v_p0_falling, .ref q_p0_covered, .ref q_p0_counts, .ref q_p0_earlier, .ref q_p0_closed, .ref q_p0_simple, .ref q_p0_coefficients])), (q_p0_covered, .inl (cI, 8, .inl f_p0_covered))] t) (va_A [(q_p0, .inr (3, [.int v_p0_number, .int v_p0_falling, .ref q_p0_covered, .ref q_p0_counts, .ref q_p0_earlier, .ref q_p0_closed, .ref q_p0_simple, .ref q_p0_coefficients])), (q_p0_covered, .inl (cI, 8, .inl f_p0_covered))] sz)) 0 0 (va_A [(q_p0, .inr (3, [.int v_p0_number, .int v_p0_falling, .ref q_p0_covered, .ref q_p0_counts, .ref q_p0_earlier, .ref q_p0_closed, .ref q_p0_simple, .ref q_p0_coefficients])), (q_p0_covered, .inl (cI, 8, .inl f_p0_covered))] sz) := by
  refine z_met (cc := cX5_reachedFrom) (maxL := 5) (ret := (some .int)) (Qc := fun A => va_Qi (fun (r : Int32) (u : Unit) => P r ) (fun u t => zPost D cI cJ cB A [(q_p0, .inr (3, [.int v_p0_number, .int v_p0_falling, .ref q_p0_covered, .ref q_p0_counts, .ref q_p0_earlier, .ref q_p0_closed, .ref q_p0_simple, .ref q_p0_coefficients])), (q_p0_covered, .inl (cI, 8, .inl f_p0_covered))] t) A) (by decide) rfl [.ref q_p0, .int x1] (Nat.le_of_ble_eq_true rfl) ?_
  intro p e s m args below meth c A hx hb hr hts hown hml hlocks hA hX hK H locs hP hD hS ls hl Q hQ
  have hown : s.vm.findClass RX5 = some m.cls := hown
  have hl : lv_has ls 5 [(0, .ref q_p0), (1, .int x1)] := hl
  have hw0 : (Cond.fieldLink RX5 9 "ForcedRings$Pieces" "covered" "[I").before args s = true := hts _ (List.mem_of_getElem? (i := 1) rfl)
  have hw1 : (Cond.fieldLink RX5 37 "ForcedRings$Pieces" "number" "I").before args s = true := hts _ (List.mem_of_getElem? (i := 2) rfl)
  have hinX5 : ∀ w ∈ wsX50, w ∈ wsX5_reachedFrom := fun _ h => List.mem_cons_of_mem _ (List.mem_append_right _ h)
  refine lv_aload_n hx hb dX5_reachedFrom_0 rfl (lv_at hl 0 rfl) ?_
  refine va_get (ci := 3) (C := RX5) (T := TX5) (N := 8) (v := .ref q_p0_covered) hx hb hts hinX5 hown hK hP 0 rfl rfl 2 (by decide) hw0 (fun _ h9 => h9) rfl dX5_reachedFrom_1 ?_
  refine lv_iload_n hx hb dX5_reachedFrom_4 rfl (lv_at hl 1 rfl) ?_
  obtain ⟨hi1, h⟩ := h
  refine va_iald hx hb hK hP 1 0 rfl rfl hi1 dX5_reachedFrom_5 ?_
  refine lv_istore_n (lv' := [(2, .int (f_p0_covered x1.toNatClampNeg)), (0, .ref q_p0), (1, .int x1)]) hx hb dX5_reachedFrom_6 rfl hl (by decide) rfl (fun ls hl => ?_)
  refine lv_iconst (v := (0 : Int32)) hx hb dX5_reachedFrom_7 (by decide) ?_
  refine lv_istore_n (lv' := [(3, .int (0 : Int32)), (2, .int (f_p0_covered x1.toNatClampNeg)), (0, .ref q_p0), (1, .int x1)]) hx hb dX5_reachedFrom_8 rfl hl (by decide) rfl (fun ls hl => ?_)
  have k9 : ∀  (n9 : Nat) (l2 : Int32) (l3 : Int32) (H : Heap) (locs : List Loc) (ls : Array Slot), LP2 (M_X5_reachedFrom_l9 x1 f_p0_covered v_p0_number P ) n9 l2 l3 → va_P D vwCl [(q_p0, .inr (3, [.int v_p0_number, .int v_p0_falling, .ref q_p0_covered, .ref q_p0_counts, .ref q_p0_earlier, .ref q_p0_closed, .ref q_p0_simple, .ref q_p0_coefficients])), (q_p0_covered, .inl (cI, 8, .inl f_p0_covered))] H → va_D A [(q_p0, .inr (3, [.int v_p0_number, .int v_p0_falling, .ref q_p0_covered, .ref q_p0_counts, .ref q_p0_earlier, .ref q_p0_closed, .ref q_p0_simple, .ref q_p0_coefficients])), (q_p0_covered, .inl (cI, 8, .inl f_p0_covered))] → va_S A s.heap H locs → lv_has ls 5 [(0, .ref q_p0), (2, .int l2), (3, .int l3)] → W p l e { frames := 0, cells := 0, slots := 0, locals := 0 } s m args below meth c H locs 0 0 Q (F0 m 9 ls []) := by
    intro  n9
    induction n9 with
    | zero =>
      intro l2 l3 H locs ls h
      exact False.elim h
    | succ n9 ih9 =>
      intro l2 l3 H locs ls h hP hD hS hl
      have h : M_X5_reachedFrom_l9 x1 f_p0_covered v_p0_number P  (LP2 (M_X5_reachedFrom_l9 x1 f_p0_covered v_p0_number P ) n9) l2 l3 := h
      refine lv_iload_n hx hb dX5_reachedFrom_9 rfl (lv_at hl 2 rfl) ?_
      refine lv_aload_n hx hb dX5_reachedFrom_10 rfl (lv_at hl 0 rfl) ?_
      refine va_get (ci := 3) (C := RX5) (T := TX5) (N := 8) (v := .int v_p0_number) hx hb hts hinX5 hown hK hP 0 rfl rfl 0 (by decide) hw1 (fun _ h9 => h9) rfl dX5_reachedFrom_11 ?_
      refine lv_icmp_ge (tgt := 65) hx hb dX5_reachedFrom_14 (by decide) (fun c2 => ?_) (fun c2 => ?_)
      · have h := And.left h c2
        refine lv_iload_n hx hb dX5_reachedFrom_65 rfl (lv_at hl 1 rfl) ?_
        exact z_iret hQ hx hb hr rfl hlocks hK () h hP hD hS dX5_reachedFrom_66
      · have h := And.right h c2
        refine lv_iconst (v := (0 : Int32)) hx hb dX5_reachedFrom_17 (by decide) ?_
        refine lv_istore (lv' := [(4, .int (0 : Int32)), (0, .ref q_p0), (2, .int l2), (3, .int l3)]) hx hb dX5_reachedFrom_18 hl (by decide) rfl (fun ls hl => ?_)
        have k20 : ∀ (l3 : Int32) (n20 : Nat) (l2 : Int32) (l4 : Int32) (H : Heap) (locs : List Loc) (ls : Array Slot), LP2 (M_X5_reachedFrom_l20 x1 f_p0_covered v_p0_number (LP2 (M_X5_reachedFrom_l9 x1 f_p0_covered v_p0_number P ) n9) P l3) n20 l2 l4 → va_P D vwCl [(q_p0, .inr (3, [.int v_p0_number, .int v_p0_falling, .ref q_p0_covered, .ref q_p0_counts, .ref q_p0_earlier, .ref q_p0_closed, .ref q_p0_simple, .ref q_p0_coefficients])), (q_p0_covered, .inl (cI, 8, .inl f_p0_covered))] H → va_D A [(q_p0, .inr (3, [.int v_p0_number, .int v_p0_falling, .ref q_p0_covered, .ref q_p0_counts, .ref q_p0_earlier, .ref q_p0_closed, .ref q_p0_simple, .ref q_p0_coefficients])), (q_p0_covered, .inl (cI, 8, .inl f_p0_covered))] → va_S A s.heap H locs → lv_has ls 5 [(0, .ref q_p0), (2, .int l2), (3, .int l3), (4, .int l4)] → W p l e { frames := 0, cells := 0, slots := 0, locals := 0 } s m args below meth c H locs 0 0 Q (F0 m 20 ls []) := by
          intro l3 n20
          induction n20 with
          | zero =>
            intro l2 l4 H locs ls h
            exact False.elim h
          | succ n20 ih20 =>
            intro l2 l4 H locs ls h hP hD hS hl
            have h : M_X5_reachedFrom_l20 x1 f_p0_covered v_p0_number (LP2 (M_X5_reachedFrom_l9 x1 f_p0_covered v_p0_number P ) n9) P l3 (LP2 (M_X5_reachedFrom_l20 x1 f_p0_covered v_p0_number (LP2 (M_X5_reachedFrom_l9 x1 f_p0_covered v_p0_number P ) n9) P l3) n20) l2 l4 := h
            refine lv_iload hx hb dX5_reachedFrom_20 (lv_at hl 3 rfl) ?_
            refine lv_aload_n hx hb dX5_reachedFrom_22 rfl (lv_at hl 0 rfl) ?_
            refine va_get (ci := 3) (C := RX5) (T := TX5) (N := 8) (v := .int v_p0_number) hx hb hts hinX5 hown hK hP 0 rfl rfl 0 (by decide) hw1 (fun _ h9 => h9) rfl dX5_reachedFrom_23 ?_
            refine lv_icmp_ge (tgt := 59) hx hb dX5_reachedFrom_26 (by decide) (fun c3 => ?_) (fun c3 => ?_)
            · have h := And.left h c3
              refine lv_iinc (v := (l3 + 1)) (lv' := [(3, .int (l3 + 1)), (0, .ref q_p0), (2, .int l2), (4, .int l4)]) hx hb dX5_reachedFrom_59 hl (k := 2) rfl rfl (by decide) rfl (fun ls hl => ?_)
              refine lv_goto (tgt := 9) hx hb dX5_reachedFrom_62 (by decide) ?_
              exact ih9 l2 (l3 + 1) _ _ _ h hP hD hS (lv_sub hl [1, 2, 0] rfl)
            · have h := And.right h c3
              refine lv_iload_n hx hb dX5_reachedFrom_29 rfl (lv_at hl 1 rfl) ?_
              refine lv_iload_n hx hb dX5_reachedFrom_30 rfl (lv_at hl 1 rfl) ?_
              refine lv_iload hx hb dX5_reachedFrom_31 (lv_at hl 3 rfl) ?_
              refine lv_ishr hx hb dX5_reachedFrom_33 ?_
              refine lv_iconst (v := (1 : Int32)) hx hb dX5_reachedFrom_34 (by decide) ?_
              refine lv_iand hx hb dX5_reachedFrom_35 ?_
              refine lv_iconst (v := (1 : Int32)) hx hb dX5_reachedFrom_36 (by decide) ?_
              refine lv_icmp_ne (tgt := 50) hx hb dX5_reachedFrom_37 (by decide) (fun c4 => ?_) (fun c4 => ?_)
              · have h := And.right h c4
                refine lv_iconst (v := (0 : Int32)) hx hb dX5_reachedFrom_50 (by decide) ?_
                refine lv_ior hx hb dX5_reachedFrom_51 ?_
                refine lv_istore_n (lv' := [(2, .int (l2 ||| (0 : Int32))), (0, .ref q_p0), (3, .int l3), (4, .int l4)]) hx hb dX5_reachedFrom_52 rfl hl (by decide) rfl (fun ls hl => ?_)
                refine lv_iinc (v := (l4 + 1)) (lv' := [(4, .int (l4 + 1)), (2, .int (l2 ||| (0 : Int32))), (0, .ref q_p0), (3, .int l3)]) hx hb dX5_reachedFrom_53 hl (k := 3) rfl rfl (by decide) rfl (fun ls hl => ?_)
                refine lv_goto (tgt := 20) hx hb dX5_reachedFrom_56 (by decide) ?_
                exact ih20 (l2 ||| (0 : Int32)) (l4 + 1) _ _ _ h hP hD hS (lv_sub hl [2, 1, 3, 0] rfl)
              · have h := And.left h c4
                refine lv_aload_n hx hb dX5_reachedFrom_40 rfl (lv_at hl 0 rfl) ?_
                refine va_get (ci := 3) (C := RX5) (T := TX5) (N := 8) (v := .ref q_p0_covered) hx hb hts hinX5 hown hK hP 0 rfl rfl 2 (by decide) hw0 (fun _ h9 => h9) rfl dX5_reachedFrom_41 ?_
                refine lv_iload hx hb dX5_reachedFrom_44 (lv_at hl 3 rfl) ?_
                obtain ⟨hi5, h⟩ := h
                refine va_iald hx hb hK hP 1 0 rfl rfl hi5 dX5_reachedFrom_46 ?_
                refine lv_goto (tgt := 51) hx hb dX5_reachedFrom_47 (by decide) ?_
                refine lv_ior hx hb dX5_reachedFrom_51 ?_
                refine lv_istore_n (lv' := [(2, .int (l2 ||| (f_p0_covered l4.toNatClampNeg))), (0, .ref q_p0), (3, .int l3), (4, .int l4)]) hx hb dX5_reachedFrom_52 rfl hl (by decide) rfl (fun ls hl => ?_)
                refine lv_iinc (v := (l4 + 1)) (lv' := [(4, .int (l4 + 1)), (2, .int (l2 ||| (f_p0_covered l4.toNatClampNeg))), (0, .ref q_p0), (3, .int l3)]) hx hb dX5_reachedFrom_53 hl (k := 3) rfl rfl (by decide) rfl (fun ls hl => ?_)
                refine lv_goto (tgt := 20) hx hb dX5_reachedFrom_56 (by decide) ?_
                exact ih20 (l2 ||| (f_p0_covered l4.toNatClampNeg)) (l4 + 1) _ _ _ h hP hD hS (lv_sub hl [2, 1, 3, 0] rfl)
        obtain ⟨n20, h⟩ := h
        exact k20 l3 n20 l2 (0 : Int32) _ _ _ h hP hD hS (lv_sub hl [1, 2, 3, 0] rfl)
  obtain ⟨n9, h⟩ := h
  exact k9  n9 (f_p0_covered x1.toNatClampNeg) (0 : Int32) _ _ _ h hP hD hS (lv_sub hl [2, 1, 0] rfl)
theorem hd_X5_countOn : yX5_countOn.cls = RX5 ∧ yX5_countOn.cls ≠ "java/lang/invoke/MethodHandle" ∧ yX5_countOn.cls ≠ "java/lang/invoke/VarHandle" ∧ (parseMethodDescriptor yX5_countOn.desc).map (fun d => d.parameters.length) = some 0 := by decide +kernel
set_option maxHeartbeats 4000000 in
set_option maxRecDepth 100000 in
theorem c_X5_countOn (l : Launch) (D : va_G) (cI cJ cB : ClassId) (tU tM tS : Nat) (q_p0 q_p0_covered q_p0_counts q_p0_earlier q_p0_closed q_p0_simple q_p0_coefficients : Nat) (sz : Nat) (f_p0_counts : (Nat → Int64)) (f_p0_earlier : (Nat → Int64)) (v_p0_number : Int32) (f_p0_covered : (Nat → Int32)) (v_p0_falling : Int32) (P : (Nat → Int64) → (Nat → Int64) → Prop) (h : M_X5_countOn f_p0_counts f_p0_earlier v_p0_number f_p0_covered P) : Met l yX5_countOn wsX5_countOn ({ frames := 1, cells := 0, slots := 0, locals := 26 }) (va_Pc [.ref q_p0] (zPre D cI cJ cB tU tM tS [(q_p0, .inr (3, [.int v_p0_number, .int v_p0_falling, .ref q_p0_covered, .ref q_p0_counts, .ref q_p0_earlier, .ref q_p0_closed, .ref q_p0_simple, .ref q_p0_coefficients])), (q_p0_counts, .inl (cJ, 8, .inr (.inl f_p0_counts))), (q_p0_earlier, .inl (cJ, 8, .inr (.inl f_p0_earlier))), (q_p0_covered, .inl (cI, 8, .inl f_p0_covered))] sz)) (va_Qv (fun u : (Nat → Int64) × (Nat → Int64) => P u.1 u.2) (fun u t => zPost D cI cJ cB (va_A [(q_p0, .inr (3, [.int v_p0_number, .int v_p0_falling, .ref q_p0_covered, .ref q_p0_counts, .ref q_p0_earlier, .ref q_p0_closed, .ref q_p0_simple, .ref q_p0_coefficients])), (q_p0_counts, .inl (cJ, 8, .inr (.inl f_p0_counts))), (q_p0_earlier, .inl (cJ, 8, .inr (.inl f_p0_earlier))), (q_p0_covered, .inl (cI, 8, .inl f_p0_covered))] sz) [(q_p0, .inr (3, [.int v_p0_number, .int v_p0_falling, .ref q_p0_covered, .ref q_p0_counts, .ref q_p0_earlier, .ref q_p0_closed, .ref q_p0_simple, .ref q_p0_coefficients])), (q_p0_counts, .inl (cJ, 8, .inr (.inl u.2))), (q_p0_earlier, .inl (cJ, 8, .inr (.inl u.1))), (q_p0_covered, .inl (cI, 8, .inl f_p0_covered))] t) (va_A [(q_p0, .inr (3, [.int v_p0_number, .int v_p0_falling, .ref q_p0_covered, .ref q_p0_counts, .ref q_p0_earlier, .ref q_p0_closed, .ref q_p0_simple, .ref q_p0_coefficients])), (q_p0_counts, .inl (cJ, 8, .inr (.inl f_p0_counts))), (q_p0_earlier, .inl (cJ, 8, .inr (.inl f_p0_earlier))), (q_p0_covered, .inl (cI, 8, .inl f_p0_covered))] sz)) 0 0 (va_A [(q_p0, .inr (3, [.int v_p0_number, .int v_p0_falling, .ref q_p0_covered, .ref q_p0_counts, .ref q_p0_earlier, .ref q_p0_closed, .ref q_p0_simple, .ref q_p0_coefficients])), (q_p0_counts, .inl (cJ, 8, .inr (.inl f_p0_counts))), (q_p0_earlier, .inl (cJ, 8, .inr (.inl f_p0_earlier))), (q_p0_covered, .inl (cI, 8, .inl f_p0_covered))] sz) := by
  refine z_met (cc := cX5_countOn) (maxL := 5) (ret := none) (Qc := fun A => va_Qv (fun u : (Nat → Int64) × (Nat → Int64) => P u.1 u.2) (fun u t => zPost D cI cJ cB A [(q_p0, .inr (3, [.int v_p0_number, .int v_p0_falling, .ref q_p0_covered, .ref q_p0_counts, .ref q_p0_earlier, .ref q_p0_closed, .ref q_p0_simple, .ref q_p0_coefficients])), (q_p0_counts, .inl (cJ, 8, .inr (.inl u.2))), (q_p0_earlier, .inl (cJ, 8, .inr (.inl u.1))), (q_p0_covered, .inl (cI, 8, .inl f_p0_covered))] t) A) (by decide) rfl [.ref q_p0] (Nat.le_of_ble_eq_true rfl) ?_
  intro p e s m args below meth c A hx hb hr hts hown hml hlocks hA hX hK H locs hP hD hS ls hl Q hQ
  have hown : s.vm.findClass RX5 = some m.cls := hown
  have hl : lv_has ls 5 [(0, .ref q_p0)] := hl
  have hw0 : (Cond.fieldLink RX5 15 "ForcedRings$Pieces" "counts" "[J").before args s = true := hts _ (List.mem_of_getElem? (i := 1) rfl)
  have hw1 : (Cond.fieldLink RX5 19 "ForcedRings$Pieces" "earlier" "[J").before args s = true := hts _ (List.mem_of_getElem? (i := 2) rfl)
  have hw2 : (Cond.methodLink RX5 69 arraycopyName).before args s = true := hts _ (List.mem_of_getElem? (i := 3) rfl)
  have hw3 : (Cond.native arraycopyName).before args s = true := hts _ (List.mem_of_getElem? (i := 4) rfl)
  have hw4 : (Cond.static arraycopyName).before args s = true := hts _ (List.mem_of_getElem? (i := 5) rfl)
  have hw5 : (Cond.initialized "java/lang/System").before args s = true := hts _ (List.mem_of_getElem? (i := 6) rfl)
  have hw6 : (Cond.fieldLink RX5 37 "ForcedRings$Pieces" "number" "I").before args s = true := hts _ (List.mem_of_getElem? (i := 7) rfl)
  have hinX5 : ∀ w ∈ wsX50, w ∈ wsX5_countOn := fun _ h => List.mem_cons_of_mem _ (List.mem_append_right _ h)
  refine lv_aload_n hx hb dX5_countOn_0 rfl (lv_at hl 0 rfl) ?_
  refine va_get (ci := 3) (C := RX5) (T := TX5) (N := 8) (v := .ref q_p0_counts) hx hb hts hinX5 hown hK hP 0 rfl rfl 3 (by decide) hw0 (fun _ h9 => h9) rfl dX5_countOn_1 ?_
  refine lv_iconst (v := (0 : Int32)) hx hb dX5_countOn_4 (by decide) ?_
  refine lv_aload_n hx hb dX5_countOn_5 rfl (lv_at hl 0 rfl) ?_
  refine va_get (ci := 3) (C := RX5) (T := TX5) (N := 8) (v := .ref q_p0_earlier) hx hb hts hinX5 hown hK hP 0 rfl rfl 4 (by decide) hw1 (fun _ h9 => h9) rfl dX5_countOn_6 ?_
  refine lv_iconst (v := (0 : Int32)) hx hb dX5_countOn_9 (by decide) ?_
  refine lv_bipush (v := (8 : Int32)) hx hb dX5_countOn_10 (by decide) ?_
  obtain ⟨⟨ha1, hb1, hc1, hd1, he1⟩, h⟩ := h
  refine z_copyl (wn := [(q_p0, .inr (3, [.int v_p0_number, .int v_p0_falling, .ref q_p0_covered, .ref q_p0_counts, .ref q_p0_earlier, .ref q_p0_closed, .ref q_p0_simple, .ref q_p0_coefficients])), (q_p0_counts, .inl (cJ, 8, .inr (.inl f_p0_counts))), (q_p0_earlier, .inl (cJ, 8, .inr (.inl (va_cpy f_p0_counts f_p0_earlier (0 : Int32).toNatClampNeg (0 : Int32).toNatClampNeg (8 : Int32).toNatClampNeg)))), (q_p0_covered, .inl (cI, 8, .inl f_p0_covered))]) hx hb (hml.trans hl.1.symm) hown hw2 hw3 hw4 hw5 hK hP hD hS 1 2 rfl rfl ha1 hb1 hc1 hd1 he1 (Nat.le_of_ble_eq_true rfl) (Nat.le_of_ble_eq_true rfl) dX5_countOn_12 rfl (fun H locs hP hD hS => ?_)
  refine lv_iconst (v := (0 : Int32)) hx hb dX5_countOn_15 (by decide) ?_
  refine lv_istore_n (lv' := [(1, .int (0 : Int32)), (0, .ref q_p0)]) hx hb dX5_countOn_16 rfl hl (by decide) rfl (fun ls hl => ?_)
  have k17 : ∀ (f_p0_earlier : (Nat → Int64)) (n17 : Nat) (l1 : Int32) (f_p0_counts : (Nat → Int64)) (H : Heap) (locs : List Loc) (ls : Array Slot), LP2 (M_X5_countOn_l17 v_p0_number f_p0_covered P f_p0_earlier) n17 l1 f_p0_counts → va_P D vwCl [(q_p0, .inr (3, [.int v_p0_number, .int v_p0_falling, .ref q_p0_covered, .ref q_p0_counts, .ref q_p0_earlier, .ref q_p0_closed, .ref q_p0_simple, .ref q_p0_coefficients])), (q_p0_counts, .inl (cJ, 8, .inr (.inl f_p0_counts))), (q_p0_earlier, .inl (cJ, 8, .inr (.inl f_p0_earlier))), (q_p0_covered, .inl (cI, 8, .inl f_p0_covered))] H → va_D A [(q_p0, .inr (3, [.int v_p0_number, .int v_p0_falling, .ref q_p0_covered, .ref q_p0_counts, .ref q_p0_earlier, .ref q_p0_closed, .ref q_p0_simple, .ref q_p0_coefficients])), (q_p0_counts, .inl (cJ, 8, .inr (.inl f_p0_counts))), (q_p0_earlier, .inl (cJ, 8, .inr (.inl f_p0_earlier))), (q_p0_covered, .inl (cI, 8, .inl f_p0_covered))] → va_S A s.heap H locs → lv_has ls 5 [(0, .ref q_p0), (1, .int l1)] → W p l e { frames := 1, cells := 0, slots := 0, locals := 26 } s m args below meth c H locs 0 0 Q (F0 m 17 ls []) := by
    intro f_p0_earlier n17
    induction n17 with
    | zero =>
      intro l1 f_p0_counts H locs ls h
      exact False.elim h
    | succ n17 ih17 =>
      intro l1 f_p0_counts H locs ls h hP hD hS hl
      have h : M_X5_countOn_l17 v_p0_number f_p0_covered P f_p0_earlier (LP2 (M_X5_countOn_l17 v_p0_number f_p0_covered P f_p0_earlier) n17) l1 f_p0_counts := h
      refine lv_iload_n hx hb dX5_countOn_17 rfl (lv_at hl 1 rfl) ?_
      refine lv_aload_n hx hb dX5_countOn_18 rfl (lv_at hl 0 rfl) ?_
      refine va_get (ci := 3) (C := RX5) (T := TX5) (N := 8) (v := .int v_p0_number) hx hb hts hinX5 hown hK hP 0 rfl rfl 0 (by decide) hw6 (fun _ h9 => h9) rfl dX5_countOn_19 ?_
      refine lv_icmp_ge (tgt := 82) hx hb dX5_countOn_22 (by decide) (fun c2 => ?_) (fun c2 => ?_)
      · have h := And.left h c2
        exact z_vret hQ hx hb hr hlocks hK (f_p0_earlier, f_p0_counts) h hP hD hS dX5_countOn_82
      · have h := And.right h c2
        refine lv_lconst (v := (0 : Int64)) hx hb dX5_countOn_25 (by decide) ?_
        refine lv_lstore_n (lv' := [(2, .long (0 : Int64)), (0, .ref q_p0), (1, .int l1)]) hx hb dX5_countOn_26 rfl hl (by decide) rfl (fun ls hl => ?_)
        refine lv_iconst (v := (0 : Int32)) hx hb dX5_countOn_27 (by decide) ?_
        refine lv_istore (lv' := [(4, .int (0 : Int32)), (2, .long (0 : Int64)), (0, .ref q_p0), (1, .int l1)]) hx hb dX5_countOn_28 hl (by decide) rfl (fun ls hl => ?_)
        have k30 : ∀ (l1 : Int32) (f_p0_counts : (Nat → Int64)) (n30 : Nat) (l2 : Int64) (l4 : Int32) (H : Heap) (locs : List Loc) (ls : Array Slot), LP2 (M_X5_countOn_l30 v_p0_number f_p0_covered (LP2 (M_X5_countOn_l17 v_p0_number f_p0_covered P f_p0_earlier) n17) P l1 f_p0_earlier f_p0_counts) n30 l2 l4 → va_P D vwCl [(q_p0, .inr (3, [.int v_p0_number, .int v_p0_falling, .ref q_p0_covered, .ref q_p0_counts, .ref q_p0_earlier, .ref q_p0_closed, .ref q_p0_simple, .ref q_p0_coefficients])), (q_p0_counts, .inl (cJ, 8, .inr (.inl f_p0_counts))), (q_p0_earlier, .inl (cJ, 8, .inr (.inl f_p0_earlier))), (q_p0_covered, .inl (cI, 8, .inl f_p0_covered))] H → va_D A [(q_p0, .inr (3, [.int v_p0_number, .int v_p0_falling, .ref q_p0_covered, .ref q_p0_counts, .ref q_p0_earlier, .ref q_p0_closed, .ref q_p0_simple, .ref q_p0_coefficients])), (q_p0_counts, .inl (cJ, 8, .inr (.inl f_p0_counts))), (q_p0_earlier, .inl (cJ, 8, .inr (.inl f_p0_earlier))), (q_p0_covered, .inl (cI, 8, .inl f_p0_covered))] → va_S A s.heap H locs → lv_has ls 5 [(0, .ref q_p0), (1, .int l1), (2, .long l2), (4, .int l4)] → W p l e { frames := 1, cells := 0, slots := 0, locals := 26 } s m args below meth c H locs 0 0 Q (F0 m 30 ls []) := by
          intro l1 f_p0_counts n30
          induction n30 with
          | zero =>
            intro l2 l4 H locs ls h
            exact False.elim h
          | succ n30 ih30 =>
            intro l2 l4 H locs ls h hP hD hS hl
            have h : M_X5_countOn_l30 v_p0_number f_p0_covered (LP2 (M_X5_countOn_l17 v_p0_number f_p0_covered P f_p0_earlier) n17) P l1 f_p0_earlier f_p0_counts (LP2 (M_X5_countOn_l30 v_p0_number f_p0_covered (LP2 (M_X5_countOn_l17 v_p0_number f_p0_covered P f_p0_earlier) n17) P l1 f_p0_earlier f_p0_counts) n30) l2 l4 := h
            refine lv_iload hx hb dX5_countOn_30 (lv_at hl 3 rfl) ?_
            refine lv_aload_n hx hb dX5_countOn_32 rfl (lv_at hl 0 rfl) ?_
            refine va_get (ci := 3) (C := RX5) (T := TX5) (N := 8) (v := .int v_p0_number) hx hb hts hinX5 hown hK hP 0 rfl rfl 0 (by decide) hw6 (fun _ h9 => h9) rfl dX5_countOn_33 ?_
            refine lv_icmp_ge (tgt := 69) hx hb dX5_countOn_36 (by decide) (fun c3 => ?_) (fun c3 => ?_)
            · have h := And.left h c3
              refine lv_aload_n hx hb dX5_countOn_69 rfl (lv_at hl 0 rfl) ?_
              refine va_get (ci := 3) (C := RX5) (T := TX5) (N := 8) (v := .ref q_p0_counts) hx hb hts hinX5 hown hK hP 0 rfl rfl 3 (by decide) hw0 (fun _ h9 => h9) rfl dX5_countOn_70 ?_
              refine lv_iload_n hx hb dX5_countOn_73 rfl (lv_at hl 1 rfl) ?_
              refine lv_lload_n hx hb dX5_countOn_74 rfl (lv_at hl 2 rfl) ?_
              obtain ⟨hi4, h⟩ := h
              refine z_last (wn := [(q_p0, .inr (3, [.int v_p0_number, .int v_p0_falling, .ref q_p0_covered, .ref q_p0_counts, .ref q_p0_earlier, .ref q_p0_closed, .ref q_p0_simple, .ref q_p0_coefficients])), (q_p0_counts, .inl (cJ, 8, .inr (.inl (vp_updL f_p0_counts l1.toNatClampNeg l2)))), (q_p0_earlier, .inl (cJ, 8, .inr (.inl f_p0_earlier))), (q_p0_covered, .inl (cI, 8, .inl f_p0_covered))]) hx hb hK hP hD hS 1 rfl hi4 dX5_countOn_75 rfl (fun H locs hP hD hS => ?_)
              refine lv_iinc (v := (l1 + 1)) (lv' := [(1, .int (l1 + 1)), (0, .ref q_p0), (2, .long l2), (4, .int l4)]) hx hb dX5_countOn_76 hl (k := 1) rfl rfl (by decide) rfl (fun ls hl => ?_)
              refine lv_goto (tgt := 17) hx hb dX5_countOn_79 (by decide) ?_
              exact ih17 (l1 + 1) (vp_updL f_p0_counts l1.toNatClampNeg l2) _ _ _ h hP hD hS (lv_sub hl [1, 0] rfl)
            · have h := And.right h c3
              refine lv_lload_n hx hb dX5_countOn_39 rfl (lv_at hl 2 rfl) ?_
              refine lv_aload_n hx hb dX5_countOn_40 rfl (lv_at hl 0 rfl) ?_
              refine lv_iload hx hb dX5_countOn_41 (lv_at hl 3 rfl) ?_
              refine lv_iload_n hx hb dX5_countOn_43 rfl (lv_at hl 1 rfl) ?_
              refine z_cVi (As := [.int l4, .int l1]) (rest := [.long l2]) (wr := [(q_p0_counts, .inl (cJ, 8, .inr (.inl f_p0_counts))), (q_p0_earlier, .inl (cJ, 8, .inr (.inl f_p0_earlier)))]) (wn := fun u => [(q_p0, .inr (3, [.int v_p0_number, .int v_p0_falling, .ref q_p0_covered, .ref q_p0_counts, .ref q_p0_earlier, .ref q_p0_closed, .ref q_p0_simple, .ref q_p0_coefficients])), (q_p0_counts, .inl (cJ, 8, .inr (.inl f_p0_counts))), (q_p0_earlier, .inl (cJ, 8, .inr (.inl f_p0_earlier))), (q_p0_covered, .inl (cI, 8, .inl f_p0_covered))]) (c_X5_isCovered l D cI cJ cB tU tM tS q_p0 q_p0_covered q_p0_counts q_p0_earlier q_p0_closed q_p0_simple q_p0_coefficients H.size l4 l1 f_p0_covered v_p0_number v_p0_falling _ h) ⟨hx, hb, hml, hown, hts⟩ (cwV 2 hts gX5_countOn_X5_isCovered rfl rfl rfl hd_X5_isCovered ⟨Nat.le_of_ble_eq_true rfl, Nat.le_of_ble_eq_true rfl⟩) hX hK hP hD hS hA [0, 3] [1, 2] [2, 0, 1, 3] rfl rfl rfl (by decide) (fun _ => rfl) (q0 := 0) (ci := 3) rfl rfl rfl hl.1 rfl (Nat.le_of_ble_eq_true rfl) ⟨Nat.le_refl _, Nat.le_refl _⟩ dX5_countOn_44 (fun r5 u5 H locs h hP hD hS => ?_)
              refine lv_if_eq (tgt := 60) hx hb dX5_countOn_47 (by decide) (fun c6 => ?_) (fun c6 => ?_)
              · have h := And.left h c6
                refine lv_lconst (v := (0 : Int64)) hx hb dX5_countOn_60 (by decide) ?_
                refine lv_ladd hx hb dX5_countOn_61 ?_
                refine lv_lstore_n (lv' := [(2, .long (l2 + (0 : Int64))), (0, .ref q_p0), (1, .int l1), (4, .int l4)]) hx hb dX5_countOn_62 rfl hl (by decide) rfl (fun ls hl => ?_)
                refine lv_iinc (v := (l4 + 1)) (lv' := [(4, .int (l4 + 1)), (2, .long (l2 + (0 : Int64))), (0, .ref q_p0), (1, .int l1)]) hx hb dX5_countOn_63 hl (k := 3) rfl rfl (by decide) rfl (fun ls hl => ?_)
                refine lv_goto (tgt := 30) hx hb dX5_countOn_66 (by decide) ?_
                exact ih30 (l2 + (0 : Int64)) (l4 + 1) _ _ _ h hP hD hS (lv_sub hl [2, 3, 1, 0] rfl)
              · have h := And.right h c6
                refine lv_aload_n hx hb dX5_countOn_50 rfl (lv_at hl 0 rfl) ?_
                refine va_get (ci := 3) (C := RX5) (T := TX5) (N := 8) (v := .ref q_p0_earlier) hx hb hts hinX5 hown hK hP 0 rfl rfl 4 (by decide) hw1 (fun _ h9 => h9) rfl dX5_countOn_51 ?_
                refine lv_iload hx hb dX5_countOn_54 (lv_at hl 3 rfl) ?_
                obtain ⟨hi7, h⟩ := h
                refine va_lald hx hb hK hP 2 1 rfl rfl hi7 dX5_countOn_56 ?_
                refine lv_goto (tgt := 61) hx hb dX5_countOn_57 (by decide) ?_
                refine lv_ladd hx hb dX5_countOn_61 ?_
                refine lv_lstore_n (lv' := [(2, .long (l2 + (f_p0_earlier l4.toNatClampNeg))), (0, .ref q_p0), (1, .int l1), (4, .int l4)]) hx hb dX5_countOn_62 rfl hl (by decide) rfl (fun ls hl => ?_)
                refine lv_iinc (v := (l4 + 1)) (lv' := [(4, .int (l4 + 1)), (2, .long (l2 + (f_p0_earlier l4.toNatClampNeg))), (0, .ref q_p0), (1, .int l1)]) hx hb dX5_countOn_63 hl (k := 3) rfl rfl (by decide) rfl (fun ls hl => ?_)
                refine lv_goto (tgt := 30) hx hb dX5_countOn_66 (by decide) ?_
                exact ih30 (l2 + (f_p0_earlier l4.toNatClampNeg)) (l4 + 1) _ _ _ h hP hD hS (lv_sub hl [2, 3, 1, 0] rfl)
        obtain ⟨n30, h⟩ := h
        exact k30 l1 f_p0_counts n30 (0 : Int64) (0 : Int32) _ _ _ h hP hD hS (lv_sub hl [2, 3, 1, 0] rfl)
  obtain ⟨n17, h⟩ := h
  exact k17 (va_cpy f_p0_counts f_p0_earlier (0 : Int32).toNatClampNeg (0 : Int32).toNatClampNeg (8 : Int32).toNatClampNeg) n17 (0 : Int32) f_p0_counts _ _ _ h hP hD hS (lv_sub hl [1, 0] rfl)
theorem hd_X5_startAt : yX5_startAt.cls = RX5 ∧ yX5_startAt.cls ≠ "java/lang/invoke/MethodHandle" ∧ yX5_startAt.cls ≠ "java/lang/invoke/VarHandle" ∧ (parseMethodDescriptor yX5_startAt.desc).map (fun d => d.parameters.length) = some 1 := by decide +kernel
set_option maxHeartbeats 4000000 in
set_option maxRecDepth 100000 in
theorem c_X5_startAt (l : Launch) (D : va_G) (cI cJ cB : ClassId) (tU tM tS : Nat) (q_p0 q_p0_covered q_p0_counts q_p0_earlier q_p0_closed q_p0_simple q_p0_coefficients : Nat) (sz : Nat) (x1 : Int32) (f_p0_counts : (Nat → Int64)) (v_p0_number : Int32) (v_p0_falling : Int32) (P : (Nat → Int64) → Prop) (h : M_X5_startAt x1 f_p0_counts P) : Met l yX5_startAt wsX5_startAt ({ frames := 0, cells := 0, slots := 0, locals := 0 }) (va_Pc [.ref q_p0, .int x1] (zPre D cI cJ cB tU tM tS [(q_p0, .inr (3, [.int v_p0_number, .int v_p0_falling, .ref q_p0_covered, .ref q_p0_counts, .ref q_p0_earlier, .ref q_p0_closed, .ref q_p0_simple, .ref q_p0_coefficients])), (q_p0_counts, .inl (cJ, 8, .inr (.inl f_p0_counts)))] sz)) (va_Qv (fun u : (Nat → Int64) => P u) (fun u t => zPost D cI cJ cB (va_A [(q_p0, .inr (3, [.int v_p0_number, .int v_p0_falling, .ref q_p0_covered, .ref q_p0_counts, .ref q_p0_earlier, .ref q_p0_closed, .ref q_p0_simple, .ref q_p0_coefficients])), (q_p0_counts, .inl (cJ, 8, .inr (.inl f_p0_counts)))] sz) [(q_p0, .inr (3, [.int v_p0_number, .int v_p0_falling, .ref q_p0_covered, .ref q_p0_counts, .ref q_p0_earlier, .ref q_p0_closed, .ref q_p0_simple, .ref q_p0_coefficients])), (q_p0_counts, .inl (cJ, 8, .inr (.inl u)))] t) (va_A [(q_p0, .inr (3, [.int v_p0_number, .int v_p0_falling, .ref q_p0_covered, .ref q_p0_counts, .ref q_p0_earlier, .ref q_p0_closed, .ref q_p0_simple, .ref q_p0_coefficients])), (q_p0_counts, .inl (cJ, 8, .inr (.inl f_p0_counts)))] sz)) 0 0 (va_A [(q_p0, .inr (3, [.int v_p0_number, .int v_p0_falling, .ref q_p0_covered, .ref q_p0_counts, .ref q_p0_earlier, .ref q_p0_closed, .ref q_p0_simple, .ref q_p0_coefficients])), (q_p0_counts, .inl (cJ, 8, .inr (.inl f_p0_counts)))] sz) := by
  refine z_met (cc := cX5_startAt) (maxL := 3) (ret := none) (Qc := fun A => va_Qv (fun u : (Nat → Int64) => P u) (fun u t => zPost D cI cJ cB A [(q_p0, .inr (3, [.int v_p0_number, .int v_p0_falling, .ref q_p0_covered, .ref q_p0_counts, .ref q_p0_earlier, .ref q_p0_closed, .ref q_p0_simple, .ref q_p0_coefficients])), (q_p0_counts, .inl (cJ, 8, .inr (.inl u)))] t) A) (by decide) rfl [.ref q_p0, .int x1] (Nat.le_of_ble_eq_true rfl) ?_
  intro p e s m args below meth c A hx hb hr hts hown hml hlocks hA hX hK H locs hP hD hS ls hl Q hQ
  have hown : s.vm.findClass RX5 = some m.cls := hown
  have hl : lv_has ls 3 [(0, .ref q_p0), (1, .int x1)] := hl
  have hw0 : (Cond.fieldLink RX5 15 "ForcedRings$Pieces" "counts" "[J").before args s = true := hts _ (List.mem_of_getElem? (i := 1) rfl)
  have hinX5 : ∀ w ∈ wsX50, w ∈ wsX5_startAt := fun _ h => List.mem_cons_of_mem _ (List.mem_append_right _ h)
  refine lv_iconst (v := (0 : Int32)) hx hb dX5_startAt_0 (by decide) ?_
  refine lv_istore_n (lv' := [(2, .int (0 : Int32)), (0, .ref q_p0), (1, .int x1)]) hx hb dX5_startAt_1 rfl hl (by decide) rfl (fun ls hl => ?_)
  have k2 : ∀  (n2 : Nat) (l2 : Int32) (f_p0_counts : (Nat → Int64)) (H : Heap) (locs : List Loc) (ls : Array Slot), LP2 (M_X5_startAt_l2 x1 P ) n2 l2 f_p0_counts → va_P D vwCl [(q_p0, .inr (3, [.int v_p0_number, .int v_p0_falling, .ref q_p0_covered, .ref q_p0_counts, .ref q_p0_earlier, .ref q_p0_closed, .ref q_p0_simple, .ref q_p0_coefficients])), (q_p0_counts, .inl (cJ, 8, .inr (.inl f_p0_counts)))] H → va_D A [(q_p0, .inr (3, [.int v_p0_number, .int v_p0_falling, .ref q_p0_covered, .ref q_p0_counts, .ref q_p0_earlier, .ref q_p0_closed, .ref q_p0_simple, .ref q_p0_coefficients])), (q_p0_counts, .inl (cJ, 8, .inr (.inl f_p0_counts)))] → va_S A s.heap H locs → lv_has ls 3 [(0, .ref q_p0), (1, .int x1), (2, .int l2)] → W p l e { frames := 0, cells := 0, slots := 0, locals := 0 } s m args below meth c H locs 0 0 Q (F0 m 2 ls []) := by
    intro  n2
    induction n2 with
    | zero =>
      intro l2 f_p0_counts H locs ls h
      exact False.elim h
    | succ n2 ih2 =>
      intro l2 f_p0_counts H locs ls h hP hD hS hl
      have h : M_X5_startAt_l2 x1 P  (LP2 (M_X5_startAt_l2 x1 P ) n2) l2 f_p0_counts := h
      refine lv_iload_n hx hb dX5_startAt_2 rfl (lv_at hl 2 rfl) ?_
      refine lv_bipush (v := (8 : Int32)) hx hb dX5_startAt_3 (by decide) ?_
      refine lv_icmp_ge (tgt := 30) hx hb dX5_startAt_5 (by decide) (fun c1 => ?_) (fun c1 => ?_)
      · have h := And.left h c1
        exact z_vret hQ hx hb hr hlocks hK f_p0_counts h hP hD hS dX5_startAt_30
      · have h := And.right h c1
        refine lv_aload_n hx hb dX5_startAt_8 rfl (lv_at hl 0 rfl) ?_
        refine va_get (ci := 3) (C := RX5) (T := TX5) (N := 8) (v := .ref q_p0_counts) hx hb hts hinX5 hown hK hP 0 rfl rfl 3 (by decide) hw0 (fun _ h9 => h9) rfl dX5_startAt_9 ?_
        refine lv_iload_n hx hb dX5_startAt_12 rfl (lv_at hl 2 rfl) ?_
        refine lv_iload_n hx hb dX5_startAt_13 rfl (lv_at hl 2 rfl) ?_
        refine lv_iload_n hx hb dX5_startAt_14 rfl (lv_at hl 1 rfl) ?_
        refine lv_icmp_ne (tgt := 22) hx hb dX5_startAt_15 (by decide) (fun c2 => ?_) (fun c2 => ?_)
        · have h := And.right h c2
          refine lv_lconst (v := (0 : Int64)) hx hb dX5_startAt_22 (by decide) ?_
          obtain ⟨hi3, h⟩ := h
          refine z_last (wn := [(q_p0, .inr (3, [.int v_p0_number, .int v_p0_falling, .ref q_p0_covered, .ref q_p0_counts, .ref q_p0_earlier, .ref q_p0_closed, .ref q_p0_simple, .ref q_p0_coefficients])), (q_p0_counts, .inl (cJ, 8, .inr (.inl (vp_updL f_p0_counts l2.toNatClampNeg (0 : Int64)))))]) hx hb hK hP hD hS 1 rfl hi3 dX5_startAt_23 rfl (fun H locs hP hD hS => ?_)
          refine lv_iinc (v := (l2 + 1)) (lv' := [(2, .int (l2 + 1)), (0, .ref q_p0), (1, .int x1)]) hx hb dX5_startAt_24 hl (k := 2) rfl rfl (by decide) rfl (fun ls hl => ?_)
          refine lv_goto (tgt := 2) hx hb dX5_startAt_27 (by decide) ?_
          exact ih2 (l2 + 1) (vp_updL f_p0_counts l2.toNatClampNeg (0 : Int64)) _ _ _ h hP hD hS (lv_sub hl [1, 2, 0] rfl)
        · have h := And.left h c2
          refine lv_lconst (v := (1 : Int64)) hx hb dX5_startAt_18 (by decide) ?_
          refine lv_goto (tgt := 23) hx hb dX5_startAt_19 (by decide) ?_
          obtain ⟨hi4, h⟩ := h
          refine z_last (wn := [(q_p0, .inr (3, [.int v_p0_number, .int v_p0_falling, .ref q_p0_covered, .ref q_p0_counts, .ref q_p0_earlier, .ref q_p0_closed, .ref q_p0_simple, .ref q_p0_coefficients])), (q_p0_counts, .inl (cJ, 8, .inr (.inl (vp_updL f_p0_counts l2.toNatClampNeg (1 : Int64)))))]) hx hb hK hP hD hS 1 rfl hi4 dX5_startAt_23 rfl (fun H locs hP hD hS => ?_)
          refine lv_iinc (v := (l2 + 1)) (lv' := [(2, .int (l2 + 1)), (0, .ref q_p0), (1, .int x1)]) hx hb dX5_startAt_24 hl (k := 2) rfl rfl (by decide) rfl (fun ls hl => ?_)
          refine lv_goto (tgt := 2) hx hb dX5_startAt_27 (by decide) ?_
          exact ih2 (l2 + 1) (vp_updL f_p0_counts l2.toNatClampNeg (1 : Int64)) _ _ _ h hP hD hS (lv_sub hl [1, 2, 0] rfl)
  obtain ⟨n2, h⟩ := h
  exact k2  n2 (0 : Int32) f_p0_counts _ _ _ h hP hD hS (lv_sub hl [1, 2, 0] rfl)
theorem hd_X5_pathNumber : yX5_pathNumber.cls = RX5 ∧ yX5_pathNumber.cls ≠ "java/lang/invoke/MethodHandle" ∧ yX5_pathNumber.cls ≠ "java/lang/invoke/VarHandle" ∧ (parseMethodDescriptor yX5_pathNumber.desc).map (fun d => d.parameters.length) = some 3 := by decide +kernel
set_option maxHeartbeats 4000000 in
set_option maxRecDepth 100000 in
theorem c_X5_pathNumber (l : Launch) (D : va_G) (cI cJ cB : ClassId) (tU tM tS : Nat) (q_p0 q_p0_covered q_p0_counts q_p0_earlier q_p0_closed q_p0_simple q_p0_coefficients : Nat) (sz : Nat) (x1 : Int32) (x2 : Int32) (x3 : Int32) (f_p0_counts : (Nat → Int64)) (f_p0_earlier : (Nat → Int64)) (v_p0_number : Int32) (f_p0_covered : (Nat → Int32)) (v_p0_falling : Int32) (P : Int64 → (Nat → Int64) → (Nat → Int64) → Prop) (h : M_X5_pathNumber x1 x2 x3 f_p0_counts f_p0_earlier v_p0_number f_p0_covered P) : Met l yX5_pathNumber wsX5_pathNumber ({ frames := 2, cells := 0, slots := 0, locals := 50 }) (va_Pc [.ref q_p0, .int x1, .int x2, .int x3] (zPre D cI cJ cB tU tM tS [(q_p0, .inr (3, [.int v_p0_number, .int v_p0_falling, .ref q_p0_covered, .ref q_p0_counts, .ref q_p0_earlier, .ref q_p0_closed, .ref q_p0_simple, .ref q_p0_coefficients])), (q_p0_counts, .inl (cJ, 8, .inr (.inl f_p0_counts))), (q_p0_earlier, .inl (cJ, 8, .inr (.inl f_p0_earlier))), (q_p0_covered, .inl (cI, 8, .inl f_p0_covered))] sz)) (va_Ql (fun (r : Int64) (u : (Nat → Int64) × (Nat → Int64)) => P r u.1 u.2) (fun u t => zPost D cI cJ cB (va_A [(q_p0, .inr (3, [.int v_p0_number, .int v_p0_falling, .ref q_p0_covered, .ref q_p0_counts, .ref q_p0_earlier, .ref q_p0_closed, .ref q_p0_simple, .ref q_p0_coefficients])), (q_p0_counts, .inl (cJ, 8, .inr (.inl f_p0_counts))), (q_p0_earlier, .inl (cJ, 8, .inr (.inl f_p0_earlier))), (q_p0_covered, .inl (cI, 8, .inl f_p0_covered))] sz) [(q_p0, .inr (3, [.int v_p0_number, .int v_p0_falling, .ref q_p0_covered, .ref q_p0_counts, .ref q_p0_earlier, .ref q_p0_closed, .ref q_p0_simple, .ref q_p0_coefficients])), (q_p0_counts, .inl (cJ, 8, .inr (.inl u.1))), (q_p0_earlier, .inl (cJ, 8, .inr (.inl u.2))), (q_p0_covered, .inl (cI, 8, .inl f_p0_covered))] t) (va_A [(q_p0, .inr (3, [.int v_p0_number, .int v_p0_falling, .ref q_p0_covered, .ref q_p0_counts, .ref q_p0_earlier, .ref q_p0_closed, .ref q_p0_simple, .ref q_p0_coefficients])), (q_p0_counts, .inl (cJ, 8, .inr (.inl f_p0_counts))), (q_p0_earlier, .inl (cJ, 8, .inr (.inl f_p0_earlier))), (q_p0_covered, .inl (cI, 8, .inl f_p0_covered))] sz)) 0 0 (va_A [(q_p0, .inr (3, [.int v_p0_number, .int v_p0_falling, .ref q_p0_covered, .ref q_p0_counts, .ref q_p0_earlier, .ref q_p0_closed, .ref q_p0_simple, .ref q_p0_coefficients])), (q_p0_counts, .inl (cJ, 8, .inr (.inl f_p0_counts))), (q_p0_earlier, .inl (cJ, 8, .inr (.inl f_p0_earlier))), (q_p0_covered, .inl (cI, 8, .inl f_p0_covered))] sz) := by
  refine z_met (cc := cX5_pathNumber) (maxL := 5) (ret := (some .long)) (Qc := fun A => va_Ql (fun (r : Int64) (u : (Nat → Int64) × (Nat → Int64)) => P r u.1 u.2) (fun u t => zPost D cI cJ cB A [(q_p0, .inr (3, [.int v_p0_number, .int v_p0_falling, .ref q_p0_covered, .ref q_p0_counts, .ref q_p0_earlier, .ref q_p0_closed, .ref q_p0_simple, .ref q_p0_coefficients])), (q_p0_counts, .inl (cJ, 8, .inr (.inl u.1))), (q_p0_earlier, .inl (cJ, 8, .inr (.inl u.2))), (q_p0_covered, .inl (cI, 8, .inl f_p0_covered))] t) A) (by decide) rfl [.ref q_p0, .int x1, .int x2, .int x3] (Nat.le_of_ble_eq_true rfl) ?_
  intro p e s m args below meth c A hx hb hr hts hown hml hlocks hA hX hK H locs hP hD hS ls hl Q hQ
  have hown : s.vm.findClass RX5 = some m.cls := hown
  have hl : lv_has ls 5 [(0, .ref q_p0), (1, .int x1), (2, .int x2), (3, .int x3)] := hl
  have hw0 : (Cond.fieldLink RX5 15 "ForcedRings$Pieces" "counts" "[J").before args s = true := hts _ (List.mem_of_getElem? (i := 1) rfl)
  have hinX5 : ∀ w ∈ wsX50, w ∈ wsX5_pathNumber := fun _ h => List.mem_cons_of_mem _ (List.mem_append_right _ h)
  refine lv_aload_n hx hb dX5_pathNumber_0 rfl (lv_at hl 0 rfl) ?_
  refine lv_iload_n hx hb dX5_pathNumber_1 rfl (lv_at hl 2 rfl) ?_
  refine z_cVv (As := [.int x2]) (rest := []) (wr := [(q_p0_earlier, .inl (cJ, 8, .inr (.inl f_p0_earlier))), (q_p0_covered, .inl (cI, 8, .inl f_p0_covered))]) (wn := fun u => [(q_p0, .inr (3, [.int v_p0_number, .int v_p0_falling, .ref q_p0_covered, .ref q_p0_counts, .ref q_p0_earlier, .ref q_p0_closed, .ref q_p0_simple, .ref q_p0_coefficients])), (q_p0_counts, .inl (cJ, 8, .inr (.inl u))), (q_p0_earlier, .inl (cJ, 8, .inr (.inl f_p0_earlier))), (q_p0_covered, .inl (cI, 8, .inl f_p0_covered))]) (c_X5_startAt l D cI cJ cB tU tM tS q_p0 q_p0_covered q_p0_counts q_p0_earlier q_p0_closed q_p0_simple q_p0_coefficients H.size x2 f_p0_counts v_p0_number v_p0_falling _ h) ⟨hx, hb, hml, hown, hts⟩ (cwV 1 hts gX5_pathNumber_X5_startAt rfl rfl rfl hd_X5_startAt ⟨Nat.le_of_ble_eq_true rfl, Nat.le_of_ble_eq_true rfl⟩) hX hK hP hD hS hA [0, 1] [2, 3] [2, 3, 0, 1] rfl rfl rfl (by decide) (fun _ => rfl) (q0 := 0) (ci := 3) rfl rfl rfl hl.1 rfl (Nat.le_of_ble_eq_true rfl) ⟨Nat.le_refl _, Nat.le_refl _⟩ dX5_pathNumber_2 (fun m1_0 H locs h hP hD hS => ?_)
  refine lv_iconst (v := (0 : Int32)) hx hb dX5_pathNumber_5 (by decide) ?_
  refine lv_istore (lv' := [(4, .int (0 : Int32)), (0, .ref q_p0), (1, .int x1), (2, .int x2), (3, .int x3)]) hx hb dX5_pathNumber_6 hl (by decide) rfl (fun ls hl => ?_)
  have k8 : ∀  (n8 : Nat) (l4 : Int32) (f_p0_counts : (Nat → Int64)) (f_p0_earlier : (Nat → Int64)) (H : Heap) (locs : List Loc) (ls : Array Slot), LP3 (M_X5_pathNumber_l8 x1 x2 x3 v_p0_number f_p0_covered P ) n8 l4 f_p0_counts f_p0_earlier → va_P D vwCl [(q_p0, .inr (3, [.int v_p0_number, .int v_p0_falling, .ref q_p0_covered, .ref q_p0_counts, .ref q_p0_earlier, .ref q_p0_closed, .ref q_p0_simple, .ref q_p0_coefficients])), (q_p0_counts, .inl (cJ, 8, .inr (.inl f_p0_counts))), (q_p0_earlier, .inl (cJ, 8, .inr (.inl f_p0_earlier))), (q_p0_covered, .inl (cI, 8, .inl f_p0_covered))] H → va_D A [(q_p0, .inr (3, [.int v_p0_number, .int v_p0_falling, .ref q_p0_covered, .ref q_p0_counts, .ref q_p0_earlier, .ref q_p0_closed, .ref q_p0_simple, .ref q_p0_coefficients])), (q_p0_counts, .inl (cJ, 8, .inr (.inl f_p0_counts))), (q_p0_earlier, .inl (cJ, 8, .inr (.inl f_p0_earlier))), (q_p0_covered, .inl (cI, 8, .inl f_p0_covered))] → va_S A s.heap H locs → lv_has ls 5 [(0, .ref q_p0), (1, .int x1), (3, .int x3), (4, .int l4)] → W p l e { frames := 2, cells := 0, slots := 0, locals := 50 } s m args below meth c H locs 0 0 Q (F0 m 8 ls []) := by
    intro  n8
    induction n8 with
    | zero =>
      intro l4 f_p0_counts f_p0_earlier H locs ls h
      exact False.elim h
    | succ n8 ih8 =>
      intro l4 f_p0_counts f_p0_earlier H locs ls h hP hD hS hl
      have h : M_X5_pathNumber_l8 x1 x2 x3 v_p0_number f_p0_covered P  (LP3 (M_X5_pathNumber_l8 x1 x2 x3 v_p0_number f_p0_covered P ) n8) l4 f_p0_counts f_p0_earlier := h
      refine lv_iload hx hb dX5_pathNumber_8 (lv_at hl 3 rfl) ?_
      refine lv_iload_n hx hb dX5_pathNumber_10 rfl (lv_at hl 2 rfl) ?_
      refine lv_icmp_ge (tgt := 24) hx hb dX5_pathNumber_11 (by decide) (fun c2 => ?_) (fun c2 => ?_)
      · have h := And.left h c2
        refine lv_aload_n hx hb dX5_pathNumber_24 rfl (lv_at hl 0 rfl) ?_
        refine va_get (ci := 3) (C := RX5) (T := TX5) (N := 8) (v := .ref q_p0_counts) hx hb hts hinX5 hown hK hP 0 rfl rfl 3 (by decide) hw0 (fun _ h9 => h9) rfl dX5_pathNumber_25 ?_
        refine lv_iload_n hx hb dX5_pathNumber_28 rfl (lv_at hl 1 rfl) ?_
        obtain ⟨hi3, h⟩ := h
        refine va_lald hx hb hK hP 1 1 rfl rfl hi3 dX5_pathNumber_29 ?_
        exact z_lret hQ hx hb hr hlocks hK (f_p0_counts, f_p0_earlier) h hP hD hS dX5_pathNumber_30
      · have h := And.right h c2
        refine lv_aload_n hx hb dX5_pathNumber_14 rfl (lv_at hl 0 rfl) ?_
        refine z_cVv (As := []) (rest := []) (wr := []) (wn := fun u => [(q_p0, .inr (3, [.int v_p0_number, .int v_p0_falling, .ref q_p0_covered, .ref q_p0_counts, .ref q_p0_earlier, .ref q_p0_closed, .ref q_p0_simple, .ref q_p0_coefficients])), (q_p0_counts, .inl (cJ, 8, .inr (.inl u.2))), (q_p0_earlier, .inl (cJ, 8, .inr (.inl u.1))), (q_p0_covered, .inl (cI, 8, .inl f_p0_covered))]) (c_X5_countOn l D cI cJ cB tU tM tS q_p0 q_p0_covered q_p0_counts q_p0_earlier q_p0_closed q_p0_simple q_p0_coefficients H.size f_p0_counts f_p0_earlier v_p0_number f_p0_covered v_p0_falling _ h) ⟨hx, hb, hml, hown, hts⟩ (cwV 0 hts gX5_pathNumber_X5_countOn rfl rfl rfl hd_X5_countOn ⟨Nat.le_of_ble_eq_true rfl, Nat.le_of_ble_eq_true rfl⟩) hX hK hP hD hS hA [0, 1, 2, 3] [] [0, 1, 2, 3] rfl rfl rfl (by decide) (fun _ => rfl) (q0 := 0) (ci := 3) rfl rfl rfl hl.1 rfl (Nat.le_of_ble_eq_true rfl) ⟨Nat.le_refl _, Nat.le_refl _⟩ dX5_pathNumber_15 (fun u4 H locs h hP hD hS => ?_)
        obtain ⟨m4_0, m4_1⟩ := u4
        refine lv_iinc (v := (l4 + 1)) (lv' := [(4, .int (l4 + 1)), (0, .ref q_p0), (1, .int x1), (3, .int x3)]) hx hb dX5_pathNumber_18 hl (k := 3) rfl rfl (by decide) rfl (fun ls hl => ?_)
        refine lv_goto (tgt := 8) hx hb dX5_pathNumber_21 (by decide) ?_
        exact ih8 (l4 + 1) m4_1 m4_0 _ _ _ h hP hD hS (lv_sub hl [1, 2, 3, 0] rfl)
  obtain ⟨n8, h⟩ := h
  exact k8  n8 (0 : Int32) m1_0 f_p0_earlier _ _ _ h hP hD hS (lv_sub hl [1, 2, 4, 0] rfl)
theorem hd_X5_repeatedLoops : yX5_repeatedLoops.cls = RX5 ∧ yX5_repeatedLoops.cls ≠ "java/lang/invoke/MethodHandle" ∧ yX5_repeatedLoops.cls ≠ "java/lang/invoke/VarHandle" ∧ (parseMethodDescriptor yX5_repeatedLoops.desc).map (fun d => d.parameters.length) = some 1 := by decide +kernel
set_option maxHeartbeats 4000000 in
set_option maxRecDepth 100000 in
theorem c_X5_repeatedLoops (l : Launch) (D : va_G) (cI cJ cB : ClassId) (tU tM tS : Nat) (q_p0 q_p0_covered q_p0_counts q_p0_earlier q_p0_closed q_p0_simple q_p0_coefficients : Nat) (sz : Nat) (x1 : Int32) (f_p0_simple : (Nat → Int64)) (v_p0_number : Int32) (v_p0_falling : Int32) (P : Int64 → Prop) (h : M_X5_repeatedLoops x1 f_p0_simple P) : Met l yX5_repeatedLoops wsX5_repeatedLoops ({ frames := 0, cells := 0, slots := 0, locals := 0 }) (va_Pc [.ref q_p0, .int x1] (zPre D cI cJ cB tU tM tS [(q_p0, .inr (3, [.int v_p0_number, .int v_p0_falling, .ref q_p0_covered, .ref q_p0_counts, .ref q_p0_earlier, .ref q_p0_closed, .ref q_p0_simple, .ref q_p0_coefficients])), (q_p0_simple, .inl (cJ, 31, .inr (.inl f_p0_simple)))] sz)) (va_Ql (fun (r : Int64) (u : Unit) => P r ) (fun u t => zPost D cI cJ cB (va_A [(q_p0, .inr (3, [.int v_p0_number, .int v_p0_falling, .ref q_p0_covered, .ref q_p0_counts, .ref q_p0_earlier, .ref q_p0_closed, .ref q_p0_simple, .ref q_p0_coefficients])), (q_p0_simple, .inl (cJ, 31, .inr (.inl f_p0_simple)))] sz) [(q_p0, .inr (3, [.int v_p0_number, .int v_p0_falling, .ref q_p0_covered, .ref q_p0_counts, .ref q_p0_earlier, .ref q_p0_closed, .ref q_p0_simple, .ref q_p0_coefficients])), (q_p0_simple, .inl (cJ, 31, .inr (.inl f_p0_simple)))] t) (va_A [(q_p0, .inr (3, [.int v_p0_number, .int v_p0_falling, .ref q_p0_covered, .ref q_p0_counts, .ref q_p0_earlier, .ref q_p0_closed, .ref q_p0_simple, .ref q_p0_coefficients])), (q_p0_simple, .inl (cJ, 31, .inr (.inl f_p0_simple)))] sz)) 0 0 (va_A [(q_p0, .inr (3, [.int v_p0_number, .int v_p0_falling, .ref q_p0_covered, .ref q_p0_counts, .ref q_p0_earlier, .ref q_p0_closed, .ref q_p0_simple, .ref q_p0_coefficients])), (q_p0_simple, .inl (cJ, 31, .inr (.inl f_p0_simple)))] sz) := by
  refine z_met (cc := cX5_repeatedLoops) (maxL := 5) (ret := (some .long)) (Qc := fun A => va_Ql (fun (r : Int64) (u : Unit) => P r ) (fun u t => zPost D cI cJ cB A [(q_p0, .inr (3, [.int v_p0_number, .int v_p0_falling, .ref q_p0_covered, .ref q_p0_counts, .ref q_p0_earlier, .ref q_p0_closed, .ref q_p0_simple, .ref q_p0_coefficients])), (q_p0_simple, .inl (cJ, 31, .inr (.inl f_p0_simple)))] t) A) (by decide) rfl [.ref q_p0, .int x1] (Nat.le_of_ble_eq_true rfl) ?_
  intro p e s m args below meth c A hx hb hr hts hown hml hlocks hA hX hK H locs hP hD hS ls hl Q hQ
  have hown : s.vm.findClass RX5 = some m.cls := hown
  have hl : lv_has ls 5 [(0, .ref q_p0), (1, .int x1)] := hl
  have hw0 : (Cond.fieldLink RX5 25 "ForcedRings$Pieces" "simple" "[J").before args s = true := hts _ (List.mem_of_getElem? (i := 1) rfl)
  have hinX5 : ∀ w ∈ wsX50, w ∈ wsX5_repeatedLoops := fun _ h => List.mem_cons_of_mem _ (List.mem_append_right _ h)
  refine lv_lconst (v := (0 : Int64)) hx hb dX5_repeatedLoops_0 (by decide) ?_
  refine lv_lstore_n (lv' := [(2, .long (0 : Int64)), (0, .ref q_p0), (1, .int x1)]) hx hb dX5_repeatedLoops_1 rfl hl (by decide) rfl (fun ls hl => ?_)
  refine lv_iconst (v := (1 : Int32)) hx hb dX5_repeatedLoops_2 (by decide) ?_
  refine lv_istore (lv' := [(4, .int (1 : Int32)), (2, .long (0 : Int64)), (0, .ref q_p0), (1, .int x1)]) hx hb dX5_repeatedLoops_3 hl (by decide) rfl (fun ls hl => ?_)
  have k5 : ∀  (n5 : Nat) (l2 : Int64) (l4 : Int32) (H : Heap) (locs : List Loc) (ls : Array Slot), LP2 (M_X5_repeatedLoops_l5 x1 f_p0_simple P ) n5 l2 l4 → va_P D vwCl [(q_p0, .inr (3, [.int v_p0_number, .int v_p0_falling, .ref q_p0_covered, .ref q_p0_counts, .ref q_p0_earlier, .ref q_p0_closed, .ref q_p0_simple, .ref q_p0_coefficients])), (q_p0_simple, .inl (cJ, 31, .inr (.inl f_p0_simple)))] H → va_D A [(q_p0, .inr (3, [.int v_p0_number, .int v_p0_falling, .ref q_p0_covered, .ref q_p0_counts, .ref q_p0_earlier, .ref q_p0_closed, .ref q_p0_simple, .ref q_p0_coefficients])), (q_p0_simple, .inl (cJ, 31, .inr (.inl f_p0_simple)))] → va_S A s.heap H locs → lv_has ls 5 [(0, .ref q_p0), (1, .int x1), (2, .long l2), (4, .int l4)] → W p l e { frames := 0, cells := 0, slots := 0, locals := 0 } s m args below meth c H locs 0 0 Q (F0 m 5 ls []) := by
    intro  n5
    induction n5 with
    | zero =>
      intro l2 l4 H locs ls h
      exact False.elim h
    | succ n5 ih5 =>
      intro l2 l4 H locs ls h hP hD hS hl
      have h : M_X5_repeatedLoops_l5 x1 f_p0_simple P  (LP2 (M_X5_repeatedLoops_l5 x1 f_p0_simple P ) n5) l2 l4 := h
      refine lv_iload hx hb dX5_repeatedLoops_5 (lv_at hl 3 rfl) ?_
      refine lv_iload_n hx hb dX5_repeatedLoops_7 rfl (lv_at hl 1 rfl) ?_
      refine lv_icmp_ge (tgt := 38) hx hb dX5_repeatedLoops_8 (by decide) (fun c1 => ?_) (fun c1 => ?_)
      · have h := And.left h c1
        refine lv_lload_n hx hb dX5_repeatedLoops_38 rfl (lv_at hl 2 rfl) ?_
        exact z_lret hQ hx hb hr hlocks hK () h hP hD hS dX5_repeatedLoops_39
      · have h := And.right h c1
        refine lv_lload_n hx hb dX5_repeatedLoops_11 rfl (lv_at hl 2 rfl) ?_
        refine lv_iload_n hx hb dX5_repeatedLoops_12 rfl (lv_at hl 1 rfl) ?_
        refine lv_iload hx hb dX5_repeatedLoops_13 (lv_at hl 3 rfl) ?_
        obtain ⟨hn2, h⟩ := h
        refine lv_irem hx hb dX5_repeatedLoops_15 hn2 ?_
        refine lv_if_ne (tgt := 29) hx hb dX5_repeatedLoops_16 (by decide) (fun c3 => ?_) (fun c3 => ?_)
        · have h := And.right h c3
          refine lv_lconst (v := (0 : Int64)) hx hb dX5_repeatedLoops_29 (by decide) ?_
          refine lv_ladd hx hb dX5_repeatedLoops_30 ?_
          refine lv_lstore_n (lv' := [(2, .long (l2 + (0 : Int64))), (0, .ref q_p0), (1, .int x1), (4, .int l4)]) hx hb dX5_repeatedLoops_31 rfl hl (by decide) rfl (fun ls hl => ?_)
          refine lv_iinc (v := (l4 + 1)) (lv' := [(4, .int (l4 + 1)), (2, .long (l2 + (0 : Int64))), (0, .ref q_p0), (1, .int x1)]) hx hb dX5_repeatedLoops_32 hl (k := 3) rfl rfl (by decide) rfl (fun ls hl => ?_)
          refine lv_goto (tgt := 5) hx hb dX5_repeatedLoops_35 (by decide) ?_
          exact ih5 (l2 + (0 : Int64)) (l4 + 1) _ _ _ h hP hD hS (lv_sub hl [2, 3, 1, 0] rfl)
        · have h := And.left h c3
          refine lv_aload_n hx hb dX5_repeatedLoops_19 rfl (lv_at hl 0 rfl) ?_
          refine va_get (ci := 3) (C := RX5) (T := TX5) (N := 8) (v := .ref q_p0_simple) hx hb hts hinX5 hown hK hP 0 rfl rfl 6 (by decide) hw0 (fun _ h9 => h9) rfl dX5_repeatedLoops_20 ?_
          refine lv_iload hx hb dX5_repeatedLoops_23 (lv_at hl 3 rfl) ?_
          obtain ⟨hi4, h⟩ := h
          refine va_lald hx hb hK hP 1 1 rfl rfl hi4 dX5_repeatedLoops_25 ?_
          refine lv_goto (tgt := 30) hx hb dX5_repeatedLoops_26 (by decide) ?_
          refine lv_ladd hx hb dX5_repeatedLoops_30 ?_
          refine lv_lstore_n (lv' := [(2, .long (l2 + (f_p0_simple l4.toNatClampNeg))), (0, .ref q_p0), (1, .int x1), (4, .int l4)]) hx hb dX5_repeatedLoops_31 rfl hl (by decide) rfl (fun ls hl => ?_)
          refine lv_iinc (v := (l4 + 1)) (lv' := [(4, .int (l4 + 1)), (2, .long (l2 + (f_p0_simple l4.toNatClampNeg))), (0, .ref q_p0), (1, .int x1)]) hx hb dX5_repeatedLoops_32 hl (k := 3) rfl rfl (by decide) rfl (fun ls hl => ?_)
          refine lv_goto (tgt := 5) hx hb dX5_repeatedLoops_35 (by decide) ?_
          exact ih5 (l2 + (f_p0_simple l4.toNatClampNeg)) (l4 + 1) _ _ _ h hP hD hS (lv_sub hl [2, 3, 1, 0] rfl)
  obtain ⟨n5, h⟩ := h
  exact k5  n5 (0 : Int64) (1 : Int32) _ _ _ h hP hD hS (lv_sub hl [2, 3, 1, 0] rfl)
theorem hd_X5_measureLoops : yX5_measureLoops.cls = RX5 ∧ yX5_measureLoops.cls ≠ "java/lang/invoke/MethodHandle" ∧ yX5_measureLoops.cls ≠ "java/lang/invoke/VarHandle" ∧ (parseMethodDescriptor yX5_measureLoops.desc).map (fun d => d.parameters.length) = some 1 := by decide +kernel
set_option maxHeartbeats 4000000 in
set_option maxRecDepth 100000 in
theorem c_X5_measureLoops (l : Launch) (D : va_G) (cI cJ cB : ClassId) (tU tM tS : Nat) (q_p0 q_p0_covered q_p0_counts q_p0_earlier q_p0_closed q_p0_simple q_p0_coefficients : Nat) (sz : Nat) (x1 : Int32) (v_p0_number : Int32) (f_p0_closed : (Nat → Int64)) (f_p0_simple : (Nat → Int64)) (f_p0_counts : (Nat → Int64)) (f_p0_earlier : (Nat → Int64)) (f_p0_covered : (Nat → Int32)) (v_p0_falling : Int32) (P : (Nat → Int64) → (Nat → Int64) → (Nat → Int64) → (Nat → Int64) → Prop) (h : M_X5_measureLoops x1 v_p0_number f_p0_closed f_p0_simple f_p0_counts f_p0_earlier f_p0_covered P) : Met l yX5_measureLoops wsX5_measureLoops ({ frames := 2, cells := 0, slots := 0, locals := 50 }) (va_Pc [.ref q_p0, .int x1] (zPre D cI cJ cB tU tM tS [(q_p0, .inr (3, [.int v_p0_number, .int v_p0_falling, .ref q_p0_covered, .ref q_p0_counts, .ref q_p0_earlier, .ref q_p0_closed, .ref q_p0_simple, .ref q_p0_coefficients])), (q_p0_closed, .inl (cJ, 31, .inr (.inl f_p0_closed))), (q_p0_simple, .inl (cJ, 31, .inr (.inl f_p0_simple))), (q_p0_counts, .inl (cJ, 8, .inr (.inl f_p0_counts))), (q_p0_earlier, .inl (cJ, 8, .inr (.inl f_p0_earlier))), (q_p0_covered, .inl (cI, 8, .inl f_p0_covered))] sz)) (va_Qv (fun u : (Nat → Int64) × (Nat → Int64) × (Nat → Int64) × (Nat → Int64) => P u.1 u.2.1 u.2.2.1 u.2.2.2) (fun u t => zPost D cI cJ cB (va_A [(q_p0, .inr (3, [.int v_p0_number, .int v_p0_falling, .ref q_p0_covered, .ref q_p0_counts, .ref q_p0_earlier, .ref q_p0_closed, .ref q_p0_simple, .ref q_p0_coefficients])), (q_p0_closed, .inl (cJ, 31, .inr (.inl f_p0_closed))), (q_p0_simple, .inl (cJ, 31, .inr (.inl f_p0_simple))), (q_p0_counts, .inl (cJ, 8, .inr (.inl f_p0_counts))), (q_p0_earlier, .inl (cJ, 8, .inr (.inl f_p0_earlier))), (q_p0_covered, .inl (cI, 8, .inl f_p0_covered))] sz) [(q_p0, .inr (3, [.int v_p0_number, .int v_p0_falling, .ref q_p0_covered, .ref q_p0_counts, .ref q_p0_earlier, .ref q_p0_closed, .ref q_p0_simple, .ref q_p0_coefficients])), (q_p0_closed, .inl (cJ, 31, .inr (.inl u.2.2.2))), (q_p0_simple, .inl (cJ, 31, .inr (.inl u.1))), (q_p0_counts, .inl (cJ, 8, .inr (.inl u.2.1))), (q_p0_earlier, .inl (cJ, 8, .inr (.inl u.2.2.1))), (q_p0_covered, .inl (cI, 8, .inl f_p0_covered))] t) (va_A [(q_p0, .inr (3, [.int v_p0_number, .int v_p0_falling, .ref q_p0_covered, .ref q_p0_counts, .ref q_p0_earlier, .ref q_p0_closed, .ref q_p0_simple, .ref q_p0_coefficients])), (q_p0_closed, .inl (cJ, 31, .inr (.inl f_p0_closed))), (q_p0_simple, .inl (cJ, 31, .inr (.inl f_p0_simple))), (q_p0_counts, .inl (cJ, 8, .inr (.inl f_p0_counts))), (q_p0_earlier, .inl (cJ, 8, .inr (.inl f_p0_earlier))), (q_p0_covered, .inl (cI, 8, .inl f_p0_covered))] sz)) 0 0 (va_A [(q_p0, .inr (3, [.int v_p0_number, .int v_p0_falling, .ref q_p0_covered, .ref q_p0_counts, .ref q_p0_earlier, .ref q_p0_closed, .ref q_p0_simple, .ref q_p0_coefficients])), (q_p0_closed, .inl (cJ, 31, .inr (.inl f_p0_closed))), (q_p0_simple, .inl (cJ, 31, .inr (.inl f_p0_simple))), (q_p0_counts, .inl (cJ, 8, .inr (.inl f_p0_counts))), (q_p0_earlier, .inl (cJ, 8, .inr (.inl f_p0_earlier))), (q_p0_covered, .inl (cI, 8, .inl f_p0_covered))] sz) := by
  refine z_met (cc := cX5_measureLoops) (maxL := 4) (ret := none) (Qc := fun A => va_Qv (fun u : (Nat → Int64) × (Nat → Int64) × (Nat → Int64) × (Nat → Int64) => P u.1 u.2.1 u.2.2.1 u.2.2.2) (fun u t => zPost D cI cJ cB A [(q_p0, .inr (3, [.int v_p0_number, .int v_p0_falling, .ref q_p0_covered, .ref q_p0_counts, .ref q_p0_earlier, .ref q_p0_closed, .ref q_p0_simple, .ref q_p0_coefficients])), (q_p0_closed, .inl (cJ, 31, .inr (.inl u.2.2.2))), (q_p0_simple, .inl (cJ, 31, .inr (.inl u.1))), (q_p0_counts, .inl (cJ, 8, .inr (.inl u.2.1))), (q_p0_earlier, .inl (cJ, 8, .inr (.inl u.2.2.1))), (q_p0_covered, .inl (cI, 8, .inl f_p0_covered))] t) A) (by decide) rfl [.ref q_p0, .int x1] (Nat.le_of_ble_eq_true rfl) ?_
  intro p e s m args below meth c A hx hb hr hts hown hml hlocks hA hX hK H locs hP hD hS ls hl Q hQ
  have hown : s.vm.findClass RX5 = some m.cls := hown
  have hl : lv_has ls 4 [(0, .ref q_p0), (1, .int x1)] := hl
  have hw0 : (Cond.fieldLink RX5 37 "ForcedRings$Pieces" "number" "I").before args s = true := hts _ (List.mem_of_getElem? (i := 2) rfl)
  have hw1 : (Cond.fieldLink RX5 25 "ForcedRings$Pieces" "simple" "[J").before args s = true := hts _ (List.mem_of_getElem? (i := 4) rfl)
  have hw2 : (Cond.fieldLink RX5 22 "ForcedRings$Pieces" "closed" "[J").before args s = true := hts _ (List.mem_of_getElem? (i := 1) rfl)
  have hw3 : (Cond.fieldLink RX5 15 "ForcedRings$Pieces" "counts" "[J").before args s = true := hts _ (List.mem_of_getElem? (i := 3) rfl)
  have hinX5 : ∀ w ∈ wsX50, w ∈ wsX5_measureLoops := fun _ h => List.mem_cons_of_mem _ (List.mem_append_right _ h)
  refine lv_iconst (v := (1 : Int32)) hx hb dX5_measureLoops_0 (by decide) ?_
  refine lv_istore_n (lv' := [(2, .int (1 : Int32)), (0, .ref q_p0), (1, .int x1)]) hx hb dX5_measureLoops_1 rfl hl (by decide) rfl (fun ls hl => ?_)
  have k2 : ∀ (f_p0_simple : (Nat → Int64)) (f_p0_counts : (Nat → Int64)) (f_p0_earlier : (Nat → Int64)) (n2 : Nat) (l2 : Int32) (f_p0_closed : (Nat → Int64)) (H : Heap) (locs : List Loc) (ls : Array Slot), LP2 (M_X5_measureLoops_l2 x1 v_p0_number f_p0_covered P f_p0_simple f_p0_counts f_p0_earlier) n2 l2 f_p0_closed → va_P D vwCl [(q_p0, .inr (3, [.int v_p0_number, .int v_p0_falling, .ref q_p0_covered, .ref q_p0_counts, .ref q_p0_earlier, .ref q_p0_closed, .ref q_p0_simple, .ref q_p0_coefficients])), (q_p0_closed, .inl (cJ, 31, .inr (.inl f_p0_closed))), (q_p0_simple, .inl (cJ, 31, .inr (.inl f_p0_simple))), (q_p0_counts, .inl (cJ, 8, .inr (.inl f_p0_counts))), (q_p0_earlier, .inl (cJ, 8, .inr (.inl f_p0_earlier))), (q_p0_covered, .inl (cI, 8, .inl f_p0_covered))] H → va_D A [(q_p0, .inr (3, [.int v_p0_number, .int v_p0_falling, .ref q_p0_covered, .ref q_p0_counts, .ref q_p0_earlier, .ref q_p0_closed, .ref q_p0_simple, .ref q_p0_coefficients])), (q_p0_closed, .inl (cJ, 31, .inr (.inl f_p0_closed))), (q_p0_simple, .inl (cJ, 31, .inr (.inl f_p0_simple))), (q_p0_counts, .inl (cJ, 8, .inr (.inl f_p0_counts))), (q_p0_earlier, .inl (cJ, 8, .inr (.inl f_p0_earlier))), (q_p0_covered, .inl (cI, 8, .inl f_p0_covered))] → va_S A s.heap H locs → lv_has ls 4 [(0, .ref q_p0), (1, .int x1), (2, .int l2)] → W p l e { frames := 2, cells := 0, slots := 0, locals := 50 } s m args below meth c H locs 0 0 Q (F0 m 2 ls []) := by
    intro f_p0_simple f_p0_counts f_p0_earlier n2
    induction n2 with
    | zero =>
      intro l2 f_p0_closed H locs ls h
      exact False.elim h
    | succ n2 ih2 =>
      intro l2 f_p0_closed H locs ls h hP hD hS hl
      have h : M_X5_measureLoops_l2 x1 v_p0_number f_p0_covered P f_p0_simple f_p0_counts f_p0_earlier (LP2 (M_X5_measureLoops_l2 x1 v_p0_number f_p0_covered P f_p0_simple f_p0_counts f_p0_earlier) n2) l2 f_p0_closed := h
      refine lv_iload_n hx hb dX5_measureLoops_2 rfl (lv_at hl 2 rfl) ?_
      refine lv_iload_n hx hb dX5_measureLoops_3 rfl (lv_at hl 1 rfl) ?_
      refine lv_icmp_gt (tgt := 20) hx hb dX5_measureLoops_4 (by decide) (fun c1 => ?_) (fun c1 => ?_)
      · have h := And.left h c1
        refine lv_iconst (v := (0 : Int32)) hx hb dX5_measureLoops_20 (by decide) ?_
        refine lv_istore_n (lv' := [(2, .int (0 : Int32)), (0, .ref q_p0), (1, .int x1)]) hx hb dX5_measureLoops_21 rfl hl (by decide) rfl (fun ls hl => ?_)
        have k22 : ∀ (f_p0_simple : (Nat → Int64)) (n22 : Nat) (l2 : Int32) (f_p0_counts : (Nat → Int64)) (f_p0_earlier : (Nat → Int64)) (f_p0_closed : (Nat → Int64)) (H : Heap) (locs : List Loc) (ls : Array Slot), LP4 (M_X5_measureLoops_l22 x1 v_p0_number f_p0_covered P f_p0_simple) n22 l2 f_p0_counts f_p0_earlier f_p0_closed → va_P D vwCl [(q_p0, .inr (3, [.int v_p0_number, .int v_p0_falling, .ref q_p0_covered, .ref q_p0_counts, .ref q_p0_earlier, .ref q_p0_closed, .ref q_p0_simple, .ref q_p0_coefficients])), (q_p0_closed, .inl (cJ, 31, .inr (.inl f_p0_closed))), (q_p0_simple, .inl (cJ, 31, .inr (.inl f_p0_simple))), (q_p0_counts, .inl (cJ, 8, .inr (.inl f_p0_counts))), (q_p0_earlier, .inl (cJ, 8, .inr (.inl f_p0_earlier))), (q_p0_covered, .inl (cI, 8, .inl f_p0_covered))] H → va_D A [(q_p0, .inr (3, [.int v_p0_number, .int v_p0_falling, .ref q_p0_covered, .ref q_p0_counts, .ref q_p0_earlier, .ref q_p0_closed, .ref q_p0_simple, .ref q_p0_coefficients])), (q_p0_closed, .inl (cJ, 31, .inr (.inl f_p0_closed))), (q_p0_simple, .inl (cJ, 31, .inr (.inl f_p0_simple))), (q_p0_counts, .inl (cJ, 8, .inr (.inl f_p0_counts))), (q_p0_earlier, .inl (cJ, 8, .inr (.inl f_p0_earlier))), (q_p0_covered, .inl (cI, 8, .inl f_p0_covered))] → va_S A s.heap H locs → lv_has ls 4 [(0, .ref q_p0), (1, .int x1), (2, .int l2)] → W p l e { frames := 2, cells := 0, slots := 0, locals := 50 } s m args below meth c H locs 0 0 Q (F0 m 22 ls []) := by
          intro f_p0_simple n22
          induction n22 with
          | zero =>
            intro l2 f_p0_counts f_p0_earlier f_p0_closed H locs ls h
            exact False.elim h
          | succ n22 ih22 =>
            intro l2 f_p0_counts f_p0_earlier f_p0_closed H locs ls h hP hD hS hl
            have h : M_X5_measureLoops_l22 x1 v_p0_number f_p0_covered P f_p0_simple (LP4 (M_X5_measureLoops_l22 x1 v_p0_number f_p0_covered P f_p0_simple) n22) l2 f_p0_counts f_p0_earlier f_p0_closed := h
            refine lv_iload_n hx hb dX5_measureLoops_22 rfl (lv_at hl 2 rfl) ?_
            refine lv_aload_n hx hb dX5_measureLoops_23 rfl (lv_at hl 0 rfl) ?_
            refine va_get (ci := 3) (C := RX5) (T := TX5) (N := 8) (v := .int v_p0_number) hx hb hts hinX5 hown hK hP 0 rfl rfl 0 (by decide) hw0 (fun _ h9 => h9) rfl dX5_measureLoops_24 ?_
            refine lv_icmp_ge (tgt := 73) hx hb dX5_measureLoops_27 (by decide) (fun c2 => ?_) (fun c2 => ?_)
            · have h := And.left h c2
              refine lv_iconst (v := (1 : Int32)) hx hb dX5_measureLoops_73 (by decide) ?_
              refine lv_istore_n (lv' := [(2, .int (1 : Int32)), (0, .ref q_p0), (1, .int x1)]) hx hb dX5_measureLoops_74 rfl hl (by decide) rfl (fun ls hl => ?_)
              have k75 : ∀ (f_p0_counts : (Nat → Int64)) (f_p0_earlier : (Nat → Int64)) (f_p0_closed : (Nat → Int64)) (n75 : Nat) (l2 : Int32) (f_p0_simple : (Nat → Int64)) (H : Heap) (locs : List Loc) (ls : Array Slot), LP2 (M_X5_measureLoops_l75 x1 v_p0_number f_p0_covered P f_p0_counts f_p0_earlier f_p0_closed) n75 l2 f_p0_simple → va_P D vwCl [(q_p0, .inr (3, [.int v_p0_number, .int v_p0_falling, .ref q_p0_covered, .ref q_p0_counts, .ref q_p0_earlier, .ref q_p0_closed, .ref q_p0_simple, .ref q_p0_coefficients])), (q_p0_closed, .inl (cJ, 31, .inr (.inl f_p0_closed))), (q_p0_simple, .inl (cJ, 31, .inr (.inl f_p0_simple))), (q_p0_counts, .inl (cJ, 8, .inr (.inl f_p0_counts))), (q_p0_earlier, .inl (cJ, 8, .inr (.inl f_p0_earlier))), (q_p0_covered, .inl (cI, 8, .inl f_p0_covered))] H → va_D A [(q_p0, .inr (3, [.int v_p0_number, .int v_p0_falling, .ref q_p0_covered, .ref q_p0_counts, .ref q_p0_earlier, .ref q_p0_closed, .ref q_p0_simple, .ref q_p0_coefficients])), (q_p0_closed, .inl (cJ, 31, .inr (.inl f_p0_closed))), (q_p0_simple, .inl (cJ, 31, .inr (.inl f_p0_simple))), (q_p0_counts, .inl (cJ, 8, .inr (.inl f_p0_counts))), (q_p0_earlier, .inl (cJ, 8, .inr (.inl f_p0_earlier))), (q_p0_covered, .inl (cI, 8, .inl f_p0_covered))] → va_S A s.heap H locs → lv_has ls 4 [(0, .ref q_p0), (1, .int x1), (2, .int l2)] → W p l e { frames := 2, cells := 0, slots := 0, locals := 50 } s m args below meth c H locs 0 0 Q (F0 m 75 ls []) := by
                intro f_p0_counts f_p0_earlier f_p0_closed n75
                induction n75 with
                | zero =>
                  intro l2 f_p0_simple H locs ls h
                  exact False.elim h
                | succ n75 ih75 =>
                  intro l2 f_p0_simple H locs ls h hP hD hS hl
                  have h : M_X5_measureLoops_l75 x1 v_p0_number f_p0_covered P f_p0_counts f_p0_earlier f_p0_closed (LP2 (M_X5_measureLoops_l75 x1 v_p0_number f_p0_covered P f_p0_counts f_p0_earlier f_p0_closed) n75) l2 f_p0_simple := h
                  refine lv_iload_n hx hb dX5_measureLoops_75 rfl (lv_at hl 2 rfl) ?_
                  refine lv_iload_n hx hb dX5_measureLoops_76 rfl (lv_at hl 1 rfl) ?_
                  refine lv_icmp_gt (tgt := 104) hx hb dX5_measureLoops_77 (by decide) (fun c3 => ?_) (fun c3 => ?_)
                  · have h := And.left h c3
                    exact z_vret hQ hx hb hr hlocks hK (f_p0_simple, f_p0_counts, f_p0_earlier, f_p0_closed) h hP hD hS dX5_measureLoops_104
                  · have h := And.right h c3
                    refine lv_aload_n hx hb dX5_measureLoops_80 rfl (lv_at hl 0 rfl) ?_
                    refine va_get (ci := 3) (C := RX5) (T := TX5) (N := 8) (v := .ref q_p0_simple) hx hb hts hinX5 hown hK hP 0 rfl rfl 6 (by decide) hw1 (fun _ h9 => h9) rfl dX5_measureLoops_81 ?_
                    refine lv_iload_n hx hb dX5_measureLoops_84 rfl (lv_at hl 2 rfl) ?_
                    refine lv_aload_n hx hb dX5_measureLoops_85 rfl (lv_at hl 0 rfl) ?_
                    refine va_get (ci := 3) (C := RX5) (T := TX5) (N := 8) (v := .ref q_p0_closed) hx hb hts hinX5 hown hK hP 0 rfl rfl 5 (by decide) hw2 (fun _ h9 => h9) rfl dX5_measureLoops_86 ?_
                    refine lv_iload_n hx hb dX5_measureLoops_89 rfl (lv_at hl 2 rfl) ?_
                    obtain ⟨hi4, h⟩ := h
                    refine va_lald hx hb hK hP 1 1 rfl rfl hi4 dX5_measureLoops_90 ?_
                    refine lv_aload_n hx hb dX5_measureLoops_91 rfl (lv_at hl 0 rfl) ?_
                    refine lv_iload_n hx hb dX5_measureLoops_92 rfl (lv_at hl 2 rfl) ?_
                    refine z_cVl (As := [.int l2]) (rest := [.long (f_p0_closed l2.toNatClampNeg), .int l2, .ref q_p0_simple]) (wr := [(q_p0_closed, .inl (cJ, 31, .inr (.inl f_p0_closed))), (q_p0_counts, .inl (cJ, 8, .inr (.inl f_p0_counts))), (q_p0_earlier, .inl (cJ, 8, .inr (.inl f_p0_earlier))), (q_p0_covered, .inl (cI, 8, .inl f_p0_covered))]) (wn := fun u => [(q_p0, .inr (3, [.int v_p0_number, .int v_p0_falling, .ref q_p0_covered, .ref q_p0_counts, .ref q_p0_earlier, .ref q_p0_closed, .ref q_p0_simple, .ref q_p0_coefficients])), (q_p0_closed, .inl (cJ, 31, .inr (.inl f_p0_closed))), (q_p0_simple, .inl (cJ, 31, .inr (.inl f_p0_simple))), (q_p0_counts, .inl (cJ, 8, .inr (.inl f_p0_counts))), (q_p0_earlier, .inl (cJ, 8, .inr (.inl f_p0_earlier))), (q_p0_covered, .inl (cI, 8, .inl f_p0_covered))]) (c_X5_repeatedLoops l D cI cJ cB tU tM tS q_p0 q_p0_covered q_p0_counts q_p0_earlier q_p0_closed q_p0_simple q_p0_coefficients H.size l2 f_p0_simple v_p0_number v_p0_falling _ h) ⟨hx, hb, hml, hown, hts⟩ (cwV 1 hts gX5_measureLoops_X5_repeatedLoops rfl rfl rfl hd_X5_repeatedLoops ⟨Nat.le_of_ble_eq_true rfl, Nat.le_of_ble_eq_true rfl⟩) hX hK hP hD hS hA [0, 2] [1, 3, 4, 5] [4, 0, 5, 1, 2, 3] rfl rfl rfl (by decide) (fun _ => rfl) (q0 := 0) (ci := 3) rfl rfl rfl hl.1 rfl (Nat.le_of_ble_eq_true rfl) ⟨Nat.le_refl _, Nat.le_refl _⟩ dX5_measureLoops_93 (fun r5 u5 H locs h hP hD hS => ?_)
                    refine lv_lsub hx hb dX5_measureLoops_96 ?_
                    obtain ⟨hi6, h⟩ := h
                    refine z_last (wn := [(q_p0, .inr (3, [.int v_p0_number, .int v_p0_falling, .ref q_p0_covered, .ref q_p0_counts, .ref q_p0_earlier, .ref q_p0_closed, .ref q_p0_simple, .ref q_p0_coefficients])), (q_p0_closed, .inl (cJ, 31, .inr (.inl f_p0_closed))), (q_p0_simple, .inl (cJ, 31, .inr (.inl (vp_updL f_p0_simple l2.toNatClampNeg ((f_p0_closed l2.toNatClampNeg) - r5))))), (q_p0_counts, .inl (cJ, 8, .inr (.inl f_p0_counts))), (q_p0_earlier, .inl (cJ, 8, .inr (.inl f_p0_earlier))), (q_p0_covered, .inl (cI, 8, .inl f_p0_covered))]) hx hb hK hP hD hS 2 rfl hi6 dX5_measureLoops_97 rfl (fun H locs hP hD hS => ?_)
                    refine lv_iinc (v := (l2 + 1)) (lv' := [(2, .int (l2 + 1)), (0, .ref q_p0), (1, .int x1)]) hx hb dX5_measureLoops_98 hl (k := 2) rfl rfl (by decide) rfl (fun ls hl => ?_)
                    refine lv_goto (tgt := 75) hx hb dX5_measureLoops_101 (by decide) ?_
                    exact ih75 (l2 + 1) (vp_updL f_p0_simple l2.toNatClampNeg ((f_p0_closed l2.toNatClampNeg) - r5)) _ _ _ h hP hD hS (lv_sub hl [1, 2, 0] rfl)
              obtain ⟨n75, h⟩ := h
              exact k75 f_p0_counts f_p0_earlier f_p0_closed n75 (1 : Int32) f_p0_simple _ _ _ h hP hD hS (lv_sub hl [1, 2, 0] rfl)
            · have h := And.right h c2
              refine lv_aload_n hx hb dX5_measureLoops_30 rfl (lv_at hl 0 rfl) ?_
              refine lv_iload_n hx hb dX5_measureLoops_31 rfl (lv_at hl 2 rfl) ?_
              refine z_cVv (As := [.int l2]) (rest := []) (wr := [(q_p0_closed, .inl (cJ, 31, .inr (.inl f_p0_closed))), (q_p0_simple, .inl (cJ, 31, .inr (.inl f_p0_simple))), (q_p0_earlier, .inl (cJ, 8, .inr (.inl f_p0_earlier))), (q_p0_covered, .inl (cI, 8, .inl f_p0_covered))]) (wn := fun u => [(q_p0, .inr (3, [.int v_p0_number, .int v_p0_falling, .ref q_p0_covered, .ref q_p0_counts, .ref q_p0_earlier, .ref q_p0_closed, .ref q_p0_simple, .ref q_p0_coefficients])), (q_p0_closed, .inl (cJ, 31, .inr (.inl f_p0_closed))), (q_p0_simple, .inl (cJ, 31, .inr (.inl f_p0_simple))), (q_p0_counts, .inl (cJ, 8, .inr (.inl u))), (q_p0_earlier, .inl (cJ, 8, .inr (.inl f_p0_earlier))), (q_p0_covered, .inl (cI, 8, .inl f_p0_covered))]) (c_X5_startAt l D cI cJ cB tU tM tS q_p0 q_p0_covered q_p0_counts q_p0_earlier q_p0_closed q_p0_simple q_p0_coefficients H.size l2 f_p0_counts v_p0_number v_p0_falling _ h) ⟨hx, hb, hml, hown, hts⟩ (cwV 1 hts gX5_measureLoops_X5_startAt rfl rfl rfl hd_X5_startAt ⟨Nat.le_of_ble_eq_true rfl, Nat.le_of_ble_eq_true rfl⟩) hX hK hP hD hS hA [0, 3] [1, 2, 4, 5] [4, 0, 1, 5, 2, 3] rfl rfl rfl (by decide) (fun _ => rfl) (q0 := 0) (ci := 3) rfl rfl rfl hl.1 rfl (Nat.le_of_ble_eq_true rfl) ⟨Nat.le_refl _, Nat.le_refl _⟩ dX5_measureLoops_32 (fun m7_0 H locs h hP hD hS => ?_)
              refine lv_iconst (v := (1 : Int32)) hx hb dX5_measureLoops_35 (by decide) ?_
              refine lv_istore_n (lv' := [(3, .int (1 : Int32)), (0, .ref q_p0), (1, .int x1), (2, .int l2)]) hx hb dX5_measureLoops_36 rfl hl (by decide) rfl (fun ls hl => ?_)
              have k37 : ∀ (l2 : Int32) (n37 : Nat) (l3 : Int32) (f_p0_counts : (Nat → Int64)) (f_p0_earlier : (Nat → Int64)) (f_p0_closed : (Nat → Int64)) (H : Heap) (locs : List Loc) (ls : Array Slot), LP4 (M_X5_measureLoops_l37 x1 v_p0_number f_p0_covered (LP4 (M_X5_measureLoops_l22 x1 v_p0_number f_p0_covered P f_p0_simple) n22) P l2 f_p0_simple) n37 l3 f_p0_counts f_p0_earlier f_p0_closed → va_P D vwCl [(q_p0, .inr (3, [.int v_p0_number, .int v_p0_falling, .ref q_p0_covered, .ref q_p0_counts, .ref q_p0_earlier, .ref q_p0_closed, .ref q_p0_simple, .ref q_p0_coefficients])), (q_p0_closed, .inl (cJ, 31, .inr (.inl f_p0_closed))), (q_p0_simple, .inl (cJ, 31, .inr (.inl f_p0_simple))), (q_p0_counts, .inl (cJ, 8, .inr (.inl f_p0_counts))), (q_p0_earlier, .inl (cJ, 8, .inr (.inl f_p0_earlier))), (q_p0_covered, .inl (cI, 8, .inl f_p0_covered))] H → va_D A [(q_p0, .inr (3, [.int v_p0_number, .int v_p0_falling, .ref q_p0_covered, .ref q_p0_counts, .ref q_p0_earlier, .ref q_p0_closed, .ref q_p0_simple, .ref q_p0_coefficients])), (q_p0_closed, .inl (cJ, 31, .inr (.inl f_p0_closed))), (q_p0_simple, .inl (cJ, 31, .inr (.inl f_p0_simple))), (q_p0_counts, .inl (cJ, 8, .inr (.inl f_p0_counts))), (q_p0_earlier, .inl (cJ, 8, .inr (.inl f_p0_earlier))), (q_p0_covered, .inl (cI, 8, .inl f_p0_covered))] → va_S A s.heap H locs → lv_has ls 4 [(0, .ref q_p0), (1, .int x1), (2, .int l2), (3, .int l3)] → W p l e { frames := 2, cells := 0, slots := 0, locals := 50 } s m args below meth c H locs 0 0 Q (F0 m 37 ls []) := by
                intro l2 n37
                induction n37 with
                | zero =>
                  intro l3 f_p0_counts f_p0_earlier f_p0_closed H locs ls h
                  exact False.elim h
                | succ n37 ih37 =>
                  intro l3 f_p0_counts f_p0_earlier f_p0_closed H locs ls h hP hD hS hl
                  have h : M_X5_measureLoops_l37 x1 v_p0_number f_p0_covered (LP4 (M_X5_measureLoops_l22 x1 v_p0_number f_p0_covered P f_p0_simple) n22) P l2 f_p0_simple (LP4 (M_X5_measureLoops_l37 x1 v_p0_number f_p0_covered (LP4 (M_X5_measureLoops_l22 x1 v_p0_number f_p0_covered P f_p0_simple) n22) P l2 f_p0_simple) n37) l3 f_p0_counts f_p0_earlier f_p0_closed := h
                  refine lv_iload_n hx hb dX5_measureLoops_37 rfl (lv_at hl 3 rfl) ?_
                  refine lv_iload_n hx hb dX5_measureLoops_38 rfl (lv_at hl 1 rfl) ?_
                  refine lv_icmp_gt (tgt := 67) hx hb dX5_measureLoops_39 (by decide) (fun c8 => ?_) (fun c8 => ?_)
                  · have h := And.left h c8
                    refine lv_iinc (v := (l2 + 1)) (lv' := [(2, .int (l2 + 1)), (0, .ref q_p0), (1, .int x1), (3, .int l3)]) hx hb dX5_measureLoops_67 hl (k := 2) rfl rfl (by decide) rfl (fun ls hl => ?_)
                    refine lv_goto (tgt := 22) hx hb dX5_measureLoops_70 (by decide) ?_
                    exact ih22 (l2 + 1) f_p0_counts f_p0_earlier f_p0_closed _ _ _ h hP hD hS (lv_sub hl [1, 2, 0] rfl)
                  · have h := And.right h c8
                    refine lv_aload_n hx hb dX5_measureLoops_42 rfl (lv_at hl 0 rfl) ?_
                    refine z_cVv (As := []) (rest := []) (wr := [(q_p0_closed, .inl (cJ, 31, .inr (.inl f_p0_closed))), (q_p0_simple, .inl (cJ, 31, .inr (.inl f_p0_simple)))]) (wn := fun u => [(q_p0, .inr (3, [.int v_p0_number, .int v_p0_falling, .ref q_p0_covered, .ref q_p0_counts, .ref q_p0_earlier, .ref q_p0_closed, .ref q_p0_simple, .ref q_p0_coefficients])), (q_p0_closed, .inl (cJ, 31, .inr (.inl f_p0_closed))), (q_p0_simple, .inl (cJ, 31, .inr (.inl f_p0_simple))), (q_p0_counts, .inl (cJ, 8, .inr (.inl u.2))), (q_p0_earlier, .inl (cJ, 8, .inr (.inl u.1))), (q_p0_covered, .inl (cI, 8, .inl f_p0_covered))]) (c_X5_countOn l D cI cJ cB tU tM tS q_p0 q_p0_covered q_p0_counts q_p0_earlier q_p0_closed q_p0_simple q_p0_coefficients H.size f_p0_counts f_p0_earlier v_p0_number f_p0_covered v_p0_falling _ h) ⟨hx, hb, hml, hown, hts⟩ (cwV 0 hts gX5_measureLoops_X5_countOn rfl rfl rfl hd_X5_countOn ⟨Nat.le_of_ble_eq_true rfl, Nat.le_of_ble_eq_true rfl⟩) hX hK hP hD hS hA [0, 3, 4, 5] [1, 2] [2, 0, 1, 3, 4, 5] rfl rfl rfl (by decide) (fun _ => rfl) (q0 := 0) (ci := 3) rfl rfl rfl hl.1 rfl (Nat.le_of_ble_eq_true rfl) ⟨Nat.le_refl _, Nat.le_refl _⟩ dX5_measureLoops_43 (fun u9 H locs h hP hD hS => ?_)
                    obtain ⟨m9_0, m9_1⟩ := u9
                    refine lv_aload_n hx hb dX5_measureLoops_46 rfl (lv_at hl 0 rfl) ?_
                    refine va_get (ci := 3) (C := RX5) (T := TX5) (N := 8) (v := .ref q_p0_closed) hx hb hts hinX5 hown hK hP 0 rfl rfl 5 (by decide) hw2 (fun _ h9 => h9) rfl dX5_measureLoops_47 ?_
                    refine lv_iload_n hx hb dX5_measureLoops_50 rfl (lv_at hl 3 rfl) ?_
                    refine lv_dup2_11 hx hb dX5_measureLoops_51 rfl rfl ?_
                    obtain ⟨hi10, h⟩ := h
                    refine va_lald hx hb hK hP 1 1 rfl rfl hi10 dX5_measureLoops_52 ?_
                    refine lv_aload_n hx hb dX5_measureLoops_53 rfl (lv_at hl 0 rfl) ?_
                    refine va_get (ci := 3) (C := RX5) (T := TX5) (N := 8) (v := .ref q_p0_counts) hx hb hts hinX5 hown hK hP 0 rfl rfl 3 (by decide) hw3 (fun _ h9 => h9) rfl dX5_measureLoops_54 ?_
                    refine lv_iload_n hx hb dX5_measureLoops_57 rfl (lv_at hl 2 rfl) ?_
                    obtain ⟨hi11, h⟩ := h
                    refine va_lald hx hb hK hP 3 1 rfl rfl hi11 dX5_measureLoops_58 ?_
                    refine lv_ladd hx hb dX5_measureLoops_59 ?_
                    obtain ⟨hi12, h⟩ := h
                    refine z_last (wn := [(q_p0, .inr (3, [.int v_p0_number, .int v_p0_falling, .ref q_p0_covered, .ref q_p0_counts, .ref q_p0_earlier, .ref q_p0_closed, .ref q_p0_simple, .ref q_p0_coefficients])), (q_p0_closed, .inl (cJ, 31, .inr (.inl (vp_updL f_p0_closed l3.toNatClampNeg ((f_p0_closed l3.toNatClampNeg) + (m9_1 l2.toNatClampNeg)))))), (q_p0_simple, .inl (cJ, 31, .inr (.inl f_p0_simple))), (q_p0_counts, .inl (cJ, 8, .inr (.inl m9_1))), (q_p0_earlier, .inl (cJ, 8, .inr (.inl m9_0))), (q_p0_covered, .inl (cI, 8, .inl f_p0_covered))]) hx hb hK hP hD hS 1 rfl hi12 dX5_measureLoops_60 rfl (fun H locs hP hD hS => ?_)
                    refine lv_iinc (v := (l3 + 1)) (lv' := [(3, .int (l3 + 1)), (0, .ref q_p0), (1, .int x1), (2, .int l2)]) hx hb dX5_measureLoops_61 hl (k := 3) rfl rfl (by decide) rfl (fun ls hl => ?_)
                    refine lv_goto (tgt := 37) hx hb dX5_measureLoops_64 (by decide) ?_
                    exact ih37 (l3 + 1) m9_1 m9_0 (vp_updL f_p0_closed l3.toNatClampNeg ((f_p0_closed l3.toNatClampNeg) + (m9_1 l2.toNatClampNeg))) _ _ _ h hP hD hS (lv_sub hl [1, 2, 3, 0] rfl)
              obtain ⟨n37, h⟩ := h
              exact k37 l2 n37 (1 : Int32) m7_0 f_p0_earlier f_p0_closed _ _ _ h hP hD hS (lv_sub hl [1, 2, 3, 0] rfl)
        obtain ⟨n22, h⟩ := h
        exact k22 f_p0_simple n22 (0 : Int32) f_p0_counts f_p0_earlier f_p0_closed _ _ _ h hP hD hS (lv_sub hl [1, 2, 0] rfl)
      · have h := And.right h c1
        refine lv_aload_n hx hb dX5_measureLoops_7 rfl (lv_at hl 0 rfl) ?_
        refine va_get (ci := 3) (C := RX5) (T := TX5) (N := 8) (v := .ref q_p0_closed) hx hb hts hinX5 hown hK hP 0 rfl rfl 5 (by decide) hw2 (fun _ h9 => h9) rfl dX5_measureLoops_8 ?_
        refine lv_iload_n hx hb dX5_measureLoops_11 rfl (lv_at hl 2 rfl) ?_
        refine lv_lconst (v := (0 : Int64)) hx hb dX5_measureLoops_12 (by decide) ?_
        obtain ⟨hi13, h⟩ := h
        refine z_last (wn := [(q_p0, .inr (3, [.int v_p0_number, .int v_p0_falling, .ref q_p0_covered, .ref q_p0_counts, .ref q_p0_earlier, .ref q_p0_closed, .ref q_p0_simple, .ref q_p0_coefficients])), (q_p0_closed, .inl (cJ, 31, .inr (.inl (vp_updL f_p0_closed l2.toNatClampNeg (0 : Int64))))), (q_p0_simple, .inl (cJ, 31, .inr (.inl f_p0_simple))), (q_p0_counts, .inl (cJ, 8, .inr (.inl f_p0_counts))), (q_p0_earlier, .inl (cJ, 8, .inr (.inl f_p0_earlier))), (q_p0_covered, .inl (cI, 8, .inl f_p0_covered))]) hx hb hK hP hD hS 1 rfl hi13 dX5_measureLoops_13 rfl (fun H locs hP hD hS => ?_)
        refine lv_iinc (v := (l2 + 1)) (lv' := [(2, .int (l2 + 1)), (0, .ref q_p0), (1, .int x1)]) hx hb dX5_measureLoops_14 hl (k := 2) rfl rfl (by decide) rfl (fun ls hl => ?_)
        refine lv_goto (tgt := 2) hx hb dX5_measureLoops_17 (by decide) ?_
        exact ih2 (l2 + 1) (vp_updL f_p0_closed l2.toNatClampNeg (0 : Int64)) _ _ _ h hP hD hS (lv_sub hl [1, 2, 0] rfl)
  obtain ⟨n2, h⟩ := h
  exact k2 f_p0_simple f_p0_counts f_p0_earlier n2 (1 : Int32) f_p0_closed _ _ _ h hP hD hS (lv_sub hl [1, 2, 0] rfl)
theorem hd_X5_countTwice : yX5_countTwice.cls = RX5 ∧ yX5_countTwice.cls ≠ "java/lang/invoke/MethodHandle" ∧ yX5_countTwice.cls ≠ "java/lang/invoke/VarHandle" ∧ (parseMethodDescriptor yX5_countTwice.desc).map (fun d => d.parameters.length) = some 1 := by decide +kernel
set_option maxHeartbeats 4000000 in
set_option maxRecDepth 100000 in
theorem c_X5_countTwice (l : Launch) (D : va_G) (cI cJ cB : ClassId) (tU tM tS : Nat) (q_p0 q_p0_covered q_p0_counts q_p0_earlier q_p0_closed q_p0_simple q_p0_coefficients : Nat) (sz : Nat) (x1 : Int32) (f_p0_counts : (Nat → Int64)) (f_p0_earlier : (Nat → Int64)) (v_p0_number : Int32) (f_p0_covered : (Nat → Int32)) (v_p0_falling : Int32) (P : (Nat → Int64) → (Nat → Int64) → Prop) (h : M_X5_countTwice x1 f_p0_counts f_p0_earlier v_p0_number f_p0_covered P) : Met l yX5_countTwice wsX5_countTwice ({ frames := 2, cells := 0, slots := 0, locals := 50 }) (va_Pc [.ref q_p0, .int x1] (zPre D cI cJ cB tU tM tS [(q_p0, .inr (3, [.int v_p0_number, .int v_p0_falling, .ref q_p0_covered, .ref q_p0_counts, .ref q_p0_earlier, .ref q_p0_closed, .ref q_p0_simple, .ref q_p0_coefficients])), (q_p0_counts, .inl (cJ, 8, .inr (.inl f_p0_counts))), (q_p0_earlier, .inl (cJ, 8, .inr (.inl f_p0_earlier))), (q_p0_covered, .inl (cI, 8, .inl f_p0_covered))] sz)) (va_Qv (fun u : (Nat → Int64) × (Nat → Int64) => P u.1 u.2) (fun u t => zPost D cI cJ cB (va_A [(q_p0, .inr (3, [.int v_p0_number, .int v_p0_falling, .ref q_p0_covered, .ref q_p0_counts, .ref q_p0_earlier, .ref q_p0_closed, .ref q_p0_simple, .ref q_p0_coefficients])), (q_p0_counts, .inl (cJ, 8, .inr (.inl f_p0_counts))), (q_p0_earlier, .inl (cJ, 8, .inr (.inl f_p0_earlier))), (q_p0_covered, .inl (cI, 8, .inl f_p0_covered))] sz) [(q_p0, .inr (3, [.int v_p0_number, .int v_p0_falling, .ref q_p0_covered, .ref q_p0_counts, .ref q_p0_earlier, .ref q_p0_closed, .ref q_p0_simple, .ref q_p0_coefficients])), (q_p0_counts, .inl (cJ, 8, .inr (.inl u.2))), (q_p0_earlier, .inl (cJ, 8, .inr (.inl u.1))), (q_p0_covered, .inl (cI, 8, .inl f_p0_covered))] t) (va_A [(q_p0, .inr (3, [.int v_p0_number, .int v_p0_falling, .ref q_p0_covered, .ref q_p0_counts, .ref q_p0_earlier, .ref q_p0_closed, .ref q_p0_simple, .ref q_p0_coefficients])), (q_p0_counts, .inl (cJ, 8, .inr (.inl f_p0_counts))), (q_p0_earlier, .inl (cJ, 8, .inr (.inl f_p0_earlier))), (q_p0_covered, .inl (cI, 8, .inl f_p0_covered))] sz)) 0 0 (va_A [(q_p0, .inr (3, [.int v_p0_number, .int v_p0_falling, .ref q_p0_covered, .ref q_p0_counts, .ref q_p0_earlier, .ref q_p0_closed, .ref q_p0_simple, .ref q_p0_coefficients])), (q_p0_counts, .inl (cJ, 8, .inr (.inl f_p0_counts))), (q_p0_earlier, .inl (cJ, 8, .inr (.inl f_p0_earlier))), (q_p0_covered, .inl (cI, 8, .inl f_p0_covered))] sz) := by
  refine z_met (cc := cX5_countTwice) (maxL := 3) (ret := none) (Qc := fun A => va_Qv (fun u : (Nat → Int64) × (Nat → Int64) => P u.1 u.2) (fun u t => zPost D cI cJ cB A [(q_p0, .inr (3, [.int v_p0_number, .int v_p0_falling, .ref q_p0_covered, .ref q_p0_counts, .ref q_p0_earlier, .ref q_p0_closed, .ref q_p0_simple, .ref q_p0_coefficients])), (q_p0_counts, .inl (cJ, 8, .inr (.inl u.2))), (q_p0_earlier, .inl (cJ, 8, .inr (.inl u.1))), (q_p0_covered, .inl (cI, 8, .inl f_p0_covered))] t) A) (by decide) rfl [.ref q_p0, .int x1] (Nat.le_of_ble_eq_true rfl) ?_
  intro p e s m args below meth c A hx hb hr hts hown hml hlocks hA hX hK H locs hP hD hS ls hl Q hQ
  have hown : s.vm.findClass RX5 = some m.cls := hown
  have hl : lv_has ls 3 [(0, .ref q_p0), (1, .int x1)] := hl
  have hw0 : (Cond.fieldLink RX5 15 "ForcedRings$Pieces" "counts" "[J").before args s = true := hts _ (List.mem_of_getElem? (i := 1) rfl)
  have hinX5 : ∀ w ∈ wsX50, w ∈ wsX5_countTwice := fun _ h => List.mem_cons_of_mem _ (List.mem_append_right _ h)
  refine lv_iconst (v := (0 : Int32)) hx hb dX5_countTwice_0 (by decide) ?_
  refine lv_istore_n (lv' := [(2, .int (0 : Int32)), (0, .ref q_p0), (1, .int x1)]) hx hb dX5_countTwice_1 rfl hl (by decide) rfl (fun ls hl => ?_)
  have k2 : ∀ (f_p0_earlier : (Nat → Int64)) (n2 : Nat) (l2 : Int32) (f_p0_counts : (Nat → Int64)) (H : Heap) (locs : List Loc) (ls : Array Slot), LP2 (M_X5_countTwice_l2 x1 v_p0_number f_p0_covered P f_p0_earlier) n2 l2 f_p0_counts → va_P D vwCl [(q_p0, .inr (3, [.int v_p0_number, .int v_p0_falling, .ref q_p0_covered, .ref q_p0_counts, .ref q_p0_earlier, .ref q_p0_closed, .ref q_p0_simple, .ref q_p0_coefficients])), (q_p0_counts, .inl (cJ, 8, .inr (.inl f_p0_counts))), (q_p0_earlier, .inl (cJ, 8, .inr (.inl f_p0_earlier))), (q_p0_covered, .inl (cI, 8, .inl f_p0_covered))] H → va_D A [(q_p0, .inr (3, [.int v_p0_number, .int v_p0_falling, .ref q_p0_covered, .ref q_p0_counts, .ref q_p0_earlier, .ref q_p0_closed, .ref q_p0_simple, .ref q_p0_coefficients])), (q_p0_counts, .inl (cJ, 8, .inr (.inl f_p0_counts))), (q_p0_earlier, .inl (cJ, 8, .inr (.inl f_p0_earlier))), (q_p0_covered, .inl (cI, 8, .inl f_p0_covered))] → va_S A s.heap H locs → lv_has ls 3 [(0, .ref q_p0), (1, .int x1), (2, .int l2)] → W p l e { frames := 2, cells := 0, slots := 0, locals := 50 } s m args below meth c H locs 0 0 Q (F0 m 2 ls []) := by
    intro f_p0_earlier n2
    induction n2 with
    | zero =>
      intro l2 f_p0_counts H locs ls h
      exact False.elim h
    | succ n2 ih2 =>
      intro l2 f_p0_counts H locs ls h hP hD hS hl
      have h : M_X5_countTwice_l2 x1 v_p0_number f_p0_covered P f_p0_earlier (LP2 (M_X5_countTwice_l2 x1 v_p0_number f_p0_covered P f_p0_earlier) n2) l2 f_p0_counts := h
      refine lv_iload_n hx hb dX5_countTwice_2 rfl (lv_at hl 2 rfl) ?_
      refine lv_bipush (v := (8 : Int32)) hx hb dX5_countTwice_3 (by decide) ?_
      refine lv_icmp_ge (tgt := 21) hx hb dX5_countTwice_5 (by decide) (fun c1 => ?_) (fun c1 => ?_)
      · have h := And.left h c1
        refine lv_iconst (v := (0 : Int32)) hx hb dX5_countTwice_21 (by decide) ?_
        refine lv_istore_n (lv' := [(2, .int (0 : Int32)), (0, .ref q_p0), (1, .int x1)]) hx hb dX5_countTwice_22 rfl hl (by decide) rfl (fun ls hl => ?_)
        have k23 : ∀  (n23 : Nat) (l2 : Int32) (f_p0_earlier : (Nat → Int64)) (f_p0_counts : (Nat → Int64)) (H : Heap) (locs : List Loc) (ls : Array Slot), LP3 (M_X5_countTwice_l23 x1 v_p0_number f_p0_covered P ) n23 l2 f_p0_earlier f_p0_counts → va_P D vwCl [(q_p0, .inr (3, [.int v_p0_number, .int v_p0_falling, .ref q_p0_covered, .ref q_p0_counts, .ref q_p0_earlier, .ref q_p0_closed, .ref q_p0_simple, .ref q_p0_coefficients])), (q_p0_counts, .inl (cJ, 8, .inr (.inl f_p0_counts))), (q_p0_earlier, .inl (cJ, 8, .inr (.inl f_p0_earlier))), (q_p0_covered, .inl (cI, 8, .inl f_p0_covered))] H → va_D A [(q_p0, .inr (3, [.int v_p0_number, .int v_p0_falling, .ref q_p0_covered, .ref q_p0_counts, .ref q_p0_earlier, .ref q_p0_closed, .ref q_p0_simple, .ref q_p0_coefficients])), (q_p0_counts, .inl (cJ, 8, .inr (.inl f_p0_counts))), (q_p0_earlier, .inl (cJ, 8, .inr (.inl f_p0_earlier))), (q_p0_covered, .inl (cI, 8, .inl f_p0_covered))] → va_S A s.heap H locs → lv_has ls 3 [(0, .ref q_p0), (1, .int x1), (2, .int l2)] → W p l e { frames := 2, cells := 0, slots := 0, locals := 50 } s m args below meth c H locs 0 0 Q (F0 m 23 ls []) := by
          intro  n23
          induction n23 with
          | zero =>
            intro l2 f_p0_earlier f_p0_counts H locs ls h
            exact False.elim h
          | succ n23 ih23 =>
            intro l2 f_p0_earlier f_p0_counts H locs ls h hP hD hS hl
            have h : M_X5_countTwice_l23 x1 v_p0_number f_p0_covered P  (LP3 (M_X5_countTwice_l23 x1 v_p0_number f_p0_covered P ) n23) l2 f_p0_earlier f_p0_counts := h
            refine lv_iload_n hx hb dX5_countTwice_23 rfl (lv_at hl 2 rfl) ?_
            refine lv_iload_n hx hb dX5_countTwice_24 rfl (lv_at hl 1 rfl) ?_
            refine lv_icmp_gt (tgt := 38) hx hb dX5_countTwice_25 (by decide) (fun c2 => ?_) (fun c2 => ?_)
            · have h := And.left h c2
              exact z_vret hQ hx hb hr hlocks hK (f_p0_earlier, f_p0_counts) h hP hD hS dX5_countTwice_38
            · have h := And.right h c2
              refine lv_aload_n hx hb dX5_countTwice_28 rfl (lv_at hl 0 rfl) ?_
              refine z_cVv (As := []) (rest := []) (wr := []) (wn := fun u => [(q_p0, .inr (3, [.int v_p0_number, .int v_p0_falling, .ref q_p0_covered, .ref q_p0_counts, .ref q_p0_earlier, .ref q_p0_closed, .ref q_p0_simple, .ref q_p0_coefficients])), (q_p0_counts, .inl (cJ, 8, .inr (.inl u.2))), (q_p0_earlier, .inl (cJ, 8, .inr (.inl u.1))), (q_p0_covered, .inl (cI, 8, .inl f_p0_covered))]) (c_X5_countOn l D cI cJ cB tU tM tS q_p0 q_p0_covered q_p0_counts q_p0_earlier q_p0_closed q_p0_simple q_p0_coefficients H.size f_p0_counts f_p0_earlier v_p0_number f_p0_covered v_p0_falling _ h) ⟨hx, hb, hml, hown, hts⟩ (cwV 0 hts gX5_countTwice_X5_countOn rfl rfl rfl hd_X5_countOn ⟨Nat.le_of_ble_eq_true rfl, Nat.le_of_ble_eq_true rfl⟩) hX hK hP hD hS hA [0, 1, 2, 3] [] [0, 1, 2, 3] rfl rfl rfl (by decide) (fun _ => rfl) (q0 := 0) (ci := 3) rfl rfl rfl hl.1 rfl (Nat.le_of_ble_eq_true rfl) ⟨Nat.le_refl _, Nat.le_refl _⟩ dX5_countTwice_29 (fun u3 H locs h hP hD hS => ?_)
              obtain ⟨m3_0, m3_1⟩ := u3
              refine lv_iinc (v := (l2 + 1)) (lv' := [(2, .int (l2 + 1)), (0, .ref q_p0), (1, .int x1)]) hx hb dX5_countTwice_32 hl (k := 2) rfl rfl (by decide) rfl (fun ls hl => ?_)
              refine lv_goto (tgt := 23) hx hb dX5_countTwice_35 (by decide) ?_
              exact ih23 (l2 + 1) m3_0 m3_1 _ _ _ h hP hD hS (lv_sub hl [1, 2, 0] rfl)
        obtain ⟨n23, h⟩ := h
        exact k23  n23 (0 : Int32) f_p0_earlier f_p0_counts _ _ _ h hP hD hS (lv_sub hl [1, 2, 0] rfl)
      · have h := And.right h c1
        refine lv_aload_n hx hb dX5_countTwice_8 rfl (lv_at hl 0 rfl) ?_
        refine va_get (ci := 3) (C := RX5) (T := TX5) (N := 8) (v := .ref q_p0_counts) hx hb hts hinX5 hown hK hP 0 rfl rfl 3 (by decide) hw0 (fun _ h9 => h9) rfl dX5_countTwice_9 ?_
        refine lv_iload_n hx hb dX5_countTwice_12 rfl (lv_at hl 2 rfl) ?_
        refine lv_lconst (v := (1 : Int64)) hx hb dX5_countTwice_13 (by decide) ?_
        obtain ⟨hi4, h⟩ := h
        refine z_last (wn := [(q_p0, .inr (3, [.int v_p0_number, .int v_p0_falling, .ref q_p0_covered, .ref q_p0_counts, .ref q_p0_earlier, .ref q_p0_closed, .ref q_p0_simple, .ref q_p0_coefficients])), (q_p0_counts, .inl (cJ, 8, .inr (.inl (vp_updL f_p0_counts l2.toNatClampNeg (1 : Int64))))), (q_p0_earlier, .inl (cJ, 8, .inr (.inl f_p0_earlier))), (q_p0_covered, .inl (cI, 8, .inl f_p0_covered))]) hx hb hK hP hD hS 1 rfl hi4 dX5_countTwice_14 rfl (fun H locs hP hD hS => ?_)
        refine lv_iinc (v := (l2 + 1)) (lv' := [(2, .int (l2 + 1)), (0, .ref q_p0), (1, .int x1)]) hx hb dX5_countTwice_15 hl (k := 2) rfl rfl (by decide) rfl (fun ls hl => ?_)
        refine lv_goto (tgt := 2) hx hb dX5_countTwice_18 (by decide) ?_
        exact ih2 (l2 + 1) (vp_updL f_p0_counts l2.toNatClampNeg (1 : Int64)) _ _ _ h hP hD hS (lv_sub hl [1, 2, 0] rfl)
  obtain ⟨n2, h⟩ := h
  exact k2 f_p0_earlier n2 (0 : Int32) f_p0_counts _ _ _ h hP hD hS (lv_sub hl [1, 2, 0] rfl)
theorem hd_X5_isBeyond : yX5_isBeyond.cls = RX5 ∧ yX5_isBeyond.cls ≠ "java/lang/invoke/MethodHandle" ∧ yX5_isBeyond.cls ≠ "java/lang/invoke/VarHandle" ∧ (parseMethodDescriptor yX5_isBeyond.desc).map (fun d => d.parameters.length) = some 3 := by decide +kernel
set_option maxHeartbeats 4000000 in
set_option maxRecDepth 100000 in
theorem c_X5_isBeyond (l : Launch) (D : va_G) (cI cJ cB : ClassId) (tU tM tS : Nat) (q_p0 q_p0_covered q_p0_counts q_p0_earlier q_p0_closed q_p0_simple q_p0_coefficients : Nat) (sz : Nat) (x1 : Int32) (x2 : Int32) (x3 : Int32) (f_p0_counts : (Nat → Int64)) (f_p0_earlier : (Nat → Int64)) (v_p0_number : Int32) (v_p0_falling : Int32) (P : Int32 → Prop) (h : M_X5_isBeyond x1 x2 x3 f_p0_counts f_p0_earlier P) : Met l yX5_isBeyond wsX5_isBeyond ({ frames := 0, cells := 0, slots := 0, locals := 0 }) (va_Pc [.ref q_p0, .int x1, .int x2, .int x3] (zPre D cI cJ cB tU tM tS [(q_p0, .inr (3, [.int v_p0_number, .int v_p0_falling, .ref q_p0_covered, .ref q_p0_counts, .ref q_p0_earlier, .ref q_p0_closed, .ref q_p0_simple, .ref q_p0_coefficients])), (q_p0_counts, .inl (cJ, 8, .inr (.inl f_p0_counts))), (q_p0_earlier, .inl (cJ, 8, .inr (.inl f_p0_earlier)))] sz)) (va_Qi (fun (r : Int32) (u : Unit) => P r ) (fun u t => zPost D cI cJ cB (va_A [(q_p0, .inr (3, [.int v_p0_number, .int v_p0_falling, .ref q_p0_covered, .ref q_p0_counts, .ref q_p0_earlier, .ref q_p0_closed, .ref q_p0_simple, .ref q_p0_coefficients])), (q_p0_counts, .inl (cJ, 8, .inr (.inl f_p0_counts))), (q_p0_earlier, .inl (cJ, 8, .inr (.inl f_p0_earlier)))] sz) [(q_p0, .inr (3, [.int v_p0_number, .int v_p0_falling, .ref q_p0_covered, .ref q_p0_counts, .ref q_p0_earlier, .ref q_p0_closed, .ref q_p0_simple, .ref q_p0_coefficients])), (q_p0_counts, .inl (cJ, 8, .inr (.inl f_p0_counts))), (q_p0_earlier, .inl (cJ, 8, .inr (.inl f_p0_earlier)))] t) (va_A [(q_p0, .inr (3, [.int v_p0_number, .int v_p0_falling, .ref q_p0_covered, .ref q_p0_counts, .ref q_p0_earlier, .ref q_p0_closed, .ref q_p0_simple, .ref q_p0_coefficients])), (q_p0_counts, .inl (cJ, 8, .inr (.inl f_p0_counts))), (q_p0_earlier, .inl (cJ, 8, .inr (.inl f_p0_earlier)))] sz)) 0 0 (va_A [(q_p0, .inr (3, [.int v_p0_number, .int v_p0_falling, .ref q_p0_covered, .ref q_p0_counts, .ref q_p0_earlier, .ref q_p0_closed, .ref q_p0_simple, .ref q_p0_coefficients])), (q_p0_counts, .inl (cJ, 8, .inr (.inl f_p0_counts))), (q_p0_earlier, .inl (cJ, 8, .inr (.inl f_p0_earlier)))] sz) := by
  refine z_met (cc := cX5_isBeyond) (maxL := 8) (ret := (some .boolean)) (Qc := fun A => va_Qi (fun (r : Int32) (u : Unit) => P r ) (fun u t => zPost D cI cJ cB A [(q_p0, .inr (3, [.int v_p0_number, .int v_p0_falling, .ref q_p0_covered, .ref q_p0_counts, .ref q_p0_earlier, .ref q_p0_closed, .ref q_p0_simple, .ref q_p0_coefficients])), (q_p0_counts, .inl (cJ, 8, .inr (.inl f_p0_counts))), (q_p0_earlier, .inl (cJ, 8, .inr (.inl f_p0_earlier)))] t) A) (by decide) rfl [.ref q_p0, .int x1, .int x2, .int x3] (Nat.le_of_ble_eq_true rfl) ?_
  intro p e s m args below meth c A hx hb hr hts hown hml hlocks hA hX hK H locs hP hD hS ls hl Q hQ
  have hown : s.vm.findClass RX5 = some m.cls := hown
  have hl : lv_has ls 8 [(0, .ref q_p0), (1, .int x1), (2, .int x2), (3, .int x3)] := hl
  have hw0 : (Cond.fieldLink RX5 15 "ForcedRings$Pieces" "counts" "[J").before args s = true := hts _ (List.mem_of_getElem? (i := 1) rfl)
  have hw1 : (Cond.fieldLink RX5 19 "ForcedRings$Pieces" "earlier" "[J").before args s = true := hts _ (List.mem_of_getElem? (i := 2) rfl)
  have hinX5 : ∀ w ∈ wsX50, w ∈ wsX5_isBeyond := fun _ h => List.mem_cons_of_mem _ (List.mem_append_right _ h)
  refine lv_aload_n hx hb dX5_isBeyond_0 rfl (lv_at hl 0 rfl) ?_
  refine va_get (ci := 3) (C := RX5) (T := TX5) (N := 8) (v := .ref q_p0_counts) hx hb hts hinX5 hown hK hP 0 rfl rfl 3 (by decide) hw0 (fun _ h9 => h9) rfl dX5_isBeyond_1 ?_
  refine lv_iload_n hx hb dX5_isBeyond_4 rfl (lv_at hl 1 rfl) ?_
  obtain ⟨hi1, h⟩ := h
  refine va_lald hx hb hK hP 1 1 rfl rfl hi1 dX5_isBeyond_5 ?_
  refine lv_aload_n hx hb dX5_isBeyond_6 rfl (lv_at hl 0 rfl) ?_
  refine va_get (ci := 3) (C := RX5) (T := TX5) (N := 8) (v := .ref q_p0_earlier) hx hb hts hinX5 hown hK hP 0 rfl rfl 4 (by decide) hw1 (fun _ h9 => h9) rfl dX5_isBeyond_7 ?_
  refine lv_iload_n hx hb dX5_isBeyond_10 rfl (lv_at hl 2 rfl) ?_
  obtain ⟨hi2, h⟩ := h
  refine va_lald hx hb hK hP 2 1 rfl rfl hi2 dX5_isBeyond_11 ?_
  refine lv_lmul hx hb dX5_isBeyond_12 ?_
  refine lv_topl (fun y3 ey3 => ?_)
  have h := h y3 ey3
  refine lv_lstore (lv' := [(4, .long y3), (0, .ref q_p0), (1, .int x1), (2, .int x2), (3, .int x3)]) hx hb dX5_isBeyond_13 hl (by decide) rfl (fun ls hl => ?_)
  refine lv_aload_n hx hb dX5_isBeyond_15 rfl (lv_at hl 1 rfl) ?_
  refine va_get (ci := 3) (C := RX5) (T := TX5) (N := 8) (v := .ref q_p0_counts) hx hb hts hinX5 hown hK hP 0 rfl rfl 3 (by decide) hw0 (fun _ h9 => h9) rfl dX5_isBeyond_16 ?_
  refine lv_iload_n hx hb dX5_isBeyond_19 rfl (lv_at hl 3 rfl) ?_
  obtain ⟨hi4, h⟩ := h
  refine va_lald hx hb hK hP 1 1 rfl rfl hi4 dX5_isBeyond_20 ?_
  refine lv_aload_n hx hb dX5_isBeyond_21 rfl (lv_at hl 1 rfl) ?_
  refine va_get (ci := 3) (C := RX5) (T := TX5) (N := 8) (v := .ref q_p0_earlier) hx hb hts hinX5 hown hK hP 0 rfl rfl 4 (by decide) hw1 (fun _ h9 => h9) rfl dX5_isBeyond_22 ?_
  refine lv_iload_n hx hb dX5_isBeyond_25 rfl (lv_at hl 2 rfl) ?_
  obtain ⟨hi5, h⟩ := h
  refine va_lald hx hb hK hP 2 1 rfl rfl hi5 dX5_isBeyond_26 ?_
  refine lv_lmul hx hb dX5_isBeyond_27 ?_
  refine lv_topl (fun y6 ey6 => ?_)
  have h := h y6 ey6
  refine lv_lstore (lv' := [(6, .long y6), (4, .long y3), (0, .ref q_p0), (1, .int x1), (2, .int x2), (3, .int x3)]) hx hb dX5_isBeyond_28 hl (by decide) rfl (fun ls hl => ?_)
  refine lv_iload_n hx hb dX5_isBeyond_30 rfl (lv_at hl 5 rfl) ?_
  refine lv_if_eq (tgt := 50) hx hb dX5_isBeyond_31 (by decide) (fun c7 => ?_) (fun c7 => ?_)
  · have h := And.left h c7
    refine lv_lload hx hb dX5_isBeyond_50 (lv_at hl 1 rfl) ?_
    refine lv_lload hx hb dX5_isBeyond_52 (lv_at hl 0 rfl) ?_
    refine W.lcmp hx hb dX5_isBeyond_54 ?_
    refine lv_if_ge (tgt := 62) hx hb dX5_isBeyond_55 (by decide) (fun c8 => ?_) (fun c8 => ?_)
    · have h := And.left h c8
      refine lv_iconst (v := (0 : Int32)) hx hb dX5_isBeyond_62 (by decide) ?_
      exact z_iret hQ hx hb hr rfl hlocks hK () h hP hD hS dX5_isBeyond_63
    · have h := And.right h c8
      refine lv_iconst (v := (1 : Int32)) hx hb dX5_isBeyond_58 (by decide) ?_
      refine lv_goto (tgt := 63) hx hb dX5_isBeyond_59 (by decide) ?_
      exact z_iret hQ hx hb hr rfl hlocks hK () h hP hD hS dX5_isBeyond_63
  · have h := And.right h c7
    refine lv_lload hx hb dX5_isBeyond_34 (lv_at hl 1 rfl) ?_
    refine lv_lload hx hb dX5_isBeyond_36 (lv_at hl 0 rfl) ?_
    refine W.lcmp hx hb dX5_isBeyond_38 ?_
    refine lv_if_le (tgt := 46) hx hb dX5_isBeyond_39 (by decide) (fun c9 => ?_) (fun c9 => ?_)
    · have h := And.left h c9
      refine lv_iconst (v := (0 : Int32)) hx hb dX5_isBeyond_46 (by decide) ?_
      refine lv_goto (tgt := 63) hx hb dX5_isBeyond_47 (by decide) ?_
      exact z_iret hQ hx hb hr rfl hlocks hK () h hP hD hS dX5_isBeyond_63
    · have h := And.right h c9
      refine lv_iconst (v := (1 : Int32)) hx hb dX5_isBeyond_42 (by decide) ?_
      refine lv_goto (tgt := 63) hx hb dX5_isBeyond_43 (by decide) ?_
      exact z_iret hQ hx hb hr rfl hlocks hK () h hP hD hS dX5_isBeyond_63
theorem hd_X5_steepest : yX5_steepest.cls = RX5 ∧ yX5_steepest.cls ≠ "java/lang/invoke/MethodHandle" ∧ yX5_steepest.cls ≠ "java/lang/invoke/VarHandle" ∧ (parseMethodDescriptor yX5_steepest.desc).map (fun d => d.parameters.length) = some 1 := by decide +kernel
set_option maxHeartbeats 4000000 in
set_option maxRecDepth 100000 in
theorem c_X5_steepest (l : Launch) (D : va_G) (cI cJ cB : ClassId) (tU tM tS : Nat) (q_p0 q_p0_covered q_p0_counts q_p0_earlier q_p0_closed q_p0_simple q_p0_coefficients : Nat) (sz : Nat) (x1 : Int32) (v_p0_number : Int32) (f_p0_earlier : (Nat → Int64)) (f_p0_counts : (Nat → Int64)) (v_p0_falling : Int32) (P : Int32 → Prop) (h : M_X5_steepest x1 v_p0_number f_p0_earlier f_p0_counts P) : Met l yX5_steepest wsX5_steepest ({ frames := 1, cells := 0, slots := 0, locals := 27 }) (va_Pc [.ref q_p0, .int x1] (zPre D cI cJ cB tU tM tS [(q_p0, .inr (3, [.int v_p0_number, .int v_p0_falling, .ref q_p0_covered, .ref q_p0_counts, .ref q_p0_earlier, .ref q_p0_closed, .ref q_p0_simple, .ref q_p0_coefficients])), (q_p0_earlier, .inl (cJ, 8, .inr (.inl f_p0_earlier))), (q_p0_counts, .inl (cJ, 8, .inr (.inl f_p0_counts)))] sz)) (va_Qi (fun (r : Int32) (u : Unit) => P r ) (fun u t => zPost D cI cJ cB (va_A [(q_p0, .inr (3, [.int v_p0_number, .int v_p0_falling, .ref q_p0_covered, .ref q_p0_counts, .ref q_p0_earlier, .ref q_p0_closed, .ref q_p0_simple, .ref q_p0_coefficients])), (q_p0_earlier, .inl (cJ, 8, .inr (.inl f_p0_earlier))), (q_p0_counts, .inl (cJ, 8, .inr (.inl f_p0_counts)))] sz) [(q_p0, .inr (3, [.int v_p0_number, .int v_p0_falling, .ref q_p0_covered, .ref q_p0_counts, .ref q_p0_earlier, .ref q_p0_closed, .ref q_p0_simple, .ref q_p0_coefficients])), (q_p0_earlier, .inl (cJ, 8, .inr (.inl f_p0_earlier))), (q_p0_counts, .inl (cJ, 8, .inr (.inl f_p0_counts)))] t) (va_A [(q_p0, .inr (3, [.int v_p0_number, .int v_p0_falling, .ref q_p0_covered, .ref q_p0_counts, .ref q_p0_earlier, .ref q_p0_closed, .ref q_p0_simple, .ref q_p0_coefficients])), (q_p0_earlier, .inl (cJ, 8, .inr (.inl f_p0_earlier))), (q_p0_counts, .inl (cJ, 8, .inr (.inl f_p0_counts)))] sz)) 0 0 (va_A [(q_p0, .inr (3, [.int v_p0_number, .int v_p0_falling, .ref q_p0_covered, .ref q_p0_counts, .ref q_p0_earlier, .ref q_p0_closed, .ref q_p0_simple, .ref q_p0_coefficients])), (q_p0_earlier, .inl (cJ, 8, .inr (.inl f_p0_earlier))), (q_p0_counts, .inl (cJ, 8, .inr (.inl f_p0_counts)))] sz) := by
  refine z_met (cc := cX5_steepest) (maxL := 4) (ret := (some .int)) (Qc := fun A => va_Qi (fun (r : Int32) (u : Unit) => P r ) (fun u t => zPost D cI cJ cB A [(q_p0, .inr (3, [.int v_p0_number, .int v_p0_falling, .ref q_p0_covered, .ref q_p0_counts, .ref q_p0_earlier, .ref q_p0_closed, .ref q_p0_simple, .ref q_p0_coefficients])), (q_p0_earlier, .inl (cJ, 8, .inr (.inl f_p0_earlier))), (q_p0_counts, .inl (cJ, 8, .inr (.inl f_p0_counts)))] t) A) (by decide) rfl [.ref q_p0, .int x1] (Nat.le_of_ble_eq_true rfl) ?_
  intro p e s m args below meth c A hx hb hr hts hown hml hlocks hA hX hK H locs hP hD hS ls hl Q hQ
  have hown : s.vm.findClass RX5 = some m.cls := hown
  have hl : lv_has ls 4 [(0, .ref q_p0), (1, .int x1)] := hl
  have hw0 : (Cond.fieldLink RX5 37 "ForcedRings$Pieces" "number" "I").before args s = true := hts _ (List.mem_of_getElem? (i := 1) rfl)
  have hw1 : (Cond.fieldLink RX5 19 "ForcedRings$Pieces" "earlier" "[J").before args s = true := hts _ (List.mem_of_getElem? (i := 2) rfl)
  have hinX5 : ∀ w ∈ wsX50, w ∈ wsX5_steepest := fun _ h => List.mem_cons_of_mem _ (List.mem_append_right _ h)
  refine lv_iconst (v := (-1 : Int32)) hx hb dX5_steepest_0 (by decide) ?_
  refine lv_istore_n (lv' := [(2, .int (-1 : Int32)), (0, .ref q_p0), (1, .int x1)]) hx hb dX5_steepest_1 rfl hl (by decide) rfl (fun ls hl => ?_)
  refine lv_iconst (v := (0 : Int32)) hx hb dX5_steepest_2 (by decide) ?_
  refine lv_istore_n (lv' := [(3, .int (0 : Int32)), (2, .int (-1 : Int32)), (0, .ref q_p0), (1, .int x1)]) hx hb dX5_steepest_3 rfl hl (by decide) rfl (fun ls hl => ?_)
  have k4 : ∀  (n4 : Nat) (l2 : Int32) (l3 : Int32) (H : Heap) (locs : List Loc) (ls : Array Slot), LP2 (M_X5_steepest_l4 x1 v_p0_number f_p0_earlier f_p0_counts P ) n4 l2 l3 → va_P D vwCl [(q_p0, .inr (3, [.int v_p0_number, .int v_p0_falling, .ref q_p0_covered, .ref q_p0_counts, .ref q_p0_earlier, .ref q_p0_closed, .ref q_p0_simple, .ref q_p0_coefficients])), (q_p0_earlier, .inl (cJ, 8, .inr (.inl f_p0_earlier))), (q_p0_counts, .inl (cJ, 8, .inr (.inl f_p0_counts)))] H → va_D A [(q_p0, .inr (3, [.int v_p0_number, .int v_p0_falling, .ref q_p0_covered, .ref q_p0_counts, .ref q_p0_earlier, .ref q_p0_closed, .ref q_p0_simple, .ref q_p0_coefficients])), (q_p0_earlier, .inl (cJ, 8, .inr (.inl f_p0_earlier))), (q_p0_counts, .inl (cJ, 8, .inr (.inl f_p0_counts)))] → va_S A s.heap H locs → lv_has ls 4 [(0, .ref q_p0), (1, .int x1), (2, .int l2), (3, .int l3)] → W p l e { frames := 1, cells := 0, slots := 0, locals := 27 } s m args below meth c H locs 0 0 Q (F0 m 4 ls []) := by
    intro  n4
    induction n4 with
    | zero =>
      intro l2 l3 H locs ls h
      exact False.elim h
    | succ n4 ih4 =>
      intro l2 l3 H locs ls h hP hD hS hl
      have h : M_X5_steepest_l4 x1 v_p0_number f_p0_earlier f_p0_counts P  (LP2 (M_X5_steepest_l4 x1 v_p0_number f_p0_earlier f_p0_counts P ) n4) l2 l3 := h
      refine lv_iload_n hx hb dX5_steepest_4 rfl (lv_at hl 3 rfl) ?_
      refine lv_aload_n hx hb dX5_steepest_5 rfl (lv_at hl 0 rfl) ?_
      refine va_get (ci := 3) (C := RX5) (T := TX5) (N := 8) (v := .int v_p0_number) hx hb hts hinX5 hown hK hP 0 rfl rfl 0 (by decide) hw0 (fun _ h9 => h9) rfl dX5_steepest_6 ?_
      refine lv_icmp_ge (tgt := 45) hx hb dX5_steepest_9 (by decide) (fun c1 => ?_) (fun c1 => ?_)
      · have h := And.left h c1
        refine lv_iload_n hx hb dX5_steepest_45 rfl (lv_at hl 2 rfl) ?_
        exact z_iret hQ hx hb hr rfl hlocks hK () h hP hD hS dX5_steepest_46
      · have h := And.right h c1
        refine lv_aload_n hx hb dX5_steepest_12 rfl (lv_at hl 0 rfl) ?_
        refine va_get (ci := 3) (C := RX5) (T := TX5) (N := 8) (v := .ref q_p0_earlier) hx hb hts hinX5 hown hK hP 0 rfl rfl 4 (by decide) hw1 (fun _ h9 => h9) rfl dX5_steepest_13 ?_
        refine lv_iload_n hx hb dX5_steepest_16 rfl (lv_at hl 3 rfl) ?_
        obtain ⟨hi2, h⟩ := h
        refine va_lald hx hb hK hP 1 1 rfl rfl hi2 dX5_steepest_17 ?_
        refine lv_lconst (v := (0 : Int64)) hx hb dX5_steepest_18 (by decide) ?_
        refine W.lcmp hx hb dX5_steepest_19 ?_
        refine lv_if_le (tgt := 39) hx hb dX5_steepest_20 (by decide) (fun c3 => ?_) (fun c3 => ?_)
        · have h := And.left h c3
          refine lv_iinc (v := (l3 + 1)) (lv' := [(3, .int (l3 + 1)), (0, .ref q_p0), (1, .int x1), (2, .int l2)]) hx hb dX5_steepest_39 hl (k := 3) rfl rfl (by decide) rfl (fun ls hl => ?_)
          refine lv_goto (tgt := 4) hx hb dX5_steepest_42 (by decide) ?_
          exact ih4 l2 (l3 + 1) _ _ _ h hP hD hS (lv_sub hl [1, 2, 3, 0] rfl)
        · have h := And.right h c3
          refine lv_iload_n hx hb dX5_steepest_23 rfl (lv_at hl 2 rfl) ?_
          refine lv_if_lt (tgt := 37) hx hb dX5_steepest_24 (by decide) (fun c4 => ?_) (fun c4 => ?_)
          · have h := And.left h c4
            refine lv_iload_n hx hb dX5_steepest_37 rfl (lv_at hl 3 rfl) ?_
            refine lv_istore_n (lv' := [(2, .int l3), (0, .ref q_p0), (1, .int x1), (3, .int l3)]) hx hb dX5_steepest_38 rfl hl (by decide) rfl (fun ls hl => ?_)
            refine lv_iinc (v := (l3 + 1)) (lv' := [(3, .int (l3 + 1)), (2, .int l3), (0, .ref q_p0), (1, .int x1)]) hx hb dX5_steepest_39 hl (k := 3) rfl rfl (by decide) rfl (fun ls hl => ?_)
            refine lv_goto (tgt := 4) hx hb dX5_steepest_42 (by decide) ?_
            exact ih4 l3 (l3 + 1) _ _ _ h hP hD hS (lv_sub hl [2, 3, 1, 0] rfl)
          · have h := And.right h c4
            refine lv_aload_n hx hb dX5_steepest_27 rfl (lv_at hl 0 rfl) ?_
            refine lv_iload_n hx hb dX5_steepest_28 rfl (lv_at hl 3 rfl) ?_
            refine lv_iload_n hx hb dX5_steepest_29 rfl (lv_at hl 2 rfl) ?_
            refine lv_iload_n hx hb dX5_steepest_30 rfl (lv_at hl 1 rfl) ?_
            refine z_cVi (As := [.int l3, .int l2, .int x1]) (rest := []) (wr := []) (wn := fun u => [(q_p0, .inr (3, [.int v_p0_number, .int v_p0_falling, .ref q_p0_covered, .ref q_p0_counts, .ref q_p0_earlier, .ref q_p0_closed, .ref q_p0_simple, .ref q_p0_coefficients])), (q_p0_earlier, .inl (cJ, 8, .inr (.inl f_p0_earlier))), (q_p0_counts, .inl (cJ, 8, .inr (.inl f_p0_counts)))]) (c_X5_isBeyond l D cI cJ cB tU tM tS q_p0 q_p0_covered q_p0_counts q_p0_earlier q_p0_closed q_p0_simple q_p0_coefficients H.size l3 l2 x1 f_p0_counts f_p0_earlier v_p0_number v_p0_falling _ h) ⟨hx, hb, hml, hown, hts⟩ (cwV 3 hts gX5_steepest_X5_isBeyond rfl rfl rfl hd_X5_isBeyond ⟨Nat.le_of_ble_eq_true rfl, Nat.le_of_ble_eq_true rfl⟩) hX hK hP hD hS hA [0, 2, 1] [] [0, 2, 1] rfl rfl rfl (by decide) (fun _ => rfl) (q0 := 0) (ci := 3) rfl rfl rfl hl.1 rfl (Nat.le_of_ble_eq_true rfl) ⟨Nat.le_refl _, Nat.le_refl _⟩ dX5_steepest_31 (fun r5 u5 H locs h hP hD hS => ?_)
            refine lv_if_eq (tgt := 39) hx hb dX5_steepest_34 (by decide) (fun c6 => ?_) (fun c6 => ?_)
            · have h := And.left h c6
              refine lv_iinc (v := (l3 + 1)) (lv' := [(3, .int (l3 + 1)), (0, .ref q_p0), (1, .int x1), (2, .int l2)]) hx hb dX5_steepest_39 hl (k := 3) rfl rfl (by decide) rfl (fun ls hl => ?_)
              refine lv_goto (tgt := 4) hx hb dX5_steepest_42 (by decide) ?_
              exact ih4 l2 (l3 + 1) _ _ _ h hP hD hS (lv_sub hl [1, 2, 3, 0] rfl)
            · have h := And.right h c6
              refine lv_iload_n hx hb dX5_steepest_37 rfl (lv_at hl 3 rfl) ?_
              refine lv_istore_n (lv' := [(2, .int l3), (0, .ref q_p0), (1, .int x1), (3, .int l3)]) hx hb dX5_steepest_38 rfl hl (by decide) rfl (fun ls hl => ?_)
              refine lv_iinc (v := (l3 + 1)) (lv' := [(3, .int (l3 + 1)), (2, .int l3), (0, .ref q_p0), (1, .int x1)]) hx hb dX5_steepest_39 hl (k := 3) rfl rfl (by decide) rfl (fun ls hl => ?_)
              refine lv_goto (tgt := 4) hx hb dX5_steepest_42 (by decide) ?_
              exact ih4 l3 (l3 + 1) _ _ _ h hP hD hS (lv_sub hl [2, 3, 1, 0] rfl)
  obtain ⟨n4, h⟩ := h
  exact k4  n4 (-1 : Int32) (0 : Int32) _ _ _ h hP hD hS (lv_sub hl [2, 3, 1, 0] rfl)
theorem hd_X5_commonDivisor : yX5_commonDivisor.cls = RX5 ∧ yX5_commonDivisor.cls ≠ "java/lang/invoke/MethodHandle" ∧ yX5_commonDivisor.cls ≠ "java/lang/invoke/VarHandle" ∧ (parseMethodDescriptor yX5_commonDivisor.desc).map (fun d => d.parameters.length) = some 2 := by decide +kernel
set_option maxHeartbeats 4000000 in
set_option maxRecDepth 100000 in
theorem c_X5_commonDivisor (l : Launch) (D : va_G) (cI cJ cB : ClassId) (tU tM tS : Nat) (sz : Nat) (x0 : Int64) (x1 : Int64)  (P : Int64 → Prop) (h : M_X5_commonDivisor x0 x1 P) : Met l yX5_commonDivisor wsX5_commonDivisor ({ frames := 0, cells := 0, slots := 0, locals := 0 }) (va_Pc [.long x0, .long x1] (zPre D cI cJ cB tU tM tS [] sz)) (va_Ql (fun (r : Int64) (u : Unit) => P r ) (fun u t => zPost D cI cJ cB (va_A [] sz) [] t) (va_A [] sz)) 0 0 (va_A [] sz) := by
  refine z_met (cc := cX5_commonDivisor) (maxL := 11) (ret := (some .long)) (Qc := fun A => va_Ql (fun (r : Int64) (u : Unit) => P r ) (fun u t => zPost D cI cJ cB A [] t) A) (by decide) rfl [.long x0, .long x1] (Nat.le_of_ble_eq_true rfl) ?_
  intro p e s m args below meth c A hx hb hr hts hown hml hlocks hA hX hK H locs hP hD hS ls hl Q hQ
  have hown : s.vm.findClass RX5 = some m.cls := hown
  have hl : lv_has ls 11 [(0, .long x0), (2, .long x1)] := hl
  refine lv_lload_n hx hb dX5_commonDivisor_0 rfl (lv_at hl 0 rfl) ?_
  refine lv_lstore (lv' := [(4, .long x0), (0, .long x0), (2, .long x1)]) hx hb dX5_commonDivisor_1 hl (by decide) rfl (fun ls hl => ?_)
  refine lv_lload_n hx hb dX5_commonDivisor_3 rfl (lv_at hl 2 rfl) ?_
  refine lv_lstore (lv' := [(6, .long x1), (4, .long x0), (0, .long x0), (2, .long x1)]) hx hb dX5_commonDivisor_4 hl (by decide) rfl (fun ls hl => ?_)
  refine lv_iconst (v := (0 : Int32)) hx hb dX5_commonDivisor_6 (by decide) ?_
  refine lv_istore (lv' := [(8, .int (0 : Int32)), (6, .long x1), (4, .long x0), (0, .long x0), (2, .long x1)]) hx hb dX5_commonDivisor_7 hl (by decide) rfl (fun ls hl => ?_)
  have k9 : ∀  (n9 : Nat) (l4 : Int64) (l6 : Int64) (l8 : Int32) (H : Heap) (locs : List Loc) (ls : Array Slot), LP3 (M_X5_commonDivisor_l9 x0 x1 P ) n9 l4 l6 l8 → va_P D vwCl [] H → va_D A [] → va_S A s.heap H locs → lv_has ls 11 [(4, .long l4), (6, .long l6), (8, .int l8)] → W p l e { frames := 0, cells := 0, slots := 0, locals := 0 } s m args below meth c H locs 0 0 Q (F0 m 9 ls []) := by
    intro  n9
    induction n9 with
    | zero =>
      intro l4 l6 l8 H locs ls h
      exact False.elim h
    | succ n9 ih9 =>
      intro l4 l6 l8 H locs ls h hP hD hS hl
      have h : M_X5_commonDivisor_l9 x0 x1 P  (LP3 (M_X5_commonDivisor_l9 x0 x1 P ) n9) l4 l6 l8 := h
      refine lv_iload hx hb dX5_commonDivisor_9 (lv_at hl 2 rfl) ?_
      refine lv_sipush (v := (200 : Int32)) hx hb dX5_commonDivisor_11 (by decide) ?_
      refine lv_icmp_ge (tgt := 45) hx hb dX5_commonDivisor_14 (by decide) (fun c1 => ?_) (fun c1 => ?_)
      · have h := And.left h c1
        refine lv_lload hx hb dX5_commonDivisor_45 (lv_at hl 0 rfl) ?_
        exact z_lret hQ hx hb hr hlocks hK () h hP hD hS dX5_commonDivisor_47
      · have h := And.right h c1
        refine lv_lload hx hb dX5_commonDivisor_17 (lv_at hl 1 rfl) ?_
        refine lv_lconst (v := (0 : Int64)) hx hb dX5_commonDivisor_19 (by decide) ?_
        refine W.lcmp hx hb dX5_commonDivisor_20 ?_
        refine lv_if_eq (tgt := 45) hx hb dX5_commonDivisor_21 (by decide) (fun c2 => ?_) (fun c2 => ?_)
        · have h := And.left h c2
          refine lv_lload hx hb dX5_commonDivisor_45 (lv_at hl 0 rfl) ?_
          exact z_lret hQ hx hb hr hlocks hK () h hP hD hS dX5_commonDivisor_47
        · have h := And.right h c2
          refine lv_lload hx hb dX5_commonDivisor_24 (lv_at hl 0 rfl) ?_
          refine lv_lload hx hb dX5_commonDivisor_26 (lv_at hl 1 rfl) ?_
          obtain ⟨hn3, h⟩ := h
          refine lv_lrem hx hb dX5_commonDivisor_28 hn3 ?_
          refine lv_lstore (lv' := [(9, .long (l4 - l4 / l6 * l6)), (4, .long l4), (6, .long l6), (8, .int l8)]) hx hb dX5_commonDivisor_29 hl (by decide) rfl (fun ls hl => ?_)
          refine lv_lload hx hb dX5_commonDivisor_31 (lv_at hl 2 rfl) ?_
          refine lv_lstore (lv' := [(4, .long l6), (9, .long (l4 - l4 / l6 * l6)), (6, .long l6), (8, .int l8)]) hx hb dX5_commonDivisor_33 hl (by decide) rfl (fun ls hl => ?_)
          refine lv_lload hx hb dX5_commonDivisor_35 (lv_at hl 1 rfl) ?_
          refine lv_lstore (lv' := [(6, .long (l4 - l4 / l6 * l6)), (4, .long l6), (9, .long (l4 - l4 / l6 * l6)), (8, .int l8)]) hx hb dX5_commonDivisor_37 hl (by decide) rfl (fun ls hl => ?_)
          refine lv_iinc (v := (l8 + 1)) (lv' := [(8, .int (l8 + 1)), (6, .long (l4 - l4 / l6 * l6)), (4, .long l6), (9, .long (l4 - l4 / l6 * l6))]) hx hb dX5_commonDivisor_39 hl (k := 3) rfl rfl (by decide) rfl (fun ls hl => ?_)
          refine lv_goto (tgt := 9) hx hb dX5_commonDivisor_42 (by decide) ?_
          exact ih9 l6 (l4 - l4 / l6 * l6) (l8 + 1) _ _ _ h hP hD hS (lv_sub hl [2, 1, 0] rfl)
  obtain ⟨n9, h⟩ := h
  exact k9  n9 x0 x1 (0 : Int32) _ _ _ h hP hD hS (lv_sub hl [2, 1, 0] rfl)
theorem hd_X5_fractionPart : yX5_fractionPart.cls = RX5 ∧ yX5_fractionPart.cls ≠ "java/lang/invoke/MethodHandle" ∧ yX5_fractionPart.cls ≠ "java/lang/invoke/VarHandle" ∧ (parseMethodDescriptor yX5_fractionPart.desc).map (fun d => d.parameters.length) = some 2 := by decide +kernel
set_option maxHeartbeats 4000000 in
set_option maxRecDepth 100000 in
theorem c_X5_fractionPart (l : Launch) (D : va_G) (cI cJ cB : ClassId) (tU tM tS : Nat) (q_p0 q_p0_covered q_p0_counts q_p0_earlier q_p0_closed q_p0_simple q_p0_coefficients : Nat) (sz : Nat) (x1 : Int32) (x2 : Int32) (f_p0_earlier : (Nat → Int64)) (f_p0_counts : (Nat → Int64)) (v_p0_number : Int32) (v_p0_falling : Int32) (P : Int64 → Prop) (h : M_X5_fractionPart x1 x2 f_p0_earlier f_p0_counts P) : Met l yX5_fractionPart wsX5_fractionPart ({ frames := 1, cells := 0, slots := 0, locals := 30 }) (va_Pc [.ref q_p0, .int x1, .int x2] (zPre D cI cJ cB tU tM tS [(q_p0, .inr (3, [.int v_p0_number, .int v_p0_falling, .ref q_p0_covered, .ref q_p0_counts, .ref q_p0_earlier, .ref q_p0_closed, .ref q_p0_simple, .ref q_p0_coefficients])), (q_p0_earlier, .inl (cJ, 8, .inr (.inl f_p0_earlier))), (q_p0_counts, .inl (cJ, 8, .inr (.inl f_p0_counts)))] sz)) (va_Ql (fun (r : Int64) (u : Unit) => P r ) (fun u t => zPost D cI cJ cB (va_A [(q_p0, .inr (3, [.int v_p0_number, .int v_p0_falling, .ref q_p0_covered, .ref q_p0_counts, .ref q_p0_earlier, .ref q_p0_closed, .ref q_p0_simple, .ref q_p0_coefficients])), (q_p0_earlier, .inl (cJ, 8, .inr (.inl f_p0_earlier))), (q_p0_counts, .inl (cJ, 8, .inr (.inl f_p0_counts)))] sz) [(q_p0, .inr (3, [.int v_p0_number, .int v_p0_falling, .ref q_p0_covered, .ref q_p0_counts, .ref q_p0_earlier, .ref q_p0_closed, .ref q_p0_simple, .ref q_p0_coefficients])), (q_p0_earlier, .inl (cJ, 8, .inr (.inl f_p0_earlier))), (q_p0_counts, .inl (cJ, 8, .inr (.inl f_p0_counts)))] t) (va_A [(q_p0, .inr (3, [.int v_p0_number, .int v_p0_falling, .ref q_p0_covered, .ref q_p0_counts, .ref q_p0_earlier, .ref q_p0_closed, .ref q_p0_simple, .ref q_p0_coefficients])), (q_p0_earlier, .inl (cJ, 8, .inr (.inl f_p0_earlier))), (q_p0_counts, .inl (cJ, 8, .inr (.inl f_p0_counts)))] sz)) 0 0 (va_A [(q_p0, .inr (3, [.int v_p0_number, .int v_p0_falling, .ref q_p0_covered, .ref q_p0_counts, .ref q_p0_earlier, .ref q_p0_closed, .ref q_p0_simple, .ref q_p0_coefficients])), (q_p0_earlier, .inl (cJ, 8, .inr (.inl f_p0_earlier))), (q_p0_counts, .inl (cJ, 8, .inr (.inl f_p0_counts)))] sz) := by
  refine z_met (cc := cX5_fractionPart) (maxL := 7) (ret := (some .long)) (Qc := fun A => va_Ql (fun (r : Int64) (u : Unit) => P r ) (fun u t => zPost D cI cJ cB A [(q_p0, .inr (3, [.int v_p0_number, .int v_p0_falling, .ref q_p0_covered, .ref q_p0_counts, .ref q_p0_earlier, .ref q_p0_closed, .ref q_p0_simple, .ref q_p0_coefficients])), (q_p0_earlier, .inl (cJ, 8, .inr (.inl f_p0_earlier))), (q_p0_counts, .inl (cJ, 8, .inr (.inl f_p0_counts)))] t) A) (by decide) rfl [.ref q_p0, .int x1, .int x2] (Nat.le_of_ble_eq_true rfl) ?_
  intro p e s m args below meth c A hx hb hr hts hown hml hlocks hA hX hK H locs hP hD hS ls hl Q hQ
  have hown : s.vm.findClass RX5 = some m.cls := hown
  have hl : lv_has ls 7 [(0, .ref q_p0), (1, .int x1), (2, .int x2)] := hl
  have hw0 : (Cond.fieldLink RX5 15 "ForcedRings$Pieces" "counts" "[J").before args s = true := hts _ (List.mem_of_getElem? (i := 1) rfl)
  have hw1 : (Cond.fieldLink RX5 19 "ForcedRings$Pieces" "earlier" "[J").before args s = true := hts _ (List.mem_of_getElem? (i := 2) rfl)
  have hinX5 : ∀ w ∈ wsX50, w ∈ wsX5_fractionPart := fun _ h => List.mem_cons_of_mem _ (List.mem_append_right _ h)
  refine lv_iload_n hx hb dX5_fractionPart_0 rfl (lv_at hl 2 rfl) ?_
  have k19 : ∀ (s0 : Int64) (H : Heap) (locs : List Loc) (ls : Array Slot), M_X5_fractionPart_b19 x1 x2 f_p0_earlier f_p0_counts P s0 → va_P D vwCl [(q_p0, .inr (3, [.int v_p0_number, .int v_p0_falling, .ref q_p0_covered, .ref q_p0_counts, .ref q_p0_earlier, .ref q_p0_closed, .ref q_p0_simple, .ref q_p0_coefficients])), (q_p0_earlier, .inl (cJ, 8, .inr (.inl f_p0_earlier))), (q_p0_counts, .inl (cJ, 8, .inr (.inl f_p0_counts)))] H → va_D A [(q_p0, .inr (3, [.int v_p0_number, .int v_p0_falling, .ref q_p0_covered, .ref q_p0_counts, .ref q_p0_earlier, .ref q_p0_closed, .ref q_p0_simple, .ref q_p0_coefficients])), (q_p0_earlier, .inl (cJ, 8, .inr (.inl f_p0_earlier))), (q_p0_counts, .inl (cJ, 8, .inr (.inl f_p0_counts)))] → va_S A s.heap H locs → lv_has ls 7 [(0, .ref q_p0), (1, .int x1)] → W p l e { frames := 1, cells := 0, slots := 0, locals := 30 } s m args below meth c H locs 0 0 Q (F0 m 19 ls [.long s0]) := by
    intro s0 H locs ls h hP hD hS hl
    refine lv_lstore_n (lv' := [(3, .long s0), (0, .ref q_p0), (1, .int x1)]) hx hb dX5_fractionPart_19 rfl hl (by decide) rfl (fun ls hl => ?_)
    refine lv_aload_n hx hb dX5_fractionPart_20 rfl (lv_at hl 1 rfl) ?_
    refine va_get (ci := 3) (C := RX5) (T := TX5) (N := 8) (v := .ref q_p0_counts) hx hb hts hinX5 hown hK hP 0 rfl rfl 3 (by decide) hw0 (fun _ h9 => h9) rfl dX5_fractionPart_21 ?_
    refine lv_iload_n hx hb dX5_fractionPart_24 rfl (lv_at hl 2 rfl) ?_
    obtain ⟨hi1, h⟩ := h
    refine va_lald hx hb hK hP 2 1 rfl rfl hi1 dX5_fractionPart_25 ?_
    refine lv_aload_n hx hb dX5_fractionPart_26 rfl (lv_at hl 1 rfl) ?_
    refine va_get (ci := 3) (C := RX5) (T := TX5) (N := 8) (v := .ref q_p0_earlier) hx hb hts hinX5 hown hK hP 0 rfl rfl 4 (by decide) hw1 (fun _ h9 => h9) rfl dX5_fractionPart_27 ?_
    refine lv_iload_n hx hb dX5_fractionPart_30 rfl (lv_at hl 2 rfl) ?_
    obtain ⟨hi2, h⟩ := h
    refine va_lald hx hb hK hP 1 1 rfl rfl hi2 dX5_fractionPart_31 ?_
    refine z_cSl (As := [.long (f_p0_counts x1.toNatClampNeg), .long (f_p0_earlier x1.toNatClampNeg)]) (rest := []) (wr := [(q_p0, .inr (3, [.int v_p0_number, .int v_p0_falling, .ref q_p0_covered, .ref q_p0_counts, .ref q_p0_earlier, .ref q_p0_closed, .ref q_p0_simple, .ref q_p0_coefficients])), (q_p0_earlier, .inl (cJ, 8, .inr (.inl f_p0_earlier))), (q_p0_counts, .inl (cJ, 8, .inr (.inl f_p0_counts)))]) (wn := fun u => [(q_p0, .inr (3, [.int v_p0_number, .int v_p0_falling, .ref q_p0_covered, .ref q_p0_counts, .ref q_p0_earlier, .ref q_p0_closed, .ref q_p0_simple, .ref q_p0_coefficients])), (q_p0_earlier, .inl (cJ, 8, .inr (.inl f_p0_earlier))), (q_p0_counts, .inl (cJ, 8, .inr (.inl f_p0_counts)))]) (c_X5_commonDivisor l D cI cJ cB tU tM tS  H.size (f_p0_counts x1.toNatClampNeg) (f_p0_earlier x1.toNatClampNeg) _ h) ⟨hx, hb, hml, hown, hts⟩ (va_cwS 2 hts gX5_fractionPart_X5_commonDivisor rfl rfl rfl hd_X5_commonDivisor.2 ⟨Nat.le_of_ble_eq_true rfl, Nat.le_of_ble_eq_true rfl⟩) hX hK hP hD hS hA [] [0, 1, 2] [0, 1, 2] rfl rfl rfl (by decide) (fun _ => rfl) rfl hl.1 rfl (Nat.le_of_ble_eq_true rfl) ⟨Nat.le_refl _, Nat.le_refl _⟩ dX5_fractionPart_32 (fun r3 u3 H locs h hP hD hS => ?_)
    refine lv_lstore (lv' := [(5, .long r3), (3, .long s0), (0, .ref q_p0), (1, .int x1)]) hx hb dX5_fractionPart_35 hl (by decide) rfl (fun ls hl => ?_)
    refine lv_lload hx hb dX5_fractionPart_37 (lv_at hl 0 rfl) ?_
    refine lv_lconst (v := (0 : Int64)) hx hb dX5_fractionPart_39 (by decide) ?_
    refine W.lcmp hx hb dX5_fractionPart_40 ?_
    refine lv_if_le (tgt := 51) hx hb dX5_fractionPart_41 (by decide) (fun c4 => ?_) (fun c4 => ?_)
    · have h := And.left h c4
      refine lv_lload_n hx hb dX5_fractionPart_51 rfl (lv_at hl 1 rfl) ?_
      exact z_lret hQ hx hb hr hlocks hK () h hP hD hS dX5_fractionPart_52
    · have h := And.right h c4
      refine lv_lload_n hx hb dX5_fractionPart_44 rfl (lv_at hl 1 rfl) ?_
      refine lv_lload hx hb dX5_fractionPart_45 (lv_at hl 0 rfl) ?_
      obtain ⟨hn5, h⟩ := h
      refine lv_ldiv hx hb dX5_fractionPart_47 hn5 ?_
      refine lv_goto (tgt := 52) hx hb dX5_fractionPart_48 (by decide) ?_
      exact z_lret hQ hx hb hr hlocks hK () h hP hD hS dX5_fractionPart_52
  refine lv_if_ne (tgt := 13) hx hb dX5_fractionPart_1 (by decide) (fun c6 => ?_) (fun c6 => ?_)
  · have h := And.right h c6
    refine lv_aload_n hx hb dX5_fractionPart_13 rfl (lv_at hl 0 rfl) ?_
    refine va_get (ci := 3) (C := RX5) (T := TX5) (N := 8) (v := .ref q_p0_earlier) hx hb hts hinX5 hown hK hP 0 rfl rfl 4 (by decide) hw1 (fun _ h9 => h9) rfl dX5_fractionPart_14 ?_
    refine lv_iload_n hx hb dX5_fractionPart_17 rfl (lv_at hl 1 rfl) ?_
    obtain ⟨hi7, h⟩ := h
    refine va_lald hx hb hK hP 1 1 rfl rfl hi7 dX5_fractionPart_18 ?_
    exact k19 (f_p0_earlier x1.toNatClampNeg) _ _ _ h hP hD hS (lv_sub hl [0, 1] rfl)
  · have h := And.left h c6
    refine lv_aload_n hx hb dX5_fractionPart_4 rfl (lv_at hl 0 rfl) ?_
    refine va_get (ci := 3) (C := RX5) (T := TX5) (N := 8) (v := .ref q_p0_counts) hx hb hts hinX5 hown hK hP 0 rfl rfl 3 (by decide) hw0 (fun _ h9 => h9) rfl dX5_fractionPart_5 ?_
    refine lv_iload_n hx hb dX5_fractionPart_8 rfl (lv_at hl 1 rfl) ?_
    obtain ⟨hi8, h⟩ := h
    refine va_lald hx hb hK hP 2 1 rfl rfl hi8 dX5_fractionPart_9 ?_
    refine lv_goto (tgt := 19) hx hb dX5_fractionPart_10 (by decide) ?_
    exact k19 (f_p0_counts x1.toNatClampNeg) _ _ _ h hP hD hS (lv_sub hl [0, 1] rfl)
theorem hd_X5_coefficient : yX5_coefficient.cls = RX5 ∧ yX5_coefficient.cls ≠ "java/lang/invoke/MethodHandle" ∧ yX5_coefficient.cls ≠ "java/lang/invoke/VarHandle" ∧ (parseMethodDescriptor yX5_coefficient.desc).map (fun d => d.parameters.length) = some 1 := by decide +kernel
set_option maxHeartbeats 4000000 in
set_option maxRecDepth 100000 in
theorem c_X5_coefficient (l : Launch) (D : va_G) (cI cJ cB : ClassId) (tU tM tS : Nat) (q_p0 q_p0_covered q_p0_counts q_p0_earlier q_p0_closed q_p0_simple q_p0_coefficients : Nat) (sz : Nat) (x1 : Int32) (v_p0_number : Int32) (f_p0_closed : (Nat → Int64)) (f_p0_simple : (Nat → Int64)) (f_p0_counts : (Nat → Int64)) (f_p0_earlier : (Nat → Int64)) (f_p0_covered : (Nat → Int32)) (f_p0_coefficients : (Nat → Int64)) (v_p0_falling : Int32) (P : Int64 → (Nat → Int64) → (Nat → Int64) → (Nat → Int64) → (Nat → Int64) → (Nat → Int64) → Prop) (h : M_X5_coefficient x1 v_p0_number f_p0_closed f_p0_simple f_p0_counts f_p0_earlier f_p0_covered f_p0_coefficients P) : Met l yX5_coefficient wsX5_coefficient ({ frames := 3, cells := 0, slots := 0, locals := 73 }) (va_Pc [.ref q_p0, .int x1] (zPre D cI cJ cB tU tM tS [(q_p0, .inr (3, [.int v_p0_number, .int v_p0_falling, .ref q_p0_covered, .ref q_p0_counts, .ref q_p0_earlier, .ref q_p0_closed, .ref q_p0_simple, .ref q_p0_coefficients])), (q_p0_closed, .inl (cJ, 31, .inr (.inl f_p0_closed))), (q_p0_simple, .inl (cJ, 31, .inr (.inl f_p0_simple))), (q_p0_counts, .inl (cJ, 8, .inr (.inl f_p0_counts))), (q_p0_earlier, .inl (cJ, 8, .inr (.inl f_p0_earlier))), (q_p0_covered, .inl (cI, 8, .inl f_p0_covered)), (q_p0_coefficients, .inl (cJ, 9, .inr (.inl f_p0_coefficients)))] sz)) (va_Ql (fun (r : Int64) (u : (Nat → Int64) × (Nat → Int64) × (Nat → Int64) × (Nat → Int64) × (Nat → Int64)) => P r u.1 u.2.1 u.2.2.1 u.2.2.2.1 u.2.2.2.2) (fun u t => zPost D cI cJ cB (va_A [(q_p0, .inr (3, [.int v_p0_number, .int v_p0_falling, .ref q_p0_covered, .ref q_p0_counts, .ref q_p0_earlier, .ref q_p0_closed, .ref q_p0_simple, .ref q_p0_coefficients])), (q_p0_closed, .inl (cJ, 31, .inr (.inl f_p0_closed))), (q_p0_simple, .inl (cJ, 31, .inr (.inl f_p0_simple))), (q_p0_counts, .inl (cJ, 8, .inr (.inl f_p0_counts))), (q_p0_earlier, .inl (cJ, 8, .inr (.inl f_p0_earlier))), (q_p0_covered, .inl (cI, 8, .inl f_p0_covered)), (q_p0_coefficients, .inl (cJ, 9, .inr (.inl f_p0_coefficients)))] sz) [(q_p0, .inr (3, [.int v_p0_number, .int v_p0_falling, .ref q_p0_covered, .ref q_p0_counts, .ref q_p0_earlier, .ref q_p0_closed, .ref q_p0_simple, .ref q_p0_coefficients])), (q_p0_closed, .inl (cJ, 31, .inr (.inl u.2.2.2.1))), (q_p0_simple, .inl (cJ, 31, .inr (.inl u.1))), (q_p0_counts, .inl (cJ, 8, .inr (.inl u.2.1))), (q_p0_earlier, .inl (cJ, 8, .inr (.inl u.2.2.1))), (q_p0_covered, .inl (cI, 8, .inl f_p0_covered)), (q_p0_coefficients, .inl (cJ, 9, .inr (.inl u.2.2.2.2)))] t) (va_A [(q_p0, .inr (3, [.int v_p0_number, .int v_p0_falling, .ref q_p0_covered, .ref q_p0_counts, .ref q_p0_earlier, .ref q_p0_closed, .ref q_p0_simple, .ref q_p0_coefficients])), (q_p0_closed, .inl (cJ, 31, .inr (.inl f_p0_closed))), (q_p0_simple, .inl (cJ, 31, .inr (.inl f_p0_simple))), (q_p0_counts, .inl (cJ, 8, .inr (.inl f_p0_counts))), (q_p0_earlier, .inl (cJ, 8, .inr (.inl f_p0_earlier))), (q_p0_covered, .inl (cI, 8, .inl f_p0_covered)), (q_p0_coefficients, .inl (cJ, 9, .inr (.inl f_p0_coefficients)))] sz)) 0 0 (va_A [(q_p0, .inr (3, [.int v_p0_number, .int v_p0_falling, .ref q_p0_covered, .ref q_p0_counts, .ref q_p0_earlier, .ref q_p0_closed, .ref q_p0_simple, .ref q_p0_coefficients])), (q_p0_closed, .inl (cJ, 31, .inr (.inl f_p0_closed))), (q_p0_simple, .inl (cJ, 31, .inr (.inl f_p0_simple))), (q_p0_counts, .inl (cJ, 8, .inr (.inl f_p0_counts))), (q_p0_earlier, .inl (cJ, 8, .inr (.inl f_p0_earlier))), (q_p0_covered, .inl (cI, 8, .inl f_p0_covered)), (q_p0_coefficients, .inl (cJ, 9, .inr (.inl f_p0_coefficients)))] sz) := by
  refine z_met (cc := cX5_coefficient) (maxL := 6) (ret := (some .long)) (Qc := fun A => va_Ql (fun (r : Int64) (u : (Nat → Int64) × (Nat → Int64) × (Nat → Int64) × (Nat → Int64) × (Nat → Int64)) => P r u.1 u.2.1 u.2.2.1 u.2.2.2.1 u.2.2.2.2) (fun u t => zPost D cI cJ cB A [(q_p0, .inr (3, [.int v_p0_number, .int v_p0_falling, .ref q_p0_covered, .ref q_p0_counts, .ref q_p0_earlier, .ref q_p0_closed, .ref q_p0_simple, .ref q_p0_coefficients])), (q_p0_closed, .inl (cJ, 31, .inr (.inl u.2.2.2.1))), (q_p0_simple, .inl (cJ, 31, .inr (.inl u.1))), (q_p0_counts, .inl (cJ, 8, .inr (.inl u.2.1))), (q_p0_earlier, .inl (cJ, 8, .inr (.inl u.2.2.1))), (q_p0_covered, .inl (cI, 8, .inl f_p0_covered)), (q_p0_coefficients, .inl (cJ, 9, .inr (.inl u.2.2.2.2)))] t) A) (by decide) rfl [.ref q_p0, .int x1] (Nat.le_of_ble_eq_true rfl) ?_
  intro p e s m args below meth c A hx hb hr hts hown hml hlocks hA hX hK H locs hP hD hS ls hl Q hQ
  have hown : s.vm.findClass RX5 = some m.cls := hown
  have hl : lv_has ls 6 [(0, .ref q_p0), (1, .int x1)] := hl
  have hw0 : (Cond.fieldLink RX5 37 "ForcedRings$Pieces" "number" "I").before args s = true := hts _ (List.mem_of_getElem? (i := 1) rfl)
  have hw1 : (Cond.fieldLink RX5 28 "ForcedRings$Pieces" "coefficients" "[J").before args s = true := hts _ (List.mem_of_getElem? (i := 2) rfl)
  have hw2 : (Cond.fieldLink RX5 22 "ForcedRings$Pieces" "closed" "[J").before args s = true := hts _ (List.mem_of_getElem? (i := 3) rfl)
  have hinX5 : ∀ w ∈ wsX50, w ∈ wsX5_coefficient := fun _ h => List.mem_cons_of_mem _ (List.mem_append_right _ h)
  refine lv_aload_n hx hb dX5_coefficient_0 rfl (lv_at hl 0 rfl) ?_
  refine lv_aload_n hx hb dX5_coefficient_1 rfl (lv_at hl 0 rfl) ?_
  refine va_get (ci := 3) (C := RX5) (T := TX5) (N := 8) (v := .int v_p0_number) hx hb hts hinX5 hown hK hP 0 rfl rfl 0 (by decide) hw0 (fun _ h9 => h9) rfl dX5_coefficient_2 ?_
  refine z_cVv (As := [.int v_p0_number]) (rest := []) (wr := [(q_p0_coefficients, .inl (cJ, 9, .inr (.inl f_p0_coefficients)))]) (wn := fun u => [(q_p0, .inr (3, [.int v_p0_number, .int v_p0_falling, .ref q_p0_covered, .ref q_p0_counts, .ref q_p0_earlier, .ref q_p0_closed, .ref q_p0_simple, .ref q_p0_coefficients])), (q_p0_closed, .inl (cJ, 31, .inr (.inl u.2.2.2))), (q_p0_simple, .inl (cJ, 31, .inr (.inl u.1))), (q_p0_counts, .inl (cJ, 8, .inr (.inl u.2.1))), (q_p0_earlier, .inl (cJ, 8, .inr (.inl u.2.2.1))), (q_p0_covered, .inl (cI, 8, .inl f_p0_covered)), (q_p0_coefficients, .inl (cJ, 9, .inr (.inl f_p0_coefficients)))]) (c_X5_measureLoops l D cI cJ cB tU tM tS q_p0 q_p0_covered q_p0_counts q_p0_earlier q_p0_closed q_p0_simple q_p0_coefficients H.size v_p0_number v_p0_number f_p0_closed f_p0_simple f_p0_counts f_p0_earlier f_p0_covered v_p0_falling _ h) ⟨hx, hb, hml, hown, hts⟩ (cwV 1 hts gX5_coefficient_X5_measureLoops rfl rfl rfl hd_X5_measureLoops ⟨Nat.le_of_ble_eq_true rfl, Nat.le_of_ble_eq_true rfl⟩) hX hK hP hD hS hA [0, 1, 2, 3, 4, 5] [6] [1, 2, 3, 4, 5, 6, 0] rfl rfl rfl (by decide) (fun _ => rfl) (q0 := 0) (ci := 3) rfl rfl rfl hl.1 rfl (Nat.le_of_ble_eq_true rfl) ⟨Nat.le_refl _, Nat.le_refl _⟩ dX5_coefficient_5 (fun u1 H locs h hP hD hS => ?_)
  obtain ⟨m1_0, m1_1, m1_2, m1_3⟩ := u1
  refine lv_aload_n hx hb dX5_coefficient_8 rfl (lv_at hl 0 rfl) ?_
  refine va_get (ci := 3) (C := RX5) (T := TX5) (N := 8) (v := .ref q_p0_coefficients) hx hb hts hinX5 hown hK hP 0 rfl rfl 7 (by decide) hw1 (fun _ h9 => h9) rfl dX5_coefficient_9 ?_
  refine lv_iconst (v := (0 : Int32)) hx hb dX5_coefficient_12 (by decide) ?_
  refine lv_lconst (v := (1 : Int64)) hx hb dX5_coefficient_13 (by decide) ?_
  obtain ⟨hi2, h⟩ := h
  refine z_last (wn := [(q_p0, .inr (3, [.int v_p0_number, .int v_p0_falling, .ref q_p0_covered, .ref q_p0_counts, .ref q_p0_earlier, .ref q_p0_closed, .ref q_p0_simple, .ref q_p0_coefficients])), (q_p0_closed, .inl (cJ, 31, .inr (.inl m1_3))), (q_p0_simple, .inl (cJ, 31, .inr (.inl m1_0))), (q_p0_counts, .inl (cJ, 8, .inr (.inl m1_1))), (q_p0_earlier, .inl (cJ, 8, .inr (.inl m1_2))), (q_p0_covered, .inl (cI, 8, .inl f_p0_covered)), (q_p0_coefficients, .inl (cJ, 9, .inr (.inl (vp_updL f_p0_coefficients (0 : Int32).toNatClampNeg (1 : Int64)))))]) hx hb hK hP hD hS 6 rfl hi2 dX5_coefficient_14 rfl (fun H locs hP hD hS => ?_)
  refine lv_iconst (v := (1 : Int32)) hx hb dX5_coefficient_15 (by decide) ?_
  refine lv_istore_n (lv' := [(2, .int (1 : Int32)), (0, .ref q_p0), (1, .int x1)]) hx hb dX5_coefficient_16 rfl hl (by decide) rfl (fun ls hl => ?_)
  have k17 : ∀ (f_p0_simple : (Nat → Int64)) (f_p0_counts : (Nat → Int64)) (f_p0_earlier : (Nat → Int64)) (f_p0_closed : (Nat → Int64)) (n17 : Nat) (l2 : Int32) (f_p0_coefficients : (Nat → Int64)) (H : Heap) (locs : List Loc) (ls : Array Slot), LP2 (M_X5_coefficient_l17 x1 v_p0_number f_p0_covered P f_p0_simple f_p0_counts f_p0_earlier f_p0_closed) n17 l2 f_p0_coefficients → va_P D vwCl [(q_p0, .inr (3, [.int v_p0_number, .int v_p0_falling, .ref q_p0_covered, .ref q_p0_counts, .ref q_p0_earlier, .ref q_p0_closed, .ref q_p0_simple, .ref q_p0_coefficients])), (q_p0_closed, .inl (cJ, 31, .inr (.inl f_p0_closed))), (q_p0_simple, .inl (cJ, 31, .inr (.inl f_p0_simple))), (q_p0_counts, .inl (cJ, 8, .inr (.inl f_p0_counts))), (q_p0_earlier, .inl (cJ, 8, .inr (.inl f_p0_earlier))), (q_p0_covered, .inl (cI, 8, .inl f_p0_covered)), (q_p0_coefficients, .inl (cJ, 9, .inr (.inl f_p0_coefficients)))] H → va_D A [(q_p0, .inr (3, [.int v_p0_number, .int v_p0_falling, .ref q_p0_covered, .ref q_p0_counts, .ref q_p0_earlier, .ref q_p0_closed, .ref q_p0_simple, .ref q_p0_coefficients])), (q_p0_closed, .inl (cJ, 31, .inr (.inl f_p0_closed))), (q_p0_simple, .inl (cJ, 31, .inr (.inl f_p0_simple))), (q_p0_counts, .inl (cJ, 8, .inr (.inl f_p0_counts))), (q_p0_earlier, .inl (cJ, 8, .inr (.inl f_p0_earlier))), (q_p0_covered, .inl (cI, 8, .inl f_p0_covered)), (q_p0_coefficients, .inl (cJ, 9, .inr (.inl f_p0_coefficients)))] → va_S A s.heap H locs → lv_has ls 6 [(0, .ref q_p0), (1, .int x1), (2, .int l2)] → W p l e { frames := 3, cells := 0, slots := 0, locals := 73 } s m args below meth c H locs 0 0 Q (F0 m 17 ls []) := by
    intro f_p0_simple f_p0_counts f_p0_earlier f_p0_closed n17
    induction n17 with
    | zero =>
      intro l2 f_p0_coefficients H locs ls h
      exact False.elim h
    | succ n17 ih17 =>
      intro l2 f_p0_coefficients H locs ls h hP hD hS hl
      have h : M_X5_coefficient_l17 x1 v_p0_number f_p0_covered P f_p0_simple f_p0_counts f_p0_earlier f_p0_closed (LP2 (M_X5_coefficient_l17 x1 v_p0_number f_p0_covered P f_p0_simple f_p0_counts f_p0_earlier f_p0_closed) n17) l2 f_p0_coefficients := h
      refine lv_iload_n hx hb dX5_coefficient_17 rfl (lv_at hl 2 rfl) ?_
      refine lv_aload_n hx hb dX5_coefficient_18 rfl (lv_at hl 0 rfl) ?_
      refine va_get (ci := 3) (C := RX5) (T := TX5) (N := 8) (v := .int v_p0_number) hx hb hts hinX5 hown hK hP 0 rfl rfl 0 (by decide) hw0 (fun _ h9 => h9) rfl dX5_coefficient_19 ?_
      refine lv_icmp_gt (tgt := 79) hx hb dX5_coefficient_22 (by decide) (fun c3 => ?_) (fun c3 => ?_)
      · have h := And.left h c3
        refine lv_aload_n hx hb dX5_coefficient_79 rfl (lv_at hl 0 rfl) ?_
        refine va_get (ci := 3) (C := RX5) (T := TX5) (N := 8) (v := .ref q_p0_coefficients) hx hb hts hinX5 hown hK hP 0 rfl rfl 7 (by decide) hw1 (fun _ h9 => h9) rfl dX5_coefficient_80 ?_
        refine lv_aload_n hx hb dX5_coefficient_83 rfl (lv_at hl 0 rfl) ?_
        refine va_get (ci := 3) (C := RX5) (T := TX5) (N := 8) (v := .int v_p0_number) hx hb hts hinX5 hown hK hP 0 rfl rfl 0 (by decide) hw0 (fun _ h9 => h9) rfl dX5_coefficient_84 ?_
        refine lv_iload_n hx hb dX5_coefficient_87 rfl (lv_at hl 1 rfl) ?_
        refine lv_isub hx hb dX5_coefficient_88 ?_
        obtain ⟨hi4, h⟩ := h
        refine va_lald hx hb hK hP 6 1 rfl rfl hi4 dX5_coefficient_89 ?_
        exact z_lret hQ hx hb hr hlocks hK (f_p0_simple, f_p0_counts, f_p0_earlier, f_p0_closed, f_p0_coefficients) h hP hD hS dX5_coefficient_90
      · have h := And.right h c3
        refine lv_lconst (v := (0 : Int64)) hx hb dX5_coefficient_25 (by decide) ?_
        refine lv_lstore_n (lv' := [(3, .long (0 : Int64)), (0, .ref q_p0), (1, .int x1), (2, .int l2)]) hx hb dX5_coefficient_26 rfl hl (by decide) rfl (fun ls hl => ?_)
        refine lv_iconst (v := (1 : Int32)) hx hb dX5_coefficient_27 (by decide) ?_
        refine lv_istore (lv' := [(5, .int (1 : Int32)), (3, .long (0 : Int64)), (0, .ref q_p0), (1, .int x1), (2, .int l2)]) hx hb dX5_coefficient_28 hl (by decide) rfl (fun ls hl => ?_)
        have k30 : ∀ (l2 : Int32) (f_p0_coefficients : (Nat → Int64)) (n30 : Nat) (l3 : Int64) (l5 : Int32) (H : Heap) (locs : List Loc) (ls : Array Slot), LP2 (M_X5_coefficient_l30 x1 v_p0_number f_p0_covered (LP2 (M_X5_coefficient_l17 x1 v_p0_number f_p0_covered P f_p0_simple f_p0_counts f_p0_earlier f_p0_closed) n17) P l2 f_p0_simple f_p0_counts f_p0_earlier f_p0_closed f_p0_coefficients) n30 l3 l5 → va_P D vwCl [(q_p0, .inr (3, [.int v_p0_number, .int v_p0_falling, .ref q_p0_covered, .ref q_p0_counts, .ref q_p0_earlier, .ref q_p0_closed, .ref q_p0_simple, .ref q_p0_coefficients])), (q_p0_closed, .inl (cJ, 31, .inr (.inl f_p0_closed))), (q_p0_simple, .inl (cJ, 31, .inr (.inl f_p0_simple))), (q_p0_counts, .inl (cJ, 8, .inr (.inl f_p0_counts))), (q_p0_earlier, .inl (cJ, 8, .inr (.inl f_p0_earlier))), (q_p0_covered, .inl (cI, 8, .inl f_p0_covered)), (q_p0_coefficients, .inl (cJ, 9, .inr (.inl f_p0_coefficients)))] H → va_D A [(q_p0, .inr (3, [.int v_p0_number, .int v_p0_falling, .ref q_p0_covered, .ref q_p0_counts, .ref q_p0_earlier, .ref q_p0_closed, .ref q_p0_simple, .ref q_p0_coefficients])), (q_p0_closed, .inl (cJ, 31, .inr (.inl f_p0_closed))), (q_p0_simple, .inl (cJ, 31, .inr (.inl f_p0_simple))), (q_p0_counts, .inl (cJ, 8, .inr (.inl f_p0_counts))), (q_p0_earlier, .inl (cJ, 8, .inr (.inl f_p0_earlier))), (q_p0_covered, .inl (cI, 8, .inl f_p0_covered)), (q_p0_coefficients, .inl (cJ, 9, .inr (.inl f_p0_coefficients)))] → va_S A s.heap H locs → lv_has ls 6 [(0, .ref q_p0), (1, .int x1), (2, .int l2), (3, .long l3), (5, .int l5)] → W p l e { frames := 3, cells := 0, slots := 0, locals := 73 } s m args below meth c H locs 0 0 Q (F0 m 30 ls []) := by
          intro l2 f_p0_coefficients n30
          induction n30 with
          | zero =>
            intro l3 l5 H locs ls h
            exact False.elim h
          | succ n30 ih30 =>
            intro l3 l5 H locs ls h hP hD hS hl
            have h : M_X5_coefficient_l30 x1 v_p0_number f_p0_covered (LP2 (M_X5_coefficient_l17 x1 v_p0_number f_p0_covered P f_p0_simple f_p0_counts f_p0_earlier f_p0_closed) n17) P l2 f_p0_simple f_p0_counts f_p0_earlier f_p0_closed f_p0_coefficients (LP2 (M_X5_coefficient_l30 x1 v_p0_number f_p0_covered (LP2 (M_X5_coefficient_l17 x1 v_p0_number f_p0_covered P f_p0_simple f_p0_counts f_p0_earlier f_p0_closed) n17) P l2 f_p0_simple f_p0_counts f_p0_earlier f_p0_closed f_p0_coefficients) n30) l3 l5 := h
            refine lv_iload hx hb dX5_coefficient_30 (lv_at hl 4 rfl) ?_
            refine lv_iload_n hx hb dX5_coefficient_32 rfl (lv_at hl 2 rfl) ?_
            refine lv_icmp_gt (tgt := 62) hx hb dX5_coefficient_33 (by decide) (fun c5 => ?_) (fun c5 => ?_)
            · have h := And.left h c5
              refine lv_aload_n hx hb dX5_coefficient_62 rfl (lv_at hl 0 rfl) ?_
              refine va_get (ci := 3) (C := RX5) (T := TX5) (N := 8) (v := .ref q_p0_coefficients) hx hb hts hinX5 hown hK hP 0 rfl rfl 7 (by decide) hw1 (fun _ h9 => h9) rfl dX5_coefficient_63 ?_
              refine lv_iload_n hx hb dX5_coefficient_66 rfl (lv_at hl 2 rfl) ?_
              refine lv_lload_n hx hb dX5_coefficient_67 rfl (lv_at hl 3 rfl) ?_
              refine lv_lneg hx hb dX5_coefficient_68 ?_
              refine lv_iload_n hx hb dX5_coefficient_69 rfl (lv_at hl 2 rfl) ?_
              refine lv_i2l (v := l2.toInt64) hx hb dX5_coefficient_70 rfl ?_
              obtain ⟨hn6, h⟩ := h
              refine lv_ldiv hx hb dX5_coefficient_71 hn6 ?_
              obtain ⟨hi7, h⟩ := h
              refine z_last (wn := [(q_p0, .inr (3, [.int v_p0_number, .int v_p0_falling, .ref q_p0_covered, .ref q_p0_counts, .ref q_p0_earlier, .ref q_p0_closed, .ref q_p0_simple, .ref q_p0_coefficients])), (q_p0_closed, .inl (cJ, 31, .inr (.inl f_p0_closed))), (q_p0_simple, .inl (cJ, 31, .inr (.inl f_p0_simple))), (q_p0_counts, .inl (cJ, 8, .inr (.inl f_p0_counts))), (q_p0_earlier, .inl (cJ, 8, .inr (.inl f_p0_earlier))), (q_p0_covered, .inl (cI, 8, .inl f_p0_covered)), (q_p0_coefficients, .inl (cJ, 9, .inr (.inl (vp_updL f_p0_coefficients l2.toNatClampNeg ((-l3) / l2.toInt64)))))]) hx hb hK hP hD hS 6 rfl hi7 dX5_coefficient_72 rfl (fun H locs hP hD hS => ?_)
              refine lv_iinc (v := (l2 + 1)) (lv' := [(2, .int (l2 + 1)), (0, .ref q_p0), (1, .int x1), (3, .long l3), (5, .int l5)]) hx hb dX5_coefficient_73 hl (k := 2) rfl rfl (by decide) rfl (fun ls hl => ?_)
              refine lv_goto (tgt := 17) hx hb dX5_coefficient_76 (by decide) ?_
              exact ih17 (l2 + 1) (vp_updL f_p0_coefficients l2.toNatClampNeg ((-l3) / l2.toInt64)) _ _ _ h hP hD hS (lv_sub hl [1, 2, 0] rfl)
            · have h := And.right h c5
              refine lv_lload_n hx hb dX5_coefficient_36 rfl (lv_at hl 3 rfl) ?_
              refine lv_aload_n hx hb dX5_coefficient_37 rfl (lv_at hl 0 rfl) ?_
              refine va_get (ci := 3) (C := RX5) (T := TX5) (N := 8) (v := .ref q_p0_coefficients) hx hb hts hinX5 hown hK hP 0 rfl rfl 7 (by decide) hw1 (fun _ h9 => h9) rfl dX5_coefficient_38 ?_
              refine lv_iload_n hx hb dX5_coefficient_41 rfl (lv_at hl 2 rfl) ?_
              refine lv_iload hx hb dX5_coefficient_42 (lv_at hl 4 rfl) ?_
              refine lv_isub hx hb dX5_coefficient_44 ?_
              obtain ⟨hi8, h⟩ := h
              refine va_lald hx hb hK hP 6 1 rfl rfl hi8 dX5_coefficient_45 ?_
              refine lv_aload_n hx hb dX5_coefficient_46 rfl (lv_at hl 0 rfl) ?_
              refine va_get (ci := 3) (C := RX5) (T := TX5) (N := 8) (v := .ref q_p0_closed) hx hb hts hinX5 hown hK hP 0 rfl rfl 5 (by decide) hw2 (fun _ h9 => h9) rfl dX5_coefficient_47 ?_
              refine lv_iload hx hb dX5_coefficient_50 (lv_at hl 4 rfl) ?_
              obtain ⟨hi9, h⟩ := h
              refine va_lald hx hb hK hP 1 1 rfl rfl hi9 dX5_coefficient_52 ?_
              refine lv_lmul hx hb dX5_coefficient_53 ?_
              refine lv_ladd hx hb dX5_coefficient_54 ?_
              refine lv_topl (fun y10 ey10 => ?_)
              have h := h y10 ey10
              refine lv_lstore_n (lv' := [(3, .long y10), (0, .ref q_p0), (1, .int x1), (2, .int l2), (5, .int l5)]) hx hb dX5_coefficient_55 rfl hl (by decide) rfl (fun ls hl => ?_)
              refine lv_iinc (v := (l5 + 1)) (lv' := [(5, .int (l5 + 1)), (3, .long y10), (0, .ref q_p0), (1, .int x1), (2, .int l2)]) hx hb dX5_coefficient_56 hl (k := 4) rfl rfl (by decide) rfl (fun ls hl => ?_)
              refine lv_goto (tgt := 30) hx hb dX5_coefficient_59 (by decide) ?_
              exact ih30 y10 (l5 + 1) _ _ _ h hP hD hS (lv_sub hl [2, 3, 4, 1, 0] rfl)
        obtain ⟨n30, h⟩ := h
        exact k30 l2 f_p0_coefficients n30 (0 : Int64) (1 : Int32) _ _ _ h hP hD hS (lv_sub hl [2, 3, 4, 1, 0] rfl)
  obtain ⟨n17, h⟩ := h
  exact k17 m1_0 m1_1 m1_2 m1_3 n17 (1 : Int32) (vp_updL f_p0_coefficients (0 : Int32).toNatClampNeg (1 : Int64)) _ _ _ h hP hD hS (lv_sub hl [1, 2, 0] rfl)
theorem hd_X6_put : yX6_put.cls = RX6 ∧ yX6_put.cls ≠ "java/lang/invoke/MethodHandle" ∧ yX6_put.cls ≠ "java/lang/invoke/VarHandle" ∧ (parseMethodDescriptor yX6_put.desc).map (fun d => d.parameters.length) = some 1 := by decide +kernel
set_option maxHeartbeats 4000000 in
set_option maxRecDepth 100000 in
theorem c_X6_put (l : Launch) (D : va_G) (cI cJ cB : ClassId) (tU tM tS : Nat) (q_p0 q_p0_bytes : Nat) (sz : Nat) (x1 : Int32) (v_p0_length : Int32) (f_p0_bytes : (Nat → Int32))  (P : (Nat → Int32) → Int32 → Prop) (h : M_X6_put x1 v_p0_length f_p0_bytes P) : Met l yX6_put wsX6_put ({ frames := 0, cells := 0, slots := 0, locals := 0 }) (va_Pc [.ref q_p0, .int x1] (zPre D cI cJ cB tU tM tS [(q_p0, .inr (4, [.int v_p0_length, .ref q_p0_bytes])), (q_p0_bytes, .inl (cB, 60, .inl f_p0_bytes))] sz)) (va_Qv (fun u : (Nat → Int32) × Int32 => P u.1 u.2) (fun u t => zPost D cI cJ cB (va_A [(q_p0, .inr (4, [.int v_p0_length, .ref q_p0_bytes])), (q_p0_bytes, .inl (cB, 60, .inl f_p0_bytes))] sz) [(q_p0, .inr (4, [.int u.2, .ref q_p0_bytes])), (q_p0_bytes, .inl (cB, 60, .inl u.1))] t) (va_A [(q_p0, .inr (4, [.int v_p0_length, .ref q_p0_bytes])), (q_p0_bytes, .inl (cB, 60, .inl f_p0_bytes))] sz)) 0 0 (va_A [(q_p0, .inr (4, [.int v_p0_length, .ref q_p0_bytes])), (q_p0_bytes, .inl (cB, 60, .inl f_p0_bytes))] sz) := by
  refine z_met (cc := cX6_put) (maxL := 2) (ret := none) (Qc := fun A => va_Qv (fun u : (Nat → Int32) × Int32 => P u.1 u.2) (fun u t => zPost D cI cJ cB A [(q_p0, .inr (4, [.int u.2, .ref q_p0_bytes])), (q_p0_bytes, .inl (cB, 60, .inl u.1))] t) A) (by decide) rfl [.ref q_p0, .int x1] (Nat.le_of_ble_eq_true rfl) ?_
  intro p e s m args below meth c A hx hb hr hts hown hml hlocks hA hX hK H locs hP hD hS ls hl Q hQ
  have hown : s.vm.findClass RX6 = some m.cls := hown
  have hl : lv_has ls 2 [(0, .ref q_p0), (1, .int x1)] := hl
  have hw0 : (Cond.fieldLink RX6 13 "ForcedRings$Tape" "length" "I").before args s = true := hts _ (List.mem_of_getElem? (i := 1) rfl)
  have hw1 : (Cond.fieldLink RX6 9 "ForcedRings$Tape" "bytes" "[B").before args s = true := hts _ (List.mem_of_getElem? (i := 2) rfl)
  have hinX6 : ∀ w ∈ wsX60, w ∈ wsX6_put := fun _ h => List.mem_cons_of_mem _ (List.mem_append_right _ h)
  refine lv_aload_n hx hb dX6_put_0 rfl (lv_at hl 0 rfl) ?_
  refine va_get (ci := 4) (C := RX6) (T := TX6) (N := 2) (v := .int v_p0_length) hx hb hts hinX6 hown hK hP 0 rfl rfl 0 (by decide) hw0 (fun _ h9 => h9) rfl dX6_put_1 ?_
  refine lv_bipush (v := (60 : Int32)) hx hb dX6_put_4 (by decide) ?_
  refine lv_icmp_ge (tgt := 30) hx hb dX6_put_6 (by decide) (fun c1 => ?_) (fun c1 => ?_)
  · have h := And.left h c1
    exact z_vret hQ hx hb hr hlocks hK (f_p0_bytes, v_p0_length) h hP hD hS dX6_put_30
  · have h := And.right h c1
    refine lv_aload_n hx hb dX6_put_9 rfl (lv_at hl 0 rfl) ?_
    refine va_get (ci := 4) (C := RX6) (T := TX6) (N := 2) (v := .ref q_p0_bytes) hx hb hts hinX6 hown hK hP 0 rfl rfl 1 (by decide) hw1 (fun _ h9 => h9) rfl dX6_put_10 ?_
    refine lv_aload_n hx hb dX6_put_13 rfl (lv_at hl 0 rfl) ?_
    refine va_get (ci := 4) (C := RX6) (T := TX6) (N := 2) (v := .int v_p0_length) hx hb hts hinX6 hown hK hP 0 rfl rfl 0 (by decide) hw0 (fun _ h9 => h9) rfl dX6_put_14 ?_
    refine lv_iload_n hx hb dX6_put_17 rfl (lv_at hl 1 rfl) ?_
    refine lv_i2b (v := x1.toInt8.toInt32) hx hb dX6_put_18 rfl ?_
    obtain ⟨hi2, h⟩ := h
    refine z_bast (wn := [(q_p0, .inr (4, [.int v_p0_length, .ref q_p0_bytes])), (q_p0_bytes, .inl (cB, 60, .inl (upd f_p0_bytes v_p0_length.toNatClampNeg (vp_nar .byte x1.toInt8.toInt32))))]) hx hb hK hP hD hS 1 rfl hi2 dX6_put_19 rfl (fun H locs hP hD hS => ?_)
    refine lv_aload_n hx hb dX6_put_20 rfl (lv_at hl 0 rfl) ?_
    refine lv_dup hx hb dX6_put_21 rfl ?_
    refine va_get (ci := 4) (C := RX6) (T := TX6) (N := 2) (v := .int v_p0_length) hx hb hts hinX6 hown hK hP 0 rfl rfl 0 (by decide) hw0 (fun _ h9 => h9) rfl dX6_put_22 ?_
    refine lv_iconst (v := (1 : Int32)) hx hb dX6_put_25 (by decide) ?_
    refine lv_iadd hx hb dX6_put_26 ?_
    refine z_put (ci := 4) (C := RX6) (T := TX6) (N := 2) (ty := .int) (wn := [(q_p0, .inr (4, [.int (v_p0_length + (1 : Int32)), .ref q_p0_bytes])), (q_p0_bytes, .inl (cB, 60, .inl (upd f_p0_bytes v_p0_length.toNatClampNeg (vp_nar .byte x1.toInt8.toInt32))))]) hx hb hts hinX6 tyX6 tyX6_ok nmX6 hown hK hP hD hS 0 rfl rfl 0 (by decide) hw0 (fun _ h9 => h9) rfl (by decide +kernel) rfl rfl (Nat.le_of_ble_eq_true rfl) dX6_put_27 rfl (fun H locs hP hD hS => ?_)
    exact z_vret hQ hx hb hr hlocks hK ((upd f_p0_bytes v_p0_length.toNatClampNeg (vp_nar .byte x1.toInt8.toInt32)), (v_p0_length + (1 : Int32))) h hP hD hS dX6_put_30
