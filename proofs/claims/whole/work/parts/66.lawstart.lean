/-! The law: its loop, its statics, its start. -/
theorem law_more {i L : Nat} (hL : L ≤ 2048) (hi : i ≤ 2048) (h : ¬ nI L - (4 : Int32) < nI i) : i + 4 ≤ L := by
  by_cases h4 : 4 ≤ L
  · have e : nI L - (4 : Int32) = nI (L - 4) := by
      have h1 : nI (L - 4) + nI 4 = nI L := by rw [nI_add]; congr 1; omega
      rw [← h1, show (4 : Int32) = nI 4 from rfl]
      exact Int32.add_sub_cancel _ _
    rw [e] at h
    have h2 := Int32.not_lt.mp h
    have h3 := (nI_leI (by omega) (by omega)).mp h2
    omega
  · exfalso
    apply h
    have hp : (0 : Int32) ≤ nI i := Int32.not_lt.mp (nI_pos (by omega))
    have hn : nI L - (4 : Int32) < 0 := by
      rcases (show L = 0 ∨ L = 1 ∨ L = 2 ∨ L = 3 by omega) with rfl | rfl | rfl | rfl <;> decide
    exact Int32.lt_of_lt_of_le hn hp
set_option maxHeartbeats 4000000 in
set_option maxRecDepth 100000 in
theorem law_once {p : Program} {l : Launch} {e : Env} {s : State} {m : MethodId} {below : List Frame} {meth : Method} {c : Code} {G : va_G} {cI cJ cB : ClassId} {tU tM tS b L : Nat} {xs : Nat → Int32} (C0 : lw_At p s m meth c b L xs) (hX0 : zX tU tM tS (fun q : Nat => s.heap.size ≤ q) s s.heap) (hK : va_K G vwCl (tyL cI cJ cB) s) (hL : L ≤ 2048) {qx qm : Nat} {ux um : Nat → Nat} {i : Nat} (hi : i ≤ 2048) (ih : i + 4 ≤ L → ∀ ls : Array Slot, lv_has ls 4 [(0, .ref b), (1, .ref qx), (2, .ref qm), (3, .int (nI (i + 4)))] → lwC p l e s m below meth c G cI cJ cB b qx ux qm um ls 18) (ls : Array Slot) (hl : lv_has ls 4 [(0, .ref b), (1, .ref qx), (2, .ref qm), (3, .int (nI i))]) : lwC p l e s m below meth c G cI cJ cB b qx ux qm um ls 18 := by
  intro n w d t f D T R hr im kn kw kf bo ik sz wy g z1 ks kv kg z2 da maps tn tb e1 e2 e3 e4 e5 e6 z3 hk rs p1 p2 z4 l1 l2 l3 l4 l5 ss sm pn pf pcv l6 l7 l8 l9 l10 am fo z5 z6 z7 n9 w9 g9 d9 were m1 m2 z8 q1 z9 z10 m3 m4 m5 m6 z11 tb9 t9 h9 rs9 i9 in9 iw9 ig9 hI H locs hP hD hS
  obtain ⟨hx, hb, hr0, hml, hown, hts, hXs, hbl, hlocks, hgv⟩ := id C0
  have hbA : ¬ (fun q : Nat => s.heap.size ≤ q) b := Nat.not_le.mpr hbl
  refine lv_iload_n hx hb dL_law_18 rfl (lv_at hl 3 rfl) ?_
  refine lv_aload_n hx hb dL_law_19 rfl (lv_at hl 0 rfl) ?_
  refine va_slen hx hb hXs hbl hbA hS dL_law_20 ?_
  refine lv_iconst (v := (4 : Int32)) hx hb dL_law_21 (by decide) ?_
  refine lv_isub hx hb dL_law_22 ?_
  refine lv_icmp_gt (tgt := 888) hx hb dL_law_23 (by decide) (fun c1 => ?_) (fun c1 => ?_)
  · refine lv_iconst (v := 1) hx hb dL_law_888 (by decide) ?_
    refine va_forget (fun q hq => hS.2.2 q hq) ?_
    refine W.widen (k := 600000) (n := 7302250) (Nat.le_of_ble_eq_true rfl) (Nat.le_of_ble_eq_true rfl) ?_
    exact lw_ret hx hb hr0 hlocks dL_law_889
  · have hi4 : i + 4 ≤ L := law_more hL hi c1
    have hin : ∀ k, k < 4 → vp_in (nI i + nI k) L := fun k hk => by rw [nI_add]; exact vp_in_nI (by omega) (by omega)
    have k882 : lwC p l e s m below meth c G cI cJ cB b qx ux qm um ls 882 := by
      intro n w d t f D T R hr im kn kw kf bo ik sz wy g z1 ks kv kg z2 da maps tn tb e1 e2 e3 e4 e5 e6 z3 hk rs p1 p2 z4 l1 l2 l3 l4 l5 ss sm pn pf pcv l6 l7 l8 l9 l10 am fo z5 z6 z7 n9 w9 g9 d9 were m1 m2 z8 q1 z9 z10 m3 m4 m5 m6 z11 tb9 t9 h9 rs9 i9 in9 iw9 ig9 hI H locs hP hD hS
      refine lv_iinc (v := nI (i + 4)) (lv' := [(3, .int (nI (i + 4))), (0, .ref b), (1, .ref qx), (2, .ref qm)]) hx hb dL_law_882 hl (k := 3) rfl (nI_add i 4) (by decide) rfl (fun ls hl => ?_)
      refine lv_goto (tgt := 18) hx hb dL_law_885 (by decide) ?_
      exact ih hi4 ls (lv_sub hl [1, 2, 3, 0] rfl) n w d t f D T R hr im kn kw kf bo ik sz wy g z1 ks kv kg z2 da maps tn tb e1 e2 e3 e4 e5 e6 z3 hk rs p1 p2 z4 l1 l2 l3 l4 l5 ss sm pn pf pcv l6 l7 l8 l9 l10 am fo z5 z6 z7 n9 w9 g9 d9 were m1 m2 z8 q1 z9 z10 m3 m4 m5 m6 z11 tb9 t9 h9 rs9 i9 in9 iw9 ig9 hI H locs hP hD hS
    refine lv_aload_n hx hb dL_law_26 rfl (lv_at hl 0 rfl) ?_
    refine lv_iload_n hx hb dL_law_27 rfl (lv_at hl 3 rfl) ?_
    refine va_sld hx hb hXs hbl hbA hS (vp_in_nI (by omega) (by omega)) dL_law_28 ?_
    refine lv_bipush (v := (31 : Int32)) hx hb dL_law_29 (by decide) ?_
    refine lv_iand hx hb dL_law_31 ?_
    refine lv_topi (fun z ezz => ?_)
    by_cases ce0 : z = (0 : Int32)
    · have ez : z.toInt = 0 := by rw [ce0]; decide
      refine lv_tableIn (tgt := 156) hx hb dL_law_32 (by rw [ez]; decide) (by rw [ez]; decide) (by rw [ez] <;> rfl) (by decide) ?_
      exact law_c0 C0 hX0 hK hin hl k882 n w d t f D T R hr im kn kw kf bo ik sz wy g z1 ks kv kg z2 da maps tn tb e1 e2 e3 e4 e5 e6 z3 hk rs p1 p2 z4 l1 l2 l3 l4 l5 ss sm pn pf pcv l6 l7 l8 l9 l10 am fo z5 z6 z7 n9 w9 g9 d9 were m1 m2 z8 q1 z9 z10 m3 m4 m5 m6 z11 tb9 t9 h9 rs9 i9 in9 iw9 ig9 hI H locs hP hD hS
    by_cases ce1 : z = (1 : Int32)
    · have ez : z.toInt = 1 := by rw [ce1]; decide
      refine lv_tableIn (tgt := 179) hx hb dL_law_32 (by rw [ez]; decide) (by rw [ez]; decide) (by rw [ez] <;> rfl) (by decide) ?_
      exact law_c1 C0 hX0 hK hin hl k882 n w d t f D T R hr im kn kw kf bo ik sz wy g z1 ks kv kg z2 da maps tn tb e1 e2 e3 e4 e5 e6 z3 hk rs p1 p2 z4 l1 l2 l3 l4 l5 ss sm pn pf pcv l6 l7 l8 l9 l10 am fo z5 z6 z7 n9 w9 g9 d9 were m1 m2 z8 q1 z9 z10 m3 m4 m5 m6 z11 tb9 t9 h9 rs9 i9 in9 iw9 ig9 hI H locs hP hD hS
    by_cases ce2 : z = (2 : Int32)
    · have ez : z.toInt = 2 := by rw [ce2]; decide
      refine lv_tableIn (tgt := 202) hx hb dL_law_32 (by rw [ez]; decide) (by rw [ez]; decide) (by rw [ez] <;> rfl) (by decide) ?_
      exact law_c2 C0 hX0 hK hin hl k882 n w d t f D T R hr im kn kw kf bo ik sz wy g z1 ks kv kg z2 da maps tn tb e1 e2 e3 e4 e5 e6 z3 hk rs p1 p2 z4 l1 l2 l3 l4 l5 ss sm pn pf pcv l6 l7 l8 l9 l10 am fo z5 z6 z7 n9 w9 g9 d9 were m1 m2 z8 q1 z9 z10 m3 m4 m5 m6 z11 tb9 t9 h9 rs9 i9 in9 iw9 ig9 hI H locs hP hD hS
    by_cases ce3 : z = (3 : Int32)
    · have ez : z.toInt = 3 := by rw [ce3]; decide
      refine lv_tableIn (tgt := 235) hx hb dL_law_32 (by rw [ez]; decide) (by rw [ez]; decide) (by rw [ez] <;> rfl) (by decide) ?_
      exact law_c3 C0 hX0 hK hin hl k882 n w d t f D T R hr im kn kw kf bo ik sz wy g z1 ks kv kg z2 da maps tn tb e1 e2 e3 e4 e5 e6 z3 hk rs p1 p2 z4 l1 l2 l3 l4 l5 ss sm pn pf pcv l6 l7 l8 l9 l10 am fo z5 z6 z7 n9 w9 g9 d9 were m1 m2 z8 q1 z9 z10 m3 m4 m5 m6 z11 tb9 t9 h9 rs9 i9 in9 iw9 ig9 hI H locs hP hD hS
    by_cases ce4 : z = (4 : Int32)
    · have ez : z.toInt = 4 := by rw [ce4]; decide
      refine lv_tableIn (tgt := 268) hx hb dL_law_32 (by rw [ez]; decide) (by rw [ez]; decide) (by rw [ez] <;> rfl) (by decide) ?_
      exact law_c4 C0 hX0 hK hin hl k882 n w d t f D T R hr im kn kw kf bo ik sz wy g z1 ks kv kg z2 da maps tn tb e1 e2 e3 e4 e5 e6 z3 hk rs p1 p2 z4 l1 l2 l3 l4 l5 ss sm pn pf pcv l6 l7 l8 l9 l10 am fo z5 z6 z7 n9 w9 g9 d9 were m1 m2 z8 q1 z9 z10 m3 m4 m5 m6 z11 tb9 t9 h9 rs9 i9 in9 iw9 ig9 hI H locs hP hD hS
    by_cases ce5 : z = (5 : Int32)
    · have ez : z.toInt = 5 := by rw [ce5]; decide
      refine lv_tableIn (tgt := 281) hx hb dL_law_32 (by rw [ez]; decide) (by rw [ez]; decide) (by rw [ez] <;> rfl) (by decide) ?_
      exact law_c5 C0 hX0 hK hin hl k882 n w d t f D T R hr im kn kw kf bo ik sz wy g z1 ks kv kg z2 da maps tn tb e1 e2 e3 e4 e5 e6 z3 hk rs p1 p2 z4 l1 l2 l3 l4 l5 ss sm pn pf pcv l6 l7 l8 l9 l10 am fo z5 z6 z7 n9 w9 g9 d9 were m1 m2 z8 q1 z9 z10 m3 m4 m5 m6 z11 tb9 t9 h9 rs9 i9 in9 iw9 ig9 hI H locs hP hD hS
    by_cases ce6 : z = (6 : Int32)
    · have ez : z.toInt = 6 := by rw [ce6]; decide
      refine lv_tableIn (tgt := 304) hx hb dL_law_32 (by rw [ez]; decide) (by rw [ez]; decide) (by rw [ez] <;> rfl) (by decide) ?_
      exact law_c6 C0 hX0 hK hin hl k882 n w d t f D T R hr im kn kw kf bo ik sz wy g z1 ks kv kg z2 da maps tn tb e1 e2 e3 e4 e5 e6 z3 hk rs p1 p2 z4 l1 l2 l3 l4 l5 ss sm pn pf pcv l6 l7 l8 l9 l10 am fo z5 z6 z7 n9 w9 g9 d9 were m1 m2 z8 q1 z9 z10 m3 m4 m5 m6 z11 tb9 t9 h9 rs9 i9 in9 iw9 ig9 hI H locs hP hD hS
    by_cases ce7 : z = (7 : Int32)
    · have ez : z.toInt = 7 := by rw [ce7]; decide
      refine lv_tableIn (tgt := 337) hx hb dL_law_32 (by rw [ez]; decide) (by rw [ez]; decide) (by rw [ez] <;> rfl) (by decide) ?_
      exact law_c7 C0 hX0 hK hin hl k882 n w d t f D T R hr im kn kw kf bo ik sz wy g z1 ks kv kg z2 da maps tn tb e1 e2 e3 e4 e5 e6 z3 hk rs p1 p2 z4 l1 l2 l3 l4 l5 ss sm pn pf pcv l6 l7 l8 l9 l10 am fo z5 z6 z7 n9 w9 g9 d9 were m1 m2 z8 q1 z9 z10 m3 m4 m5 m6 z11 tb9 t9 h9 rs9 i9 in9 iw9 ig9 hI H locs hP hD hS
    by_cases ce8 : z = (8 : Int32)
    · have ez : z.toInt = 8 := by rw [ce8]; decide
      refine lv_tableIn (tgt := 370) hx hb dL_law_32 (by rw [ez]; decide) (by rw [ez]; decide) (by rw [ez] <;> rfl) (by decide) ?_
      exact law_c8 C0 hX0 hK hin hl k882 n w d t f D T R hr im kn kw kf bo ik sz wy g z1 ks kv kg z2 da maps tn tb e1 e2 e3 e4 e5 e6 z3 hk rs p1 p2 z4 l1 l2 l3 l4 l5 ss sm pn pf pcv l6 l7 l8 l9 l10 am fo z5 z6 z7 n9 w9 g9 d9 were m1 m2 z8 q1 z9 z10 m3 m4 m5 m6 z11 tb9 t9 h9 rs9 i9 in9 iw9 ig9 hI H locs hP hD hS
    by_cases ce9 : z = (9 : Int32)
    · have ez : z.toInt = 9 := by rw [ce9]; decide
      refine lv_tableIn (tgt := 403) hx hb dL_law_32 (by rw [ez]; decide) (by rw [ez]; decide) (by rw [ez] <;> rfl) (by decide) ?_
      exact law_c9 C0 hX0 hK hin hl k882 n w d t f D T R hr im kn kw kf bo ik sz wy g z1 ks kv kg z2 da maps tn tb e1 e2 e3 e4 e5 e6 z3 hk rs p1 p2 z4 l1 l2 l3 l4 l5 ss sm pn pf pcv l6 l7 l8 l9 l10 am fo z5 z6 z7 n9 w9 g9 d9 were m1 m2 z8 q1 z9 z10 m3 m4 m5 m6 z11 tb9 t9 h9 rs9 i9 in9 iw9 ig9 hI H locs hP hD hS
    by_cases ce10 : z = (10 : Int32)
    · have ez : z.toInt = 10 := by rw [ce10]; decide
      refine lv_tableIn (tgt := 447) hx hb dL_law_32 (by rw [ez]; decide) (by rw [ez]; decide) (by rw [ez] <;> rfl) (by decide) ?_
      exact law_c10 C0 hX0 hK hin hl k882 n w d t f D T R hr im kn kw kf bo ik sz wy g z1 ks kv kg z2 da maps tn tb e1 e2 e3 e4 e5 e6 z3 hk rs p1 p2 z4 l1 l2 l3 l4 l5 ss sm pn pf pcv l6 l7 l8 l9 l10 am fo z5 z6 z7 n9 w9 g9 d9 were m1 m2 z8 q1 z9 z10 m3 m4 m5 m6 z11 tb9 t9 h9 rs9 i9 in9 iw9 ig9 hI H locs hP hD hS
    by_cases ce11 : z = (11 : Int32)
    · have ez : z.toInt = 11 := by rw [ce11]; decide
      refine lv_tableIn (tgt := 481) hx hb dL_law_32 (by rw [ez]; decide) (by rw [ez]; decide) (by rw [ez] <;> rfl) (by decide) ?_
      exact law_c11 C0 hX0 hK hin hl k882 n w d t f D T R hr im kn kw kf bo ik sz wy g z1 ks kv kg z2 da maps tn tb e1 e2 e3 e4 e5 e6 z3 hk rs p1 p2 z4 l1 l2 l3 l4 l5 ss sm pn pf pcv l6 l7 l8 l9 l10 am fo z5 z6 z7 n9 w9 g9 d9 were m1 m2 z8 q1 z9 z10 m3 m4 m5 m6 z11 tb9 t9 h9 rs9 i9 in9 iw9 ig9 hI H locs hP hD hS
    by_cases ce12 : z = (12 : Int32)
    · have ez : z.toInt = 12 := by rw [ce12]; decide
      refine lv_tableIn (tgt := 504) hx hb dL_law_32 (by rw [ez]; decide) (by rw [ez]; decide) (by rw [ez] <;> rfl) (by decide) ?_
      exact law_c12 C0 hX0 hK hin hl k882 n w d t f D T R hr im kn kw kf bo ik sz wy g z1 ks kv kg z2 da maps tn tb e1 e2 e3 e4 e5 e6 z3 hk rs p1 p2 z4 l1 l2 l3 l4 l5 ss sm pn pf pcv l6 l7 l8 l9 l10 am fo z5 z6 z7 n9 w9 g9 d9 were m1 m2 z8 q1 z9 z10 m3 m4 m5 m6 z11 tb9 t9 h9 rs9 i9 in9 iw9 ig9 hI H locs hP hD hS
    by_cases ce13 : z = (13 : Int32)
    · have ez : z.toInt = 13 := by rw [ce13]; decide
      refine lv_tableIn (tgt := 517) hx hb dL_law_32 (by rw [ez]; decide) (by rw [ez]; decide) (by rw [ez] <;> rfl) (by decide) ?_
      exact law_c13 C0 hX0 hK hin hl k882 n w d t f D T R hr im kn kw kf bo ik sz wy g z1 ks kv kg z2 da maps tn tb e1 e2 e3 e4 e5 e6 z3 hk rs p1 p2 z4 l1 l2 l3 l4 l5 ss sm pn pf pcv l6 l7 l8 l9 l10 am fo z5 z6 z7 n9 w9 g9 d9 were m1 m2 z8 q1 z9 z10 m3 m4 m5 m6 z11 tb9 t9 h9 rs9 i9 in9 iw9 ig9 hI H locs hP hD hS
    by_cases ce14 : z = (14 : Int32)
    · have ez : z.toInt = 14 := by rw [ce14]; decide
      refine lv_tableIn (tgt := 550) hx hb dL_law_32 (by rw [ez]; decide) (by rw [ez]; decide) (by rw [ez] <;> rfl) (by decide) ?_
      exact law_c14 C0 hX0 hK hin hl k882 n w d t f D T R hr im kn kw kf bo ik sz wy g z1 ks kv kg z2 da maps tn tb e1 e2 e3 e4 e5 e6 z3 hk rs p1 p2 z4 l1 l2 l3 l4 l5 ss sm pn pf pcv l6 l7 l8 l9 l10 am fo z5 z6 z7 n9 w9 g9 d9 were m1 m2 z8 q1 z9 z10 m3 m4 m5 m6 z11 tb9 t9 h9 rs9 i9 in9 iw9 ig9 hI H locs hP hD hS
    by_cases ce15 : z = (15 : Int32)
    · have ez : z.toInt = 15 := by rw [ce15]; decide
      refine lv_tableIn (tgt := 583) hx hb dL_law_32 (by rw [ez]; decide) (by rw [ez]; decide) (by rw [ez] <;> rfl) (by decide) ?_
      exact law_c15 C0 hX0 hK hin hl k882 n w d t f D T R hr im kn kw kf bo ik sz wy g z1 ks kv kg z2 da maps tn tb e1 e2 e3 e4 e5 e6 z3 hk rs p1 p2 z4 l1 l2 l3 l4 l5 ss sm pn pf pcv l6 l7 l8 l9 l10 am fo z5 z6 z7 n9 w9 g9 d9 were m1 m2 z8 q1 z9 z10 m3 m4 m5 m6 z11 tb9 t9 h9 rs9 i9 in9 iw9 ig9 hI H locs hP hD hS
    by_cases ce16 : z = (16 : Int32)
    · have ez : z.toInt = 16 := by rw [ce16]; decide
      refine lv_tableIn (tgt := 616) hx hb dL_law_32 (by rw [ez]; decide) (by rw [ez]; decide) (by rw [ez] <;> rfl) (by decide) ?_
      exact law_c16 C0 hX0 hK hin hl k882 n w d t f D T R hr im kn kw kf bo ik sz wy g z1 ks kv kg z2 da maps tn tb e1 e2 e3 e4 e5 e6 z3 hk rs p1 p2 z4 l1 l2 l3 l4 l5 ss sm pn pf pcv l6 l7 l8 l9 l10 am fo z5 z6 z7 n9 w9 g9 d9 were m1 m2 z8 q1 z9 z10 m3 m4 m5 m6 z11 tb9 t9 h9 rs9 i9 in9 iw9 ig9 hI H locs hP hD hS
    by_cases ce17 : z = (17 : Int32)
    · have ez : z.toInt = 17 := by rw [ce17]; decide
      refine lv_tableIn (tgt := 649) hx hb dL_law_32 (by rw [ez]; decide) (by rw [ez]; decide) (by rw [ez] <;> rfl) (by decide) ?_
      exact law_c17 C0 hX0 hK hin hl k882 n w d t f D T R hr im kn kw kf bo ik sz wy g z1 ks kv kg z2 da maps tn tb e1 e2 e3 e4 e5 e6 z3 hk rs p1 p2 z4 l1 l2 l3 l4 l5 ss sm pn pf pcv l6 l7 l8 l9 l10 am fo z5 z6 z7 n9 w9 g9 d9 were m1 m2 z8 q1 z9 z10 m3 m4 m5 m6 z11 tb9 t9 h9 rs9 i9 in9 iw9 ig9 hI H locs hP hD hS
    by_cases ce18 : z = (18 : Int32)
    · have ez : z.toInt = 18 := by rw [ce18]; decide
      refine lv_tableIn (tgt := 693) hx hb dL_law_32 (by rw [ez]; decide) (by rw [ez]; decide) (by rw [ez] <;> rfl) (by decide) ?_
      exact law_c18 C0 hX0 hK hin hl k882 n w d t f D T R hr im kn kw kf bo ik sz wy g z1 ks kv kg z2 da maps tn tb e1 e2 e3 e4 e5 e6 z3 hk rs p1 p2 z4 l1 l2 l3 l4 l5 ss sm pn pf pcv l6 l7 l8 l9 l10 am fo z5 z6 z7 n9 w9 g9 d9 were m1 m2 z8 q1 z9 z10 m3 m4 m5 m6 z11 tb9 t9 h9 rs9 i9 in9 iw9 ig9 hI H locs hP hD hS
    by_cases ce19 : z = (19 : Int32)
    · have ez : z.toInt = 19 := by rw [ce19]; decide
      refine lv_tableIn (tgt := 717) hx hb dL_law_32 (by rw [ez]; decide) (by rw [ez]; decide) (by rw [ez] <;> rfl) (by decide) ?_
      exact law_c19 C0 hX0 hK hin hl k882 n w d t f D T R hr im kn kw kf bo ik sz wy g z1 ks kv kg z2 da maps tn tb e1 e2 e3 e4 e5 e6 z3 hk rs p1 p2 z4 l1 l2 l3 l4 l5 ss sm pn pf pcv l6 l7 l8 l9 l10 am fo z5 z6 z7 n9 w9 g9 d9 were m1 m2 z8 q1 z9 z10 m3 m4 m5 m6 z11 tb9 t9 h9 rs9 i9 in9 iw9 ig9 hI H locs hP hD hS
    by_cases ce20 : z = (20 : Int32)
    · have ez : z.toInt = 20 := by rw [ce20]; decide
      refine lv_tableIn (tgt := 760) hx hb dL_law_32 (by rw [ez]; decide) (by rw [ez]; decide) (by rw [ez] <;> rfl) (by decide) ?_
      exact law_c20 C0 hX0 hK hin hl k882 n w d t f D T R hr im kn kw kf bo ik sz wy g z1 ks kv kg z2 da maps tn tb e1 e2 e3 e4 e5 e6 z3 hk rs p1 p2 z4 l1 l2 l3 l4 l5 ss sm pn pf pcv l6 l7 l8 l9 l10 am fo z5 z6 z7 n9 w9 g9 d9 were m1 m2 z8 q1 z9 z10 m3 m4 m5 m6 z11 tb9 t9 h9 rs9 i9 in9 iw9 ig9 hI H locs hP hD hS
    by_cases ce21 : z = (21 : Int32)
    · have ez : z.toInt = 21 := by rw [ce21]; decide
      refine lv_tableIn (tgt := 783) hx hb dL_law_32 (by rw [ez]; decide) (by rw [ez]; decide) (by rw [ez] <;> rfl) (by decide) ?_
      exact law_c21 C0 hX0 hK hin hl k882 n w d t f D T R hr im kn kw kf bo ik sz wy g z1 ks kv kg z2 da maps tn tb e1 e2 e3 e4 e5 e6 z3 hk rs p1 p2 z4 l1 l2 l3 l4 l5 ss sm pn pf pcv l6 l7 l8 l9 l10 am fo z5 z6 z7 n9 w9 g9 d9 were m1 m2 z8 q1 z9 z10 m3 m4 m5 m6 z11 tb9 t9 h9 rs9 i9 in9 iw9 ig9 hI H locs hP hD hS
    by_cases ce22 : z = (22 : Int32)
    · have ez : z.toInt = 22 := by rw [ce22]; decide
      refine lv_tableIn (tgt := 796) hx hb dL_law_32 (by rw [ez]; decide) (by rw [ez]; decide) (by rw [ez] <;> rfl) (by decide) ?_
      exact law_c22 C0 hX0 hK hin hl k882 n w d t f D T R hr im kn kw kf bo ik sz wy g z1 ks kv kg z2 da maps tn tb e1 e2 e3 e4 e5 e6 z3 hk rs p1 p2 z4 l1 l2 l3 l4 l5 ss sm pn pf pcv l6 l7 l8 l9 l10 am fo z5 z6 z7 n9 w9 g9 d9 were m1 m2 z8 q1 z9 z10 m3 m4 m5 m6 z11 tb9 t9 h9 rs9 i9 in9 iw9 ig9 hI H locs hP hD hS
    by_cases ce23 : z = (23 : Int32)
    · have ez : z.toInt = 23 := by rw [ce23]; decide
      refine lv_tableIn (tgt := 820) hx hb dL_law_32 (by rw [ez]; decide) (by rw [ez]; decide) (by rw [ez] <;> rfl) (by decide) ?_
      exact law_c23 C0 hX0 hK hin hl k882 n w d t f D T R hr im kn kw kf bo ik sz wy g z1 ks kv kg z2 da maps tn tb e1 e2 e3 e4 e5 e6 z3 hk rs p1 p2 z4 l1 l2 l3 l4 l5 ss sm pn pf pcv l6 l7 l8 l9 l10 am fo z5 z6 z7 n9 w9 g9 d9 were m1 m2 z8 q1 z9 z10 m3 m4 m5 m6 z11 tb9 t9 h9 rs9 i9 in9 iw9 ig9 hI H locs hP hD hS
    by_cases ce24 : z = (24 : Int32)
    · have ez : z.toInt = 24 := by rw [ce24]; decide
      refine lv_tableIn (tgt := 833) hx hb dL_law_32 (by rw [ez]; decide) (by rw [ez]; decide) (by rw [ez] <;> rfl) (by decide) ?_
      exact law_c24 C0 hX0 hK hin hl k882 n w d t f D T R hr im kn kw kf bo ik sz wy g z1 ks kv kg z2 da maps tn tb e1 e2 e3 e4 e5 e6 z3 hk rs p1 p2 z4 l1 l2 l3 l4 l5 ss sm pn pf pcv l6 l7 l8 l9 l10 am fo z5 z6 z7 n9 w9 g9 d9 were m1 m2 z8 q1 z9 z10 m3 m4 m5 m6 z11 tb9 t9 h9 rs9 i9 in9 iw9 ig9 hI H locs hP hD hS
    by_cases ce25 : z = (25 : Int32)
    · have ez : z.toInt = 25 := by rw [ce25]; decide
      refine lv_tableIn (tgt := 846) hx hb dL_law_32 (by rw [ez]; decide) (by rw [ez]; decide) (by rw [ez] <;> rfl) (by decide) ?_
      exact law_c25 C0 hX0 hK hin hl k882 n w d t f D T R hr im kn kw kf bo ik sz wy g z1 ks kv kg z2 da maps tn tb e1 e2 e3 e4 e5 e6 z3 hk rs p1 p2 z4 l1 l2 l3 l4 l5 ss sm pn pf pcv l6 l7 l8 l9 l10 am fo z5 z6 z7 n9 w9 g9 d9 were m1 m2 z8 q1 z9 z10 m3 m4 m5 m6 z11 tb9 t9 h9 rs9 i9 in9 iw9 ig9 hI H locs hP hD hS
    by_cases ce26 : z = (26 : Int32)
    · have ez : z.toInt = 26 := by rw [ce26]; decide
      refine lv_tableIn (tgt := 859) hx hb dL_law_32 (by rw [ez]; decide) (by rw [ez]; decide) (by rw [ez] <;> rfl) (by decide) ?_
      exact law_c26 C0 hX0 hK hin hl k882 n w d t f D T R hr im kn kw kf bo ik sz wy g z1 ks kv kg z2 da maps tn tb e1 e2 e3 e4 e5 e6 z3 hk rs p1 p2 z4 l1 l2 l3 l4 l5 ss sm pn pf pcv l6 l7 l8 l9 l10 am fo z5 z6 z7 n9 w9 g9 d9 were m1 m2 z8 q1 z9 z10 m3 m4 m5 m6 z11 tb9 t9 h9 rs9 i9 in9 iw9 ig9 hI H locs hP hD hS
    have cy0 := z_ne (z := 0) ce0 (by decide)
    have cy1 := z_ne (z := 1) ce1 (by decide)
    have cy2 := z_ne (z := 2) ce2 (by decide)
    have cy3 := z_ne (z := 3) ce3 (by decide)
    have cy4 := z_ne (z := 4) ce4 (by decide)
    have cy5 := z_ne (z := 5) ce5 (by decide)
    have cy6 := z_ne (z := 6) ce6 (by decide)
    have cy7 := z_ne (z := 7) ce7 (by decide)
    have cy8 := z_ne (z := 8) ce8 (by decide)
    have cy9 := z_ne (z := 9) ce9 (by decide)
    have cy10 := z_ne (z := 10) ce10 (by decide)
    have cy11 := z_ne (z := 11) ce11 (by decide)
    have cy12 := z_ne (z := 12) ce12 (by decide)
    have cy13 := z_ne (z := 13) ce13 (by decide)
    have cy14 := z_ne (z := 14) ce14 (by decide)
    have cy15 := z_ne (z := 15) ce15 (by decide)
    have cy16 := z_ne (z := 16) ce16 (by decide)
    have cy17 := z_ne (z := 17) ce17 (by decide)
    have cy18 := z_ne (z := 18) ce18 (by decide)
    have cy19 := z_ne (z := 19) ce19 (by decide)
    have cy20 := z_ne (z := 20) ce20 (by decide)
    have cy21 := z_ne (z := 21) ce21 (by decide)
    have cy22 := z_ne (z := 22) ce22 (by decide)
    have cy23 := z_ne (z := 23) ce23 (by decide)
    have cy24 := z_ne (z := 24) ce24 (by decide)
    have cy25 := z_ne (z := 25) ce25 (by decide)
    have cy26 := z_ne (z := 26) ce26 (by decide)
    refine lv_tableOut (tgt := 882) hx hb dL_law_32 (by omega) (by decide) ?_
    exact k882 n w d t f D T R hr im kn kw kf bo ik sz wy g z1 ks kv kg z2 da maps tn tb e1 e2 e3 e4 e5 e6 z3 hk rs p1 p2 z4 l1 l2 l3 l4 l5 ss sm pn pf pcv l6 l7 l8 l9 l10 am fo z5 z6 z7 n9 w9 g9 d9 were m1 m2 z8 q1 z9 z10 m3 m4 m5 m6 z11 tb9 t9 h9 rs9 i9 in9 iw9 ig9 hI H locs hP hD hS
theorem law_loop {p : Program} {l : Launch} {e : Env} {s : State} {m : MethodId} {below : List Frame} {meth : Method} {c : Code} {G : va_G} {cI cJ cB : ClassId} {tU tM tS b L : Nat} {xs : Nat → Int32} (C0 : lw_At p s m meth c b L xs) (hX0 : zX tU tM tS (fun q : Nat => s.heap.size ≤ q) s s.heap) (hK : va_K G vwCl (tyL cI cJ cB) s) (hL : L ≤ 2048) {qx qm : Nat} {ux um : Nat → Nat} : ∀ (N i : Nat), i ≤ 2048 → L ≤ i + N → ∀ ls : Array Slot, lv_has ls 4 [(0, .ref b), (1, .ref qx), (2, .ref qm), (3, .int (nI i))] → lwC p l e s m below meth c G cI cJ cB b qx ux qm um ls 18 := by
  intro N
  induction N with
  | zero => intro i hi hn ls hl; exact law_once C0 hX0 hK hL hi (fun h => absurd h (by omega)) ls hl
  | succ n ih => intro i hi hn ls hl; exact law_once C0 hX0 hK hL hi (fun h ls' hl' => ih (i + 4) (by omega) (by omega) ls' hl') ls hl
set_option maxRecDepth 100000 in
theorem lw_zX {b : Nat} {s : State} (hts : ∀ w ∈ lw_tbl, w.before #[Value.ref b] s = true) (hgv : (Jvm.Cond.and given_1 narrow_1).before #[Value.ref b] s = true) : ∃ tU tM tS : Nat, zX tU tM tS (fun q : Nat => s.heap.size ≤ q) s s.heap := by
  have hs := flat_of_before _ hgv
  have hA : ∀ a : Nat, a < s.heap.size → ¬ (fun q : Nat => s.heap.size ≤ q) a := fun a h => Nat.not_le.mpr h
  obtain ⟨tU, etU, TtU⟩ := va_Tof (args := #[Value.ref b]) (s := s) (tm := (.static "ForcedRings$Kinds" "UPPER" "[I")) (ty := .int) (N := 5) (f := fun j => .int (kU j)) (A := fun q : Nat => s.heap.size ≤ q) (by decide) (hs _ (by decide +kernel)) (va_eqt (t := .length (.static "ForcedRings$Kinds" "UPPER" "[I")) (z := Int32.ofNat 5) (hs _ (by decide +kernel))) (fun j hj => match j, hj with | 0, _ => va_eqt (t := .elem (.static "ForcedRings$Kinds" "UPPER" "[I") (.int (Int32.ofNat 0))) (z := kU 0) (hs _ (by decide +kernel)) | 1, _ => va_eqt (t := .elem (.static "ForcedRings$Kinds" "UPPER" "[I") (.int (Int32.ofNat 1))) (z := kU 1) (hs _ (by decide +kernel)) | 2, _ => va_eqt (t := .elem (.static "ForcedRings$Kinds" "UPPER" "[I") (.int (Int32.ofNat 2))) (z := kU 2) (hs _ (by decide +kernel)) | 3, _ => va_eqt (t := .elem (.static "ForcedRings$Kinds" "UPPER" "[I") (.int (Int32.ofNat 3))) (z := kU 3) (hs _ (by decide +kernel)) | 4, _ => va_eqt (t := .elem (.static "ForcedRings$Kinds" "UPPER" "[I") (.int (Int32.ofNat 4))) (z := kU 4) (hs _ (by decide +kernel)) | j + 5, h => absurd h (by omega)) hA
  obtain ⟨tM, etM, TtM⟩ := va_Tof (args := #[Value.ref b]) (s := s) (tm := (.static "ForcedRings$Patterns" "MOST" "[I")) (ty := .int) (N := 7) (f := fun j => .int (kM j)) (A := fun q : Nat => s.heap.size ≤ q) (by decide) (hs _ (by decide +kernel)) (va_eqt (t := .length (.static "ForcedRings$Patterns" "MOST" "[I")) (z := Int32.ofNat 7) (hs _ (by decide +kernel))) (fun j hj => match j, hj with | 0, _ => va_eqt (t := .elem (.static "ForcedRings$Patterns" "MOST" "[I") (.int (Int32.ofNat 0))) (z := kM 0) (hs _ (by decide +kernel)) | 1, _ => va_eqt (t := .elem (.static "ForcedRings$Patterns" "MOST" "[I") (.int (Int32.ofNat 1))) (z := kM 1) (hs _ (by decide +kernel)) | 2, _ => va_eqt (t := .elem (.static "ForcedRings$Patterns" "MOST" "[I") (.int (Int32.ofNat 2))) (z := kM 2) (hs _ (by decide +kernel)) | 3, _ => va_eqt (t := .elem (.static "ForcedRings$Patterns" "MOST" "[I") (.int (Int32.ofNat 3))) (z := kM 3) (hs _ (by decide +kernel)) | 4, _ => va_eqt (t := .elem (.static "ForcedRings$Patterns" "MOST" "[I") (.int (Int32.ofNat 4))) (z := kM 4) (hs _ (by decide +kernel)) | 5, _ => va_eqt (t := .elem (.static "ForcedRings$Patterns" "MOST" "[I") (.int (Int32.ofNat 5))) (z := kM 5) (hs _ (by decide +kernel)) | 6, _ => va_eqt (t := .elem (.static "ForcedRings$Patterns" "MOST" "[I") (.int (Int32.ofNat 6))) (z := kM 6) (hs _ (by decide +kernel)) | j + 7, h => absurd h (by omega)) hA
  obtain ⟨tS, etS, TtS⟩ := va_Tof (args := #[Value.ref b]) (s := s) (tm := (.static "ForcedRings$Patterns" "START" "[I")) (ty := .int) (N := 7) (f := fun j => .int (kS j)) (A := fun q : Nat => s.heap.size ≤ q) (by decide) (hs _ (by decide +kernel)) (va_eqt (t := .length (.static "ForcedRings$Patterns" "START" "[I")) (z := Int32.ofNat 7) (hs _ (by decide +kernel))) (fun j hj => match j, hj with | 0, _ => va_eqt (t := .elem (.static "ForcedRings$Patterns" "START" "[I") (.int (Int32.ofNat 0))) (z := kS 0) (hs _ (by decide +kernel)) | 1, _ => va_eqt (t := .elem (.static "ForcedRings$Patterns" "START" "[I") (.int (Int32.ofNat 1))) (z := kS 1) (hs _ (by decide +kernel)) | 2, _ => va_eqt (t := .elem (.static "ForcedRings$Patterns" "START" "[I") (.int (Int32.ofNat 2))) (z := kS 2) (hs _ (by decide +kernel)) | 3, _ => va_eqt (t := .elem (.static "ForcedRings$Patterns" "START" "[I") (.int (Int32.ofNat 3))) (z := kS 3) (hs _ (by decide +kernel)) | 4, _ => va_eqt (t := .elem (.static "ForcedRings$Patterns" "START" "[I") (.int (Int32.ofNat 4))) (z := kS 4) (hs _ (by decide +kernel)) | 5, _ => va_eqt (t := .elem (.static "ForcedRings$Patterns" "START" "[I") (.int (Int32.ofNat 5))) (z := kS 5) (hs _ (by decide +kernel)) | 6, _ => va_eqt (t := .elem (.static "ForcedRings$Patterns" "START" "[I") (.int (Int32.ofNat 6))) (z := kS 6) (hs _ (by decide +kernel)) | j + 7, h => absurd h (by omega)) hA
  refine ⟨tU, tM, tS, ⟨va_Zof (hts _ (List.mem_of_getElem? (i := 376) (by decide +kernel))) (hts _ (List.mem_of_getElem? (i := 63) (by decide +kernel))) etU hA, TtU⟩, ⟨va_Zof (hts _ (List.mem_of_getElem? (i := 527) (by decide +kernel))) (hts _ (List.mem_of_getElem? (i := 59) (by decide +kernel))) etM hA, TtM⟩, ⟨va_Zof (hts _ (List.mem_of_getElem? (i := 525) (by decide +kernel))) (hts _ (List.mem_of_getElem? (i := 59) (by decide +kernel))) etS hA, TtS⟩⟩
theorem lw_zN8 {b : Nat} {s : State} (hts : ∀ w ∈ lw_tbl, w.before #[Value.ref b] s = true) : zN8 s := ⟨va_Nw.of rfl (hts (.methodLinkNest RX8 27 yX1_init "ForcedRings") (List.mem_of_getElem? (i := 104) (by decide +kernel))), va_Nw.of rfl (hts (.methodLinkNest RX8 34 yX6_init "ForcedRings") (List.mem_of_getElem? (i := 118) (by decide +kernel))), va_Nw.of rfl (hts (.methodLinkNest RX8 41 yX7_init "ForcedRings") (List.mem_of_getElem? (i := 135) (by decide +kernel))), va_Nw.of rfl (hts (.methodLinkNest RX8 48 yX5_init "ForcedRings") (List.mem_of_getElem? (i := 174) (by decide +kernel))), va_Nw.of rfl (hts (.methodLinkNest RX8 55 yX4_init "ForcedRings") (List.mem_of_getElem? (i := 210) (by decide +kernel))), va_Nw.of rfl (hts (.methodLinkNest RX4 9 yX5_init "ForcedRings") (List.mem_of_getElem? (i := 215) (by decide +kernel)))⟩
set_option maxHeartbeats 4000000 in
set_option maxRecDepth 100000 in
/-- from the law's entry -/
theorem whole_start {p : Program} {e : Env} {s : State} {m : MethodId} {below : List Frame} {meth : Method} {c : Code} (l : Launch) (hflags : l.flags = flags0) {b L : Nat} {xs : Nat → Int32} (hL : L ≤ 2048) (C0 : lw_At p s m meth c b L xs) : W p l e room_1 s m #[Value.ref b] below meth c s.heap [] 0 0 (lw_Z below #[Value.ref b] s) (entryFrame m ([Value.ref b] : List Value).toArray 4) := by
  obtain ⟨hx, hb, hr0, hml, hown, hts, hXs, hbl, hlocks, hgv⟩ := id C0
  have hown : s.vm.findClass RL = some m.cls := hown
  have hA : ∀ q : Nat, s.heap.size ≤ q → (fun q : Nat => s.heap.size ≤ q) q := fun _ h => h
  have hts2 : ∀ w ∈ wsL_law, w.before #[Value.ref b] s = true := fun w h => hts w (wsL_law_in w h)
  obtain ⟨c0, i0, k0⟩ := u_known (C := RX0) (T := TX0) (N := 4) (n := 4) hts wsX00_in (hts2 _ (List.mem_of_getElem? (i := 14) rfl))
  obtain ⟨c1, i1, k1⟩ := u_known (C := RX1) (T := TX1) (N := 2) (n := 2) hts wsX10_in (hts2 _ (List.mem_of_getElem? (i := 19) rfl))
  obtain ⟨c2, i2, k2⟩ := u_known (C := RX4) (T := TX4) (N := 8) (n := 8) hts wsX40_in (hts2 _ (List.mem_of_getElem? (i := 35) rfl))
  obtain ⟨c3, i3, k3⟩ := u_known (C := RX5) (T := TX5) (N := 8) (n := 8) hts wsX50_in (hts2 _ (List.mem_of_getElem? (i := 31) rfl))
  obtain ⟨c4, i4, k4⟩ := u_known (C := RX6) (T := TX6) (N := 2) (n := 2) hts wsX60_in (hts2 _ (List.mem_of_getElem? (i := 23) rfl))
  obtain ⟨c5, i5, k5⟩ := u_known (C := RX7) (T := TX7) (N := 9) (n := 9) hts wsX70_in (hts2 _ (List.mem_of_getElem? (i := 27) rfl))
  obtain ⟨c6, i6, k6⟩ := u_known (C := RX8) (T := TX8) (N := 9) (n := 9) hts wsX80_in (hts2 _ (List.mem_of_getElem? (i := 1) rfl))
  obtain ⟨c7, i7, k7⟩ := u_known (C := RX9) (T := TX9) (N := 24) (n := 24) hts wsX90_in (hts2 _ (List.mem_of_getElem? (i := 4) rfl))
  obtain ⟨G, hKc⟩ : ∃ G : va_G, ∀ (k : Nat) (q : vw_C), vwCl[k]? = some q → u_Kn s q.1 q.2.1 q.2.2 (G.1 k) (G.2 k) := by
    refine ⟨(fun k => match k with | 0 => c0 | 1 => c1 | 2 => c2 | 3 => c3 | 4 => c4 | 5 => c5 | 6 => c6 | _ => c7, fun k => match k with | 0 => i0 | 1 => i1 | 2 => i2 | 3 => i3 | 4 => i4 | 5 => i5 | 6 => i6 | _ => i7), ?_⟩
    intro k q hq
    match k, hq with
    | 0, hq => cases hq; exact k0
    | 1, hq => cases hq; exact k1
    | 2, hq => cases hq; exact k2
    | 3, hq => cases hq; exact k3
    | 4, hq => cases hq; exact k4
    | 5, hq => cases hq; exact k5
    | 6, hq => cases hq; exact k6
    | 7, hq => cases hq; exact k7
    | k + 8, hq => simp [vwCl] at hq
  obtain ⟨cI, kcI, qcI, fcI, gcI, hcI⟩ := Cond.arrayClass_spec (hts2 (.arrayClass .int) (List.mem_of_getElem? (i := 44) rfl))
  obtain ⟨cJ, kcJ, qcJ, fcJ, gcJ, hcJ⟩ := Cond.arrayClass_spec (hts2 (.arrayClass .long) (List.mem_of_getElem? (i := 60) rfl))
  obtain ⟨cB, kcB, qcB, fcB, gcB, hcB⟩ := Cond.arrayClass_spec (hts2 (.arrayClass .byte) (List.mem_of_getElem? (i := 54) rfl))
  have hK : va_K G vwCl (tyL cI cJ cB) s := by
    refine ⟨hKc, fun k q hq => ?_⟩
    match k, hq with
    | 0, hq => cases hq; exact ⟨fun n z => ⟨fun k h => (by cases h), kcI, gcI, qcI, hcI⟩, fcI⟩
    | 1, hq => cases hq; exact ⟨fun n z => ⟨fun k h => (by cases h), kcJ, gcJ, qcJ, hcJ⟩, fcJ⟩
    | 2, hq => cases hq; exact ⟨fun n z => ⟨fun k h => (by cases h), kcB, gcB, qcB, hcB⟩, fcB⟩
    | k + 3, hq => simp [tyL] at hq
  obtain ⟨tU, tM, tS, hX0⟩ := lw_zX hts hgv
  have hS : va_S (fun q : Nat => s.heap.size ≤ q) s.heap s.heap [] := va_S.rf
  have hP : va_P G vwCl [] s.heap := fun k q h => by simp at h
  have hD : va_D (fun q : Nat => s.heap.size ≤ q) [] := ⟨fun i j p q h => by simp at h, fun k q h => by simp at h⟩
  have hl := lv_entry ([.ref b]) (n := 4) (Nat.le_of_ble_eq_true rfl)
  rw [lg_entry_eq]
  generalize (lg_sl ([.ref b]) ++ List.replicate (4 - (lg_sl ([.ref b])).length) Slot.unset).toArray = ls at hl ⊢
  have hl : lv_has ls 4 [(0, .ref b)] := hl
  refine z_new (own := RL) (C := RX8) (T := TX8) (N := 9) (ci := 6) (fs := [.int 0, .int 0, .null, .null, .null, .null, .null, .null, .null]) hx hb hts wsX80_in tyX8 tyX8_ok hown (hts2 _ (List.mem_of_getElem? (i := 0) rfl)) (hts2 _ (List.mem_of_getElem? (i := 1) rfl)) (hts2 _ (List.mem_of_getElem? (i := 2) rfl)) hK hP hD hS hA rfl (fun j hj => match j, hj with | 0, _ => rfl | 1, _ => rfl | 2, _ => rfl | 3, _ => rfl | 4, _ => rfl | 5, _ => rfl | 6, _ => rfl | 7, _ => rfl | 8, _ => rfl | z + 9, hz => absurd hz (by omega)) 1 9 rfl rfl (Nat.le_of_ble_eq_true rfl) (Nat.le_of_ble_eq_true rfl) dL_law_0 (wn := fun qx => [(qx, .inr (6, [.int 0, .int 0, .null, .null, .null, .null, .null, .null, .null]))]) (fun _ => rfl) (fun qx H hP hD hS => ?_)
  refine lv_dup hx hb dL_law_3 rfl ?_
  refine z_cIv (N := zN8) (wr := []) (wn := fun u => [(qx, .inr (6, [.int 1123, .int 0, .ref (u.1 0), .ref (u.1 3), .ref (u.1 6), .ref (u.1 8), .ref (u.1 10), .ref (u.1 13), .ref (u.1 20)])), ((u.1 0), .inr (0, [.int 3, .int 0, .ref (u.1 1), .ref (u.1 2)])), ((u.1 1), .inl (cI, 8, .inl (u.2.1))), ((u.1 2), .inl (cI, 8, .inl (fun _ => 0))), ((u.1 3), .inr (0, [.int 3, .int 0, .ref (u.1 4), .ref (u.1 5)])), ((u.1 4), .inl (cI, 8, .inl (u.2.2))), ((u.1 5), .inl (cI, 8, .inl (fun _ => 0))), ((u.1 6), .inr (1, [.int 0, .ref (u.1 7)])), ((u.1 7), .inl (cI, 10, .inl (fun _ => 0))), ((u.1 8), .inr (4, [.int 0, .ref (u.1 9)])), ((u.1 9), .inl (cB, 60, .inl (fun _ => 0))), ((u.1 10), .inr (5, [.int 0, .int 0, .int 0, .int 0, .int 0, .int 0, .ref (u.1 11), .int 0, .ref (u.1 12)])), ((u.1 11), .inl (cI, 8, .inl (fun _ => 0))), ((u.1 12), .inl (cJ, 3, .inr (.inl (fun _ => 0)))), ((u.1 13), .inr (3, [.int 0, .int 0, .ref (u.1 14), .ref (u.1 15), .ref (u.1 16), .ref (u.1 17), .ref (u.1 18), .ref (u.1 19)])), ((u.1 14), .inl (cI, 8, .inl (fun _ => 0))), ((u.1 15), .inl (cJ, 8, .inr (.inl (fun _ => 0)))), ((u.1 16), .inl (cJ, 8, .inr (.inl (fun _ => 0)))), ((u.1 17), .inl (cJ, 31, .inr (.inl (fun _ => 0)))), ((u.1 18), .inl (cJ, 31, .inr (.inl (fun _ => 0)))), ((u.1 19), .inl (cJ, 9, .inr (.inl (fun _ => 0)))), ((u.1 20), .inr (2, [.int 0, .int 0, .ref (u.1 21), .ref (u.1 28), .ref (u.1 29), .ref (u.1 30), .ref (u.1 31), .ref (u.1 32)])), ((u.1 21), .inr (3, [.int 0, .int 0, .ref (u.1 22), .ref (u.1 23), .ref (u.1 24), .ref (u.1 25), .ref (u.1 26), .ref (u.1 27)])), ((u.1 22), .inl (cI, 8, .inl (fun _ => 0))), ((u.1 23), .inl (cJ, 8, .inr (.inl (fun _ => 0)))), ((u.1 24), .inl (cJ, 8, .inr (.inl (fun _ => 0)))), ((u.1 25), .inl (cJ, 31, .inr (.inl (fun _ => 0)))), ((u.1 26), .inl (cJ, 31, .inr (.inl (fun _ => 0)))), ((u.1 27), .inl (cJ, 9, .inr (.inl (fun _ => 0)))), ((u.1 28), .inl (cI, 7, .inl (fun _ => 0))), ((u.1 29), .inl (cI, 153, .inl (fun _ => 0))), ((u.1 30), .inl (cI, 12, .inl (fun _ => 0))), ((u.1 31), .inl (cI, 6, .inl (fun _ => 0))), ((u.1 32), .inl (cI, 6, .inl (fun _ => 0)))]) zN8_st (lw_zN8 hts) (fun hp => va_runI (As := []) (rest := [.ref qx]) ⟨hx, hb, hml, hown, hts2⟩ (c_X8_init l G cI cJ cB tU tM tS qx H.size) (cwI 0 hts2 gL_law_X8_init rfl rfl rfl (hts2 _ (List.mem_of_getElem? (i := 2) rfl)) (hts2 _ (List.mem_of_getElem? (i := 6) rfl)) (hts2 _ (List.mem_of_getElem? (i := 7) rfl)) rfl hdc_X8_init ⟨Nat.le_of_ble_eq_true rfl, Nat.le_of_ble_eq_true rfl⟩) hp rfl rfl hl.1 rfl (lv_room (Nat.le_of_ble_eq_true rfl)) dL_law_4 ⟨Nat.le_of_ble_eq_true rfl, Nat.le_of_ble_eq_true rfl⟩) hX0 hK hP hD hS hA [0] [] [0, 1, 2, 3, 4, 5, 6, 7, 8, 9, 10, 11, 12, 13, 14, 15, 16, 17, 18, 19, 20, 21, 22, 23, 24, 25, 26, 27, 28, 29, 30, 31, 32, 33] rfl rfl rfl (by decide) (fun _ => rfl) 34 541 rfl rfl (fun u8 H locs h8 hP hD hS => ?_)
  refine lv_astore_n (lv' := [(1, .ref qx), (0, .ref b)]) hx hb dL_law_7 rfl hl (by decide) rfl (fun ls hl => ?_)
  refine z_new (own := RL) (C := RX9) (T := TX9) (N := 24) (ci := 7) (fs := [.int 0, .int 0, .null, .int 0, .null, .null, .null, .null, .int 0, .null, .null, .null, .null, .null, .null, .null, .null, .int 0, .int 0, .null, .int 0, .int 0, .int 0, .null]) hx hb hts wsX90_in tyX9 tyX9_ok hown (hts2 _ (List.mem_of_getElem? (i := 3) rfl)) (hts2 _ (List.mem_of_getElem? (i := 4) rfl)) (hts2 _ (List.mem_of_getElem? (i := 5) rfl)) hK hP hD hS hA rfl (fun j hj => match j, hj with | 0, _ => rfl | 1, _ => rfl | 2, _ => rfl | 3, _ => rfl | 4, _ => rfl | 5, _ => rfl | 6, _ => rfl | 7, _ => rfl | 8, _ => rfl | 9, _ => rfl | 10, _ => rfl | 11, _ => rfl | 12, _ => rfl | 13, _ => rfl | 14, _ => rfl | 15, _ => rfl | 16, _ => rfl | 17, _ => rfl | 18, _ => rfl | 19, _ => rfl | 20, _ => rfl | 21, _ => rfl | 22, _ => rfl | 23, _ => rfl | z + 24, hz => absurd hz (by omega)) 35 565 rfl rfl (Nat.le_of_ble_eq_true rfl) (Nat.le_of_ble_eq_true rfl) dL_law_8 (wn := fun qm => [(qx, .inr (6, [.int 1123, .int 0, .ref (u8.1 0), .ref (u8.1 3), .ref (u8.1 6), .ref (u8.1 8), .ref (u8.1 10), .ref (u8.1 13), .ref (u8.1 20)])), ((u8.1 0), .inr (0, [.int 3, .int 0, .ref (u8.1 1), .ref (u8.1 2)])), ((u8.1 1), .inl (cI, 8, .inl (u8.2.1))), ((u8.1 2), .inl (cI, 8, .inl (fun _ => 0))), ((u8.1 3), .inr (0, [.int 3, .int 0, .ref (u8.1 4), .ref (u8.1 5)])), ((u8.1 4), .inl (cI, 8, .inl (u8.2.2))), ((u8.1 5), .inl (cI, 8, .inl (fun _ => 0))), ((u8.1 6), .inr (1, [.int 0, .ref (u8.1 7)])), ((u8.1 7), .inl (cI, 10, .inl (fun _ => 0))), ((u8.1 8), .inr (4, [.int 0, .ref (u8.1 9)])), ((u8.1 9), .inl (cB, 60, .inl (fun _ => 0))), ((u8.1 10), .inr (5, [.int 0, .int 0, .int 0, .int 0, .int 0, .int 0, .ref (u8.1 11), .int 0, .ref (u8.1 12)])), ((u8.1 11), .inl (cI, 8, .inl (fun _ => 0))), ((u8.1 12), .inl (cJ, 3, .inr (.inl (fun _ => 0)))), ((u8.1 13), .inr (3, [.int 0, .int 0, .ref (u8.1 14), .ref (u8.1 15), .ref (u8.1 16), .ref (u8.1 17), .ref (u8.1 18), .ref (u8.1 19)])), ((u8.1 14), .inl (cI, 8, .inl (fun _ => 0))), ((u8.1 15), .inl (cJ, 8, .inr (.inl (fun _ => 0)))), ((u8.1 16), .inl (cJ, 8, .inr (.inl (fun _ => 0)))), ((u8.1 17), .inl (cJ, 31, .inr (.inl (fun _ => 0)))), ((u8.1 18), .inl (cJ, 31, .inr (.inl (fun _ => 0)))), ((u8.1 19), .inl (cJ, 9, .inr (.inl (fun _ => 0)))), ((u8.1 20), .inr (2, [.int 0, .int 0, .ref (u8.1 21), .ref (u8.1 28), .ref (u8.1 29), .ref (u8.1 30), .ref (u8.1 31), .ref (u8.1 32)])), ((u8.1 21), .inr (3, [.int 0, .int 0, .ref (u8.1 22), .ref (u8.1 23), .ref (u8.1 24), .ref (u8.1 25), .ref (u8.1 26), .ref (u8.1 27)])), ((u8.1 22), .inl (cI, 8, .inl (fun _ => 0))), ((u8.1 23), .inl (cJ, 8, .inr (.inl (fun _ => 0)))), ((u8.1 24), .inl (cJ, 8, .inr (.inl (fun _ => 0)))), ((u8.1 25), .inl (cJ, 31, .inr (.inl (fun _ => 0)))), ((u8.1 26), .inl (cJ, 31, .inr (.inl (fun _ => 0)))), ((u8.1 27), .inl (cJ, 9, .inr (.inl (fun _ => 0)))), ((u8.1 28), .inl (cI, 7, .inl (fun _ => 0))), ((u8.1 29), .inl (cI, 153, .inl (fun _ => 0))), ((u8.1 30), .inl (cI, 12, .inl (fun _ => 0))), ((u8.1 31), .inl (cI, 6, .inl (fun _ => 0))), ((u8.1 32), .inl (cI, 6, .inl (fun _ => 0))), (qm, .inr (7, [.int 0, .int 0, .null, .int 0, .null, .null, .null, .null, .int 0, .null, .null, .null, .null, .null, .null, .null, .null, .int 0, .int 0, .null, .int 0, .int 0, .int 0, .null]))]) (fun _ => rfl) (fun qm H hP hD hS => ?_)
  refine lv_dup hx hb dL_law_11 rfl ?_
  refine z_cIv (N := zN0) (wr := [(qx, .inr (6, [.int 1123, .int 0, .ref (u8.1 0), .ref (u8.1 3), .ref (u8.1 6), .ref (u8.1 8), .ref (u8.1 10), .ref (u8.1 13), .ref (u8.1 20)])), ((u8.1 0), .inr (0, [.int 3, .int 0, .ref (u8.1 1), .ref (u8.1 2)])), ((u8.1 1), .inl (cI, 8, .inl (u8.2.1))), ((u8.1 2), .inl (cI, 8, .inl (fun _ => 0))), ((u8.1 3), .inr (0, [.int 3, .int 0, .ref (u8.1 4), .ref (u8.1 5)])), ((u8.1 4), .inl (cI, 8, .inl (u8.2.2))), ((u8.1 5), .inl (cI, 8, .inl (fun _ => 0))), ((u8.1 6), .inr (1, [.int 0, .ref (u8.1 7)])), ((u8.1 7), .inl (cI, 10, .inl (fun _ => 0))), ((u8.1 8), .inr (4, [.int 0, .ref (u8.1 9)])), ((u8.1 9), .inl (cB, 60, .inl (fun _ => 0))), ((u8.1 10), .inr (5, [.int 0, .int 0, .int 0, .int 0, .int 0, .int 0, .ref (u8.1 11), .int 0, .ref (u8.1 12)])), ((u8.1 11), .inl (cI, 8, .inl (fun _ => 0))), ((u8.1 12), .inl (cJ, 3, .inr (.inl (fun _ => 0)))), ((u8.1 13), .inr (3, [.int 0, .int 0, .ref (u8.1 14), .ref (u8.1 15), .ref (u8.1 16), .ref (u8.1 17), .ref (u8.1 18), .ref (u8.1 19)])), ((u8.1 14), .inl (cI, 8, .inl (fun _ => 0))), ((u8.1 15), .inl (cJ, 8, .inr (.inl (fun _ => 0)))), ((u8.1 16), .inl (cJ, 8, .inr (.inl (fun _ => 0)))), ((u8.1 17), .inl (cJ, 31, .inr (.inl (fun _ => 0)))), ((u8.1 18), .inl (cJ, 31, .inr (.inl (fun _ => 0)))), ((u8.1 19), .inl (cJ, 9, .inr (.inl (fun _ => 0)))), ((u8.1 20), .inr (2, [.int 0, .int 0, .ref (u8.1 21), .ref (u8.1 28), .ref (u8.1 29), .ref (u8.1 30), .ref (u8.1 31), .ref (u8.1 32)])), ((u8.1 21), .inr (3, [.int 0, .int 0, .ref (u8.1 22), .ref (u8.1 23), .ref (u8.1 24), .ref (u8.1 25), .ref (u8.1 26), .ref (u8.1 27)])), ((u8.1 22), .inl (cI, 8, .inl (fun _ => 0))), ((u8.1 23), .inl (cJ, 8, .inr (.inl (fun _ => 0)))), ((u8.1 24), .inl (cJ, 8, .inr (.inl (fun _ => 0)))), ((u8.1 25), .inl (cJ, 31, .inr (.inl (fun _ => 0)))), ((u8.1 26), .inl (cJ, 31, .inr (.inl (fun _ => 0)))), ((u8.1 27), .inl (cJ, 9, .inr (.inl (fun _ => 0)))), ((u8.1 28), .inl (cI, 7, .inl (fun _ => 0))), ((u8.1 29), .inl (cI, 153, .inl (fun _ => 0))), ((u8.1 30), .inl (cI, 12, .inl (fun _ => 0))), ((u8.1 31), .inl (cI, 6, .inl (fun _ => 0))), ((u8.1 32), .inl (cI, 6, .inl (fun _ => 0)))]) (wn := fun u => [(qx, .inr (6, [.int 1123, .int 0, .ref (u8.1 0), .ref (u8.1 3), .ref (u8.1 6), .ref (u8.1 8), .ref (u8.1 10), .ref (u8.1 13), .ref (u8.1 20)])), ((u8.1 0), .inr (0, [.int 3, .int 0, .ref (u8.1 1), .ref (u8.1 2)])), ((u8.1 1), .inl (cI, 8, .inl (u8.2.1))), ((u8.1 2), .inl (cI, 8, .inl (fun _ => 0))), ((u8.1 3), .inr (0, [.int 3, .int 0, .ref (u8.1 4), .ref (u8.1 5)])), ((u8.1 4), .inl (cI, 8, .inl (u8.2.2))), ((u8.1 5), .inl (cI, 8, .inl (fun _ => 0))), ((u8.1 6), .inr (1, [.int 0, .ref (u8.1 7)])), ((u8.1 7), .inl (cI, 10, .inl (fun _ => 0))), ((u8.1 8), .inr (4, [.int 0, .ref (u8.1 9)])), ((u8.1 9), .inl (cB, 60, .inl (fun _ => 0))), ((u8.1 10), .inr (5, [.int 0, .int 0, .int 0, .int 0, .int 0, .int 0, .ref (u8.1 11), .int 0, .ref (u8.1 12)])), ((u8.1 11), .inl (cI, 8, .inl (fun _ => 0))), ((u8.1 12), .inl (cJ, 3, .inr (.inl (fun _ => 0)))), ((u8.1 13), .inr (3, [.int 0, .int 0, .ref (u8.1 14), .ref (u8.1 15), .ref (u8.1 16), .ref (u8.1 17), .ref (u8.1 18), .ref (u8.1 19)])), ((u8.1 14), .inl (cI, 8, .inl (fun _ => 0))), ((u8.1 15), .inl (cJ, 8, .inr (.inl (fun _ => 0)))), ((u8.1 16), .inl (cJ, 8, .inr (.inl (fun _ => 0)))), ((u8.1 17), .inl (cJ, 31, .inr (.inl (fun _ => 0)))), ((u8.1 18), .inl (cJ, 31, .inr (.inl (fun _ => 0)))), ((u8.1 19), .inl (cJ, 9, .inr (.inl (fun _ => 0)))), ((u8.1 20), .inr (2, [.int 0, .int 0, .ref (u8.1 21), .ref (u8.1 28), .ref (u8.1 29), .ref (u8.1 30), .ref (u8.1 31), .ref (u8.1 32)])), ((u8.1 21), .inr (3, [.int 0, .int 0, .ref (u8.1 22), .ref (u8.1 23), .ref (u8.1 24), .ref (u8.1 25), .ref (u8.1 26), .ref (u8.1 27)])), ((u8.1 22), .inl (cI, 8, .inl (fun _ => 0))), ((u8.1 23), .inl (cJ, 8, .inr (.inl (fun _ => 0)))), ((u8.1 24), .inl (cJ, 8, .inr (.inl (fun _ => 0)))), ((u8.1 25), .inl (cJ, 31, .inr (.inl (fun _ => 0)))), ((u8.1 26), .inl (cJ, 31, .inr (.inl (fun _ => 0)))), ((u8.1 27), .inl (cJ, 9, .inr (.inl (fun _ => 0)))), ((u8.1 28), .inl (cI, 7, .inl (fun _ => 0))), ((u8.1 29), .inl (cI, 153, .inl (fun _ => 0))), ((u8.1 30), .inl (cI, 12, .inl (fun _ => 0))), ((u8.1 31), .inl (cI, 6, .inl (fun _ => 0))), ((u8.1 32), .inl (cI, 6, .inl (fun _ => 0))), (qm, .inr (7, [.int 3, .int 0, .ref (u.1 0), .int 0, .ref (u.1 1), .ref (u.1 2), .ref (u.1 3), .ref (u.1 4), .int 0, .ref (u.1 5), .ref (u.1 6), .ref (u.1 7), .ref (u.1 8), .ref (u.1 9), .ref (u.1 10), .ref (u.1 11), .ref (u.1 12), .int 0, .int 0, .ref (u.1 13), .int 0, .int 0, .int 0, .ref (u.1 14)])), ((u.1 0), .inl (cI, 8, .inl (u.2))), ((u.1 1), .inl (cI, 80, .inl (fun _ => 0))), ((u.1 2), .inl (cJ, 64, .inr (.inl (fun _ => 0)))), ((u.1 3), .inl (cJ, 64, .inr (.inl (fun _ => 0)))), ((u.1 4), .inl (cI, 800, .inl (fun _ => 0))), ((u.1 5), .inl (cI, 6, .inl (fun _ => 0))), ((u.1 6), .inl (cI, 6, .inl (fun _ => 0))), ((u.1 7), .inl (cJ, 8, .inr (.inl (fun _ => 0)))), ((u.1 8), .inl (cJ, 8, .inr (.inl (fun _ => 0)))), ((u.1 9), .inl (cJ, 64, .inr (.inl (fun _ => 0)))), ((u.1 10), .inl (cJ, 64, .inr (.inl (fun _ => 0)))), ((u.1 11), .inl (cI, 8, .inl (fun _ => 0))), ((u.1 12), .inl (cI, 60, .inl (fun _ => 0))), ((u.1 13), .inl (cI, 3, .inl (fun _ => 0))), ((u.1 14), .inl (cI, 8, .inl (fun _ => 0)))]) zN0_st trivial (fun hp => va_runI (As := []) (rest := [.ref qm]) ⟨hx, hb, hml, hown, hts2⟩ (c_X9_init l G cI cJ cB tU tM tS qm H.size) (cwI 0 hts2 gL_law_X9_init rfl rfl rfl (hts2 _ (List.mem_of_getElem? (i := 5) rfl)) (hts2 _ (List.mem_of_getElem? (i := 81) rfl)) (hts2 _ (List.mem_of_getElem? (i := 82) rfl)) rfl hdc_X9_init ⟨Nat.le_of_ble_eq_true rfl, Nat.le_of_ble_eq_true rfl⟩) hp rfl rfl hl.1 rfl (lv_room (Nat.le_of_ble_eq_true rfl)) dL_law_12 ⟨Nat.le_of_ble_eq_true rfl, Nat.le_of_ble_eq_true rfl⟩) hX0 hK hP hD hS hA [34] [0, 1, 2, 3, 4, 5, 6, 7, 8, 9, 10, 11, 12, 13, 14, 15, 16, 17, 18, 19, 20, 21, 22, 23, 24, 25, 26, 27, 28, 29, 30, 31, 32, 33] [0, 1, 2, 3, 4, 5, 6, 7, 8, 9, 10, 11, 12, 13, 14, 15, 16, 17, 18, 19, 20, 21, 22, 23, 24, 25, 26, 27, 28, 29, 30, 31, 32, 33, 34, 35, 36, 37, 38, 39, 40, 41, 42, 43, 44, 45, 46, 47, 48, 49] rfl rfl (by decide +kernel) (by decide +kernel) (fun _ => rfl) 50 1816 rfl rfl (fun u9 H locs h9 hP hD hS => ?_)
  refine lv_astore_n (lv' := [(2, .ref qm), (1, .ref qx), (0, .ref b)]) hx hb dL_law_15 rfl hl (by decide) rfl (fun ls hl => ?_)
  refine lv_iconst (v := (0 : Int32)) hx hb dL_law_16 (by decide) ?_
  refine lv_istore_n (lv' := [(3, .int 0), (2, .ref qm), (1, .ref qx), (0, .ref b)]) hx hb dL_law_17 rfl hl (by decide) rfl (fun ls hl => ?_)
  have hl0 : lv_has ls 4 [(0, .ref b), (1, .ref qx), (2, .ref qm), (3, .int (nI 0))] := lv_sub hl [3, 2, 1, 0] rfl
  exact law_loop C0 hX0 hK hL (ux := u8.1) (um := u9.1) L 0 (Nat.zero_le _) (by omega) ls hl0 3 0 0 0 id (fun _ _ => 0) (fun _ => 0) (fun _ => 0) false false 0 0 id 1123 0 3 0 u8.2.1 (fun _ => 0) 3 0 u8.2.2 (fun _ => 0) 0 (fun _ => 0) 0 (fun _ => 0) 0 0 0 0 0 0 (fun _ => 0) 0 (fun _ => 0) 0 0 (fun _ => 0) (fun _ => 0) (fun _ => 0) (fun _ => 0) (fun _ => 0) (fun _ => 0) 0 0 0 0 (fun _ => 0) (fun _ => 0) (fun _ => 0) (fun _ => 0) (fun _ => 0) (fun _ => 0) (fun _ => 0) (fun _ => 0) (fun _ => 0) (fun _ => 0) (fun _ => 0) 3 0 u9.2 0 (fun _ => 0) (fun _ => 0) (fun _ => 0) (fun _ => 0) 0 (fun _ => 0) (fun _ => 0) (fun _ => 0) (fun _ => 0) (fun _ => 0) (fun _ => 0) (fun _ => 0) (fun _ => 0) 0 0 (fun _ => 0) 0 0 0 (fun _ => 0) ⟨rfl, rfl, rfl, rfl, rfl, rfl, rfl, rfl, rfl, rfl, rfl, rfl, rfl, (OkF_id2 (by decide) (by decide)), (Nat.zero_le _), ⟨Nat.zero_le _, fun k hk => absurd hk (Nat.not_lt_zero k)⟩, ⟨Nat.zero_le _, fun k hk => absurd hk (Nat.not_lt_zero k)⟩, (fun k hk => h8.1 k hk), (fun k hk => absurd hk (Nat.not_lt_zero k)), (fun k hk => absurd hk (Nat.not_lt_zero k)), (fun h => absurd h (by decide)), (fun h => absurd h (by decide)), (Or.inl rfl), (fun k hk => h9 k hk), (fun k hk => absurd hk (Nat.not_lt_zero k)), (fun k hk => absurd hk (Nat.not_lt_zero k)), (fun h => absurd h (by decide))⟩ H locs hP hD hS
