/-! The law: its statics, its start, laid by program. -/
set_option maxRecDepth 100000 in
theorem lw_zX {b L : Nat} {xs : Nat → Int32} {s : State} (hts : ∀ w ∈ lw_tbl, w.before #[Value.ref b] s = true) (hgv : (Jvm.Cond.and given_1 narrow_1).before #[Value.ref b] s = true) (hXs : va_X b L xs s s.heap) (hbl : b < s.heap.size) : ∃ tU : Nat, zX tU b (L, xs) (fun q : Nat => s.heap.size ≤ q) s s.heap := by
  have hs := flat_of_before _ hgv
  have hA : ∀ a : Nat, a < s.heap.size → ¬ (fun q : Nat => s.heap.size ≤ q) a := fun a h => Nat.not_le.mpr h
  obtain ⟨tU, etU, TtU⟩ := va_Tof (args := #[Value.ref b]) (s := s) (tm := (.static "ForcedRings$Kinds" "UPPER" "[I")) (ty := .int) (N := 5) (f := fun j => .int (kU j)) (A := fun q : Nat => s.heap.size ≤ q) (by decide) (hs _ (by decide +kernel)) (va_eqt (t := .length (.static "ForcedRings$Kinds" "UPPER" "[I")) (z := Int32.ofNat 5) (hs _ (by decide +kernel))) (fun j hj => match j, hj with | 0, _ => va_eqt (t := .elem (.static "ForcedRings$Kinds" "UPPER" "[I") (.int (Int32.ofNat 0))) (z := kU 0) (hs _ (by decide +kernel)) | 1, _ => va_eqt (t := .elem (.static "ForcedRings$Kinds" "UPPER" "[I") (.int (Int32.ofNat 1))) (z := kU 1) (hs _ (by decide +kernel)) | 2, _ => va_eqt (t := .elem (.static "ForcedRings$Kinds" "UPPER" "[I") (.int (Int32.ofNat 2))) (z := kU 2) (hs _ (by decide +kernel)) | 3, _ => va_eqt (t := .elem (.static "ForcedRings$Kinds" "UPPER" "[I") (.int (Int32.ofNat 3))) (z := kU 3) (hs _ (by decide +kernel)) | 4, _ => va_eqt (t := .elem (.static "ForcedRings$Kinds" "UPPER" "[I") (.int (Int32.ofNat 4))) (z := kU 4) (hs _ (by decide +kernel)) | j + 5, h => absurd h (by omega)) hA
  obtain ⟨scr, hcb, hof, hkn, hsz, hval⟩ := hXs
  exact ⟨tU, ⟨va_Zof (hts _ (List.mem_of_getElem? (i := 131) (by decide +kernel))) (hts _ (List.mem_of_getElem? (i := 23) (by decide +kernel))) etU hA, TtU⟩, trivial, scr, hcb, hof, hkn, Nat.le_of_eq hsz.symm, by rw [hsz], hval, Nat.not_le.mpr hbl⟩
theorem lw_zN8 {b : Nat} {s : State} (hts : ∀ w ∈ lw_tbl, w.before #[Value.ref b] s = true) : zN8 s := ⟨va_Nw.of rfl (hts (.methodLinkNest RX8 27 yX1_init "ForcedRings") (List.mem_of_getElem? (i := 295) (by decide +kernel))), va_Nw.of rfl (hts (.methodLinkNest RX8 34 yX6_init "ForcedRings") (List.mem_of_getElem? (i := 309) (by decide +kernel))), va_Nw.of rfl (hts (.methodLinkNest RX8 41 yX7_init "ForcedRings") (List.mem_of_getElem? (i := 325) (by decide +kernel))), va_Nw.of rfl (hts (.methodLinkNest RX8 48 yX5_init "ForcedRings") (List.mem_of_getElem? (i := 364) (by decide +kernel))), va_Nw.of rfl (hts (.methodLinkNest RX8 55 yX4_init "ForcedRings") (List.mem_of_getElem? (i := 393) (by decide +kernel))), va_Nw.of rfl (hts (.methodLinkNest RX4 9 yX5_init "ForcedRings") (List.mem_of_getElem? (i := 398) (by decide +kernel)))⟩
theorem hd_L_build : yL_build.cls = RL ∧ yL_build.cls ≠ "java/lang/invoke/MethodHandle" ∧ yL_build.cls ≠ "java/lang/invoke/VarHandle" ∧ (parseMethodDescriptor yL_build.desc).map (fun d => d.parameters.length) = some 1 := by decide +kernel
set_option maxHeartbeats 4000000 in
set_option maxRecDepth 100000 in
/-- from the law's entry -/
theorem whole_start {p : Program} {e : Env} {s : State} {m : MethodId} {below : List Frame} {meth : Method} {c : Code} (l : Launch) (hflags : l.flags = flags0) {b L : Nat} {xs : Nat → Int32} (hL : L ≤ 260) (C0 : lw_At p s m meth c b L xs) : W p l e room_1 s m #[Value.ref b] below meth c s.heap [] 0 0 (lw_Z below #[Value.ref b] s) (entryFrame m ([Value.ref b] : List Value).toArray 14) := by
  obtain ⟨hx, hb, hr0, hml, hown, hts, hXs, hbl, hlocks, hgv⟩ := id C0
  have hown : s.vm.findClass RL = some m.cls := hown
  have hA : ∀ q : Nat, s.heap.size ≤ q → (fun q : Nat => s.heap.size ≤ q) q := fun _ h => h
  have hts2 : ∀ w ∈ wsL_law, w.before #[Value.ref b] s = true := fun w h => hts w (wsL_law_in w h)
  obtain ⟨c0, i0, k0⟩ := u_known (C := RX0) (T := TX0) (N := 4) (n := 4) hts wsX00_in (hts2 _ (List.mem_of_getElem? (i := 20) rfl))
  obtain ⟨c1, i1, k1⟩ := u_known (C := RX1) (T := TX1) (N := 2) (n := 2) hts wsX10_in (hts2 _ (List.mem_of_getElem? (i := 25) rfl))
  obtain ⟨c2, i2, k2⟩ := u_known (C := RX4) (T := TX4) (N := 8) (n := 8) hts wsX40_in (hts2 _ (List.mem_of_getElem? (i := 41) rfl))
  obtain ⟨c3, i3, k3⟩ := u_known (C := RX5) (T := TX5) (N := 8) (n := 8) hts wsX50_in (hts2 _ (List.mem_of_getElem? (i := 37) rfl))
  obtain ⟨c4, i4, k4⟩ := u_known (C := RX6) (T := TX6) (N := 2) (n := 2) hts wsX60_in (hts2 _ (List.mem_of_getElem? (i := 29) rfl))
  obtain ⟨c5, i5, k5⟩ := u_known (C := RX7) (T := TX7) (N := 9) (n := 9) hts wsX70_in (hts2 _ (List.mem_of_getElem? (i := 33) rfl))
  obtain ⟨c6, i6, k6⟩ := u_known (C := RX8) (T := TX8) (N := 9) (n := 9) hts wsX80_in (hts2 _ (List.mem_of_getElem? (i := 10) rfl))
  obtain ⟨G, hKc⟩ : ∃ G : va_G, ∀ (k : Nat) (q : vw_C), vwCl[k]? = some q → u_Kn s q.1 q.2.1 q.2.2 (G.1 k) (G.2 k) := by
    refine ⟨(fun k => match k with | 0 => c0 | 1 => c1 | 2 => c2 | 3 => c3 | 4 => c4 | 5 => c5 | _ => c6, fun k => match k with | 0 => i0 | 1 => i1 | 2 => i2 | 3 => i3 | 4 => i4 | 5 => i5 | _ => i6), ?_⟩
    intro k q hq
    match k, hq with
    | 0, hq => cases hq; exact k0
    | 1, hq => cases hq; exact k1
    | 2, hq => cases hq; exact k2
    | 3, hq => cases hq; exact k3
    | 4, hq => cases hq; exact k4
    | 5, hq => cases hq; exact k5
    | 6, hq => cases hq; exact k6
    | k + 7, hq => simp [vwCl] at hq
  obtain ⟨cI, kcI, qcI, fcI, gcI, hcI⟩ := Cond.arrayClass_spec (hts2 (.arrayClass .int) (List.mem_of_getElem? (i := 50) rfl))
  obtain ⟨cJ, kcJ, qcJ, fcJ, gcJ, hcJ⟩ := Cond.arrayClass_spec (hts2 (.arrayClass .long) (List.mem_of_getElem? (i := 66) rfl))
  obtain ⟨cB, kcB, qcB, fcB, gcB, hcB⟩ := Cond.arrayClass_spec (hts2 (.arrayClass .byte) (List.mem_of_getElem? (i := 60) rfl))
  have hK : va_K G vwCl (tyL cI cJ cB) s := by
    refine ⟨hKc, fun k q hq => ?_⟩
    match k, hq with
    | 0, hq => cases hq; exact ⟨fun n z => ⟨fun k h => (by cases h), kcI, gcI, qcI, hcI⟩, fcI⟩
    | 1, hq => cases hq; exact ⟨fun n z => ⟨fun k h => (by cases h), kcJ, gcJ, qcJ, hcJ⟩, fcJ⟩
    | 2, hq => cases hq; exact ⟨fun n z => ⟨fun k h => (by cases h), kcB, gcB, qcB, hcB⟩, fcB⟩
    | k + 3, hq => simp [tyL] at hq
  obtain ⟨tU, hX0⟩ := lw_zX hts hgv hXs hbl
  have hS : va_S (fun q : Nat => s.heap.size ≤ q) s.heap s.heap [] := va_S.rf
  have hl := lv_entry ([.ref b]) (n := 14) (Nat.le_of_ble_eq_true rfl)
  rw [lg_entry_eq]
  generalize (lg_sl ([.ref b]) ++ List.replicate (14 - (lg_sl ([.ref b])).length) Slot.unset).toArray = ls at hl ⊢
  have hl : lv_has ls 14 [(0, .ref b)] := hl
  refine lv_aload_n hx hb dL_law_0 rfl (lv_at hl 0 rfl) ?_
  refine z_cSr (N := zN8) (As := [.ref b]) (rest := []) (ad := fun u : Nat × (Nat → Nat) × (Nat → Int32) × Int32 × (Nat → Int32) × Int32 × Int32 × (Nat → Int32) => u.1) zN8_st (lw_zN8 hts) (fun hp => va_runS (As := [.ref b]) (rest := []) ⟨hx, hb, hml, hown, hts2⟩ (c_L_build l G cI cJ cB tU b (L, xs) s.heap.size PB (fun g hg => B_main hL)) (va_cwS 1 hts2 gL_law_L_build rfl rfl rfl hd_L_build.2 ⟨Nat.le_of_ble_eq_true rfl, Nat.le_of_ble_eq_true rfl⟩) hp rfl rfl hl.1 rfl (lv_room (Nat.le_of_ble_eq_true rfl)) dL_law_1 ⟨Nat.le_of_ble_eq_true rfl, Nat.le_of_ble_eq_true rfl⟩) hX0 hK hS hA 34 541 rfl rfl (fun u H locs hu hP hD hS => ?_)
  refine lv_astore_n (lv' := [(1, .ref u.1), (0, .ref b)]) hx hb dL_law_4 rfl hl (by decide) rfl (fun ls hl => ?_)
  obtain ⟨q, a, kg, sz, g, am, wy, maps⟩ := u
  obtain ⟨n, w, d, f, D, rfl, rfl, rfl, ho, hw, hg, hD', hm⟩ := hu
  exact w_L_law (tS := (L, xs)) (A := fun q : Nat => s.heap.size ≤ q) (P := P1) ⟨hx, hb, hr0, hts2, hown, hml, hlocks, hA, hX0, hK⟩ rfl rfl rfl (fun r h => h) (L_main hL ho hw hg hD' hm) hP hD hS (lv_sub hl [1, 0] rfl)
