/-! The base of the constructors: new cells come with the world. -/
/-- what is said of private constructors of a nest mate: it stays with the tables -/
def zSt (N : State → Prop) : Prop := (∀ u U : State, u.vm = U.vm → N u → N U) ∧ (∀ u U : State, u.WarmedH U.vm → N u → N U)
def zN0 (_ : State) : Prop := True
def zN4 (U : State) : Prop := va_Nw (.methodLinkNest RX4 9 yX5_init "ForcedRings") U
def zN8 (U : State) : Prop := va_Nw (.methodLinkNest RX8 27 yX1_init "ForcedRings") U ∧ va_Nw (.methodLinkNest RX8 34 yX6_init "ForcedRings") U ∧ va_Nw (.methodLinkNest RX8 41 yX7_init "ForcedRings") U ∧ va_Nw (.methodLinkNest RX8 48 yX5_init "ForcedRings") U ∧ va_Nw (.methodLinkNest RX8 55 yX4_init "ForcedRings") U ∧ zN4 U
theorem zN0_st : zSt zN0 := ⟨fun _ _ _ _ => trivial, fun _ _ _ _ => trivial⟩
theorem zN4_st : zSt zN4 := ⟨fun _ _ h k => va_Nw.same rfl h k, fun _ _ h k => va_Nw.warmM h k⟩
theorem zN8_st : zSt zN8 := ⟨fun _ _ h k => ⟨va_Nw.same rfl h k.1, va_Nw.same rfl h k.2.1, va_Nw.same rfl h k.2.2.1, va_Nw.same rfl h k.2.2.2.1, va_Nw.same rfl h k.2.2.2.2.1, zN4_st.1 _ _ h k.2.2.2.2.2⟩, fun _ _ h k => ⟨va_Nw.warmM h k.1, va_Nw.warmM h k.2.1, va_Nw.warmM h k.2.2.1, va_Nw.warmM h k.2.2.2.1, va_Nw.warmM h k.2.2.2.2.1, zN4_st.2 _ _ h k.2.2.2.2.2⟩⟩
def zPreN (N : State → Prop) (D : va_G) (cI cJ cB : ClassId) (tU tM : Nat) (tS : tsT) (ws : va_W) (sz : Nat) (U : State) : Prop := zPre D cI cJ cB tU tM tS ws sz U ∧ N U
theorem z_metC {l : Launch} {y : MethodName} {wsy ws' : List Cond} {rm : Room} {cc : ByteArray} {maxL : Nat} {ret : Option FieldType} {D : va_G} {cI cJ cB : ClassId} {tU tM : Nat} {tS : tsT} {wc : va_W} {sz mc ms : Nat} {N : State → Prop} {Qc : (Nat → Prop) → Array Value → State → Outcome → State → Prop} (hy : plainName y.cls = true) (hw : wsy = Cond.code y cc maxL ret :: ws') (av : List Value) (hlen : (lg_sl av).length ≤ maxL)
    (body : ∀ (p : Program) (e : Env) (s : State) (m : MethodId) (args : Array Value) (below : List Frame) (meth : Method) (c : Code) (A : Nat → Prop), p.tables.exec = Jvm.exec → c.code = cc → meth.sig.returnType = ret → (∀ w ∈ wsy, w.before args s = true) → s.vm.findClass y.cls = some m.cls → c.maxLocals = maxL → meth.locks = false → meth.name = y.name → (∀ q : Nat, s.heap.size ≤ q → A q) → zX tU tM tS A s s.heap → va_K D vwCl (tyL cI cJ cB) s → N s → ∀ (H : Heap) (locs : List Loc), va_P D vwCl wc H → va_D A wc → va_S A s.heap H locs → ∀ ls : Array Slot, lv_has ls maxL (lv_args 0 av) → ∀ Q : State → Prop, Q = MQ below (Qc A) args s mc ms A → W p l e rm s m args below meth c H locs 0 0 Q (F0 m 0 ls [])) :
    Met l y wsy rm (va_Pc av (zPreN N D cI cJ cB tU tM tS wc sz)) (Qc (va_A wc sz)) mc ms (va_A wc sz) := by
  refine Met.ofW (cc := cc) (maxL := maxL) (ret := ret) hy hw ?_
  intro p e s m args below meth c s₁ B hml hv
  obtain ⟨rfl, ⟨hsz, hP, hK, hD0, hX⟩, hN⟩ := hv
  subst hsz
  rw [lg_entry_eq]
  exact body p e s m _ below meth c (va_A wc s.heap.size) B.exec B.bytes B.returns (atoms_spec (ws := wsy) B.pre) (findClass_of_methodNamed B.named) hml B.notSynchronized (name_of_methodNamed B.named B.method).1 (fun q h => Or.inr h) hX hK hN _ _ hP hD0.self va_S.rf _ (lv_entry av (n := maxL) hlen) _ rfl
section ZC
variable {p : Program} {l : Launch} {e : Env} {R : Room} {s : State} {m : MethodId} {args : Array Value} {below : List Frame} {meth : Method} {c : Code} {H : Heap} {locs : List Loc} {cells slots : Nat} {Q : State → Prop}
variable {pc : Nat} {ls : Array Slot} {rest st0 : List Value} {A : Nat → Prop} {D : va_G} {cI cJ cB : ClassId} {tU tM : Nat} {tS : tsT} {cc : ByteArray} {ws : va_W}
theorem z_newai (hx : p.tables.exec = Jvm.exec) (hb : c.code = cc) (harr : (Cond.arrayClass .int).before args s = true) (hK : va_K D vwCl (tyL cI cJ cB) s) (hP : va_P D vwCl ws H) (hD : va_D A ws) (hS : va_S A s.heap H locs) (hA : ∀ q : Nat, s.heap.size ≤ q → A q) (N k t : Nat) {n : Int32} (hn : ¬ n < 0) (hN : n.toNatClampNeg = N) (hby : N ≤ 10000) (hk : cells + 1 = k) (ht : slots + N = t) (hkr : k ≤ R.cells) (htr : t ≤ R.slots) (hdg : decode cc pc = .ok (.newarray .int, 2)) {wn : Nat → va_W} (hwn : ∀ q : Nat, ws ++ [(q, .inl (cI, N, .inl (fun _ => 0)))] = wn q)
    (kk : ∀ (q : Nat) (H1 : Heap), va_P D vwCl (wn q) H1 → va_D A (wn q) → va_S A s.heap H1 locs → W p l e R s m args below meth c H1 locs k t Q (F0 m (pc + 2) ls (.ref q :: rest))) : W p l e R s m args below meth c H locs cells slots Q (F0 m pc ls (.int n :: rest)) := by
  subst hk; subst ht
  refine va_newa hx hb (atype := .int) harr (ty := .int) rfl hK hP hD hS hA (N' := N) (a0 := (N, .inl (fun _ => 0))) (fun _ => rfl) hn hN (Nat.le_trans (Nat.mul_le_mul hby (show componentBytes .int ≤ 50000 by decide)) (by decide)) hkr htr hdg (fun q cA H1 hK1 hP1 hD1 hS1 => ?_)
  have e1 : s.vm.findClass ("[" ++ FieldType.int.toString) = some cA := (hK1.2 3 (cA, .int) rfl).2
  have e2 : s.vm.findClass ("[" ++ FieldType.int.toString) = some cI := (hK.2 0 (cI, .int) rfl).2
  have e3 : cA = cI := Option.some.inj (e1.symm.trans e2)
  subst e3
  rw [hwn] at hP1 hD1
  exact kk q H1 hP1 hD1 hS1
theorem z_newal (hx : p.tables.exec = Jvm.exec) (hb : c.code = cc) (harr : (Cond.arrayClass .long).before args s = true) (hK : va_K D vwCl (tyL cI cJ cB) s) (hP : va_P D vwCl ws H) (hD : va_D A ws) (hS : va_S A s.heap H locs) (hA : ∀ q : Nat, s.heap.size ≤ q → A q) (N k t : Nat) {n : Int32} (hn : ¬ n < 0) (hN : n.toNatClampNeg = N) (hby : N ≤ 10000) (hk : cells + 1 = k) (ht : slots + N = t) (hkr : k ≤ R.cells) (htr : t ≤ R.slots) (hdg : decode cc pc = .ok (.newarray .long, 2)) {wn : Nat → va_W} (hwn : ∀ q : Nat, ws ++ [(q, .inl (cJ, N, .inr (.inl (fun _ => 0))))] = wn q)
    (kk : ∀ (q : Nat) (H1 : Heap), va_P D vwCl (wn q) H1 → va_D A (wn q) → va_S A s.heap H1 locs → W p l e R s m args below meth c H1 locs k t Q (F0 m (pc + 2) ls (.ref q :: rest))) : W p l e R s m args below meth c H locs cells slots Q (F0 m pc ls (.int n :: rest)) := by
  subst hk; subst ht
  refine va_newa hx hb (atype := .long) harr (ty := .long) rfl hK hP hD hS hA (N' := N) (a0 := (N, .inr (.inl (fun _ => 0)))) (fun _ => rfl) hn hN (Nat.le_trans (Nat.mul_le_mul hby (show componentBytes .long ≤ 50000 by decide)) (by decide)) hkr htr hdg (fun q cA H1 hK1 hP1 hD1 hS1 => ?_)
  have e1 : s.vm.findClass ("[" ++ FieldType.long.toString) = some cA := (hK1.2 3 (cA, .long) rfl).2
  have e2 : s.vm.findClass ("[" ++ FieldType.long.toString) = some cJ := (hK.2 1 (cJ, .long) rfl).2
  have e3 : cA = cJ := Option.some.inj (e1.symm.trans e2)
  subst e3
  rw [hwn] at hP1 hD1
  exact kk q H1 hP1 hD1 hS1
theorem z_newab (hx : p.tables.exec = Jvm.exec) (hb : c.code = cc) (harr : (Cond.arrayClass .byte).before args s = true) (hK : va_K D vwCl (tyL cI cJ cB) s) (hP : va_P D vwCl ws H) (hD : va_D A ws) (hS : va_S A s.heap H locs) (hA : ∀ q : Nat, s.heap.size ≤ q → A q) (N k t : Nat) {n : Int32} (hn : ¬ n < 0) (hN : n.toNatClampNeg = N) (hby : N ≤ 10000) (hk : cells + 1 = k) (ht : slots + N = t) (hkr : k ≤ R.cells) (htr : t ≤ R.slots) (hdg : decode cc pc = .ok (.newarray .byte, 2)) {wn : Nat → va_W} (hwn : ∀ q : Nat, ws ++ [(q, .inl (cB, N, .inl (fun _ => 0)))] = wn q)
    (kk : ∀ (q : Nat) (H1 : Heap), va_P D vwCl (wn q) H1 → va_D A (wn q) → va_S A s.heap H1 locs → W p l e R s m args below meth c H1 locs k t Q (F0 m (pc + 2) ls (.ref q :: rest))) : W p l e R s m args below meth c H locs cells slots Q (F0 m pc ls (.int n :: rest)) := by
  subst hk; subst ht
  refine va_newa hx hb (atype := .byte) harr (ty := .byte) rfl hK hP hD hS hA (N' := N) (a0 := (N, .inl (fun _ => 0))) (fun _ => rfl) hn hN (Nat.le_trans (Nat.mul_le_mul hby (show componentBytes .byte ≤ 50000 by decide)) (by decide)) hkr htr hdg (fun q cA H1 hK1 hP1 hD1 hS1 => ?_)
  have e1 : s.vm.findClass ("[" ++ FieldType.byte.toString) = some cA := (hK1.2 3 (cA, .byte) rfl).2
  have e2 : s.vm.findClass ("[" ++ FieldType.byte.toString) = some cB := (hK.2 2 (cB, .byte) rfl).2
  have e3 : cA = cB := Option.some.inj (e1.symm.trans e2)
  subst e3
  rw [hwn] at hP1 hD1
  exact kk q H1 hP1 hD1 hS1
/-- a new object of a class of ours -/
theorem z_new {own C : String} {T : u_T} {N ci index : Nat} {Ts : List Cond} (hx : p.tables.exec = Jvm.exec) (hb : c.code = cc) (hts : ∀ w ∈ Ts, w.before args s = true) (hin : ∀ w ∈ u_ws C T N, w ∈ Ts) (ty : Nat → FieldType) (hty : ∀ k, k < N → parseFieldDescriptor (T k).2.2.1 = some (ty k)) (hown : s.vm.findClass own = some m.cls) (hcl : (Cond.classLink own index C).before args s = true) (hinst : (Cond.instantiable C N).before args s = true) (hini : (Cond.initialized C).before args s = true)
    (hK : va_K D vwCl (tyL cI cJ cB) s) (hP : va_P D vwCl ws H) (hD : va_D A ws) (hS : va_S A s.heap H locs) (hA : ∀ q : Nat, s.heap.size ≤ q → A q) (hc : vwCl[ci]? = some (C, T, N)) {fs : List Value} (hfs : ∀ j, j < N → defaultValue (ty j) = vp_V fs j) (k t : Nat) (hk : cells + 1 = k) (ht : slots + N = t) (hkr : k ≤ R.cells) (htr : t ≤ R.slots) (hdg : decode cc pc = .ok (.new index, 3)) {wn : Nat → va_W} (hwn : ∀ q : Nat, ws ++ [(q, .inr (ci, fs))] = wn q)
    (kk : ∀ (q : Nat) (H1 : Heap), va_P D vwCl (wn q) H1 → va_D A (wn q) → va_S A s.heap H1 locs → W p l e R s m args below meth c H1 locs k t Q (F0 m (pc + 3) ls (.ref q :: rest))) : W p l e R s m args below meth c H locs cells slots Q (F0 m pc ls rest) := by
  subst hk; subst ht
  refine va_new hx hb hts hin ty hty hown hcl hinst hini hK hP hD hS hA hc hfs hkr htr hdg (fun q H1 hP1 hD1 hS1 => ?_)
  rw [hwn] at hP1 hD1
  exact kk q H1 hP1 hD1 hS1
/-- a final field, written by the constructor -/
theorem z_putF {own ref C : String} {T : u_T} {N ci index : Nat} {Ts : List Cond} {a : Nat} (hexec : p.tables.exec = Jvm.exec) (hb : c.code = cc) (hts : ∀ w ∈ Ts, w.before args s = true) (hin : ∀ w ∈ u_ws C T N, w ∈ Ts) (ty0 : Nat → FieldType) (hty : ∀ k, k < N → parseFieldDescriptor (T k).2.2.1 = some (ty0 k)) (hnm : ∀ a, a < N → ∀ b, b < N → a ≠ b → (T a).2.1 ≠ (T b).2.1) (hown : s.vm.findClass own = some m.cls) (hK : va_K D vwCl (tyL cI cJ cB) s) (hP : va_P D vwCl ws H) (hD : va_D A ws) (hS0 : va_S A s.heap H locs) (q0 : Nat) {fs : List Value} (he : ws[q0]? = some (a, .inr (ci, fs))) (hc : vwCl[ci]? = some (C, T, N)) (k : Nat) (hk : k < N) (hlink : (Cond.fieldLink own index ref (T k).2.1 (T k).2.2.1).before args s = true) (hsame : ∀ x, s.fieldFound? (T k).1 (T k).2.1 (T k).2.2.1 = some x → s.fieldFound? ref (T k).2.1 (T k).2.2.1 = some x) (hfin : (T k).2.2.2 = true) (hin2 : meth.name = "<init>") (hdecl : (T k).1 = own) {ty : FieldType} {v : Value} (hd : parseFieldDescriptor (T k).2.2.1 = some ty) (hn : narrow ty v = v) (hfit : fits ty v = true) (hl : k < fs.length)
    (hdg : decode cc pc = .ok (.putfield index, 3)) {wn : va_W} (hwn : ws.set q0 (a, .inr (ci, fs.set k v)) = wn) (kk : ∀ (H1 : Heap) (locs1 : List Loc), va_P D vwCl wn H1 → va_D A wn → va_S A s.heap H1 locs1 → W p l e R s m args below meth c H1 locs1 cells slots Q (F0 m (pc + 3) ls rest)) : W p l e R s m args below meth c H locs cells slots Q (F0 m pc ls (v :: .ref a :: rest)) := by
  subst hwn
  exact va_putF hexec hb hts hin ty0 hty hnm hown hK hP hD hS0 q0 he hc k hk hlink hsame hfin hin2 hdecl hd hn hfit hl hdg kk
/-- a constructor of ours, called: the run itself is told -/
theorem z_cIv {S : Type} {post : S → Prop} {w1 wn : S → va_W} {N : State → Prop} {b : Nat} {wc wr : va_W} {mc ms : Nat} (hN : zSt N) (hNs : N s)
    (run : PreS s H (va_Pc [.ref b] (zPreN N D cI cJ cB tU tM tS wc H.size)) [.ref b] → va_Run p l e R s m args below meth c H locs cells slots mc ms (F0 m pc ls (.ref b :: rest)) rest ((va_Qv post (fun u t => zPost D cI cJ cB (va_A wc H.size) (w1 u) t) (va_A wc H.size)) [Value.ref b].toArray) (va_A wc H.size))
    (hX : zX tU tM tS A s s.heap) (hK : va_K D vwCl (tyL cI cJ cB) s) (hP : va_P D vwCl ws H) (hD : va_D A ws) (hS : va_S A s.heap H locs) (hA : ∀ q : Nat, s.heap.size ≤ q → A q)
    (isC isR ps : List Nat) (hC : isC.map (fun i => ws[i]?) = wc.map some) (hR : isR.map (fun i => ws[i]?) = wr.map some) (hnd : (va_nd isC && va_nd isR && va_nd ps) = true) (hdis : ∀ i ∈ isR, i ∉ isC) (hps : ∀ u, ps.map (fun i => (wr ++ w1 u)[i]?) = (wn u).map some)
    (k t : Nat) (hk : cells + mc = k) (ht : slots + ms = t)
    (kk : ∀ (u : S) (H1 : Heap) (locs1 : List Loc), post u → va_P D vwCl (wn u) H1 → va_D A (wn u) → va_S A s.heap H1 locs1 → W p l e R s m args below meth c H1 locs1 k t Q (F0 m (pc + 3) ls rest)) :
    W p l e R s m args below meth c H locs cells slots Q (F0 m pc ls (.ref b :: rest)) := by
  subst hk; subst ht
  simp only [Bool.and_eq_true] at hnd
  obtain ⟨⟨hnc, hnr⟩, hnp⟩ := hnd
  have hpre := z_pre (As := [Value.ref b]) hX hK hP hD hS hA isC hC hnc
  refine va_callv (run ⟨fun a U g mk q => ?_, fun U hU hW => ⟨(hpre.2 U hU hW).1, (hpre.2 U hU hW).2, hN.2 _ _ hW hNs⟩⟩) hS (fun q _ h => va_free hD hS hA isC hC q h) (va_free hD hS hA isC hC) (fun u t H1 locs1 ht hvm hw hB hz1 hk1 hS1 => ?_)
  · obtain ⟨q0, q1, q2⟩ := q
    exact ⟨(hpre.1 a U g mk ⟨q0, q1⟩).1, (hpre.1 a U g mk ⟨q0, q1⟩).2, hN.1 U (U.calling g mk a) rfl q2⟩
  · obtain ⟨h1, h2⟩ := z_back hP hD hS hA isC isR ps hC hR hnr hdis hnp (hps u) ht hk1 hB
    exact kk u H1 locs1 hw h1 h2 hS1
end ZC
