/-! The law's returns: nothing old is written. -/
theorem z_lawret {p : Program} {l : Launch} {e : Env} {s : State} {m : MethodId} {args : Array Value} {below : List Frame} {meth : Method} {c : Code} {H : Heap} {locs : List Loc} {cells slots pc tM : Nat} {ls : Array Slot} {Q : State → Prop} {A : Nat → Prop} {r : Int32} (hx : p.tables.exec = Jvm.exec) (hb : c.code = cL_law) (hr : meth.sig.returnType = (some .boolean)) (hlocks : meth.locks = false) (hAe : A = fun q : Nat => s.heap.size ≤ q) (hae : args = #[Value.ref tM]) (hQe : Q = lw_Z below #[Value.ref tM] s) (hS : va_S A s.heap H locs) (hc : cells ≤ 600000) (hs : slots ≤ 7302250) (h : r = 1) (hdg : decode cL_law pc = .ok (.ireturn, 1)) : W p l e room_1 s m args below meth c H locs cells slots Q (F0 m pc ls [.int r]) := by
  subst h; subst hAe; subst hae; subst hQe
  refine va_forget (fun q hq => hS.2.2 q hq) ?_
  refine W.widen (k := 600000) (n := 7302250) hc hs ?_
  exact lw_ret hx hb hr hlocks hdg
