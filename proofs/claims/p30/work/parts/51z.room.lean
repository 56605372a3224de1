/-! The room of the law's own making of an object; a call that answers a reference. -/
def roomB : Room := { frames := 4, cells := 34, slots := 541, locals := 80 }
section ZS
variable {p : Program} {l : Launch} {e : Env} {R : Room} {s : State} {m : MethodId} {args : Array Value} {below : List Frame} {meth : Method} {c : Code} {H : Heap} {locs : List Loc} {cells slots : Nat} {Q : State → Prop}
variable {pc : Nat} {ls : Array Slot} {rest st0 : List Value} {A : Nat → Prop} {D : va_G} {cI cJ cB : ClassId} {tU tM : Nat} {tS : tsT} {cc : ByteArray}
/-- a method that answers a new object, called where nothing is in the world yet -/
theorem z_cSr {S : Type} {post : S → Prop} {w1 : S → va_W} {ad : S → Nat} {N : State → Prop} {As : List Value} {mc ms : Nat} (hN : zSt N) (hNs : N s)
    (run : PreS s H (va_Pc As (zPreN N D cI cJ cB tU tM tS [] H.size)) As → va_Run p l e R s m args below meth c H locs cells slots mc ms (F0 m pc ls st0) rest ((va_Qr post (fun u a t => a = ad u ∧ zPost D cI cJ cB (va_A [] H.size) (w1 u) t) (va_A [] H.size)) As.toArray) (va_A [] H.size))
    (hX : zX tU tM tS A s s.heap) (hK : va_K D vwCl (tyL cI cJ cB) s) (hS : va_S A s.heap H locs) (hA : ∀ q : Nat, s.heap.size ≤ q → A q)
    (k t : Nat) (hk : cells + mc = k) (ht : slots + ms = t)
    (kk : ∀ (u : S) (H1 : Heap) (locs1 : List Loc), post u → va_P D vwCl (w1 u) H1 → va_D A (w1 u) → va_S A s.heap H1 locs1 → W p l e R s m args below meth c H1 locs1 k t Q (F0 m (pc + 3) ls (.ref (ad u) :: rest))) :
    W p l e R s m args below meth c H locs cells slots Q (F0 m pc ls st0) := by
  subst hk; subst ht
  have hP : va_P D vwCl [] H := fun k q h => by simp at h
  have hD : va_D A [] := ⟨fun i j p q h => by simp at h, fun k q h => by simp at h⟩
  have hpre := z_pre (As := As) (wc := []) hX hK hP hD hS hA [] rfl rfl
  refine va_callr (run ⟨fun a U g mk q => ?_, fun U hU hW => ⟨(hpre.2 U hU hW).1, (hpre.2 U hU hW).2, hN.2 _ _ hW hNs⟩⟩) hS (fun q _ h => va_free hD hS hA [] rfl q h) (va_free hD hS hA [] rfl) (fun u ra t H1 locs1 ht hvm hw hB hz1 hk1 hS1 => ?_)
  · obtain ⟨q0, q1, q2⟩ := q
    exact ⟨(hpre.1 a U g mk ⟨q0, q1⟩).1, (hpre.1 a U g mk ⟨q0, q1⟩).2, hN.1 U (U.calling g mk a) rfl q2⟩
  · obtain ⟨ha, hB⟩ := hB
    subst ha
    obtain ⟨hP1, -, hD1⟩ := hB
    rw [ht] at hP1
    exact kk u H1 locs1 hw hP1 (hD1.weaken (fun _ q _ h => va_free hD hS hA [] rfl q.1 h)) hS1
end ZS
