/-! One step of the law: what both sides answer, and the state they come to. -/
theorem OkD.le {n d d' : Nat} {D : Nat → Nat → Nat} (h : OkD n d D) (hd : d' ≤ d) : OkD n d' D := ⟨Nat.le_trans hd h.1, fun k hk => h.2 k (Nat.lt_of_lt_of_le hk hd)⟩
theorem OkD.nil {n d d' : Nat} {D : Nat → Nat → Nat} (h : OkD n d D) {n' : Nat} (hd : d' = 0) : OkD n' d' D := ⟨by omega, fun k hk => by omega⟩
theorem HasD.le {d d' : Nat} {D : Nat → Nat → Nat} {m : Nat → Int32} (h : HasD d D m) (hd : d' ≤ d) : HasD d' D m := fun k hk => h k (Nat.lt_of_lt_of_le hk hd)
theorem HasW.le {d d' : Nat} {D : Nat → Nat → Nat} {m : Nat → Int32} (h : HasW d D m) (hd : d' ≤ d) : HasW d' D m := fun k hk => h k (Nat.lt_of_lt_of_le hk hd)
theorem OkF_id2 {n : Nat} (h2 : 2 ≤ n) (h8 : n ≤ 8) : OkF n id := ⟨h2, h8, fun _ h => h, fun _ _ => rfl⟩
theorem nI_inj2 {a b : Nat} (ha : a < 2 ^ 31) (hb : b < 2 ^ 31) (h : nI a = nI b) : a = b := by
  have h1 := congrArg Int32.toNatClampNeg h
  rwa [nI_clamp ha, nI_clamp hb] at h1
