/-! the old order of numbers -/
theorem low_99 : ∀ a, a < 100 → 1 ≤ a → low a < 7 ∧ a.testBit (low a) = true ∧ ∀ j, j < 7 → j < low a → a.testBit j = false := by decide +kernel
theorem s_X3_powerIn {a : Nat} {P : Int32 → Prop} (h1 : 1 ≤ a) (h2 : a < 100) (h : P (nI (low a))) : M_X3_powerIn (nI a) P := by
  obtain ⟨l1, l2, l3⟩ := low_99 a h2 h1
  refine LP1_ix (fun i x => x = nI i) (low a) ?_ 0 _ (Nat.zero_le _) rfl
  rintro K i x hi rfl hK
  have e1 := z_bitN (S := a) (m := i) (by omega) (by omega)
  refine br_f (nI_ge (by omega) (by omega) : ¬ nI 31 ≤ nI i) (br_c (fun c => ?_) (fun c => ?_))
  · rw [e1] at c
    refine hK _ ?_ (nI_1 i)
    rcases Nat.lt_or_ge i (low a) with q | q
    · exact q
    · have e : i = low a := by omega
      subst e
      rw [l2] at c; exact absurd c (by decide)
  · rw [e1] at c
    rcases Nat.lt_or_ge i (low a) with q | q
    · rw [l3 i (by omega) q] at c; exact absurd rfl c
    · have e : i = low a := by omega
      subst e
      exact h
def odd_ (a : Nat) : Nat := a / 2 ^ low a
theorem odd_le (a : Nat) : odd_ a ≤ a := Nat.div_le_self _ _
theorem z_odd {a : Nat} (h1 : 1 ≤ a) (h2 : a < 100) : nI a >>> (nI (low a) &&& 31) = nI (odd_ a) :=
  pk_shrN (by omega) _ (low a) (shr_bit _ (by have := (low_99 a h2 h1).1; omega))
def ahd (a b : Nat) : Bool := if odd_ a = 1 ∨ odd_ b = 1 then (decide (odd_ a ≠ 1) || (decide (odd_ b = 1) && decide (low b < low a))) else (decide (low a < low b) || (decide (low a = low b) && decide (odd_ a < odd_ b)))
theorem ahd_self (a : Nat) : ahd a a = false := by
  unfold ahd
  split
  · rename_i h
    have h : odd_ a = 1 := h.elim id id
    simp [h]
  · simp
theorem s_X3_b32 {a b : Nat} {x0 x1 : Int32} {P : Int32 → Prop} (ha : a < 100) (hb : b < 100) (ha1 : 1 ≤ a) (hb1 : 1 ≤ b) (ho : odd_ a = 1 ∨ odd_ b = 1) (h : P (if ahd a b then 1 else 0)) : M_X3_isAhead_b32 x0 x1 P (nI (low a)) (nI (low b)) (nI (odd_ a)) (nI (odd_ b)) := by
  have h1 := (low_99 a ha ha1).1
  have h2 := (low_99 b hb hb1).1
  have h3 := odd_le a
  have h4 := odd_le b
  rw [ahd, if_pos ho] at h
  refine pk_eq (odd_ a) 1 (fun c1 => ?_) (fun c1 => ?_)
  · refine pk_eq (odd_ b) 1 (fun c2 => ?_) (fun c2 => ?_)
    · refine pk_le (low a) (low b) (fun c3 => ?_) (fun c3 => ?_)
      · rw [boolif_f (by simp [c1]; omega)] at h; exact h
      · rw [boolif_t (by simp [c2, c3])] at h; exact h
    · rw [boolif_f (by simp [c1, c2])] at h; exact h
  · rw [boolif_t (by simp [c1])] at h; exact h
theorem s_X3_isAhead {a b : Nat} {P : Int32 → Prop} (ha1 : 1 ≤ a) (ha : a < 100) (hb1 : 1 ≤ b) (hb : b < 100) (h : P (if ahd a b then 1 else 0)) : M_X3_isAhead (nI a) (nI b) P := by
  have h1 := (low_99 a ha ha1).1
  have h2 := (low_99 b hb hb1).1
  have h3 := odd_le a
  have h4 := odd_le b
  refine s_X3_powerIn ha1 ha (s_X3_powerIn hb1 hb ?_)
  rw [z_odd ha1 ha, z_odd hb1 hb]
  refine pk_eq (odd_ a) 1 (fun c1 => s_X3_b32 ha hb ha1 hb1 (Or.inl c1) h) (fun c1 => ?_)
  refine pk_eq (odd_ b) 1 (fun c2 => s_X3_b32 ha hb ha1 hb1 (Or.inr c2) h) (fun c2 => ?_)
  rw [ahd, if_neg (show ¬ (odd_ a = 1 ∨ odd_ b = 1) from fun z => z.elim c1 c2)] at h
  refine pk_lt (low a) (low b) (fun c3 => ?_) (fun c3 => ?_)
  · rw [boolif_t (by simp [c3])] at h; exact h
  · refine pk_eq (low a) (low b) (fun c4 => ?_) (fun c4 => ?_)
    · refine pk_le (odd_ b) (odd_ a) (fun c5 => ?_) (fun c5 => ?_)
      · rw [boolif_f (by simp; omega)] at h; exact h
      · rw [boolif_t (by simp [c4, c5])] at h; exact h
    · rw [boolif_f (by simp; omega)] at h; exact h
theorem s_X9_b32 {a b : Nat} {x0 x1 : Int32} {P : Int32 → Prop} (ha : a < 100) (hb : b < 100) (ha1 : 1 ≤ a) (hb1 : 1 ≤ b) (ho : odd_ a = 1 ∨ odd_ b = 1) (h : P (if ahd a b then 1 else 0)) : M_X9_isAhead_b32 x0 x1 P (nI (low a)) (nI (low b)) (nI (odd_ a)) (nI (odd_ b)) := s_X3_b32 (x0 := x0) (x1 := x1) ha hb ha1 hb1 ho h
theorem s_X9_isAhead {a b : Nat} {P : Int32 → Prop} (ha1 : 1 ≤ a) (ha : a < 100) (hb1 : 1 ≤ b) (hb : b < 100) (h : P (if ahd a b then 1 else 0)) : M_X9_isAhead (nI a) (nI b) P := by
  have h1 := (low_99 a ha ha1).1
  have h2 := (low_99 b hb hb1).1
  have h3 := odd_le a
  have h4 := odd_le b
  refine s_ntz (by omega) (by omega) (s_ntz (by omega) (by omega) ?_)
  rw [z_odd ha1 ha, z_odd hb1 hb]
  refine pk_eq (odd_ a) 1 (fun c1 => s_X9_b32 ha hb ha1 hb1 (Or.inl c1) h) (fun c1 => ?_)
  refine pk_eq (odd_ b) 1 (fun c2 => s_X9_b32 ha hb ha1 hb1 (Or.inr c2) h) (fun c2 => ?_)
  rw [ahd, if_neg (show ¬ (odd_ a = 1 ∨ odd_ b = 1) from fun z => z.elim c1 c2)] at h
  refine pk_eq (low a) (low b) (fun c4 => ?_) (fun c4 => ?_)
  · refine pk_le (odd_ b) (odd_ a) (fun c5 => ?_) (fun c5 => ?_)
    · rw [boolif_f (by simp; omega)] at h; exact h
    · rw [boolif_t (by simp [c4, c5])] at h; exact h
  · refine pk_le (low b) (low a) (fun c3 => ?_) (fun c3 => ?_)
    · rw [boolif_f (by simp; omega)] at h; exact h
    · rw [boolif_t (by simp [c3])] at h; exact h
def a_ahead (x1 x2 : Int32) : Int32 := if (x1 < 1 ∨ 99 < x1) ∨ (x2 < 1 ∨ 99 < x2) then -2 else if ahd x1.toNatClampNeg x2.toNatClampNeg then 1 else 0
theorem s_X8_ahead {x1 x2 : Int32} {P : Int32 → Prop} (h : P (a_ahead x1 x2)) : M_X8_ahead x1 x2 P := by
  unfold a_ahead at h
  refine br_c (fun q => ?_) (fun q1 => br_c (fun q => ?_) (fun q2 => br_c (fun q => ?_) (fun q3 => br_c (fun q4 => ?_) (fun q => ?_))))
  · rw [if_pos (Or.inl (Or.inl q))] at h; exact h
  · rw [if_pos (Or.inl (Or.inr q))] at h; exact h
  · rw [if_pos (Or.inr (Or.inl q))] at h; exact h
  · have q5 : ¬ (99 : Int32) < x2 := fun z => (fa_of_lt z).2.1 q4
    rw [if_neg (by rintro ((z | z) | (z | z)); exact q1 z; exact q2 z; exact q3 z; exact q5 z)] at h
    obtain ⟨a, a1, a2, rfl⟩ := in_rng 1 99 q1 q2
    obtain ⟨b, b1, b2, rfl⟩ := in_rng 1 99 q3 q5
    rw [nI_clamp (by omega), nI_clamp (by omega)] at h
    refine s_X3_isAhead a1 (by omega) b1 (by omega) ?_
    cases hb : ahd a b with
    | true => rw [hb] at h; exact br_f (by decide) h
    | false => rw [hb] at h; exact br_t rfl h
  · rw [if_pos (Or.inr (Or.inr (fa_of_nle q)))] at h; exact h
theorem s_X9_ahead {x1 x2 : Int32} {P : Int32 → Prop} (h : P (a_ahead x1 x2)) : M_X9_ahead x1 x2 P := by
  unfold a_ahead at h
  refine s_in (a := 1) (b := 99) rfl rfl (fun q => br_t rfl ?_) (fun q1 q2 => br_f (by decide) ?_)
  · rw [if_pos (Or.inl q)] at h; exact h
  refine s_in (a := 1) (b := 99) rfl rfl (fun q => br_t rfl ?_) (fun q3 q5 => br_f (by decide) ?_)
  · rw [if_pos (Or.inr q)] at h; exact h
  rw [if_neg (by rintro ((z | z) | (z | z)); exact q1 z; exact q2 z; exact q3 z; exact q5 z)] at h
  obtain ⟨a, a1, a2, rfl⟩ := in_rng 1 99 q1 q2
  obtain ⟨b, b1, b2, rfl⟩ := in_rng 1 99 q3 q5
  rw [nI_clamp (by omega), nI_clamp (by omega)] at h
  refine pk_eq a b (fun c => ?_) (fun c => ?_)
  · subst c; rw [ahd_self] at h; exact h
  · refine s_X9_isAhead a1 (by omega) b1 (by omega) ?_
    cases hb : ahd a b with
    | true => rw [hb] at h; exact br_f (by decide) h
    | false => rw [hb] at h; exact br_t rfl h
def plc (m : Nat) : Nat → Nat
  | 0 => 0
  | k + 1 => plc m k + (if ahd (k + 1) m then 1 else 0)
theorem plc_le (m : Nat) : ∀ k, plc m k ≤ k
  | 0 => Nat.le_refl 0
  | k + 1 => by
    have := plc_le m k
    rw [plc]; split <;> omega
theorem s_X3_placeOf {m : Nat} {P : Int32 → Prop} (h1 : 1 ≤ m) (h12 : m ≤ 12) (h : P (nI (plc m 12))) : M_X3_placeOf (nI m) 12 P := by
  refine LP2_ix (fun i a b => a = nI (plc m i) ∧ b = nI (i + 1)) 12 ?_ 0 _ _ (Nat.zero_le _) ⟨rfl, rfl⟩
  rintro K i a b hi ⟨rfl, rfl⟩ hK
  refine pk_lt 12 (i + 1) (fun c => ?_) (fun c => ?_)
  · have e : i = 12 := by omega
    subst e; exact h
  · refine s_X3_isAhead (by omega) (by omega) h1 (by omega) ?_
    cases hb : ahd (i + 1) m with
    | true => exact br_f (by decide) (hK _ _ (by omega) ⟨by rw [nI_1, plc, boolif_t hb], nI_1 _⟩)
    | false => exact br_t rfl (hK _ _ (by omega) ⟨by rw [plc, boolif_f hb]; rfl, nI_1 _⟩)
theorem s_X9_placeOf {m : Nat} {P : Int32 → Prop} (h1 : 1 ≤ m) (h12 : m ≤ 12) (h : P (nI (plc m 12))) : M_X9_placeOf (nI m) P := by
  refine LP2_ix (fun i a b => a = nI (plc m i) ∧ b = nI (i + 1)) 12 ?_ 0 _ _ (Nat.zero_le _) ⟨rfl, rfl⟩
  rintro K i a b hi ⟨rfl, rfl⟩ hK
  have e0 : ∀ z : Nat, nI z + (0 : Int32) = nI z := fun z => nI_add z 0
  refine pk_lt 12 (i + 1) (fun c => ?_) (fun c => ?_)
  · have e : i = 12 := by omega
    subst e; exact h
  · refine pk_eq (i + 1) m (fun c2 => ?_) (fun c2 => ?_)
    · exact hK _ _ (by omega) ⟨by rw [plc, boolif_f (by rw [c2]; exact ahd_self m), e0]; rfl, nI_1 _⟩
    · refine s_X9_isAhead (by omega) (by omega) h1 (by omega) ?_
      cases hb : ahd (i + 1) m with
      | true => exact br_f (by decide) (hK _ _ (by omega) ⟨by rw [plc, boolif_t hb]; exact nI_1 _, nI_1 _⟩)
      | false => exact br_t rfl (hK _ _ (by omega) ⟨by rw [plc, boolif_f hb, e0]; rfl, nI_1 _⟩)
def nAt (i : Nat) : Nat := ((List.range 13).find? (fun m => decide (1 ≤ m) && decide (plc m 12 = i))).getD 0
theorem nAt_ok : ∀ i, i < 12 → 1 ≤ nAt i ∧ nAt i ≤ 12 ∧ plc (nAt i) 12 = i ∧ ∀ m, m < 13 → 1 ≤ m → plc m 12 = i → m = nAt i := by decide +kernel
theorem s_X3_numberAt {i : Nat} {P : Int32 → Prop} (hi : i < 12) (h : P (nI (nAt i))) : M_X3_numberAt (nI i) 12 P := by
  obtain ⟨n1, n2, n3, n4⟩ := nAt_ok i hi
  refine LP1_ix (fun t a => a = nI (t + 1) ∧ ∀ m, 1 ≤ m → m ≤ t → plc m 12 ≠ i) 12 ?_ 0 _ (Nat.zero_le _) ⟨rfl, fun m h1 h2 => by omega⟩
  rintro K t a ht ⟨rfl, hno⟩ hK
  refine pk_lt 12 (t + 1) (fun c => ?_) (fun c => ?_)
  · exact absurd n3 (hno _ n1 (by omega))
  · have hp := plc_le (t + 1) 12
    refine s_X3_placeOf (by omega) (by omega) (pk_eq (plc (t + 1) 12) i (fun c2 => ?_) (fun c2 => ?_))
    · rw [← n4 (t + 1) (by omega) (by omega) c2] at h; exact h
    · refine hK _ (by omega) ⟨nI_1 _, fun m m1 m2 => ?_⟩
      rcases Nat.lt_or_ge t m with q | q
      · rw [show m = t + 1 by omega]; exact c2
      · exact hno m m1 q
theorem s_X9_numberAt {i : Nat} {x2 : Int32} {P : Int32 → Prop} (hi : i < 12) (h : P (nI (nAt i))) : ∃ n : Nat, LP2 (M_X9_order_l45 (nI i) x2 P) n (0 : Int32) (1 : Int32) := by
  obtain ⟨n1, n2, n3, n4⟩ := nAt_ok i hi
  refine LP2_ix (fun t a b => b = nI (t + 1) ∧ a = if nAt i ≤ t then nI (nAt i) else 0) 12 ?_ 0 _ _ (Nat.zero_le _) ⟨rfl, by rw [if_neg (by omega)]⟩
  rintro K t a b ht ⟨rfl, rfl⟩ hK
  refine pk_lt 12 (t + 1) (fun c => ?_) (fun c => ?_)
  · rw [if_pos (by omega)]; exact h
  · have hp := plc_le (t + 1) 12
    refine s_X9_placeOf (by omega) (by omega) (pk_eq (plc (t + 1) 12) i (fun c2 => ?_) (fun c2 => ?_))
    · have e := n4 (t + 1) (by omega) (by omega) c2
      refine hK _ _ (by omega) ⟨nI_1 _, ?_⟩
      rw [if_pos (by omega), e]
    · refine hK _ _ (by omega) ⟨nI_1 _, ?_⟩
      by_cases q : nAt i ≤ t
      · rw [if_pos q, if_pos (by omega)]
      · rw [if_neg q, if_neg]
        intro q2
        rw [show nAt i = t + 1 by omega] at n3
        exact c2 n3
def a_order (x1 x2 : Int32) : Int32 := if x2 = 0 then (if x1 < 0 ∨ 11 < x1 then -2 else nI (nAt x1.toNatClampNeg)) else if x2 = 1 then (if x1 < 1 ∨ 12 < x1 then -2 else nI (plc x1.toNatClampNeg 12)) else -2
theorem s_X8_order21 {x1 x2 : Int32} {P : Int32 → Prop} (h0 : x2 = 0 → P (-2)) (h : ¬ x2 = 0 → P (a_order x1 x2)) : M_X8_order_b21 x1 x2 P := by
  refine br_c (fun c => ?_) (fun c => ?_)
  · subst c
    have h := h (by decide)
    rw [a_order, if_neg (by decide), if_pos rfl] at h
    refine br_c (fun q => ?_) (fun q1 => br_c (fun q => ?_) (fun q2 => ?_))
    · rw [if_pos (Or.inl q)] at h; exact h
    · rw [if_pos (Or.inr q)] at h; exact h
    · rw [if_neg (by rintro (z | z); exact q1 z; exact q2 z)] at h
      obtain ⟨m, m1, m2, rfl⟩ := in_rng 1 12 q1 q2
      rw [nI_clamp (by omega)] at h
      exact s_X3_placeOf m1 m2 h
  · by_cases z : x2 = 0
    · exact h0 z
    · have h := h z
      rw [a_order, if_neg z, if_neg c] at h; exact h
theorem s_X8_order {x1 x2 : Int32} {P : Int32 → Prop} (h : P (a_order x1 x2)) : M_X8_order x1 x2 P := by
  refine br_c (fun c => ?_) (fun c => s_X8_order21 (fun z => absurd z c) (fun _ => h))
  subst c
  rw [a_order, if_pos rfl] at h
  refine br_c (fun q => ?_) (fun q1 => br_c (fun q => ?_) (fun q2 => ?_))
  · rw [if_pos (Or.inl q)] at h; exact s_X8_order21 (fun _ => h) (fun z => absurd rfl z)
  · have q3 : (11 : Int32) < x1 := by
      rw [fa_le, show (12 : Int32).toInt = 12 from rfl] at q; rw [fa_lt, show (11 : Int32).toInt = 11 from rfl]; omega
    rw [if_pos (Or.inr q3)] at h; exact s_X8_order21 (fun _ => h) (fun z => absurd rfl z)
  · have q3 : ¬ (11 : Int32) < x1 := by
      rw [fa_le, show (12 : Int32).toInt = 12 from rfl] at q2; rw [fa_lt, show (11 : Int32).toInt = 11 from rfl]; omega
    rw [if_neg (by rintro (z | z); exact q1 z; exact q3 z)] at h
    obtain ⟨m, -, m2, rfl⟩ := in_rng 0 11 q1 q3
    rw [nI_clamp (by omega)] at h
    exact s_X3_numberAt (by omega) h
theorem s_X9_order {x1 x2 : Int32} {P : Int32 → Prop} (h : P (a_order x1 x2)) : M_X9_order x1 x2 P := by
  unfold a_order at h
  refine s_in (a := 0) (b := 1) rfl rfl (fun q => br_t rfl ?_) (fun q1 q2 => br_f (by decide) ?_)
  · rw [if_neg (by rintro rfl; revert q; decide), if_neg (by rintro rfl; revert q; decide)] at h; exact h
  obtain ⟨k, -, k2, rfl⟩ := in_rng 0 1 q1 q2
  rcases (show k = 0 ∨ k = 1 by omega) with rfl | rfl
  · rw [if_pos (show nI 0 = 0 from rfl)] at h
    refine s_in (a := 0) (b := 11) rfl rfl (fun q => br_t rfl ?_) (fun q1 q2 => br_f (by decide) ?_)
    · rw [if_pos q] at h; exact h
    rw [if_neg (by rintro (z | z); exact q1 z; exact q2 z)] at h
    obtain ⟨m, -, m2, rfl⟩ := in_rng 0 11 q1 q2
    rw [nI_clamp (by omega)] at h
    exact br_f (by decide) (s_X9_numberAt (by omega) h)
  · rw [if_neg (show ¬ nI 1 = 0 by decide), if_pos (show nI 1 = 1 from rfl)] at h
    refine s_in (a := 1) (b := 12) rfl rfl (fun q => br_t rfl ?_) (fun q1 q2 => br_f (by decide) ?_)
    · rw [if_pos q] at h; exact h
    rw [if_neg (by rintro (z | z); exact q1 z; exact q2 z)] at h
    obtain ⟨m, m1, m2, rfl⟩ := in_rng 1 12 q1 q2
    rw [nI_clamp (by omega)] at h
    exact br_t rfl (s_X9_placeOf m1 m2 h)
