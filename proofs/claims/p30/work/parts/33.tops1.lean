/-! answers on rings: one function for both sides -/
theorem pt_yes {n j : Nat} (hj : j < n) (hn : n < 2 ^ 31) : ¬ (nI j < 0 ∨ nI n ≤ nI j) := by
  rintro (c | c)
  · exact nI_pos (by omega) c
  · exact nI_ge hj hn c
theorem s_X0_holds {x : Int32} {n : Nat} {P : Int32 → Prop} (h8 : n ≤ 8) (h0 : (x < 0 ∨ nI n ≤ x) → P 0) (h1 : ∀ j, j < n → x = nI j → P 1) : M_X0_holds x (nI n) P := by
  refine br_c (fun c => h0 (Or.inl c)) (fun c => br_c (fun c2 => h0 (Or.inr c2)) (fun c2 => ?_))
  rcases pk_ix x (n := n) (by omega) with q | q | ⟨j, q1, q2⟩
  · exact absurd q c
  · exact absurd q c2
  · exact h1 j q1 q2
theorem in_cases {x : Int32} {k : Nat} (hk : k < 2 ^ 31 - 1) (h0 : ¬ x < 0) (h1 : ¬ nI k < x) : ∃ j, j ≤ k ∧ x = nI j := by
  rcases pk_ix x (n := k + 1) (by omega) with q | q | ⟨j, q1, q2⟩
  · exact absurd q h0
  · exfalso; apply h1
    rw [fa_le, nI_toInt (by omega)] at q
    rw [fa_lt, nI_toInt (by omega)]; omega
  · exact ⟨j, by omega, q2⟩
def a_of1 (n : Nat) (f : Nat → Nat) (j : Nat) (x : Int32) : Int32 := if x = 0 then nI (f j) else if x = 1 then nI (tl n f j) else if x = 2 then nI (rs n f j) else if x = 3 then nI (pc (rs n f j)) else -2
def a_of (n : Nat) (f : Nat → Nat) (x1 x2 : Int32) : Int32 := if x1 < 0 ∨ nI n ≤ x1 then -2 else a_of1 n f x1.toNatClampNeg x2
theorem s_X8_of {n : Nat} {f : Nat → Nat} {g : Nat → Int32} {x1 x2 : Int32} {P : Int32 → Prop} (ho : OkL n f) (hg : HasL n f g) (h : P (a_of n f x1 x2)) : M_X8_of x1 x2 (nI n) g P := by
  have hn := ho.2.1
  refine s_X0_holds hn (fun c => br_t rfl ?_) (fun j hj e => br_f (by decide) ?_)
  · rw [a_of, if_pos c] at h; exact h
  · subst e
    rw [a_of, if_neg (pt_yes hj (by omega)), nI_clamp (by omega), a_of1] at h
    refine br_c (fun c => ?_) (fun c => ?_)
    · rw [if_pos c] at h
      exact And.intro (vp_in_nI (by omega) (by omega)) (by rw [nI_clamp (by omega), hg _ hj]; exact h)
    · rw [if_neg c] at h
      refine br_c (fun c => ?_) (fun c => ?_)
      · rw [if_pos c] at h; exact s_X0_tailOf ho hg hj h
      · rw [if_neg c] at h
        refine br_c (fun c => ?_) (fun c => ?_)
        · rw [if_pos c] at h; exact s_X0_ringBits ho hg hj h
        · rw [if_neg c] at h
          refine br_c (fun c => ?_) (fun c => ?_)
          · rw [if_pos c] at h; exact s_X0_ringBits ho hg hj (s_bitCount (rs_lt ho.2.2 hn hj) h)
          · rw [if_neg c] at h; exact h
def a_map (f : Nat → Nat) : Nat → Int32
  | 0 => 0
  | k + 1 => a_map f k * 10 + nI (f k)
theorem s_X8_map {n : Nat} {f : Nat → Nat} {g : Nat → Int32} {P : Int32 → Prop} (hn : n ≤ 8) (hg : HasL n f g) (h : P (a_map f n)) : M_X8_map (nI n) g P := by
  refine LP2_ix (fun i a b => a = a_map f i ∧ b = nI i) n ?_ 0 _ _ (Nat.zero_le _) ⟨rfl, rfl⟩
  rintro K i a b hi ⟨rfl, rfl⟩ hK
  refine br_c (fun c => ?_) (fun c => ?_)
  · rw [nI_leI (by omega) (by omega)] at c
    obtain rfl : i = n := by omega
    exact h
  · rw [nI_leI (by omega) (by omega)] at c
    refine And.intro (vp_in_nI (by omega) (by omega)) (hK _ _ (by omega) ⟨?_, nI_1 i⟩)
    rw [nI_clamp (by omega), hg _ (by omega)]; rfl
def a_rings (n : Nat) (f : Nat → Nat) (x : Int32) : Int32 := if x = 0 then nI (ctL n f n) else if x = 1 then nI (pc (uA n f n)) else if x = 2 then nI (mxA n f n) else if x = 3 then (if nI (pc (uA n f n)) = nI n then 1 else 0) else -2
theorem s_X8_rings {n : Nat} {f : Nat → Nat} {g : Nat → Int32} {x : Int32} {P : Int32 → Prop} (ho : OkL n f) (hg : HasL n f g) (h : P (a_rings n f x)) : M_X8_rings x (nI n) g P := by
  unfold a_rings at h
  refine br_c (fun c => ?_) (fun c => ?_)
  · rw [if_pos c] at h; exact s_X0_ringNumber ho hg h
  · rw [if_neg c] at h
    refine br_c (fun c => ?_) (fun c => ?_)
    · rw [if_pos c] at h; exact s_X0_pointsOnRings ho hg h
    · rw [if_neg c] at h
      refine br_c (fun c => ?_) (fun c => ?_)
      · rw [if_pos c] at h; exact s_X0_greatestRing ho hg h
      · rw [if_neg c] at h
        refine br_c (fun c => ?_) (fun c => ?_)
        · rw [if_pos c] at h
          refine s_X0_pointsOnRings ho hg (br_c (fun c => ?_) (fun c => ?_))
          · rw [if_pos c] at h; exact h
          · rw [if_neg c] at h; exact h
        · rw [if_neg c] at h; exact h
theorem lk_L {n : Nat} {f : Nat → Nat} {x : Int32} (h : lk n f x < n) : isL n f (lk n f x) = true ∧ nI (ctL n f (lk n f x)) = x := by
  have := fa_first_yes (fun i => isL n f i && decide (nI (ctL n f i) = x)) n h
  rw [Bool.and_eq_true, decide_eq_true_iff] at this
  exact this
theorem lk_neg {n : Nat} {f : Nat → Nat} {x : Int32} (hn : n ≤ 8) (hx : x < 0) : ¬ lk n f x < n := by
  intro h
  have h1 := (lk_L h).2
  have h2 := ctL_le n f (lk n f x)
  rw [← h1] at hx
  exact nI_pos (by omega) hx
def a_ring (n : Nat) (f : Nat → Nat) (x1 x2 : Int32) : Int32 := if lk n f x1 < n then (if x2 = 0 then kd (nI (pc (rs n f (lk n f x1)))) else if x2 = 1 then nI (pc (rs n f (lk n f x1))) else if x2 = 2 then nI (lk n f x1) else -2) else -2
theorem s_X8_ring {n : Nat} {f : Nat → Nat} {g : Nat → Int32} {x1 x2 : Int32} {P : Int32 → Prop} (ho : OkL n f) (hg : HasL n f g) (h : P (a_ring n f x1 x2)) : M_X8_ring x1 x2 (nI n) g P := by
  have hn := ho.2.1
  unfold a_ring at h
  refine s_X0_least ho hg ?_
  by_cases hl : lk n f x1 < n
  · rw [if_pos hl] at h ⊢
    refine br_t (nI_pos' (by omega)) (s_X0_ringBits ho hg hl (s_bitCount (rs_lt ho.2.2 hn hl) ?_))
    refine br_c (fun c => ?_) (fun c => ?_)
    · rw [if_pos c] at h; exact s_X2_ofRing h
    · rw [if_neg c] at h
      refine br_c (fun c => ?_) (fun c => ?_)
      · rw [if_pos c] at h; exact h
      · rw [if_neg c] at h
        refine br_c (fun c => ?_) (fun c => ?_)
        · rw [if_pos c] at h; exact h
        · rw [if_neg c] at h; exact h
  · rw [if_neg hl] at h ⊢
    exact br_f (by decide) h
def a_taken (n : Nat) (f : Nat → Nat) (x1 x2 : Int32) : Int32 := if lk n f x1 < n then (if x2 < 0 ∨ 4 < x2 then -2 else if ud (kd (nI (pc (rs n f (lk n f x1))))) x2 then nI (pc (rs n f (lk n f x1))) else -13) else -2
theorem s_X8_taken {n : Nat} {f : Nat → Nat} {g : Nat → Int32} {x1 x2 : Int32} {P : Int32 → Prop} (ho : OkL n f) (hg : HasL n f g) (h : P (a_taken n f x1 x2)) : M_X8_taken x1 x2 (nI n) g P := by
  have hn := ho.2.1
  unfold a_taken at h
  refine s_X0_least ho hg ?_
  by_cases hl : lk n f x1 < n
  · rw [if_pos hl] at h ⊢
    refine br_f (nI_pos (by omega)) (br_c (fun c => ?_) (fun c => br_c (fun c2 => ?_) (fun c2 => ?_)))
    · rw [if_pos (Or.inl c)] at h; exact h
    · rw [if_neg (by rintro (q | q); exact c q; exact (fa_of_lt q).2.1 c2)] at h
      refine s_X0_ringBits ho hg hl (s_bitCount (rs_lt ho.2.2 hn hl) (s_X2_ofRing (s_X2_isUnder (kd_of _) ?_)))
      cases hu : ud (kd (nI (pc (rs n f (lk n f x1))))) x2 with
      | true => rw [hu] at h; exact br_f (by decide) h
      | false => rw [hu] at h; exact br_t rfl h
    · rw [if_pos (Or.inr (fa_of_nle c2))] at h; exact h
  · rw [if_neg hl] at h ⊢
    exact br_t (by decide) h
