/-! answers on rings: one function for both sides -/
theorem pt_yes {n j : Nat} (hj : j < n) (hn : n < 2 ^ 31) : ¬ (nI j < 0 ∨ nI n ≤ nI j) := by
  rintro (c | c)
  · exact nI_pos (by omega) c
  · exact nI_ge hj hn c
theorem s_X0_holds {x : Int32} {n : Nat} {P : Int32 → Prop} (h8 : n ≤ 8) (h0 : (x < 0 ∨ nI n ≤ x) → P 0) (h1 : ∀ j, j < n → x = nI j → P 1) : M_X0_holds x (nI n) P := by
  refine br_c (fun c => h0 (Or.inl c)) (fun c => br_c (fun c2 => h0 (Or.inr c2)) (fun c2 => ?_))
  rcases pk_ix x (n := n) (by omega) with q | q | ⟨j, q1, q2⟩
  · exact absurd q c
  · exact absurd q c2
  · exact h1 j q1 q2
theorem in_cases {x : Int32} {k : Nat} (hk : k < 2 ^ 31 - 1) (h0 : ¬ x < 0) (h1 : ¬ nI k < x) : ∃ j, j ≤ k ∧ x = nI j := by
  rcases pk_ix x (n := k + 1) (by omega) with q | q | ⟨j, q1, q2⟩
  · exact absurd q h0
  · exfalso; apply h1
    rw [fa_le, nI_toInt (by omega)] at q
    rw [fa_lt, nI_toInt (by omega)]; omega
  · exact ⟨j, by omega, q2⟩
def a_of1 (n : Nat) (f : Nat → Nat) (j : Nat) (x : Int32) : Int32 := if x = 0 then nI (f j) else if x = 1 then nI (tl n f j) else if x = 2 then nI (rs n f j) else if x = 3 then nI (pc (rs n f j)) else -2
def a_of (n : Nat) (f : Nat → Nat) (x1 x2 : Int32) : Int32 := if x1 < 0 ∨ nI n ≤ x1 then -2 else a_of1 n f x1.toNatClampNeg x2
theorem s_X8_of {n : Nat} {f : Nat → Nat} {g : Nat → Int32} {x1 x2 : Int32} {P : Int32 → Prop} (ho : OkL n f) (hg : HasL n f g) (h : P (a_of n f x1 x2)) : M_X8_of x1 x2 (nI n) g P := by
  have hn := ho.2.1
  refine s_X0_holds hn (fun c => br_t rfl ?_) (fun j hj e => br_f (by decide) ?_)
  · rw [a_of, if_pos c] at h; exact h
  · subst e
    rw [a_of, if_neg (pt_yes hj (by omega)), nI_clamp (by omega), a_of1] at h
    refine br_c (fun c => ?_) (fun c => ?_)
    · rw [if_pos c] at h
      exact And.intro (vp_in_nI (by omega) (by omega)) (by rw [nI_clamp (by omega), hg _ hj]; exact h)
    · rw [if_neg c] at h
      refine br_c (fun c => ?_) (fun c => ?_)
      · rw [if_pos c] at h; exact s_X0_tailOf ho hg hj h
      · rw [if_neg c] at h
        refine br_c (fun c => ?_) (fun c => ?_)
        · rw [if_pos c] at h; exact s_X0_ringBits ho hg hj h
        · rw [if_neg c] at h
          refine br_c (fun c => ?_) (fun c => ?_)
          · rw [if_pos c] at h; exact s_X0_ringBits ho hg hj (s_bitCount (rs_lt ho.2.2 hn hj) h)
          · rw [if_neg c] at h; exact h
theorem s_X9_of {n : Nat} {f : Nat → Nat} {g : Nat → Int32} {x1 x2 : Int32} {P : Int32 → Prop} (ho : OkL n f) (hg : HasL n f g) (h : P (a_of n f x1 x2)) : M_X9_of x1 x2 (nI n) g P := by
  have hn := ho.2.1
  refine s_X9_isPoint (by have := ho.1; omega) hn (fun c => br_t rfl ?_) (fun j hj e => br_f (by decide) ?_)
  · rw [a_of, if_pos c] at h; exact h
  · subst e
    rw [a_of, if_neg (pt_yes hj (by omega)), nI_clamp (by omega), a_of1] at h
    refine s_in (a := 0) (b := 3) rfl rfl (fun c => br_t rfl ?_) (fun c1 c2 => br_f (by decide) ?_)
    · rw [if_neg (by rintro rfl; revert c; decide), if_neg (by rintro rfl; revert c; decide), if_neg (by rintro rfl; revert c; decide), if_neg (by rintro rfl; revert c; decide)] at h
      exact h
    · refine br_c (fun c => ?_) (fun c => ?_)
      · rw [if_pos c] at h
        exact And.intro (vp_in_nI (by omega) (by omega)) (by rw [nI_clamp (by omega), hg _ hj]; exact h)
      · rw [if_neg c] at h
        refine br_c (fun c => ?_) (fun c => ?_)
        · rw [if_pos c] at h; exact s_X9_tail ho hg hj h
        · rw [if_neg c] at h
          refine br_c (fun c => ?_) (fun c4 => ?_)
          · rw [if_pos c] at h; exact s_X9_ringTo ho hg hj h
          · rw [if_neg c4] at h
            obtain ⟨k, hk, rfl⟩ := in_cases (k := 3) (by omega) c1 c2
            have e3 : k = 3 := by
              rcases (show k = 0 ∨ k = 1 ∨ k = 2 ∨ k = 3 by omega) with rfl | rfl | rfl | rfl
              · exact absurd nI_0 (by assumption)
              · exact absurd rfl c
              · exact absurd rfl c4
              · rfl
            subst e3
            rw [if_pos (show nI 3 = 3 from rfl)] at h
            exact s_X9_ringTo ho hg hj (s_bitCount (rs_lt ho.2.2 hn hj) h)
def a_map (f : Nat → Nat) : Nat → Int32
  | 0 => 0
  | k + 1 => a_map f k * 10 + nI (f k)
theorem s_X8_map {n : Nat} {f : Nat → Nat} {g : Nat → Int32} {P : Int32 → Prop} (hn : n ≤ 8) (hg : HasL n f g) (h : P (a_map f n)) : M_X8_map (nI n) g P := by
  refine LP2_ix (fun i a b => a = a_map f i ∧ b = nI i) n ?_ 0 _ _ (Nat.zero_le _) ⟨rfl, rfl⟩
  rintro K i a b hi ⟨rfl, rfl⟩ hK
  refine br_c (fun c => ?_) (fun c => ?_)
  · rw [nI_leI (by omega) (by omega)] at c
    obtain rfl : i = n := by omega
    exact h
  · rw [nI_leI (by omega) (by omega)] at c
    refine And.intro (vp_in_nI (by omega) (by omega)) (hK _ _ (by omega) ⟨?_, nI_1 i⟩)
    rw [nI_clamp (by omega), hg _ (by omega)]; rfl
theorem s_X9_map {n : Nat} {f : Nat → Nat} {g : Nat → Int32} {P : Int32 → Prop} (hn : n ≤ 8) (hg : HasL n f g) (h : P (a_map f n)) : M_X9_map (nI n) g P := by
  refine LP2_ix (fun i a b => a = a_map f i ∧ b = nI i) n ?_ 0 _ _ (Nat.zero_le _) ⟨rfl, rfl⟩
  rintro K i a b hi ⟨rfl, rfl⟩ hK
  refine br_c (fun c => ?_) (fun c => ?_)
  · rw [nI_leI (by omega) (by omega)] at c
    obtain rfl : i = n := by omega
    exact h
  · rw [nI_leI (by omega) (by omega)] at c
    refine And.intro (vp_in_nI (by omega) (by omega)) (hK _ _ (by omega) ⟨?_, nI_1 i⟩)
    rw [nI_clamp (by omega), hg _ (by omega), Int32.mul_comm]; rfl
def a_rings (n : Nat) (f : Nat → Nat) (x : Int32) : Int32 := if x = 0 then nI (ctL n f n) else if x = 1 then nI (pc (uA n f n)) else if x = 2 then nI (mxA n f n) else if x = 3 then (if nI (pc (uA n f n)) = nI n then 1 else 0) else -2
theorem s_X8_rings {n : Nat} {f : Nat → Nat} {g : Nat → Int32} {x : Int32} {P : Int32 → Prop} (ho : OkL n f) (hg : HasL n f g) (h : P (a_rings n f x)) : M_X8_rings x (nI n) g P := by
  unfold a_rings at h
  refine br_c (fun c => ?_) (fun c => ?_)
  · rw [if_pos c] at h; exact s_X0_ringNumber ho hg h
  · rw [if_neg c] at h
    refine br_c (fun c => ?_) (fun c => ?_)
    · rw [if_pos c] at h; exact s_X0_pointsOnRings ho hg h
    · rw [if_neg c] at h
      refine br_c (fun c => ?_) (fun c => ?_)
      · rw [if_pos c] at h; exact s_X0_greatestRing ho hg h
      · rw [if_neg c] at h
        refine br_c (fun c => ?_) (fun c => ?_)
        · rw [if_pos c] at h
          refine s_X0_pointsOnRings ho hg (br_c (fun c => ?_) (fun c => ?_))
          · rw [if_pos c] at h; exact h
          · rw [if_neg c] at h; exact h
        · rw [if_neg c] at h; exact h
theorem s_X9_rings {n : Nat} {f : Nat → Nat} {g : Nat → Int32} {x : Int32} {P : Int32 → Prop} (ho : OkL n f) (hg : HasL n f g) (h : P (a_rings n f x)) : M_X9_rings x (nI n) g P := by
  have hn := ho.2.1
  unfold a_rings at h
  refine s_in (a := 0) (b := 3) rfl rfl (fun c => br_t rfl ?_) (fun c1 c2 => br_f (by decide) ?_)
  · rw [if_neg (by rintro rfl; revert c; decide), if_neg (by rintro rfl; revert c; decide), if_neg (by rintro rfl; revert c; decide), if_neg (by rintro rfl; revert c; decide)] at h
    exact h
  · refine s_X9_ringAt ho hg ?_
    refine LP4_ix (fun t a b c d => ∃ i, t ≤ i ∧ i ≤ n ∧ a = nI (ctL n f i) ∧ b = nI (smL n f i) ∧ c = nI (mxL n f i) ∧ d = (if lk n f (nI (ctL n f i)) < n then nI (rs n f (lk n f (nI (ctL n f i)))) else 0)) n ?_ 0 _ _ _ _ (Nat.zero_le _) ⟨0, Nat.le_refl _, Nat.zero_le _, rfl, rfl, rfl, rfl⟩
    rintro K t a b c d ht ⟨i, hti, hi, rfl, rfl, rfl, rfl⟩ hK
    rcases lk_next hn hi with ⟨e1, e2⟩ | ⟨j, j1, j2, e1, e2, e3⟩
    · rw [e1, if_neg (Nat.lt_irrefl n)]
      have s1 : ctL n f n = ctL n f i := rl_skip (ctL n f) (fun k => ctL_no) n hi e2
      have s2 : smL n f n = smL n f i := rl_skip (smL n f) (fun k => smL_no) n hi e2
      have s3 : mxL n f n = mxL n f i := rl_skip (mxL n f) (fun k => mxL_no) n hi e2
      rw [← s1, ← s2, ← s3, mxL_mxA ho, smL_pc ho n (Nat.le_refl n), uL_uA ho]
      refine br_t rfl (br_c (fun c => ?_) (fun c => ?_))
      · rw [if_pos c] at h; exact h
      · rw [if_neg c] at h
        refine br_c (fun c => ?_) (fun c => ?_)
        · rw [if_pos c] at h; exact h
        · rw [if_neg c] at h
          refine br_c (fun c => ?_) (fun c4 => ?_)
          · rw [if_pos c] at h; exact h
          · rw [if_neg c4] at h
            obtain ⟨k, hk, rfl⟩ := in_cases (k := 3) (by omega) c1 c2
            have e3 : k = 3 := by
              rcases (show k = 0 ∨ k = 1 ∨ k = 2 ∨ k = 3 by omega) with rfl | rfl | rfl | rfl
              · exact absurd nI_0 (by assumption)
              · exact absurd rfl c
              · exact absurd rfl c4
              · rfl
            subst e3
            rw [if_pos (show nI 3 = 3 from rfl)] at h
            refine br_c (fun c => ?_) (fun c => ?_)
            · rw [if_pos c] at h; exact h
            · rw [if_neg c] at h; exact h
    · rw [e1, if_pos j2]
      have s1 : ctL n f j = ctL n f i := rl_skip (ctL n f) (fun k => ctL_no) j j1 e3
      have s2 : smL n f j = smL n f i := rl_skip (smL n f) (fun k => smL_no) j j1 e3
      have s3 : mxL n f j = mxL n f i := rl_skip (mxL n f) (fun k => mxL_no) j j1 e3
      have h8 := rs_lt ho.2.2 hn j2
      have hp := pc_le _ h8
      have hm := mxL_8 ho (show j ≤ n by omega)
      refine br_f ?_ (s_bitCount h8 (s_bitCount h8 (s_X9_ringAt ho hg (hK _ _ _ _ (by omega) ⟨j + 1, by omega, by omega, ?_, ?_, ?_, ?_⟩))))
      · rw [show (0 : Int32) = nI 0 from rfl, nI_eq (by omega) (by omega)]
        exact rs_pos ho.2.2 j2
      · rw [nI_1, ctL_yes e2, s1]
      · rw [nI_add, smL_yes e2, s2]
      · rw [← s3, z_max _ _ (by omega) (by omega), mxL_yes e2]
      · rw [nI_1, ctL_yes e2, s1]
theorem lk_L {n : Nat} {f : Nat → Nat} {x : Int32} (h : lk n f x < n) : isL n f (lk n f x) = true ∧ nI (ctL n f (lk n f x)) = x := by
  have := fa_first_yes (fun i => isL n f i && decide (nI (ctL n f i) = x)) n h
  rw [Bool.and_eq_true, decide_eq_true_iff] at this
  exact this
theorem lk_neg {n : Nat} {f : Nat → Nat} {x : Int32} (hn : n ≤ 8) (hx : x < 0) : ¬ lk n f x < n := by
  intro h
  have h1 := (lk_L h).2
  have h2 := ctL_le n f (lk n f x)
  rw [← h1] at hx
  exact nI_pos (by omega) hx
def a_ring (n : Nat) (f : Nat → Nat) (x1 x2 : Int32) : Int32 := if lk n f x1 < n then (if x2 = 0 then kd (nI (pc (rs n f (lk n f x1)))) else if x2 = 1 then nI (pc (rs n f (lk n f x1))) else if x2 = 2 then nI (lk n f x1) else -2) else -2
theorem s_X8_ring {n : Nat} {f : Nat → Nat} {g : Nat → Int32} {x1 x2 : Int32} {P : Int32 → Prop} (ho : OkL n f) (hg : HasL n f g) (h : P (a_ring n f x1 x2)) : M_X8_ring x1 x2 (nI n) g P := by
  have hn := ho.2.1
  unfold a_ring at h
  refine s_X0_least ho hg ?_
  by_cases hl : lk n f x1 < n
  · rw [if_pos hl] at h ⊢
    refine br_t (nI_pos' (by omega)) (s_X0_ringBits ho hg hl (s_bitCount (rs_lt ho.2.2 hn hl) ?_))
    refine br_c (fun c => ?_) (fun c => ?_)
    · rw [if_pos c] at h; exact s_X2_ofRing h
    · rw [if_neg c] at h
      refine br_c (fun c => ?_) (fun c => ?_)
      · rw [if_pos c] at h; exact h
      · rw [if_neg c] at h
        refine br_c (fun c => ?_) (fun c => ?_)
        · rw [if_pos c] at h; exact h
        · rw [if_neg c] at h; exact h
  · rw [if_neg hl] at h ⊢
    exact br_f (by decide) h
theorem s_X9_isRing {n : Nat} {f : Nat → Nat} {g : Nat → Int32} {x : Int32} {P : Int32 → Prop} (ho : OkL n f) (hg : HasL n f g) (h : P (if lk n f x < n then 1 else 0)) : M_X9_isRing x (nI n) g P := by
  have hn := ho.2.1
  refine br_c (fun c => ?_) (fun c => ?_)
  · rw [if_neg (lk_neg hn c)] at h; exact h
  · refine s_X9_ringAt ho hg ?_
    by_cases hl : lk n f x < n
    · rw [if_pos hl] at h ⊢
      refine br_f ?_ h
      have := rs_lt ho.2.2 hn hl
      rw [show (0 : Int32) = nI 0 from rfl, nI_eq (by omega) (by omega)]
      exact rs_pos ho.2.2 hl
    · rw [if_neg hl] at h ⊢
      exact br_t rfl h
theorem s_X9_ring {n : Nat} {f : Nat → Nat} {g : Nat → Int32} {x1 x2 : Int32} {P : Int32 → Prop} (ho : OkL n f) (hg : HasL n f g) (h : P (a_ring n f x1 x2)) : M_X9_ring x1 x2 (nI n) g P := by
  have hn := ho.2.1
  unfold a_ring at h
  refine s_X9_isRing ho hg ?_
  by_cases hl : lk n f x1 < n
  · rw [if_pos hl] at h ⊢
    refine br_f (by decide) (s_in (a := 0) (b := 2) rfl rfl (fun c => br_t rfl ?_) (fun c1 c2 => br_f (by decide) ?_))
    · rw [if_neg (by rintro rfl; revert c; decide), if_neg (by rintro rfl; revert c; decide), if_neg (by rintro rfl; revert c; decide)] at h
      exact h
    · refine s_X9_ringAt ho hg ?_
      rw [if_pos hl]
      have h8 := rs_lt ho.2.2 hn hl
      refine s_bitCount h8 (br_c (fun c => ?_) (fun c => ?_))
      · rw [if_pos c] at h; exact s_X9_kindOf h
      · rw [if_neg c] at h
        refine br_c (fun c => ?_) (fun c4 => ?_)
        · rw [if_pos c] at h; exact h
        · rw [if_neg c4] at h
          obtain ⟨k, hk, rfl⟩ := in_cases (k := 2) (by omega) c1 c2
          have e3 : k = 2 := by
            rcases (show k = 0 ∨ k = 1 ∨ k = 2 by omega) with rfl | rfl | rfl
            · exact absurd rfl c
            · exact absurd rfl c4
            · rfl
          subst e3
          rw [if_pos (show nI 2 = 2 from rfl)] at h
          refine s_ntz h8 (rs_pos ho.2.2 hl) ?_
          rw [((isL_low hn ho.2.2 hl).mp (lk_L hl).1).2]
          exact h
  · rw [if_neg hl] at h ⊢
    exact br_t rfl h
def a_taken (n : Nat) (f : Nat → Nat) (x1 x2 : Int32) : Int32 := if lk n f x1 < n then (if x2 < 0 ∨ 4 < x2 then -2 else if ud (kd (nI (pc (rs n f (lk n f x1))))) x2 then nI (pc (rs n f (lk n f x1))) else -13) else -2
theorem s_X8_taken {n : Nat} {f : Nat → Nat} {g : Nat → Int32} {x1 x2 : Int32} {P : Int32 → Prop} (ho : OkL n f) (hg : HasL n f g) (h : P (a_taken n f x1 x2)) : M_X8_taken x1 x2 (nI n) g P := by
  have hn := ho.2.1
  unfold a_taken at h
  refine s_X0_least ho hg ?_
  by_cases hl : lk n f x1 < n
  · rw [if_pos hl] at h ⊢
    refine br_f (nI_pos (by omega)) (br_c (fun c => ?_) (fun c => br_c (fun c2 => ?_) (fun c2 => ?_)))
    · rw [if_pos (Or.inl c)] at h; exact h
    · rw [if_neg (by rintro (q | q); exact c q; exact (fa_of_lt q).2.1 c2)] at h
      refine s_X0_ringBits ho hg hl (s_bitCount (rs_lt ho.2.2 hn hl) (s_X2_ofRing (s_X2_isUnder (kd_of _) ?_)))
      cases hu : ud (kd (nI (pc (rs n f (lk n f x1))))) x2 with
      | true => rw [hu] at h; exact br_f (by decide) h
      | false => rw [hu] at h; exact br_t rfl h
    · rw [if_pos (Or.inr (fa_of_nle c2))] at h; exact h
  · rw [if_neg hl] at h ⊢
    exact br_t (by decide) h
theorem s_X9_taken {n : Nat} {f : Nat → Nat} {g : Nat → Int32} {x1 x2 : Int32} {P : Int32 → Prop} (ho : OkL n f) (hg : HasL n f g) (h : P (a_taken n f x1 x2)) : M_X9_taken x1 x2 (nI n) g P := by
  have hn := ho.2.1
  unfold a_taken at h
  refine s_X9_isRing ho hg ?_
  by_cases hl : lk n f x1 < n
  · rw [if_pos hl] at h ⊢
    refine br_f (by decide) (s_in (a := 0) (b := 4) rfl rfl (fun c => br_t rfl ?_) (fun c1 c2 => br_f (by decide) ?_))
    · rw [if_pos c] at h; exact h
    · rw [if_neg (by rintro (q | q); exact c1 q; exact c2 q)] at h
      refine s_X9_ringAt ho hg ?_
      rw [if_pos hl]
      have h8 := rs_lt ho.2.2 hn hl
      refine s_bitCount h8 (s_X9_kindOf ?_)
      have yes : ud (kd (nI (pc (rs n f (lk n f x1))))) x2 = true → M_X9_taken_b75 x1 x2 (nI n) g P (nI (pc (rs n f (lk n f x1)))) 1 := fun q => by
        rw [boolif_t q] at h; exact br_f (by decide) h
      have no : ud (kd (nI (pc (rs n f (lk n f x1))))) x2 = false → M_X9_taken_b75 x1 x2 (nI n) g P (nI (pc (rs n f (lk n f x1)))) 0 := fun q => by
        rw [boolif_f q] at h; exact br_t rfl h
      generalize kd (nI (pc (rs n f (lk n f x1)))) = k at yes no ⊢
      have b59 : x2 ≠ 0 → x2 ≠ k → ¬ (x2 = 2 ∧ k = 3) → M_X9_taken_b59 x1 x2 (nI n) g P (nI (pc (rs n f (lk n f x1)))) k := by
        intro q1 q2 q3
        refine br_c (fun c => br_c (fun c4 => yes ?_) (fun c4 => no ?_)) (fun c => no ?_)
        · simp [ud, c, c4]
        · simp only [ud, Bool.or_eq_false_iff, Bool.and_eq_false_iff, decide_eq_false_iff_not]
          exact ⟨⟨⟨q1, q2⟩, by by_cases w : x2 = 2; exact Or.inr (fun e => q3 ⟨w, e⟩); exact Or.inl w⟩, Or.inr c4⟩
        · simp only [ud, Bool.or_eq_false_iff, Bool.and_eq_false_iff, decide_eq_false_iff_not]
          exact ⟨⟨⟨q1, q2⟩, by by_cases w : x2 = 2; exact Or.inr (fun e => q3 ⟨w, e⟩); exact Or.inl w⟩, Or.inl c⟩
      refine br_c (fun c => yes (by simp [ud, c])) (fun c => br_c (fun c3 => yes (by simp [ud, c3])) (fun c3 => br_c (fun c4 => br_c (fun c5 => yes (by simp [ud, c4, c5])) (fun c5 => b59 c c3 (fun q => c5 q.2))) (fun c4 => b59 c c3 (fun q => c4 q.1))))
  · rw [if_neg hl] at h ⊢
    exact br_t rfl h
