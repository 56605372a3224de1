/-! rings, together -/
theorem pc_ct : ∀ S, S < 256 → pc S = fb_ct (fun j => S.testBit j) 8 := by decide +kernel
theorem pc_le (S : Nat) (hS : S < 256) : pc S ≤ 8 := by rw [pc_ct S hS]; exact fb_ct_le _ _
theorem pc_pos {S : Nat} (hS : S < 256) (h0 : S ≠ 0) : 1 ≤ pc S := by
  rw [pc_ct S hS]
  obtain ⟨h1, h2, -⟩ := low_spec S hS h0
  exact fb_ct_pos.mpr ⟨low S, h1, h2⟩
theorem pc_or {a b : Nat} (ha : a < 256) (hb : b < 256) (h : ∀ j, j < 8 → ¬ (a.testBit j = true ∧ b.testBit j = true)) : pc (a ||| b) = pc a + pc b := by
  rw [pc_ct _ (or_lt256 ha hb), pc_ct a ha, pc_ct b hb, ← fb_ct_or h]
  exact fb_ct_cong (fun k _ => Nat.testBit_or a b k)
/-- all the points on rings -/
def uA (n : Nat) (f : Nat → Nat) : Nat → Nat
  | 0 => 0
  | k + 1 => uA n f k ||| rs n f k
def mxA (n : Nat) (f : Nat → Nat) : Nat → Nat
  | 0 => 0
  | k + 1 => max (mxA n f k) (pc (rs n f k))
def szA (n : Nat) (f : Nat → Nat) : Nat → Nat
  | 0 => 0
  | k + 1 => szA n f k ||| 2 ^ pc (rs n f k)
theorem uA_lt {n : Nat} {f : Nat → Nat} (ho : OkL n f) : ∀ k, k ≤ n → uA n f k < 256
  | 0, _ => by show 0 < 256; omega
  | k + 1, h => or_lt256 (uA_lt ho k (by omega)) (rs_lt ho.2.2 ho.2.1 (by omega))
theorem uA_bit (n : Nat) (f : Nat → Nat) (j : Nat) : ∀ k, (uA n f k).testBit j = true ↔ ∃ i, i < k ∧ (rs n f i).testBit j = true
  | 0 => by
    show (0 : Nat).testBit j = true ↔ _
    rw [Nat.zero_testBit]
    exact ⟨fun h => (by cases h), fun ⟨i, h, _⟩ => (by omega)⟩
  | k + 1 => by
    rw [uA, Nat.testBit_or, Bool.or_eq_true, uA_bit n f j k]
    constructor
    · rintro (⟨i, h1, h2⟩ | h)
      · exact ⟨i, by omega, h2⟩
      · exact ⟨k, by omega, h⟩
    · rintro ⟨i, h1, h2⟩
      rcases Nat.lt_or_ge i k with q | q
      · exact Or.inl ⟨i, q, h2⟩
      · exact Or.inr (by rw [show k = i by omega]; exact h2)
theorem mxA_le {n : Nat} {f : Nat → Nat} (ho : OkL n f) : ∀ k, k ≤ n → mxA n f k ≤ 8
  | 0, _ => by show 0 ≤ 8; omega
  | k + 1, h => by
    have h1 := mxA_le ho k (by omega)
    have h2 := pc_le _ (rs_lt ho.2.2 ho.2.1 (show k < n by omega))
    show max _ _ ≤ 8
    omega
theorem szA_bit (n : Nat) (f : Nat → Nat) (j : Nat) : ∀ k, (szA n f k).testBit j = true ↔ ∃ i, i < k ∧ pc (rs n f i) = j
  | 0 => by
    show (0 : Nat).testBit j = true ↔ _
    rw [Nat.zero_testBit]
    exact ⟨fun h => (by cases h), fun ⟨i, h, _⟩ => (by omega)⟩
  | k + 1 => by
    rw [szA, Nat.testBit_or, Bool.or_eq_true, szA_bit n f j k, tb_pow, decide_eq_true_iff]
    constructor
    · rintro (⟨i, h1, h2⟩ | h)
      · exact ⟨i, by omega, h2⟩
      · exact ⟨k, by omega, h⟩
    · rintro ⟨i, h1, h2⟩
      rcases Nat.lt_or_ge i k with q | q
      · exact Or.inl ⟨i, q, h2⟩
      · exact Or.inr (by rw [show k = i by omega]; exact h2)
theorem szA_lt {n : Nat} {f : Nat → Nat} (ho : OkL n f) : ∀ k, k ≤ n → szA n f k < 512
  | 0, _ => by show 0 < 512; omega
  | k + 1, h => Nat.or_lt_two_pow (n := 9) (szA_lt ho k (by omega)) (Nat.pow_lt_pow_of_lt (a := 2) (n := pc (rs n f k)) (m := 9) (by omega) (by have := pc_le _ (rs_lt ho.2.2 ho.2.1 (show k < n by omega)); omega))
theorem z_max (a b : Nat) (ha : a < 2 ^ 31) (hb : b < 2 ^ 31) : (if nI a < nI b then nI b else nI a) = nI (max a b) := by
  by_cases h : a < b
  · rw [if_pos ((nI_ltI ha hb).mpr h), Nat.max_eq_right (by omega)]
  · rw [if_neg (fun q => h ((nI_ltI ha hb).mp q)), Nat.max_eq_left (by omega)]
theorem s_X0_pointsOnRings {n : Nat} {f : Nat → Nat} {g : Nat → Int32} {P : Int32 → Prop} (ho : OkL n f) (hg : HasL n f g) (h : P (nI (pc (uA n f n)))) : M_X0_pointsOnRings (nI n) g P := by
  have hn := ho.2.1
  refine LP2_ix (fun i a b => a = nI (uA n f i) ∧ b = nI i) n ?_ 0 _ _ (Nat.zero_le _) ⟨rfl, rfl⟩
  rintro K i a b hi ⟨rfl, rfl⟩ hK
  refine br_c (fun c => ?_) (fun c => ?_)
  · rw [nI_leI (by omega) (by omega)] at c
    obtain rfl : i = n := by omega
    exact s_bitCount (uA_lt ho _ hi) h
  · rw [nI_leI (by omega) (by omega)] at c
    exact s_X0_ringBits ho hg (by omega) (hK _ _ (by omega) ⟨z_or _ _, nI_1 i⟩)
theorem s_X0_greatestRing {n : Nat} {f : Nat → Nat} {g : Nat → Int32} {P : Int32 → Prop} (ho : OkL n f) (hg : HasL n f g) (h : P (nI (mxA n f n))) : M_X0_greatestRing (nI n) g P := by
  have hn := ho.2.1
  refine LP2_ix (fun i a b => a = nI (mxA n f i) ∧ b = nI i) n ?_ 0 _ _ (Nat.zero_le _) ⟨rfl, rfl⟩
  rintro K i a b hi ⟨rfl, rfl⟩ hK
  refine br_c (fun c => ?_) (fun c => ?_)
  · rw [nI_leI (by omega) (by omega)] at c
    obtain rfl : i = n := by omega
    exact h
  · rw [nI_leI (by omega) (by omega)] at c
    have h1 := rs_lt ho.2.2 hn (show i < n by omega)
    have h2 := mxA_le ho i hi
    have h3 := pc_le _ h1
    exact s_X0_ringBits ho hg (by omega) (s_bitCount h1 (hK _ _ (by omega) ⟨z_max _ _ (by omega) (by omega), nI_1 i⟩))
/-! ring by ring -/
def smL (n : Nat) (f : Nat → Nat) : Nat → Nat
  | 0 => 0
  | k + 1 => if isL n f k then smL n f k + pc (rs n f k) else smL n f k
def mxL (n : Nat) (f : Nat → Nat) : Nat → Nat
  | 0 => 0
  | k + 1 => if isL n f k then max (mxL n f k) (pc (rs n f k)) else mxL n f k
def uL (n : Nat) (f : Nat → Nat) : Nat → Nat
  | 0 => 0
  | k + 1 => if isL n f k then uL n f k ||| rs n f k else uL n f k
section RL
variable {n : Nat} {f : Nat → Nat}
theorem rl_bit (n : Nat) (f : Nat → Nat) (j : Nat) : ∀ k, (uL n f k).testBit j = true ↔ ∃ i, i < k ∧ isL n f i = true ∧ (rs n f i).testBit j = true
  | 0 => by
    show (0 : Nat).testBit j = true ↔ _
    rw [Nat.zero_testBit]
    exact ⟨fun h => (by cases h), fun ⟨i, h, _⟩ => (by omega)⟩
  | k + 1 => by
    rw [uL]
    cases hl : isL n f k with
    | false =>
      rw [boolif_f rfl, rl_bit n f j k]
      constructor
      · rintro ⟨i, h1, h2⟩; exact ⟨i, by omega, h2⟩
      · rintro ⟨i, h1, h2, h3⟩
        rcases Nat.lt_or_ge i k with q | q
        · exact ⟨i, q, h2, h3⟩
        · rw [show i = k by omega, hl] at h2; cases h2
    | true =>
      rw [boolif_t rfl, Nat.testBit_or, Bool.or_eq_true, rl_bit n f j k]
      constructor
      · rintro (⟨i, h1, h2⟩ | h)
        · exact ⟨i, by omega, h2⟩
        · exact ⟨k, by omega, hl, h⟩
      · rintro ⟨i, h1, h2, h3⟩
        rcases Nat.lt_or_ge i k with q | q
        · exact Or.inl ⟨i, q, h2, h3⟩
        · exact Or.inr (by rw [show k = i by omega]; exact h3)
/-- each point's ring is a least point's -/
theorem rl_of (ho : OkL n f) {i : Nat} (hi : i < n) : low (rs n f i) < n ∧ isL n f (low (rs n f i)) = true ∧ rs n f (low (rs n f i)) = rs n f i := by
  have h8 := rs_lt ho.2.2 ho.2.1 hi
  obtain ⟨l1, l2, l3⟩ := low_spec _ h8 (rs_pos ho.2.2 hi)
  have hj := rs_in ho.2.2 hi l2
  have hs := rs_same ho.2.2 hi l2
  refine ⟨hj, (isL_low ho.2.1 ho.2.2 hj).mpr ⟨rs_Rd ho.2.2 hi l2, by rw [hs]⟩, hs⟩
theorem uL_uA (ho : OkL n f) : uL n f n = uA n f n := by
  apply Nat.eq_of_testBit_eq
  intro j
  apply Bool.eq_iff_iff.mpr
  rw [rl_bit, uA_bit]
  constructor
  · rintro ⟨i, h1, -, h3⟩; exact ⟨i, h1, h3⟩
  · rintro ⟨i, h1, h2⟩
    obtain ⟨a, b, c⟩ := rl_of ho h1
    exact ⟨_, a, b, by rw [c]; exact h2⟩
theorem uL_lt (ho : OkL n f) : ∀ k, k ≤ n → uL n f k < 256
  | 0, _ => by show 0 < 256; omega
  | k + 1, h => by
    rw [uL]
    split
    · exact or_lt256 (uL_lt ho k (by omega)) (rs_lt ho.2.2 ho.2.1 (by omega))
    · exact uL_lt ho k (by omega)
theorem smL_pc (ho : OkL n f) : ∀ k, k ≤ n → smL n f k = pc (uL n f k)
  | 0, _ => by show 0 = pc 0; decide +kernel
  | k + 1, h => by
    have ih := smL_pc ho k (by omega)
    rw [smL, uL]
    cases hl : isL n f k with
    | false => rw [boolif_f rfl, boolif_f rfl, ih]
    | true =>
      rw [boolif_t rfl, boolif_t rfl, ih, pc_or (uL_lt ho k (by omega)) (rs_lt ho.2.2 ho.2.1 (by omega))]
      rintro j _ ⟨h1, h2⟩
      obtain ⟨i, i1, i2, i3⟩ := (rl_bit n f j k).mp h1
      have e1 := rs_same ho.2.2 (show i < n by omega) i3
      have e2 := rs_same ho.2.2 (show k < n by omega) h2
      have l1 := ((isL_low ho.2.1 ho.2.2 (show i < n by omega)).mp i2).2
      have l2 := ((isL_low ho.2.1 ho.2.2 (show k < n by omega)).mp hl).2
      rw [← e1, e2, l2] at l1
      omega
theorem mxL_le (n : Nat) (f : Nat → Nat) (b : Nat) : ∀ k, (∀ i, i < k → isL n f i = true → pc (rs n f i) ≤ b) ↔ mxL n f k ≤ b
  | 0 => ⟨fun _ => Nat.zero_le _, fun _ i h => absurd h (Nat.not_lt_zero i)⟩
  | k + 1 => by
    rw [mxL]
    have ih := mxL_le n f b k
    cases hl : isL n f k with
    | false =>
      rw [boolif_f rfl, ← ih]
      constructor
      · intro h i hi; exact h i (by omega)
      · intro h i hi hli
        rcases Nat.lt_or_ge i k with q | q
        · exact h i q hli
        · rw [show i = k by omega, hl] at hli; cases hli
    | true =>
      rw [boolif_t rfl, Nat.max_le, ← ih]
      constructor
      · intro h; exact ⟨fun i hi => h i (by omega), h k (by omega) hl⟩
      · rintro ⟨h1, h2⟩ i hi hli
        rcases Nat.lt_or_ge i k with q | q
        · exact h1 i q hli
        · rw [show i = k by omega]; exact h2
theorem mxA_iff (n : Nat) (f : Nat → Nat) (b : Nat) : ∀ k, (∀ i, i < k → pc (rs n f i) ≤ b) ↔ mxA n f k ≤ b
  | 0 => ⟨fun _ => Nat.zero_le _, fun _ i h => absurd h (Nat.not_lt_zero i)⟩
  | k + 1 => by
    have ih := mxA_iff n f b k
    rw [mxA, Nat.max_le, ← ih]
    constructor
    · intro h; exact ⟨fun i hi => h i (by omega), h k (by omega)⟩
    · rintro ⟨h1, h2⟩ i hi
      rcases Nat.lt_or_ge i k with q | q
      · exact h1 i q
      · rw [show i = k by omega]; exact h2
theorem mxL_mxA (ho : OkL n f) : mxL n f n = mxA n f n := by
  apply Nat.le_antisymm
  · rw [← mxL_le]
    intro i hi _
    exact (mxA_iff n f _ n).mpr (Nat.le_refl _) i hi
  · rw [← mxA_iff]
    intro i hi
    obtain ⟨a, b, c⟩ := rl_of ho hi
    rw [← c]
    exact (mxL_le n f _ n).mpr (Nat.le_refl _) _ a b
theorem sz_L (ho : OkL n f) (j : Nat) : (szA n f n).testBit j = true ↔ ∃ i, i < n ∧ isL n f i = true ∧ pc (rs n f i) = j := by
  rw [szA_bit]
  constructor
  · rintro ⟨i, h1, h2⟩
    obtain ⟨a, b, c⟩ := rl_of ho h1
    exact ⟨_, a, b, by rw [c]; exact h2⟩
  · rintro ⟨i, h1, -, h3⟩; exact ⟨i, h1, h3⟩
/-- the next ring, from the place i on -/
theorem lk_next (hn : n ≤ 8) {i : Nat} (hi : i ≤ n) : (lk n f (nI (ctL n f i)) = n ∧ ∀ j, i ≤ j → j < n → isL n f j = false) ∨ (∃ j, i ≤ j ∧ j < n ∧ lk n f (nI (ctL n f i)) = j ∧ isL n f j = true ∧ ∀ k, i ≤ k → k < j → isL n f k = false) := by
  have hc := fun k => ctL_le n f k
  have before : ∀ k, k < i → (isL n f k && decide (nI (ctL n f k) = nI (ctL n f i))) = false := by
    intro k hk
    cases hl : isL n f k with
    | false => rfl
    | true =>
      have h1 : ctL n f (k + 1) ≤ ctL n f i := fb_ct_mono _ hk
      have h2 : ctL n f (k + 1) = ctL n f k + 1 := by rw [ctL, ctL, fb_ct_succ, hl]; rfl
      have := hc i
      rw [Bool.true_and, decide_eq_false]
      rw [nI_eq (by omega) (by omega)]
      omega
  have between : ∀ j, (∀ k, i ≤ k → k < j → isL n f k = false) → i ≤ j → ctL n f j = ctL n f i := by
    intro j
    induction j with
    | zero => intro _ h; rw [show i = 0 by omega]
    | succ j ih =>
      intro h1 h2
      rcases Nat.lt_or_ge i (j + 1) with q | q
      · rw [ctL, fb_ct_succ, h1 j (by omega) (by omega)]
        exact ih (fun k a b => h1 k a (by omega)) (by omega)
      · rw [show i = j + 1 by omega]
  by_cases hx : ∃ j, j < n ∧ (i ≤ j ∧ isL n f j = true)
  · right
    obtain ⟨j, j1, ⟨j2, j3⟩, j4⟩ := fb_first hx
    have hno : ∀ k, i ≤ k → k < j → isL n f k = false := by
      intro k k1 k2
      cases hl : isL n f k with
      | false => rfl
      | true => exact absurd ⟨k1, hl⟩ (j4 k k2)
    refine ⟨j, j2, j1, ?_, j3, hno⟩
    refine fa_first_is j1 (by rw [j3, between j hno j2, Bool.true_and]; exact decide_eq_true rfl) (fun k hk => ?_)
    rcases Nat.lt_or_ge k i with q | q
    · exact before k q
    · rw [hno k q hk]; rfl
  · left
    have hno : ∀ j, i ≤ j → j < n → isL n f j = false := by
      intro j h1 h2
      cases hl : isL n f j with
      | false => rfl
      | true => exact absurd ⟨j, h2, h1, hl⟩ hx
    refine ⟨fa_first_end (fun k hk => ?_), hno⟩
    rcases Nat.lt_or_ge k i with q | q
    · exact before k q
    · rw [hno k q hk]; rfl
theorem rl_skip {α : Type} (F : Nat → α) (hF : ∀ k, isL n f k = false → F (k + 1) = F k) {i : Nat} : ∀ j, i ≤ j → (∀ k, i ≤ k → k < j → isL n f k = false) → F j = F i
  | 0, h, _ => by rw [show i = 0 by omega]
  | j + 1, h, h2 => by
    rcases Nat.lt_or_ge i (j + 1) with q | q
    · rw [hF j (h2 j (by omega) (by omega))]
      exact rl_skip F hF j (by omega) (fun k a b => h2 k a (by omega))
    · rw [show i = j + 1 by omega]
theorem ctL_no {k : Nat} (h : isL n f k = false) : ctL n f (k + 1) = ctL n f k := by rw [ctL, ctL, fb_ct_succ, h]; rfl
theorem ctL_yes {k : Nat} (h : isL n f k = true) : ctL n f (k + 1) = ctL n f k + 1 := by rw [ctL, ctL, fb_ct_succ, h]; rfl
theorem smL_no {k : Nat} (h : isL n f k = false) : smL n f (k + 1) = smL n f k := by rw [smL, boolif_f h]
theorem smL_yes {k : Nat} (h : isL n f k = true) : smL n f (k + 1) = smL n f k + pc (rs n f k) := by rw [smL, boolif_t h]
theorem mxL_no {k : Nat} (h : isL n f k = false) : mxL n f (k + 1) = mxL n f k := by rw [mxL, boolif_f h]
theorem mxL_yes {k : Nat} (h : isL n f k = true) : mxL n f (k + 1) = max (mxL n f k) (pc (rs n f k)) := by rw [mxL, boolif_t h]
theorem smL_le (ho : OkL n f) {k : Nat} (h : k ≤ n) : smL n f k ≤ 8 := by rw [smL_pc ho k h]; exact pc_le _ (uL_lt ho k h)
theorem mxL_8 (ho : OkL n f) {k : Nat} (h : k ≤ n) : mxL n f k ≤ 8 := by
  rw [← mxL_le]
  intro i hi _
  exact pc_le _ (rs_lt ho.2.2 ho.2.1 (by omega))
end RL
/-! the answers -/
def kd (x : Int32) : Int32 := if x = 1 then 3 else if x = 2 then 4 else if x - x / 2 * 2 = 0 then 1 else 2
theorem s_X2_ofRing {x : Int32} {P : Int32 → Prop} (h : P (kd x)) : M_X2_ofRing x P := by
  unfold kd at h
  refine br_c (fun c => ?_) (fun c => ?_)
  · rw [if_pos c] at h; exact h
  · rw [if_neg c] at h
    refine br_c (fun c => ?_) (fun c => ?_)
    · rw [if_pos c] at h; exact h
    · rw [if_neg c] at h
      refine br_c (fun c => ?_) (fun c => ?_)
      · rw [if_pos c] at h; exact h
      · rw [if_neg c] at h; exact h
theorem kd_of (x : Int32) : kd x = 1 ∨ kd x = 2 ∨ kd x = 3 ∨ kd x = 4 := by
  unfold kd
  split
  · exact Or.inr (Or.inr (Or.inl rfl))
  · split
    · exact Or.inr (Or.inr (Or.inr rfl))
    · split
      · exact Or.inl rfl
      · exact Or.inr (Or.inl rfl)
/-- whether a kind is under another -/
def ud (k u : Int32) : Bool := decide (u = 0) || decide (u = k) || (decide (u = 2) && decide (k = 3)) || (decide (u = 1) && decide (k = 4))
theorem kU_at : kU 0 = -1 ∧ kU 1 = 0 ∧ kU 2 = 0 ∧ kU 3 = 2 ∧ kU 4 = 1 := ⟨rfl, rfl, rfl, rfl, rfl⟩
theorem ud_step {x u l2 l3 : Int32} {P : Int32 → Prop} {K : Int32 → Int32 → Prop} (h3 : ¬ (4 : Int32) < l3) (h2 : ¬ l2 < 0) (h4 : ¬ (4 : Int32) < l2) (hv : vp_in l2 5) (h1 : l2 = u → P 1) (hk : ¬ l2 = u → K (kU l2.toNatClampNeg) (l3 + 1)) : M_X2_isUnder_l4 x u P K l2 l3 :=
  br_f h3 (br_f h2 (br_f h4 (br_c h1 (fun c => And.intro hv (hk c)))))
theorem vp5 {k : Int32} (h : vp_in k 5) : vp_in k 5 := h
theorem vpN (k : Nat) (h : k < 5) : vp_in (nI k) 5 := vp_in_nI h (by decide)
theorem s_X2_isUnder {k u : Int32} {P : Int32 → Prop} (hk : k = 1 ∨ k = 2 ∨ k = 3 ∨ k = 4) (h : P (if ud k u then 1 else 0)) : M_X2_isUnder k u P := by
  have yes : ud k u = true → P 1 := fun q => by rw [boolif_t q] at h; exact h
  have no : ud k u = false → P 0 := fun q => by rw [boolif_f q] at h; exact h
  rcases hk with rfl | rfl | rfl | rfl
  · refine ⟨4, ud_step (by decide) (by decide) (by decide) (vpN 1 (by decide)) (fun c => yes (by subst c; rfl)) (fun c1 => ?_)⟩
    refine ud_step (l2 := 0) (by decide) (by decide) (by decide) (vpN 0 (by decide)) (fun c => yes (by subst c; rfl)) (fun c2 => ?_)
    refine br_f (by decide) (br_t (by decide) (no ?_))
    simp [ud, Ne.symm c1, Ne.symm c2]
  · refine ⟨4, ud_step (by decide) (by decide) (by decide) (vpN 2 (by decide)) (fun c => yes (by subst c; rfl)) (fun c1 => ?_)⟩
    refine ud_step (l2 := 0) (by decide) (by decide) (by decide) (vpN 0 (by decide)) (fun c => yes (by subst c; rfl)) (fun c2 => ?_)
    refine br_f (by decide) (br_t (by decide) (no ?_))
    simp [ud]
    constructor
    · exact fun q => c2 q.symm
    · exact fun q => c1 q.symm
  · refine ⟨4, ud_step (by decide) (by decide) (by decide) (vpN 3 (by decide)) (fun c => yes (by subst c; rfl)) (fun c1 => ?_)⟩
    refine ud_step (l2 := 2) (by decide) (by decide) (by decide) (vpN 2 (by decide)) (fun c => yes (by subst c; rfl)) (fun c2 => ?_)
    refine ud_step (l2 := 0) (by decide) (by decide) (by decide) (vpN 0 (by decide)) (fun c => yes (by subst c; rfl)) (fun c3 => ?_)
    refine br_f (by decide) (br_t (by decide) (no ?_))
    simp [ud]
    exact ⟨⟨fun q => c3 q.symm, fun q => c1 q.symm⟩, fun q => c2 q.symm⟩
  · refine ⟨4, ud_step (by decide) (by decide) (by decide) (vpN 4 (by decide)) (fun c => yes (by subst c; rfl)) (fun c1 => ?_)⟩
    refine ud_step (l2 := 1) (by decide) (by decide) (by decide) (vpN 1 (by decide)) (fun c => yes (by subst c; rfl)) (fun c2 => ?_)
    refine ud_step (l2 := 0) (by decide) (by decide) (by decide) (vpN 0 (by decide)) (fun c => yes (by subst c; rfl)) (fun c3 => ?_)
    refine br_f (by decide) (br_t (by decide) (no ?_))
    simp [ud]
    exact ⟨⟨fun q => c3 q.symm, fun q => c1 q.symm⟩, fun q => c2 q.symm⟩

