/-! Rings: what both sides count -/
theorem boolif_t {b : Bool} (h : b = true) {α : Type} (x y : α) : (if b then x else y) = x := if_pos h
theorem boolif_f {b : Bool} (h : b = false) {α : Type} (x y : α) : (if b then x else y) = y := if_neg (by rw [h]; decide)
/-- how many bits -/
def pc (S : Nat) : Nat := ((List.range 8).filter (fun j => S.testBit j)).length
def bcE (x0 : Int32) : Int32 :=
  let y1 := (x0 - ((x0.toUInt32 >>> ((1 : Int32).toUInt32 &&& Int32.toUInt32 31)).toInt32 &&& (1431655765 : Int32)))
  let y2 := ((y1 &&& (858993459 : Int32)) + ((y1.toUInt32 >>> ((2 : Int32).toUInt32 &&& Int32.toUInt32 31)).toInt32 &&& (858993459 : Int32)))
  let y3 := ((y2 + (y2.toUInt32 >>> ((4 : Int32).toUInt32 &&& Int32.toUInt32 31)).toInt32) &&& (252645135 : Int32))
  let y4 := (y3 + (y3.toUInt32 >>> ((8 : Int32).toUInt32 &&& Int32.toUInt32 31)).toInt32)
  let y5 := (y4 + (y4.toUInt32 >>> ((16 : Int32).toUInt32 &&& Int32.toUInt32 31)).toInt32)
  y5 &&& (63 : Int32)
theorem bc_ok : ∀ S, S < 256 → bcE (nI S) = nI (pc S) := by decide +kernel
theorem s_bitCount {S : Nat} {P : Int32 → Prop} (hS : S < 256) (h : P (nI (pc S))) : M_J6_bitCount_0f7a4 (nI S) P := by
  intro y1 e1 y2 e2 y3 e3 y4 e4 y5 e5
  subst e1; subst e2; subst e3; subst e4; subst e5
  rw [← bc_ok S hS] at h
  exact h
/-- the least bit -/
def low (S : Nat) : Nat := ((List.range 8).find? (fun j => S.testBit j)).getD 8
def n62 (l0 l1 : Int32) : Int32 := if l0 ≤ (4 : Int32) then (l1 + (l0.toUInt32 >>> ((1 : Int32).toUInt32 &&& Int32.toUInt32 31)).toInt32) else ((l1 + 2) + (((l0.toUInt32 >>> ((2 : Int32).toUInt32 &&& Int32.toUInt32 31)).toInt32).toUInt32 >>> ((1 : Int32).toUInt32 &&& Int32.toUInt32 31)).toInt32)
def n49 (l0 l1 : Int32) : Int32 := if l0 ≤ (16 : Int32) then n62 l0 l1 else n62 (l0.toUInt32 >>> ((4 : Int32).toUInt32 &&& Int32.toUInt32 31)).toInt32 (l1 + 4)
def n34 (l0 l1 : Int32) : Int32 := if l0 ≤ (256 : Int32) then n49 l0 l1 else n49 (l0.toUInt32 >>> ((8 : Int32).toUInt32 &&& Int32.toUInt32 31)).toInt32 (l1 + 8)
def nzV (x0 : Int32) : Int32 := (x0 ^^^ (-1 : Int32)) &&& (x0 - (1 : Int32))
def nz (x0 : Int32) : Int32 := if 0 < nzV x0 then (if nzV x0 ≤ (65536 : Int32) then n34 (nzV x0) (1 : Int32) else n34 ((nzV x0).toUInt32 >>> ((16 : Int32).toUInt32 &&& Int32.toUInt32 31)).toInt32 ((1 : Int32) + 16)) else (nzV x0 &&& (32 : Int32))
theorem nz_ok : ∀ S, S < 256 → S ≠ 0 → nz (nI S) = nI (low S) := by decide +kernel
theorem low_spec : ∀ S, S < 256 → S ≠ 0 → low S < 8 ∧ S.testBit (low S) = true ∧ ∀ j, j < low S → S.testBit j = false := by
  have h : ∀ S, S < 256 → S ≠ 0 → low S < 8 ∧ S.testBit (low S) = true ∧ ∀ j, j < 8 → j < low S → S.testBit j = false := by decide +kernel
  intro S h1 h2
  obtain ⟨a, b, c⟩ := h S h1 h2
  exact ⟨a, b, fun j hj => c j (by omega) hj⟩
/-- bits below 256 -/
theorem tb_out {S j : Nat} (hS : S < 256) (hj : 8 ≤ j) : S.testBit j = false := Nat.testBit_lt_two_pow (Nat.lt_of_lt_of_le hS (show 2 ^ 8 ≤ 2 ^ j from Nat.pow_le_pow_right (by omega) hj))
theorem low_mask : ∀ S, S < 256 → ∀ i, i < 8 → ((S &&& (2 ^ i - 1) = 0) ↔ ∀ j, j < i → S.testBit j = false) := by
  intro S hS i hi
  constructor
  · intro h j hj
    have := congrArg (fun z => z.testBit j) h
    simp only [Nat.testBit_and, Nat.testBit_two_pow_sub_one, Nat.zero_testBit, hj, decide_true, Bool.and_true] at this
    exact this
  · intro h
    apply Nat.eq_of_testBit_eq
    intro j
    rw [Nat.testBit_and, Nat.testBit_two_pow_sub_one, Nat.zero_testBit]
    by_cases hj : j < i
    · rw [h j hj]; rfl
    · simp [hj]
/-! which point comes first -/
theorem fa_first_is {p : Nat → Bool} {n i : Nat} (hi : i < n) (hp : p i = true) (hno : ∀ k, k < i → p k = false) : fa_first p n = i := by
  have h1 : ¬ i < fa_first p n := fun q => by rw [fa_first_no p n i q] at hp; cases hp
  have h2 : fa_first p n < n := by omega
  have h3 : ¬ fa_first p n < i := fun q => by have := fa_first_yes p n h2; rw [hno _ q] at this; cases this
  omega
theorem fa_first_end {p : Nat → Bool} {n : Nat} (hno : ∀ k, k < n → p k = false) : fa_first p n = n := by
  have h1 := fa_first_le p n
  rcases Nat.lt_or_ge (fa_first p n) n with h | h
  · have := fa_first_yes p n h; rw [hno _ h] at this; cases this
  · omega
/-! the ring that a point comes to -/
section RG
variable {n : Nat} {f : Nat → Nat}
theorem rs_in (hf : ∀ i, i < n → f i < n) {x : Nat} (hx : x < n) {j : Nat} (h : (rs n f x).testBit j = true) : j < n := by
  obtain ⟨k, rfl⟩ := (rs_bit hf hx j).mp h
  exact it_lt hf _ (it_lt hf _ hx)
theorem rs_Rd (hf : ∀ i, i < n → f i < n) {x : Nat} (hx : x < n) {j : Nat} (h : (rs n f x).testBit j = true) : Rd n f j := by
  obtain ⟨k, rfl⟩ := (rs_bit hf hx j).mp h
  exact Rd_next (Rd_behind hf hx) k
theorem it_comm (a b x : Nat) : it f a (it f b x) = it f b (it f a x) := by rw [← it_add, Nat.add_comm, it_add]
/-- of a point on a ring: what it comes to -/
theorem rs_of_Rd (hf : ∀ i, i < n → f i < n) {x : Nat} (hx : x < n) (hr : Rd n f x) (j : Nat) : (rs n f x).testBit j = true ↔ ∃ k, it f k x = j := by
  rw [rs_bit hf hx]
  constructor
  · rintro ⟨k, h⟩; exact ⟨k + n, by rw [it_add]; exact h⟩
  · rintro ⟨k, rfl⟩
    obtain ⟨s, hs⟩ := Ob_back hr n
    exact ⟨k + s, by rw [it_add, hs]⟩
theorem rs_self (hf : ∀ i, i < n → f i < n) {x : Nat} (hx : x < n) : (rs n f x).testBit x = true ↔ Rd n f x := by
  constructor
  · exact rs_Rd hf hx
  · intro h; exact (rs_of_Rd hf hx h x).mpr ⟨0, rfl⟩
theorem rs_same (hf : ∀ i, i < n → f i < n) {x : Nat} (hx : x < n) {j : Nat} (h : (rs n f x).testBit j = true) : rs n f j = rs n f x := by
  have hj := rs_in hf hx h
  have hr := rs_Rd hf hx h
  obtain ⟨k, e⟩ := (rs_bit hf hx j).mp h
  apply Nat.eq_of_testBit_eq
  intro i
  apply Bool.eq_iff_iff.mpr
  rw [rs_of_Rd hf hj hr, rs_bit hf hx]
  constructor
  · rintro ⟨a, rfl⟩; exact ⟨a + k, by rw [it_add, e]⟩
  · rintro ⟨a, rfl⟩
    obtain ⟨s, hs⟩ := Ob_back (Rd_behind hf hx) k
    rw [e] at hs
    exact ⟨a + s, by rw [it_add, hs]⟩
theorem rs_pos (hf : ∀ i, i < n → f i < n) {x : Nat} (hx : x < n) : rs n f x ≠ 0 := by
  intro h
  have := (rs_bit hf hx (it f n x)).mpr ⟨0, rfl⟩
  rw [h, Nat.zero_testBit] at this
  cases this
theorem rs_back (hf : ∀ i, i < n → f i < n) {x : Nat} (hx : x < n) (t : Nat) : (rs n f x).testBit (it f t x) = true ↔ Rd n f (it f t x) := by
  constructor
  · exact rs_Rd hf hx
  · intro h
    rw [rs_bit hf hx]
    obtain ⟨s, hs⟩ := Ob_back h n
    rw [it_comm n t x, ← it_add] at hs
    exact ⟨s + t, hs⟩
/-- the least point of its ring -/
def isL (n : Nat) (f : Nat → Nat) (i : Nat) : Bool := (rs n f i).testBit i && decide (rs n f i &&& (2 ^ i - 1) = 0)
theorem isL_low (hn : n ≤ 8) (hf : ∀ i, i < n → f i < n) {i : Nat} (hi : i < n) : isL n f i = true ↔ Rd n f i ∧ low (rs n f i) = i := by
  have h8 := rs_lt hf hn hi
  have hz := rs_pos hf hi
  obtain ⟨l1, l2, l3⟩ := low_spec _ h8 hz
  rw [isL, Bool.and_eq_true, rs_self hf hi, decide_eq_true_iff, low_mask _ h8 i (by omega)]
  constructor
  · rintro ⟨h1, h2⟩
    refine ⟨h1, ?_⟩
    have h3 := (rs_self hf hi).mpr h1
    rcases Nat.lt_trichotomy (low (rs n f i)) i with q | q | q
    · rw [h2 _ q] at l2; cases l2
    · exact q
    · rw [l3 _ q] at h3; cases h3
  · rintro ⟨h1, h2⟩
    refine ⟨h1, fun j hj => l3 j (by omega)⟩
end RG
theorem s_X0_isLeast {n x : Nat} {f : Nat → Nat} {g : Nat → Int32} {P : Int32 → Prop} (ho : OkL n f) (hg : HasL n f g) (hx : x < n) (h : P (if isL n f x then 1 else 0)) : M_X0_isLeastOfRing (nI x) (nI n) g P := by
  have h8 := rs_lt ho.2.2 ho.2.1 hx
  have hx8 : x < 8 := Nat.lt_of_lt_of_le hx ho.2.1
  refine s_X0_ringBits ho hg hx ?_
  have e1 : (nI (rs n f x) >>> (nI x &&& 31)) &&& (1 : Int32) = nI (if (rs n f x).testBit x then 1 else 0) := z_bit _ h8 x (by omega)
  have e2 : (nI (rs n f x)) &&& (((1 : Int32) <<< (nI x &&& 31)) - (1 : Int32)) = nI (rs n f x &&& (2 ^ x - 1)) := by
    rw [z_sh1 x (by omega), show (1 : Int32) = nI 1 from rfl, pk_sub (Nat.one_le_two_pow), z_and]
  have h9 : rs n f x &&& (2 ^ x - 1) < 256 := Nat.lt_of_le_of_lt Nat.and_le_left h8
  refine br_c (fun c => ?_) (fun c => ?_)
  · rw [e1] at c
    have hb : (rs n f x).testBit x = true := by
      cases hb : (rs n f x).testBit x with
      | true => rfl
      | false => rw [hb] at c; exact absurd c (by decide)
    refine br_c (fun c => ?_) (fun c => ?_)
    · rw [e2, show (0 : Int32) = nI 0 from rfl, nI_eq (by omega) (by omega)] at c
      rw [boolif_t (by rw [isL, hb, c]; rfl)] at h
      exact h
    · rw [e2, show (0 : Int32) = nI 0 from rfl, nI_eq (by omega) (by omega)] at c
      rw [boolif_f (by rw [isL, hb, decide_eq_false c]; rfl)] at h
      exact h
  · rw [e1] at c
    have hb : (rs n f x).testBit x = false := by
      cases hb : (rs n f x).testBit x with
      | false => rfl
      | true => rw [hb] at c; exact absurd rfl c
    rw [boolif_f (by rw [isL, hb]; rfl)] at h
    exact h
def ctL (n : Nat) (f : Nat → Nat) (i : Nat) : Nat := fb_ct (isL n f) i
theorem ctL_le (n : Nat) (f : Nat → Nat) (i : Nat) : ctL n f i ≤ i := fb_ct_le _ i
/-- the least point of the ring that is told by its number -/
def lk (n : Nat) (f : Nat → Nat) (x : Int32) : Nat := fa_first (fun i => isL n f i && decide (nI (ctL n f i) = x)) n
theorem s_X0_least {n : Nat} {f : Nat → Nat} {g : Nat → Int32} {x : Int32} {P : Int32 → Prop} (ho : OkL n f) (hg : HasL n f g) (h : P (if lk n f x < n then nI (lk n f x) else -1)) : M_X0_leastOfRing x (nI n) g P := by
  have hn := ho.2.1
  refine LP2_ix (fun i a b => a = nI (ctL n f i) ∧ b = nI i ∧ ∀ j, j < i → (isL n f j && decide (nI (ctL n f j) = x)) = false) n ?_ 0 _ _ (Nat.zero_le _) ⟨rfl, rfl, fun j hj => absurd hj (Nat.not_lt_zero j)⟩
  rintro K i a b hi ⟨rfl, rfl, hno⟩ hK
  have hc := ctL_le n f i
  refine br_c (fun c => ?_) (fun c => ?_)
  · rw [nI_leI (by omega) (by omega)] at c
    rw [if_neg] at h
    · exact h
    · rw [lk, fa_first_end (fun k hk => hno k (by omega))]; omega
  · rw [nI_leI (by omega) (by omega)] at c
    refine s_X0_isLeast ho hg (by omega) ?_
    cases hl : isL n f i with
    | false =>
      refine br_t (by decide) (hK _ _ (by omega) ⟨?_, nI_1 i, ?_⟩)
      · rw [ctL, ctL, fb_ct_succ, hl]; rfl
      · intro j hj
        rcases Nat.lt_or_ge j i with q | q
        · exact hno j q
        · rw [show j = i by omega, hl]; rfl
    | true =>
      refine br_f (by decide) ?_
      refine br_c (fun c2 => ?_) (fun c2 => ?_)
      · have e : lk n f x = i := fa_first_is (by omega) (by simp only [hl, Bool.true_and, decide_eq_true_iff]; exact c2) hno
        rw [e, if_pos (by omega)] at h
        exact h
      · refine hK _ _ (by omega) ⟨?_, nI_1 i, ?_⟩
        · rw [nI_1, ctL, ctL, fb_ct_succ, hl]; rfl
        · intro j hj
          rcases Nat.lt_or_ge j i with q | q
          · exact hno j q
          · rw [show j = i by omega, hl, decide_eq_false c2]; rfl
theorem s_X0_ringNumber {n : Nat} {f : Nat → Nat} {g : Nat → Int32} {P : Int32 → Prop} (ho : OkL n f) (hg : HasL n f g) (h : P (nI (ctL n f n))) : M_X0_ringNumber (nI n) g P := by
  have hn := ho.2.1
  refine LP2_ix (fun i a b => a = nI (ctL n f i) ∧ b = nI i) n ?_ 0 _ _ (Nat.zero_le _) ⟨rfl, rfl⟩
  rintro K i a b hi ⟨rfl, rfl⟩ hK
  refine br_c (fun c => ?_) (fun c => ?_)
  · rw [nI_leI (by omega) (by omega)] at c
    have e : i = n := by omega
    subst e
    exact h
  · rw [nI_leI (by omega) (by omega)] at c
    refine s_X0_isLeast ho hg (by omega) ?_
    cases hl : isL n f i with
    | false => exact br_t (by decide) (hK _ _ (by omega) ⟨by rw [ctL, ctL, fb_ct_succ, hl]; rfl, nI_1 i⟩)
    | true => exact br_f (by decide) (hK _ _ (by omega) ⟨by rw [nI_1, ctL, ctL, fb_ct_succ, hl]; rfl, nI_1 i⟩)
/-! the reference's rings -/
theorem lgc_lt {x y : Int64} : lg_cmp x y < 0 ↔ x < y := by
  unfold lg_cmp
  by_cases h1 : x > y
  · rw [if_pos h1]
    constructor
    · intro h; exact absurd h (by decide)
    · intro h
      have h1 : y < x := h1
      rw [Int64.lt_iff_toInt_lt] at h h1; omega
  · rw [if_neg h1]
    by_cases h2 : x = y
    · rw [if_pos h2]; subst h2
      constructor
      · intro h; exact absurd h (by decide)
      · intro h; exact absurd h h1
    · rw [if_neg h2]
      constructor
      · intro _
        have h1 : ¬ y < x := h1
        rw [Int64.lt_iff_toInt_lt] at h1 ⊢
        have h3 : x.toInt ≠ y.toInt := fun e => h2 (Int64.toInt_inj.mp e)
        omega
      · intro _; decide
theorem lgc_gt {x y : Int64} : 0 < lg_cmp x y ↔ y < x := by
  unfold lg_cmp
  by_cases h1 : x > y
  · rw [if_pos h1]
    exact ⟨fun _ => h1, fun _ => by decide⟩
  · rw [if_neg h1]
    by_cases h2 : x = y
    · rw [if_pos h2]; subst h2
      exact ⟨fun h => absurd h (by decide), fun h => absurd h h1⟩
    · rw [if_neg h2]
      exact ⟨fun h => absurd h (by decide), fun h => absurd h h1⟩
/-- how many steps till a ring -/
def tl (n : Nat) (f : Nat → Nat) (x : Nat) : Nat := fa_first (fun t => (rs n f x).testBit (it f t x)) n
theorem tl_le (n : Nat) (f : Nat → Nat) (x : Nat) : tl n f x ≤ n := fa_first_le _ _
theorem s_X0_tailOf {n x : Nat} {f : Nat → Nat} {g : Nat → Int32} {P : Int32 → Prop} (ho : OkL n f) (hg : HasL n f g) (hx : x < n) (h : P (nI (tl n f x))) : M_X0_tailOf (nI x) (nI n) g P := by
  have h8 := rs_lt ho.2.2 ho.2.1 hx
  have hn := ho.2.1
  refine s_X0_ringBits ho hg hx ?_
  refine LP2_ix (fun i a b => a = nI (it f i x) ∧ b = nI i ∧ ∀ j, j < i → (rs n f x).testBit (it f j x) = false) n ?_ 0 _ _ (Nat.zero_le _) ⟨rfl, rfl, fun j hj => absurd hj (Nat.not_lt_zero j)⟩
  rintro K i a b hi ⟨rfl, rfl, hno⟩ hK
  have hl : it f i x < n := it_lt ho.2.2 i hx
  refine br_c (fun c => ?_) (fun c => ?_)
  · rw [nI_leI (by omega) (by omega)] at c
    rw [tl, fa_first_end (fun k hk => hno k (by omega)), show n = i by omega] at h
    exact h
  · rw [nI_leI (by omega) (by omega)] at c
    have e1 : (nI (rs n f x) >>> (nI (it f i x) &&& 31)) &&& (1 : Int32) = nI (if (rs n f x).testBit (it f i x) then 1 else 0) := z_bit _ h8 _ (by omega)
    refine br_c (fun c2 => ?_) (fun c2 => ?_)
    · rw [e1] at c2
      have hb : (rs n f x).testBit (it f i x) = false := by
        cases hb : (rs n f x).testBit (it f i x) with
        | false => rfl
        | true => rw [hb] at c2; exact absurd c2 (by decide)
      refine And.intro (vp_in_nI (by omega) (by omega)) (hK _ _ (by omega) ⟨?_, nI_1 _, ?_⟩)
      · rw [nI_clamp (by omega), hg _ hl]; rfl
      · intro j hj
        rcases Nat.lt_or_ge j i with q | q
        · exact hno j q
        · rw [show j = i by omega]; exact hb
    · rw [e1] at c2
      have hb : (rs n f x).testBit (it f i x) = true := by
        cases hb : (rs n f x).testBit (it f i x) with
        | true => rfl
        | false => rw [hb] at c2; exact absurd rfl c2
      rw [tl, fa_first_is (p := fun t => (rs n f x).testBit (it f t x)) (by omega) hb hno] at h
      exact h
