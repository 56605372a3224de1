/-! growth -/
theorem lgc_z {x y : Int64} : lg_cmp x y = 0 ↔ x = y := by
  unfold lg_cmp
  by_cases h1 : x > y
  · rw [if_pos h1]
    constructor
    · intro h; exact absurd h (by decide)
    · intro h; subst h; exact absurd h1 (by rw [show (x > x) = (x < x) from rfl, fa_lt64]; omega)
  · rw [if_neg h1]
    by_cases h2 : x = y
    · rw [if_pos h2]; exact ⟨fun _ => h2, fun _ => rfl⟩
    · rw [if_neg h2]; exact ⟨fun h => absurd h (by decide), fun h => absurd h h2⟩
theorem lgc_le {x y : Int64} : lg_cmp x y ≤ 0 ↔ ¬ y < x := by
  rw [← lgc_gt]
  constructor
  · intro h q; exact (fa_of_lt q).2.1 h
  · intro h; exact fa_of_nlt h
theorem lgc_ge {x y : Int64} : 0 ≤ lg_cmp x y ↔ ¬ x < y := by
  rw [← lgc_lt]
  constructor
  · intro h q; exact (fa_of_lt q).2.1 h
  · intro h; exact fa_of_nlt h
theorem lN_0 : lN 0 = 0 := rfl
theorem lN_pos {a : Nat} (ha : a < 2 ^ 63) : (0 : Int64) < lN a ↔ 0 < a := pk_lLT (a := 0) (b := a) (by omega) ha
theorem lN_z {a : Nat} (ha : a < 2 ^ 63) : lN a = 0 ↔ a = 0 := pk_lEQ (a := a) (b := 0) ha (by omega)
/-- less or more, told by a difference -/
theorem lN_diff {a b : Nat} (ha : a < 2 ^ 63) (hb : b < 2 ^ 63) : (lN a - lN b < 0 ↔ a < b) ∧ (0 < lN a - lN b ↔ b < a) := by
  have e : (lN a - lN b).toInt = (a : Int) - b := by
    rw [lN_ofInt, lN_ofInt, ← Int64.ofInt_sub]
    exact Int64.toInt_ofInt_of_le (by omega) (by omega)
  rw [fa_lt64, fa_lt64, e, show (0 : Int64).toInt = 0 from rfl]
  omega
/-! counts -/
def gv (N : Nat) (C : Nat → Nat) : Nat → Nat → Int64
  | 0 => fun _ => 1
  | k + 1 => nx N C (gv N C k)
def gvN (N : Nat) (C : Nat → Nat) : Nat → Nat → Nat
  | 0 => fun _ => 1
  | k + 1 => fun p => fb_sm (fun j => if (C p).testBit j then gvN N C k j else 0) N
theorem gv_nat (N : Nat) (C : Nat → Nat) : ∀ k p, gv N C k p = lN (gvN N C k p)
  | 0, _ => rfl
  | k + 1, p => sL_nat fun j _ => by
    rw [gv_nat N C k j]
    split <;> rfl
theorem sm_bits {b : Nat → Bool} {g : Nat → Nat} {c : Nat} : ∀ {n : Nat}, (∀ j, j < n → g j ≤ c) → fb_sm (fun j => if b j then g j else 0) n ≤ fb_ct b n * c
  | 0, _ => Nat.zero_le _
  | n + 1, h => by
    have h1 := sm_bits (b := b) (g := g) (c := c) (n := n) (fun j hj => h j (by omega))
    have h2 := h n (by omega)
    rw [fb_sm_succ, fb_ct_succ, Nat.add_mul]
    cases b n with
    | false => rw [boolif_f rfl, boolif_f rfl]; omega
    | true => rw [boolif_t rfl, boolif_t rfl]; omega
theorem cvr_7 : ∀ n, n < 9 → ∀ a, a < n → ∀ b, b < n → fb_ct (fun j => (cvr n 1 a b).testBit j) n ≤ n - 1 := by decide +kernel
theorem cov_7 {n w : Nat} {f : Nat → Nat} (ho : OkL n f) (hw : w ≤ 1) {p : Nat} (hp : p < pcs n w) : fb_ct (fun j => (cov n w f p).testBit j) (pcs n w) ≤ 7 := by
  have h2 := ho.1
  have h8 := ho.2.1
  rcases (show w = 0 ∨ w = 1 by omega) with rfl | rfl
  · refine Nat.le_trans (fb_ct_le _ _) ?_
    unfold pcs; rw [if_pos rfl]; omega
  · have h1 := cvr_7 n (by omega) _ (ho.2.2 p (pcs_in hp)) _ (ho.2.2 ((p + 1) % n) (Nat.mod_lt _ (by omega)))
    have e : pcs n 1 = n := if_neg (by decide)
    rw [e]
    exact Nat.le_trans h1 (by omega)
theorem gvN_le {n w : Nat} {f : Nat → Nat} (ho : OkL n f) (hw : w ≤ 1) : ∀ k p, p < pcs n w → gvN (pcs n w) (cov n w f) k p ≤ 7 ^ k
  | 0, _, _ => Nat.le_refl 1
  | k + 1, p, hp => by
    refine Nat.le_trans (sm_bits (c := 7 ^ k) (fun j hj => gvN_le ho hw k j hj)) ?_
    rw [Nat.pow_succ, Nat.mul_comm]
    exact Nat.mul_le_mul_left _ (cov_7 ho hw hp)
/-! the greatest common divisor -/
theorem s_X5_cd {x0 x1 : Int64} {P : Int64 → Prop} : ∀ (k a b i : Nat), a < 2 ^ 63 → b < 2 ^ 63 → b < 2 ^ k → i + 2 * k + 1 ≤ 200 → P (lN (Nat.gcd a b)) → ∃ n, LP3 (M_X5_commonDivisor_l9 x0 x1 P) n (lN a) (lN b) (nI i) := by
  have one : ∀ (a b i : Nat) (K : Int64 → Int64 → Int32 → Prop), a < 2 ^ 63 → b < 2 ^ 63 → i < 200 → (b = 0 → P (lN a)) → (b ≠ 0 → K (lN b) (lN (a % b)) (nI (i + 1))) → M_X5_commonDivisor_l9 x0 x1 P K (lN a) (lN b) (nI i) := by
    intro a b i K ha hb hi h0 h1
    refine pk_le 200 i (fun c => absurd c (by omega)) (fun _ => ?_)
    refine br_c (fun c => ?_) (fun c => ?_)
    · rw [lgc_z, lN_z hb] at c; exact h0 c
    · rw [lgc_z] at c
      refine And.intro c ?_
      rw [lN_z hb] at c
      rw [pk_lRem ha (by omega) hb, nI_1]
      exact h1 c
  intro k
  induction k with
  | zero =>
    intro a b i ha hb hk hi h
    refine ⟨1, one a b i _ ha hb (by omega) (fun e => ?_) (fun e => ?_)⟩
    · subst e; rw [Nat.gcd_zero_right] at h; exact h
    · simp at hk; omega
  | succ k ih =>
    intro a b i ha hb hk hi h
    by_cases e : b = 0
    · refine ⟨1, one a b i _ ha hb (by omega) (fun e => ?_) (fun e2 => absurd e e2)⟩
      subst e; rw [Nat.gcd_zero_right] at h; exact h
    · have hr : a % b < b := Nat.mod_lt _ (by omega)
      have e1 : Nat.gcd a b = Nat.gcd b (a % b) := by rw [Nat.gcd_comm a b, Nat.gcd_rec b a, Nat.gcd_comm]
      by_cases e2 : a % b = 0
      · refine ⟨2, one a b i _ ha hb (by omega) (fun z => absurd z e) (fun _ => one b (a % b) (i + 1) _ hb (by omega) (by omega) (fun _ => ?_) (fun z => absurd e2 z))⟩
        rw [e1, e2, Nat.gcd_zero_right] at h; exact h
      · have hr2 : b % (a % b) < a % b := Nat.mod_lt _ (by omega)
        have e3 : Nat.gcd b (a % b) = Nat.gcd (a % b) (b % (a % b)) := by rw [Nat.gcd_comm b, Nat.gcd_rec (a % b) b, Nat.gcd_comm]
        have h2 : 2 * (b % (a % b)) < b := by
          have q1 := Nat.div_add_mod b (a % b)
          have q2 : 1 ≤ b / (a % b) := Nat.div_pos (by omega) (by omega)
          have q3 : (a % b) * 1 ≤ (a % b) * (b / (a % b)) := Nat.mul_le_mul_left _ q2
          omega
        rw [Nat.pow_succ] at hk
        obtain ⟨n, hn⟩ := ih (a % b) (b % (a % b)) (i + 1 + 1) (by omega) (by omega) (by omega) (by omega) (by rw [← e3, ← e1]; exact h)
        exact ⟨n + 2, one a b i _ ha hb (by omega) (fun z => absurd z e) (fun _ => one b (a % b) (i + 1) _ hb (by omega) (by omega) (fun z => absurd z e2) (fun _ => hn))⟩
theorem s_X9_low {x0 x1 : Int64} {x2 : Int32} {P : Int64 → Prop} : ∀ (k a b : Nat), a < 2 ^ 63 → b < 2 ^ 63 → b < 2 ^ k → 0 < Nat.gcd a b → (x2 = 0 → P (x0 / lN (Nat.gcd a b))) → (¬ x2 = 0 → P (x1 / lN (Nat.gcd a b))) → ∃ n, LP2 (M_X9_lowest_l6 x0 x1 x2 P) n (lN a) (lN b) := by
  have one : ∀ (a b : Nat) (K : Int64 → Int64 → Prop), a < 2 ^ 63 → b < 2 ^ 63 → (b = 0 → 0 < a ∧ (x2 = 0 → P (x0 / lN a)) ∧ (¬ x2 = 0 → P (x1 / lN a))) → (b ≠ 0 → K (lN b) (lN (a % b))) → M_X9_lowest_l6 x0 x1 x2 P K (lN a) (lN b) := by
    intro a b K ha hb h0 h1
    refine br_c (fun c => ?_) (fun c => ?_)
    · rw [lgc_z, lN_z hb] at c
      obtain ⟨q1, q2, q3⟩ := h0 c
      have q4 : ¬ lN a = 0 := by rw [lN_z ha]; omega
      exact br_c (fun z => And.intro q4 (q2 z)) (fun z => And.intro q4 (q3 z))
    · rw [lgc_z] at c
      refine And.intro c ?_
      rw [lN_z hb] at c
      rw [pk_lRem ha (by omega) hb]
      exact h1 c
  intro k
  induction k with
  | zero =>
    intro a b ha hb hk hg h h'
    refine ⟨1, one a b _ ha hb (fun e => ?_) (fun e => ?_)⟩
    · subst e; rw [Nat.gcd_zero_right] at h h' hg; exact ⟨hg, h, h'⟩
    · simp at hk; omega
  | succ k ih =>
    intro a b ha hb hk hg h h'
    by_cases e : b = 0
    · refine ⟨1, one a b _ ha hb (fun e => ?_) (fun e2 => absurd e e2)⟩
      subst e; rw [Nat.gcd_zero_right] at h h' hg; exact ⟨hg, h, h'⟩
    · have hr : a % b < b := Nat.mod_lt _ (by omega)
      have e1 : Nat.gcd a b = Nat.gcd b (a % b) := by rw [Nat.gcd_comm a b, Nat.gcd_rec b a, Nat.gcd_comm]
      by_cases e2 : a % b = 0
      · refine ⟨2, one a b _ ha hb (fun z => absurd z e) (fun _ => one b (a % b) _ hb (by omega) (fun _ => ?_) (fun z => absurd e2 z))⟩
        rw [e1, e2, Nat.gcd_zero_right] at h h' hg; exact ⟨hg, h, h'⟩
      · have hr2 : b % (a % b) < a % b := Nat.mod_lt _ (by omega)
        have e3 : Nat.gcd b (a % b) = Nat.gcd (a % b) (b % (a % b)) := by rw [Nat.gcd_comm b, Nat.gcd_rec (a % b) b, Nat.gcd_comm]
        have h2 : 2 * (b % (a % b)) < b := by
          have q1 := Nat.div_add_mod b (a % b)
          have q2 : 1 ≤ b / (a % b) := Nat.div_pos (by omega) (by omega)
          have q3 : (a % b) * 1 ≤ (a % b) * (b / (a % b)) := Nat.mul_le_mul_left _ q2
          omega
        rw [Nat.pow_succ] at hk
        rw [e1, e3] at h h' hg
        obtain ⟨n, hn⟩ := ih (a % b) (b % (a % b)) (by omega) (by omega) (by omega) hg h h'
        exact ⟨n + 2, one a b _ ha hb (fun z => absurd z e) (fun _ => one b (a % b) _ hb (by omega) (fun z => absurd z e2) (fun _ => hn))⟩
/-! the steepest piece -/
def byd (E Q : Nat → Nat) (gr : Bool) (i b : Nat) : Bool := if gr then decide (Q b * E i < Q i * E b) else decide (Q i * E b < Q b * E i)
/-- 0: none; else the place + 1 -/
def bst (E Q : Nat → Nat) (gr : Bool) : Nat → Nat
  | 0 => 0
  | i + 1 => if E i = 0 then bst E Q gr i else if bst E Q gr i = 0 then i + 1 else if byd E Q gr i (bst E Q gr i - 1) then i + 1 else bst E Q gr i
theorem bst_le (E Q : Nat → Nat) (gr : Bool) : ∀ i, bst E Q gr i ≤ i
  | 0 => Nat.le_refl 0
  | i + 1 => by
    have := bst_le E Q gr i
    rw [bst]; split
    · omega
    · split
      · omega
      · split <;> omega
theorem bst_pos (E Q : Nat → Nat) (gr : Bool) : ∀ i, bst E Q gr i ≠ 0 → 0 < E (bst E Q gr i - 1)
  | 0, h => absurd rfl h
  | i + 1, h => by
    rw [bst] at h ⊢
    by_cases e : E i = 0
    · rw [if_pos e] at h ⊢; exact bst_pos E Q gr i h
    · rw [if_neg e] at h ⊢
      by_cases e2 : bst E Q gr i = 0
      · rw [if_pos e2]; exact Nat.pos_of_ne_zero e
      · rw [if_neg e2] at h ⊢
        split
        · exact Nat.pos_of_ne_zero e
        · exact bst_pos E Q gr i e2
def bV (b : Nat) : Int32 := if b = 0 then -1 else nI (b - 1)
theorem p721 : 7 ^ 11 * 7 ^ 10 < 2 ^ 62 := by decide
section GR
variable {n w : Nat} {f : Nat → Nat} {g c : Nat → Int32}
/-- both rows of counts, told as numbers that are small enough -/
def SmE (N : Nat) (E Q : Nat → Nat) : Prop := ∀ p, p < N → E p ≤ 7 ^ 10 ∧ Q p ≤ 7 ^ 11
theorem SmE_lt {N : Nat} {E Q : Nat → Nat} (h : SmE N E Q) {i j : Nat} (hi : i < N) (hj : j < N) : Q i * E j < 2 ^ 63 :=
  Nat.lt_of_le_of_lt (Nat.mul_le_mul (h i hi).2 (h j hj).1) (Nat.lt_trans p721 (by decide))
theorem s_X5_isBeyond {N i b : Nat} {E Q : Nat → Nat} {es cs : Nat → Int64} {gr : Bool} {P : Int32 → Prop} (hN : N ≤ 8) (hs : SmE N E Q) (he : ∀ p, p < N → es p = lN (E p)) (hc : ∀ p, p < N → cs p = lN (Q p)) (hi : i < N) (hb : b < N) (h : P (if byd E Q gr i b then 1 else 0)) : M_X5_isBeyond (nI i) (nI b) (if gr then 1 else 0) cs es P := by
  refine And.intro (vp_in_nI (by omega) (by omega)) (And.intro (vp_in_nI (by omega) (by omega)) ?_)
  rintro y rfl
  refine And.intro (vp_in_nI (by omega) (by omega)) (And.intro (vp_in_nI (by omega) (by omega)) ?_)
  rintro y rfl
  rw [nI_clamp (by omega), nI_clamp (by omega), he i hi, he b hb, hc i hi, hc b hb, lN_mul, lN_mul]
  have l1 := SmE_lt hs hi hb
  have l2 := SmE_lt hs hb hi
  cases gr with
  | false =>
    refine br_t rfl (br_c (fun q => ?_) (fun q => ?_))
    · rw [lgc_ge, pk_lLT l1 l2] at q
      rw [byd, boolif_f rfl, boolif_f (decide_eq_false q)] at h; exact h
    · rw [lgc_ge, pk_lLT l1 l2, Classical.not_not] at q
      rw [byd, boolif_f rfl, boolif_t (decide_eq_true q)] at h; exact h
  | true =>
    refine br_f (by decide) (br_c (fun q => ?_) (fun q => ?_))
    · rw [lgc_le, pk_lLT l2 l1] at q
      rw [byd, boolif_t rfl, boolif_f (decide_eq_false q)] at h; exact h
    · rw [lgc_le, pk_lLT l2 l1, Classical.not_not] at q
      rw [byd, boolif_t rfl, boolif_t (decide_eq_true q)] at h; exact h
theorem s_X5_steepest {N : Nat} {E Q : Nat → Nat} {es cs : Nat → Int64} {gr : Bool} {P : Int32 → Prop} (hN : N ≤ 8) (hs : SmE N E Q) (he : ∀ p, p < N → es p = lN (E p)) (hc : ∀ p, p < N → cs p = lN (Q p)) (h : P (bV (bst E Q gr N))) : M_X5_steepest (if gr then 1 else 0) (nI N) es cs P := by
  refine LP2_ix (fun i a b => a = bV (bst E Q gr i) ∧ b = nI i) N ?_ 0 _ _ (Nat.zero_le _) ⟨rfl, rfl⟩
  rintro K i a b hi ⟨rfl, rfl⟩ hK
  have hbl := bst_le E Q gr i
  refine pk_le N i (fun c1 => ?_) (fun c1 => ?_)
  · have e : i = N := by omega
    subst e; exact h
  · have l1 : E i < 2 ^ 63 := Nat.lt_of_le_of_lt (hs i c1).1 (by decide)
    refine And.intro (vp_in_nI (by omega) (by omega)) ?_
    rw [nI_clamp (by omega), he i c1]
    refine br_c (fun q => ?_) (fun q => ?_)
    · rw [lgc_le, lN_pos l1] at q
      exact hK _ _ c1 ⟨by rw [bst, if_pos (by omega)], nI_1 i⟩
    · rw [lgc_le, lN_pos l1, Classical.not_not] at q
      by_cases z : bst E Q gr i = 0
      · rw [z]
        exact br_t (by decide) (hK _ _ c1 ⟨by rw [bst, if_neg (by omega), if_pos z]; rfl, nI_1 i⟩)
      · have e1 : bV (bst E Q gr i) = nI (bst E Q gr i - 1) := if_neg z
        rw [e1]
        refine br_f (nI_pos (by omega)) (s_X5_isBeyond hN hs he hc c1 (by omega) ?_)
        cases hb : byd E Q gr i (bst E Q gr i - 1) with
        | false => exact br_t rfl (hK _ _ c1 ⟨by rw [bst, if_neg (by omega), if_neg z, boolif_f hb, e1], nI_1 i⟩)
        | true => exact br_f (by decide) (hK _ _ c1 ⟨by rw [bst, if_neg (by omega), if_neg z, boolif_t hb]; rfl, nI_1 i⟩)
theorem s_X5_fraction {N p : Nat} {E Q : Nat → Nat} {es cs : Nat → Int64} {x : Int32} {P : Int64 → Prop} (hN : N ≤ 8) (hs : SmE N E Q) (he : ∀ p, p < N → es p = lN (E p)) (hc : ∀ p, p < N → cs p = lN (Q p)) (hp : p < N) (hpos : 0 < E p) (h : P (lN ((if x = 0 then Q p else E p) / Nat.gcd (Q p) (E p)))) : M_X5_fractionPart (nI p) x es cs P := by
  have l1 : E p < 2 ^ 63 := Nat.lt_of_le_of_lt (hs p hp).1 (by decide)
  have l2 : Q p < 2 ^ 63 := Nat.lt_of_le_of_lt (hs p hp).2 (by decide)
  have hd : 0 < Nat.gcd (Q p) (E p) := Nat.gcd_pos_of_pos_right _ hpos
  have hd2 : Nat.gcd (Q p) (E p) < 2 ^ 63 := Nat.lt_of_le_of_lt (Nat.gcd_le_right _ hpos) l1
  have key : ∀ v, v < 2 ^ 63 → P (lN (v / Nat.gcd (Q p) (E p))) → M_X5_fractionPart_b19 (nI p) x es cs P (lN v) := by
    intro v hv hP
    refine And.intro (vp_in_nI (by omega) (by omega)) (And.intro (vp_in_nI (by omega) (by omega)) ?_)
    rw [nI_clamp (by omega), he p hp, hc p hp]
    refine s_X5_cd 63 _ _ 0 l2 l1 l1 (by omega) ?_
    refine br_f ?_ (And.intro ?_ ?_)
    · rw [lgc_le, lN_pos hd2]; omega
    · rw [lN_z hd2]; omega
    · rw [pk_lDiv hv hd hd2]; exact hP
  refine br_c (fun q => ?_) (fun q => ?_)
  · rw [if_pos q] at h
    refine And.intro (vp_in_nI (by omega) (by omega)) ?_
    rw [nI_clamp (by omega), hc p hp]
    exact key _ l2 h
  · rw [if_neg q] at h
    refine And.intro (vp_in_nI (by omega) (by omega)) ?_
    rw [nI_clamp (by omega), he p hp]
    exact key _ l1 h
theorem s_X5_countTwice {k : Nat} {cs es : Nat → Int64} {P : (Nat → Int64) → (Nat → Int64) → Prop} (ho : OkL n f) (hw : w ≤ 1) (hc : HasC n w f c) (hk : k ≤ 10) (h : ∀ e' c', (∀ p, p < pcs n w → e' p = gv (pcs n w) (cov n w f) k p) → (∀ p, p < pcs n w → c' p = gv (pcs n w) (cov n w f) (k + 1) p) → P e' c') : M_X5_countTwice (nI k) cs es (nI (pcs n w)) c P := by
  have hN : pcs n w ≤ 8 := Nat.le_trans pcs_le ho.2.1
  refine LP2_ix (fun i a b => a = nI i ∧ ∀ p, p < i → b p = 1) 8 ?_ 0 _ _ (Nat.zero_le _) ⟨rfl, fun p hp => absurd hp (Nat.not_lt_zero p)⟩
  rintro K i a b hi ⟨rfl, hb⟩ hK
  refine pk_le 8 i (fun c1 => ?_) (fun c1 => ?_)
  · refine LP3_ix (fun t a e d => a = nI t ∧ (∀ p, p < pcs n w → d p = gv (pcs n w) (cov n w f) t p) ∧ (1 ≤ t → ∀ p, p < pcs n w → e p = gv (pcs n w) (cov n w f) (t - 1) p)) (k + 1) ?_ 0 _ _ _ (Nat.zero_le _) ⟨rfl, fun p hp => hb p (by omega), fun q => absurd q (by omega)⟩
    rintro K t a e d ht ⟨rfl, hd, he⟩ hK
    refine pk_lt k t (fun c2 => ?_) (fun c2 => ?_)
    · have e1 : t = k + 1 := by omega
      subst e1
      exact h _ _ (he (by omega)) hd
    · exact s_X5_countOn ho hw hc hd (fun e' c' he' hc' => hK _ _ _ (by omega) ⟨nI_1 t, hc', fun _ => he'⟩)
  · refine And.intro (vp_in_nI (by omega) (by omega)) (hK _ _ c1 ⟨nI_1 i, ?_⟩)
    intro p hp
    rw [nI_clamp (by omega)]
    by_cases e : p = i
    · subst e; rw [pk_uLs]
    · rw [pk_uLn e]; exact hb p (by omega)
def a_gr1 (n w : Nat) (f : Nat → Nat) (k : Nat) (gr : Bool) (x3 : Int32) : Int64 :=
  if bst (gvN (pcs n w) (cov n w f) k) (gvN (pcs n w) (cov n w f) (k + 1)) gr (pcs n w) = 0 then -9223372036854775808 else
    lN ((if x3 = 0 then gvN (pcs n w) (cov n w f) (k + 1) (bst (gvN (pcs n w) (cov n w f) k) (gvN (pcs n w) (cov n w f) (k + 1)) gr (pcs n w) - 1) else gvN (pcs n w) (cov n w f) k (bst (gvN (pcs n w) (cov n w f) k) (gvN (pcs n w) (cov n w f) (k + 1)) gr (pcs n w) - 1)) / Nat.gcd (gvN (pcs n w) (cov n w f) (k + 1) (bst (gvN (pcs n w) (cov n w f) k) (gvN (pcs n w) (cov n w f) (k + 1)) gr (pcs n w) - 1)) (gvN (pcs n w) (cov n w f) k (bst (gvN (pcs n w) (cov n w f) k) (gvN (pcs n w) (cov n w f) (k + 1)) gr (pcs n w) - 1)))
def a_growth (n w : Nat) (f : Nat → Nat) (x1 x2 x3 : Int32) : Int64 := if (x1 < 0 ∨ 10 < x1) ∨ (x2 < 0 ∨ 1 < x2) ∨ (x3 < 0 ∨ 1 < x3) then -9223372036854775808 else a_gr1 n w f x1.toNatClampNeg (decide (x2 = 1)) x3
theorem gv_sm (ho : OkL n f) (hw : w ≤ 1) {k : Nat} (hk : k ≤ 10) : SmE (pcs n w) (gvN (pcs n w) (cov n w f) k) (gvN (pcs n w) (cov n w f) (k + 1)) := fun p hp =>
  ⟨Nat.le_trans (gvN_le ho hw k p hp) (Nat.pow_le_pow_right (by omega) hk), Nat.le_trans (gvN_le ho hw (k + 1) p hp) (Nat.pow_le_pow_right (by omega) (by omega))⟩
theorem s_X8_growth {x1 x2 x3 y1 y2 : Int32} {cs es : Nat → Int64} {P : Int64 → Int32 → Int32 → (Nat → Int32) → (Nat → Int64) → (Nat → Int64) → Prop} (ho : OkL n f) (hw : w ≤ 1) (hg : HasL n f g) (h : ∀ a b c d e, P (a_growth n w f x1 x2 x3) a b c d e) : M_X8_growth x1 x2 x3 (nI w) (nI n) y1 y2 g c cs es P := by
  have hN : pcs n w ≤ 8 := Nat.le_trans pcs_le ho.2.1
  unfold a_growth at h
  refine br_c (fun q => ?_) (fun q1 => br_c (fun q => ?_) (fun q2 => br_c (fun q => ?_) (fun q3 => br_c (fun q => ?_) (fun q4 => br_c (fun q => ?_) (fun q5 => br_c (fun q6 => ?_) (fun q => ?_))))))
  · rw [if_pos (Or.inl (Or.inl q))] at h; exact h _ _ _ _ _
  · rw [if_pos (Or.inl (Or.inr q))] at h; exact h _ _ _ _ _
  · rw [if_pos (Or.inr (Or.inl (Or.inl q)))] at h; exact h _ _ _ _ _
  · rw [if_pos (Or.inr (Or.inl (Or.inr q)))] at h; exact h _ _ _ _ _
  · rw [if_pos (Or.inr (Or.inr (Or.inl q)))] at h; exact h _ _ _ _ _
  · have q7 : ¬ (1 : Int32) < x3 := fun z => (fa_of_lt z).2.1 q6
    rw [if_neg (by rintro ((z | z) | (z | z) | (z | z)); exact q1 z; exact q2 z; exact q3 z; exact q4 z; exact q5 z; exact q7 z)] at h
    obtain ⟨k, -, k2, rfl⟩ := in_rng 0 10 q1 q2
    rw [nI_clamp (by omega)] at h
    refine s_X5_learn ho hw hg (fun F c' hF hc => s_X5_countTwice ho hw hc k2 (fun e' c'' he hc'' => ?_))
    have hs := gv_sm ho hw k2
    have he : ∀ p, p < pcs n w → e' p = lN (gvN (pcs n w) (cov n w f) k p) := fun p hp => by rw [he p hp, gv_nat]
    have hc'' : ∀ p, p < pcs n w → c'' p = lN (gvN (pcs n w) (cov n w f) (k + 1) p) := fun p hp => by rw [hc'' p hp, gv_nat]
    have key : ∀ gr : Bool, gr = decide (x2 = 1) → M_X8_growth_b65 (nI k) x2 x3 (nI w) (nI n) g P (if gr then 1 else 0) (nI (pcs n w)) (nI F) c' e' c'' := by
      rintro gr rfl
      refine s_X5_steepest hN hs he hc'' ?_
      have hb := bst_le (gvN (pcs n w) (cov n w f) k) (gvN (pcs n w) (cov n w f) (k + 1)) (decide (x2 = 1)) (pcs n w)
      have hp := bst_pos (gvN (pcs n w) (cov n w f) k) (gvN (pcs n w) (cov n w f) (k + 1)) (decide (x2 = 1)) (pcs n w)
      unfold a_gr1 at h
      generalize bst (gvN (pcs n w) (cov n w f) k) (gvN (pcs n w) (cov n w f) (k + 1)) (decide (x2 = 1)) (pcs n w) = b at *
      by_cases z : b = 0
      · rw [if_pos z] at h
        rw [bV, if_pos z]
        exact br_f (by decide) (h _ _ _ _ _)
      · rw [if_neg z] at h
        rw [bV, if_neg z]
        exact br_t (nI_pos' (by omega)) (s_X5_fraction hN hs he hc'' (by omega) (hp z) (h _ _ _ _ _))
    refine br_c (fun q => ?_) (fun q => ?_)
    · exact key true (decide_eq_true q).symm
    · exact key false (decide_eq_false q).symm
  · rw [if_pos (Or.inr (Or.inr (Or.inr (fa_of_nle q))))] at h; exact h _ _ _ _ _
/-! the reference's counts -/
theorem s_X9_counted {V cs ts : Nat → Int64} {P : (Nat → Int64) → Prop} (ho : OkL n f) (hw : w ≤ 1) (hg : HasL n f g) (hV : ∀ p, p < pcs n w → cs p = V p) (h : ∀ t', (∀ p, p < pcs n w → t' p = nx (pcs n w) (cov n w f) V p) → P t') : M_X9_counted (nI w) (nI n) g ts cs P := by
  have h2 := ho.1
  have hN : pcs n w ≤ 8 := Nat.le_trans pcs_le ho.2.1
  refine LP2_ix (fun i a b => a = nI i ∧ ∀ p, p < i → b p = nx (pcs n w) (cov n w f) V p) (pcs n w) ?_ 0 _ _ (Nat.zero_le _) ⟨rfl, fun p hp => absurd hp (Nat.not_lt_zero p)⟩
  rintro K i a b hi ⟨rfl, hb⟩ hK
  refine s_X9_pieces (by omega) hw (pk_le (pcs n w) i (fun c1 => ?_) (fun c1 => ?_))
  · have e : i = pcs n w := by omega
    subst e
    exact h _ hb
  · refine s_X9_coversOf ho hw hg c1 (And.intro (vp_in_nI (by omega) (by omega)) ?_)
    rw [nI_clamp (by omega)]
    have h256 := cov_256 ho hw c1
    refine LP2_ix (fun j a b => a = nI j ∧ (∀ p, p < i → b p = nx (pcs n w) (cov n w f) V p) ∧ b i = sL (fun j => if (cov n w f i).testBit j then V j else 0) j) (pcs n w) ?_ 0 _ _ (Nat.zero_le _) ⟨rfl, fun p hp => by rw [pk_uLn (by omega)]; exact hb p hp, pk_uLs⟩
    rintro K2 j a b2 hj ⟨rfl, hb2, hb3⟩ hK2
    refine s_X9_pieces (by omega) hw (pk_le (pcs n w) j (fun c2 => ?_) (fun c2 => ?_))
    · have e : j = pcs n w := by omega
      subst e
      refine hK _ _ c1 ⟨nI_1 i, fun p hp => ?_⟩
      rcases Nat.lt_or_ge p i with q | q
      · exact hb2 p q
      · rw [show p = i by omega]; exact hb3
    · refine And.intro (vp_in_nI (by omega) (by omega)) ?_
      rw [nI_clamp (by omega)]
      have e1 : (nI (cov n w f i) >>> (nI j &&& 31)) &&& (1 : Int32) = nI (if (cov n w f i).testBit j then 1 else 0) := z_bit _ h256 j (by omega)
      refine br_c (fun c6 => ?_) (fun c6 => ?_)
      · rw [e1] at c6
        have hb : (cov n w f i).testBit j = false := by
          cases hb : (cov n w f i).testBit j with
          | false => rfl
          | true => rw [hb] at c6; exact absurd c6 (by decide)
        refine And.intro (vp_in_nI (by omega) (by omega)) (hK2 _ _ c2 ⟨nI_1 j, fun p hp => by rw [pk_uLn (by omega)]; exact hb2 p hp, ?_⟩)
        rw [pk_uLs, hb3, sL, boolif_f hb]
      · rw [e1] at c6
        have hb : (cov n w f i).testBit j = true := by
          cases hb : (cov n w f i).testBit j with
          | true => rfl
          | false => rw [hb] at c6; exact absurd rfl c6
        refine And.intro (vp_in_nI (by omega) (by omega)) ?_
        rintro y rfl
        refine And.intro (vp_in_nI (by omega) (by omega)) (hK2 _ _ c2 ⟨nI_1 j, fun p hp => by rw [pk_uLn (by omega)]; exact hb2 p hp, ?_⟩)
        rw [pk_uLs, nI_clamp (by omega), hV j c2, hb3, sL, boolif_t hb]
theorem s_X9_growth {x1 x2 x3 : Int32} {cs ts : Nat → Int64} {P : Int64 → (Nat → Int64) → (Nat → Int64) → Prop} (ho : OkL n f) (hw : w ≤ 1) (hg : HasL n f g) (h : ∀ d e, P (a_growth n w f x1 x2 x3) d e) : M_X9_growth x1 x2 x3 (nI w) (nI n) g ts cs P := by
  have h2 := ho.1
  have hN : pcs n w ≤ 8 := Nat.le_trans pcs_le ho.2.1
  unfold a_growth at h
  refine s_in (a := 0) (b := 10) rfl rfl (fun q => br_t rfl ?_) (fun q1 q2 => br_f (by decide) ?_)
  · rw [if_pos (Or.inl q)] at h; exact h _ _
  refine s_in (a := 0) (b := 1) rfl rfl (fun q => br_t rfl ?_) (fun q3 q4 => br_f (by decide) ?_)
  · rw [if_pos (Or.inr (Or.inl q))] at h; exact h _ _
  refine s_in (a := 0) (b := 1) rfl rfl (fun q => br_t rfl ?_) (fun q5 q7 => br_f (by decide) ?_)
  · rw [if_pos (Or.inr (Or.inr q))] at h; exact h _ _
  rw [if_neg (by rintro ((z | z) | (z | z) | (z | z)); exact q1 z; exact q2 z; exact q3 z; exact q4 z; exact q5 z; exact q7 z)] at h
  obtain ⟨k, -, k2, rfl⟩ := in_rng 0 10 q1 q2
  rw [nI_clamp (by omega)] at h
  have hx2 : x2 = 0 ∨ x2 = 1 := by
    obtain ⟨j, -, j2, rfl⟩ := in_rng 0 1 q3 q4
    rcases (show j = 0 ∨ j = 1 by omega) with rfl | rfl
    · exact Or.inl rfl
    · exact Or.inr rfl
  refine LP2_ix (fun i a b => a = nI i ∧ ∀ p, p < i → b p = 1) 8 ?_ 0 _ _ (Nat.zero_le _) ⟨rfl, fun p hp => absurd hp (Nat.not_lt_zero p)⟩
  rintro K i a b hi ⟨rfl, hb⟩ hK
  refine pk_le 8 i (fun c1 => ?_) (fun c1 => ?_)
  · refine LP3_ix (fun t a _ d => a = nI t ∧ (∀ p, p < pcs n w → d p = gv (pcs n w) (cov n w f) t p)) k ?_ 0 _ _ _ (Nat.zero_le _) ⟨rfl, fun p hp => hb p (by omega)⟩
    rintro K t a e d ht ⟨rfl, hd⟩ hK
    refine pk_le k t (fun c2 => ?_) (fun c2 => ?_)
    · have e1 : t = k := by omega
      subst e1
      refine s_X9_counted ho hw hg hd (fun t' ht' => ?_)
      have hs := gv_sm (w := w) ho hw k2
      have he : ∀ p, p < pcs n w → d p = lN (gvN (pcs n w) (cov n w f) t p) := fun p hp => by rw [hd p hp, gv_nat]
      have hc : ∀ p, p < pcs n w → t' p = lN (gvN (pcs n w) (cov n w f) (t + 1) p) := fun p hp => by rw [ht' p hp, ← gv_nat]; rfl
      unfold a_gr1 at h
      have hbl := bst_le (gvN (pcs n w) (cov n w f) t) (gvN (pcs n w) (cov n w f) (t + 1)) (decide (x2 = 1))
      have hbp := bst_pos (gvN (pcs n w) (cov n w f) t) (gvN (pcs n w) (cov n w f) (t + 1)) (decide (x2 = 1))
      generalize gvN (pcs n w) (cov n w f) t = E at *
      generalize gvN (pcs n w) (cov n w f) (t + 1) = Q at *
      refine LP2_ix (fun i a b => a = bV (bst E Q (decide (x2 = 1)) i) ∧ b = nI i) (pcs n w) ?_ 0 _ _ (Nat.zero_le _) ⟨rfl, rfl⟩
      rintro K i a b hi ⟨rfl, rfl⟩ hK
      have hbl1 := hbl i
      refine s_X9_pieces (by omega) hw (pk_le (pcs n w) i (fun c3 => ?_) (fun c3 => ?_))
      · have e1 : i = pcs n w := by omega
        subst e1
        have hbp1 := hbp (pcs n w)
        generalize bst E Q (decide (x2 = 1)) (pcs n w) = b at *
        by_cases z : b = 0
        · rw [if_pos z] at h
          rw [bV, if_pos z]
          exact br_t rfl (h _ _)
        · rw [if_neg z] at h
          have hp := hbp1 z
          have l1 : E (b - 1) < 2 ^ 63 := Nat.lt_of_le_of_lt (hs _ (by omega)).1 (by decide)
          have l2 : Q (b - 1) < 2 ^ 63 := Nat.lt_of_le_of_lt (hs _ (by omega)).2 (by decide)
          have hd1 : 0 < Nat.gcd (Q (b - 1)) (E (b - 1)) := Nat.gcd_pos_of_pos_right _ hp
          have hd2 : Nat.gcd (Q (b - 1)) (E (b - 1)) < 2 ^ 63 := Nat.lt_of_le_of_lt (Nat.gcd_le_right _ hp) l1
          rw [bV, if_neg z]
          refine br_f ?_ (And.intro (vp_in_nI (by omega) (by omega)) (And.intro (vp_in_nI (by omega) (by omega)) ?_))
          · intro q
            have := nI_pos (n := b - 1) (by omega)
            rw [q] at this; exact this (by decide)
          rw [nI_clamp (by omega), he _ (by omega), hc _ (by omega)]
          refine s_X9_low 63 _ _ l2 l1 l1 hd1 (fun q => ?_) (fun q => ?_)
          · rw [if_pos q] at h
            rw [pk_lDiv l2 hd1 hd2]; exact h _ _
          · rw [if_neg q] at h
            rw [pk_lDiv l1 hd1 hd2]; exact h _ _
      · have l1 : E i < 2 ^ 63 := Nat.lt_of_le_of_lt (hs i c3).1 (by decide)
        refine And.intro (vp_in_nI (by omega) (by omega)) ?_
        rw [nI_clamp (by omega), he i c3]
        refine br_c (fun q => ?_) (fun q => ?_)
        · rw [lgc_le, lN_pos l1] at q
          exact hK _ _ c3 ⟨by rw [bst, if_pos (by omega)], nI_1 i⟩
        · rw [lgc_le, lN_pos l1, Classical.not_not] at q
          by_cases z : bst E Q (decide (x2 = 1)) i = 0
          · rw [z]
            exact br_t rfl (br_t rfl (hK _ _ c3 ⟨by rw [bst, if_neg (by omega), if_pos z]; rfl, nI_1 i⟩))
          · have e1 : bV (bst E Q (decide (x2 = 1)) i) = nI (bst E Q (decide (x2 = 1)) i - 1) := if_neg z
            rw [e1]
            have hne : ¬ nI (bst E Q (decide (x2 = 1)) i - 1) = -1 := by
              intro q
              have := nI_pos (n := bst E Q (decide (x2 = 1)) i - 1) (by omega)
              rw [q] at this; exact this (by decide)
            refine br_f hne (And.intro (vp_in_nI (by omega) (by omega)) (And.intro (vp_in_nI (by omega) (by omega)) (And.intro (vp_in_nI (by omega) (by omega)) (And.intro (vp_in_nI (by omega) (by omega)) ?_))))
            rw [nI_clamp (by omega), hc i c3, he (bst E Q (decide (x2 = 1)) i - 1) (by omega), hc (bst E Q (decide (x2 = 1)) i - 1) (by omega), lN_mul, lN_mul]
            have m1 := SmE_lt hs c3 (show bst E Q (decide (x2 = 1)) i - 1 < pcs n w by omega)
            have m2 := SmE_lt hs (show bst E Q (decide (x2 = 1)) i - 1 < pcs n w by omega) c3
            obtain ⟨d1, d2⟩ := lN_diff m1 m2
            have yes : byd E Q (decide (x2 = 1)) i (bst E Q (decide (x2 = 1)) i - 1) = true → K (nI i) (nI i + 1) := fun hb =>
              hK _ _ c3 ⟨by rw [bst, if_neg (by omega), if_neg z, boolif_t hb]; rfl, nI_1 i⟩
            have no : byd E Q (decide (x2 = 1)) i (bst E Q (decide (x2 = 1)) i - 1) = false → K (nI (bst E Q (decide (x2 = 1)) i - 1)) (nI i + 1) := fun hb =>
              hK _ _ c3 ⟨by rw [bst, if_neg (by omega), if_neg z, boolif_f hb, e1], nI_1 i⟩
            refine br_f hne ?_
            rcases hx2 with rfl | rfl
            · refine br_t rfl (br_c (fun q => ?_) (fun q => ?_))
              · rw [lgc_lt, d1] at q
                exact yes (by rw [byd, boolif_f (by decide)]; exact decide_eq_true q)
              · rw [lgc_lt, d1] at q
                exact br_f (by decide) (no (by rw [byd, boolif_f (by decide)]; exact decide_eq_false q))
            · refine br_f (by decide) (br_t rfl (br_c (fun q => ?_) (fun q => ?_)))
              · rw [lgc_le, d2] at q
                exact no (by rw [byd, boolif_t (by decide)]; exact decide_eq_false q)
              · rw [lgc_le, d2, Classical.not_not] at q
                exact yes (by rw [byd, boolif_t (by decide)]; exact decide_eq_true q)
    · refine s_X9_counted ho hw hg hd (fun t' ht' => ?_)
      refine LP2_ix (fun i a b => a = nI i ∧ ∀ p, p < i → b p = gv (pcs n w) (cov n w f) (t + 1) p) (pcs n w) ?_ 0 _ _ (Nat.zero_le _) ⟨rfl, fun p hp => absurd hp (Nat.not_lt_zero p)⟩
      rintro K2 i a b hi ⟨rfl, hb⟩ hK2
      refine s_X9_pieces (by omega) hw (pk_le (pcs n w) i (fun c3 => ?_) (fun c3 => ?_))
      · exact hK _ _ _ c2 ⟨nI_1 t, fun p hp => hb p (by omega)⟩
      · refine And.intro (vp_in_nI (by omega) (by omega)) (And.intro (vp_in_nI (by omega) (by omega)) (hK2 _ _ c3 ⟨nI_1 i, ?_⟩))
        intro p hp
        rw [nI_clamp (by omega)]
        by_cases e : p = i
        · subst e; rw [pk_uLs, ht' p c3]; rfl
        · rw [pk_uLn e]; exact hb p (by omega)
  · refine And.intro (vp_in_nI (by omega) (by omega)) (hK _ _ c1 ⟨nI_1 i, ?_⟩)
    intro p hp
    rw [nI_clamp (by omega)]
    by_cases e : p = i
    · subst e; rw [pk_uLs]
    · rw [pk_uLn e]; exact hb p (by omega)
end GR
