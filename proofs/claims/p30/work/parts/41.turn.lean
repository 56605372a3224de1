/-! turnings -/
def tH (n t : Nat) (f : Nat → Nat) (i : Nat) : Nat := if t = 0 then n - 1 - i else if t = 2 then (i + 1) % n else if t = 3 then f i else i
def tV (n t c : Nat) (f : Nat → Nat) (i : Nat) : Nat := if t = 0 then n - 1 - f i else if t = 1 then f (f i) else if t = 2 then (f i + 1) % n else if t = 3 then i else (f i + c) % n
def stf (h v z : Nat → Nat) : Nat → Nat → Nat
  | 0 => z
  | k + 1 => fun j => if j = h k then v k else stf h v z k j
theorem stf_val (h v z : Nat → Nat) : ∀ k j, (∃ i, i < k ∧ h i = j) → ∃ i, i < k ∧ h i = j ∧ stf h v z k j = v i
  | 0, _, ⟨i, hi, _⟩ => absurd hi (Nat.not_lt_zero i)
  | k + 1, j, ⟨i, hi, e⟩ => by
    by_cases q : j = h k
    · exact ⟨k, by omega, q.symm, if_pos q⟩
    · have hik : i < k := by
        rcases Nat.lt_or_ge i k with z | z
        · exact z
        · rw [show i = k by omega] at e; exact absurd e.symm q
      obtain ⟨i', h1, h2, h3⟩ := stf_val h v z k j ⟨i, hik, e⟩
      exact ⟨i', by omega, h2, (if_neg q).trans h3⟩
def tI (h v : Nat → Nat) (i : Nat) (tl : Nat → Int32) : Prop := ∀ j, j < 8 → (∃ i', i' < i ∧ h i' = j) → tl j = nI (stf h v id i j)
theorem tI_0 (h v : Nat → Nat) (tl : Nat → Int32) : tI h v 0 tl := fun _ _ ⟨i, hi, _⟩ => absurd hi (Nat.not_lt_zero i)
theorem tI_step {h v : Nat → Nat} {i : Nat} {tl : Nat → Int32} {a b : Int32} (ht : tI h v i tl) (hh : h i < 8) (ha : a = nI (h i)) (hb : b = nI (v i)) : tI h v (i + 1) (upd tl a.toNatClampNeg b) := by
  subst ha; subst hb
  rw [nI_clamp (by omega)]
  rintro j hj ⟨i', hi', e⟩
  show upd tl (h i) (nI (v i)) j = nI (if j = h i then v i else stf h v id i j)
  by_cases q : j = h i
  · subst q; rw [pk_us, if_pos rfl]
  · rw [pk_un q, if_neg q]
    refine ht j hj ⟨i', ?_, e⟩
    rcases Nat.lt_or_ge i' i with z | z
    · exact z
    · rw [show i' = i by omega] at e; exact absurd e.symm q
def rb (f : Nat → Nat) : Nat → Nat
  | 0 => 0
  | k + 1 => rb f k ||| 2 ^ f k
theorem rb_bit (f : Nat → Nat) (j : Nat) : ∀ k, (rb f k).testBit j = true ↔ ∃ i, i < k ∧ f i = j
  | 0 => by
    show (0 : Nat).testBit j = true ↔ _
    rw [Nat.zero_testBit]
    exact ⟨fun h => (by cases h), fun ⟨i, h, _⟩ => absurd h (Nat.not_lt_zero i)⟩
  | k + 1 => by
    rw [rb, Nat.testBit_or, Bool.or_eq_true, rb_bit f j k, tb_pow, decide_eq_true_iff]
    constructor
    · rintro (⟨i, h1, h2⟩ | h)
      · exact ⟨i, by omega, h2⟩
      · exact ⟨k, by omega, h⟩
    · rintro ⟨i, h1, h2⟩
      rcases Nat.lt_or_ge i k with q | q
      · exact Or.inl ⟨i, q, h2⟩
      · exact Or.inr (by rw [show k = i by omega]; exact h2)
theorem rb_lt {n : Nat} {f : Nat → Nat} (hf : ∀ i, i < n → f i < n) : ∀ k, k ≤ n → rb f k < 2 ^ n
  | 0, _ => Nat.two_pow_pos n
  | k + 1, h => Nat.or_lt_two_pow (rb_lt hf k (by omega)) (Nat.pow_lt_pow_of_lt (by omega) (hf k (by omega)))
theorem rb_256 {n : Nat} {f : Nat → Nat} (ho : OkL n f) {k : Nat} (h : k ≤ n) : rb f k < 256 :=
  Nat.lt_of_lt_of_le (rb_lt ho.2.2 k h) (Nat.pow_le_pow_right (by omega) ho.2.1 : 2 ^ n ≤ 2 ^ 8)
theorem pc_full : ∀ n, n < 9 → ∀ S, S < 2 ^ n → (pc S = n ↔ S = 2 ^ n - 1) := by decide +kernel
def tnOk (n t : Nat) (f : Nat → Nat) : Bool := decide (t ≠ 3) || decide (rb f n = 2 ^ n - 1)
def tnF (n t c : Nat) (f : Nat → Nat) : Nat → Nat := fun j => if j < n then stf (tH n t f) (tV n t c f) id n j else f j
theorem tH_lt {n t : Nat} {f : Nat → Nat} (ho : OkL n f) {i : Nat} (hi : i < n) : tH n t f i < n := by
  unfold tH
  split
  · omega
  · split
    · exact Nat.mod_lt _ (by omega)
    · split
      · exact ho.2.2 i hi
      · exact hi
theorem tV_lt {n t c : Nat} {f : Nat → Nat} (ho : OkL n f) {i : Nat} (hi : i < n) : tV n t c f i < n := by
  have h1 := ho.2.2 i hi
  unfold tV
  split
  · omega
  · split
    · exact ho.2.2 _ h1
    · split
      · exact Nat.mod_lt _ (by omega)
      · split
        · exact hi
        · exact Nat.mod_lt _ (by omega)
theorem tH_onto {n t : Nat} {f : Nat → Nat} (ho : OkL n f) (hk : tnOk n t f = true) {j : Nat} (hj : j < n) : ∃ i, i < n ∧ tH n t f i = j := by
  by_cases h0 : t = 0
  · exact ⟨n - 1 - j, by omega, by rw [tH, if_pos h0]; omega⟩
  by_cases h2 : t = 2
  · rcases Nat.eq_zero_or_pos j with z | z
    · refine ⟨n - 1, by omega, ?_⟩
      rw [tH, if_neg h0, if_pos h2, show n - 1 + 1 = n by omega, Nat.mod_self, z]
    · refine ⟨j - 1, by omega, ?_⟩
      rw [tH, if_neg h0, if_pos h2, show j - 1 + 1 = j by omega, Nat.mod_eq_of_lt hj]
  by_cases h3 : t = 3
  · rw [tnOk, Bool.or_eq_true, decide_eq_true_iff, decide_eq_true_iff] at hk
    have hk : rb f n = 2 ^ n - 1 := hk.elim (fun q => absurd h3 q) id
    have hb : (rb f n).testBit j = true := by
      rw [hk, Nat.testBit_two_pow_sub_one]; exact decide_eq_true hj
    obtain ⟨i, h1, h2'⟩ := (rb_bit f j n).mp hb
    exact ⟨i, h1, by rw [tH, if_neg h0, if_neg h2, if_pos h3]; exact h2'⟩
  · exact ⟨j, hj, by rw [tH, if_neg h0, if_neg h2, if_neg h3]⟩
theorem tnF_ok {n t c : Nat} {f : Nat → Nat} (ho : OkF n f) (hk : tnOk n t f = true) : OkF n (tnF n t c f) := by
  refine ⟨ho.1, ho.2.1, fun j hj => ?_, fun j hj => ?_⟩
  · obtain ⟨i, h1, h2, h3⟩ := stf_val (tH n t f) (tV n t c f) id n j (tH_onto ho.L hk hj)
    rw [tnF, if_pos hj, h3]
    exact tV_lt ho.L h1
  · rw [tnF, if_neg (by omega)]; exact ho.2.2.2 j hj
theorem tI_end {n t c : Nat} {f : Nat → Nat} {tl : Nat → Int32} (ho : OkF n f) (hk : tnOk n t f = true) (ht : tI (tH n t f) (tV n t c f) n tl) {j : Nat} (hj : j < n) : tl j = nI (tnF n t c f j) := by
  rw [tnF, if_pos hj]
  exact ht j (Nat.lt_of_lt_of_le hj ho.2.1) (tH_onto ho.L hk hj)
section TU
variable {n t c : Nat} {f : Nat → Nat} {g tl : Nat → Int32}
theorem s_X0_round {a : Nat} {P : Int32 → Prop} (h2 : 2 ≤ n) (h8 : n ≤ 8) (ha : a < 100) (h : P (nI (a % n))) : M_X0_round (nI a) (nI n) P := by
  refine br_f (nI_nle (by omega) (by omega)) (And.intro (nI_ne0 (by omega) (by omega)) ?_)
  rw [pk_rem (by omega) (by omega) (by omega)]
  exact h
theorem s_X0_mirror {P : (Nat → Int32) → Prop} (ho : OkF n f) (hg : Has8 f g) (h : ∀ t', tI (tH n 0 f) (tV n 0 c f) n t' → P t') : M_X0_mirror (nI n) g tl P := by
  have h2 := ho.1
  have h8 := ho.2.1
  refine LP2_ix (fun i a b => a = nI i ∧ tI (tH n 0 f) (tV n 0 c f) i b) n ?_ 0 _ _ (Nat.zero_le _) ⟨rfl, tI_0 _ _ _⟩
  rintro K i a b hi ⟨rfl, hb⟩ hK
  refine pk_le n i (fun c1 => ?_) (fun c1 => ?_)
  · have e : i = n := by omega
    subst e; exact h _ hb
  · have hf := ho.2.2.1 i c1
    have e1 : (nI n - (1 : Int32)) - nI i = nI (tH n 0 f i) := by
      rw [show nI n - (1 : Int32) = nI (n - 1) from pk_sub (b := 1) (by omega), pk_sub (by omega)]; rfl
    rw [e1]
    have hh := tH_lt (t := 0) ho.L c1
    refine And.intro (vp_in_nI (by omega) (by omega)) (And.intro (vp_in_nI (by omega) (by omega)) (hK _ _ c1 ⟨nI_1 i, tI_step hb (by omega) rfl ?_⟩))
    rw [nI_clamp (by omega), hg i (by omega), show nI n - (1 : Int32) = nI (n - 1) from pk_sub (b := 1) (by omega), pk_sub (by omega)]; rfl
theorem s_X0_leadTwice {P : (Nat → Int32) → Prop} (ho : OkF n f) (hg : Has8 f g) (h : ∀ t', tI (tH n 1 f) (tV n 1 c f) n t' → P t') : M_X0_leadTwice (nI n) g tl P := by
  have h8 := ho.2.1
  refine LP2_ix (fun i a b => a = nI i ∧ tI (tH n 1 f) (tV n 1 c f) i b) n ?_ 0 _ _ (Nat.zero_le _) ⟨rfl, tI_0 _ _ _⟩
  rintro K i a b hi ⟨rfl, hb⟩ hK
  refine pk_le n i (fun c1 => ?_) (fun c1 => ?_)
  · have e : i = n := by omega
    subst e; exact h _ hb
  · have hf := ho.2.2.1 i c1
    refine And.intro (vp_in_nI (by omega) (by omega)) ?_
    rw [nI_clamp (by omega), hg i (by omega)]
    refine And.intro (vp_in_nI (by omega) (by omega)) (And.intro (vp_in_nI (by omega) (by omega)) (hK _ _ c1 ⟨nI_1 i, ?_⟩))
    have := tI_step (a := nI i) (b := g (nI (f i)).toNatClampNeg) hb (show tH n 1 f i < 8 by show i < 8; omega) rfl (by rw [nI_clamp (by omega), hg _ (by omega)]; rfl)
    rw [nI_clamp (by omega)] at this
    exact this
theorem s_X0_move {P : (Nat → Int32) → Prop} (ho : OkF n f) (hg : Has8 f g) (h : ∀ t', tI (tH n 2 f) (tV n 2 c f) n t' → P t') : M_X0_move (nI n) g tl P := by
  have h2 := ho.1
  have h8 := ho.2.1
  refine LP2_ix (fun i a b => a = nI i ∧ tI (tH n 2 f) (tV n 2 c f) i b) n ?_ 0 _ _ (Nat.zero_le _) ⟨rfl, tI_0 _ _ _⟩
  rintro K i a b hi ⟨rfl, hb⟩ hK
  refine pk_le n i (fun c1 => ?_) (fun c1 => ?_)
  · have e : i = n := by omega
    subst e; exact h _ hb
  · have hf := ho.2.2.1 i c1
    rw [show nI i + (1 : Int32) = nI (i + 1) from nI_1 i]
    refine s_X0_round h2 h8 (by omega) (And.intro (vp_in_nI (by omega) (by omega)) ?_)
    rw [nI_clamp (by omega), hg i (by omega), show nI (f i) + (1 : Int32) = nI (f i + 1) from nI_1 _]
    have hm : (i + 1) % n < n := Nat.mod_lt _ (by omega)
    exact s_X0_round h2 h8 (by omega) (And.intro (vp_in_nI (by omega) (by omega)) (hK _ _ c1 ⟨rfl, tI_step hb (show (i + 1) % n < 8 by omega) rfl rfl⟩))
theorem s_X0_leadFurther {P : (Nat → Int32) → Prop} (ho : OkF n f) (hg : Has8 f g) (hc : c < 8) (h : ∀ t', tI (tH n 4 f) (tV n 4 c f) n t' → P t') : M_X0_leadFurther (nI c) (nI n) g tl P := by
  have h2 := ho.1
  have h8 := ho.2.1
  refine LP2_ix (fun i a b => a = nI i ∧ tI (tH n 4 f) (tV n 4 c f) i b) n ?_ 0 _ _ (Nat.zero_le _) ⟨rfl, tI_0 _ _ _⟩
  rintro K i a b hi ⟨rfl, hb⟩ hK
  refine pk_le n i (fun c1 => ?_) (fun c1 => ?_)
  · have e : i = n := by omega
    subst e; exact h _ hb
  · have hf := ho.2.2.1 i c1
    refine And.intro (vp_in_nI (by omega) (by omega)) ?_
    rw [nI_clamp (by omega), hg i (by omega), nI_add]
    refine s_X0_round h2 h8 (by omega) (And.intro (vp_in_nI (by omega) (by omega)) (hK _ _ c1 ⟨nI_1 i, ?_⟩))
    have := tI_step (a := nI i) (b := nI ((f i + c) % n)) hb (show tH n 4 f i < 8 by show i < 8; omega) rfl rfl
    rw [nI_clamp (by omega)] at this
    exact this
theorem s_X0_turnRound {P : Int32 → (Nat → Int32) → Prop} (ho : OkF n f) (hg : Has8 f g) (h : ∀ t', tI (tH n 3 f) (tV n 3 c f) n t' → P (if tnOk n 3 f then 1 else 0) t') : M_X0_turnRound (nI n) g tl P := by
  have h2 := ho.1
  have h8 := ho.2.1
  refine LP3_ix (fun i r a b => r = nI (rb f i) ∧ a = nI i ∧ tI (tH n 3 f) (tV n 3 c f) i b) n ?_ 0 _ _ _ (Nat.zero_le _) ⟨rfl, rfl, tI_0 _ _ _⟩
  rintro K i r a b hi ⟨rfl, rfl, hb⟩ hK
  refine pk_le n i (fun c1 => ?_) (fun c1 => ?_)
  · have e : i = n := by omega
    subst e
    have hP := h _ hb
    have hl := rb_lt ho.2.2.1 i (Nat.le_refl i)
    have h256 := rb_256 ho.L (Nat.le_refl i)
    have hp := pc_le _ h256
    have hfull := pc_full i (by omega) _ hl
    refine s_bitCount h256 (pk_eq (pc (rb f i)) i (fun q => ?_) (fun q => ?_))
    · rw [boolif_t (by rw [tnOk, decide_eq_true (hfull.mp q)]; rfl)] at hP; exact hP
    · rw [boolif_f (by rw [tnOk, decide_eq_false (fun z => q (hfull.mpr z))]; rfl)] at hP; exact hP
  · have hf := ho.2.2.1 i c1
    refine And.intro (vp_in_nI (by omega) (by omega)) ?_
    rw [nI_clamp (by omega), hg i (by omega)]
    rintro y rfl
    refine And.intro (vp_in_nI (by omega) (by omega)) (And.intro (vp_in_nI (by omega) (by omega)) (hK _ _ _ c1 ⟨?_, nI_1 i, tI_step hb (show f i < 8 by omega) rfl rfl⟩))
    rw [z_sh1 _ (by omega), z_or]; rfl
theorem s_X0_b76 {x1 x2 : Int32} {tl' : Nat → Int32} {P : Int32 → (Nat → Int32) → (Nat → Int32) → Prop} (ho : OkF n f) (hg : Has8 f g) (hk : tnOk n t f = true) (ht : tI (tH n t f) (tV n t c f) n tl') (h : ∀ g', Has8 (tnF n t c f) g' → P 1 tl' g') : M_X0_turned_b76 x1 x2 (nI n) P tl' g := by
  have h8 := ho.2.1
  refine And.intro ?_ (h _ ?_)
  · rw [nI_clamp (by omega)]
    exact ⟨by decide, by decide, nI_pos (by omega), by show 0 + n ≤ 8; omega, by show 0 + n ≤ 8; omega⟩
  · intro j hj
    rw [nI_clamp (by omega), show (0 : Int32).toNatClampNeg = 0 from rfl]
    rcases Nat.lt_or_ge j n with q | q
    · rw [pk_cpy_in (by omega) (by omega), show 0 + (j - 0) = j by omega]
      exact tI_end ho hk ht q
    · rw [pk_cpy_out (by omega), hg j hj, tnF, if_neg (by omega)]
theorem s_X0_turned {P : Int32 → (Nat → Int32) → (Nat → Int32) → Prop} (ho : OkF n f) (hg : Has8 f g) (hc : c < 8) (ht : t ≤ 4) (h0 : tnOk n t f = false → ∀ t', P 0 t' g) (h1 : tnOk n t f = true → ∀ t' g', Has8 (tnF n t c f) g' → P 1 t' g') : M_X0_turned (nI t) (nI c) (nI n) g tl P := by
  refine pk_eq t 0 (fun q => ?_) (fun q0 => ?_)
  · subst q
    exact s_X0_mirror (c := c) ho hg (fun t' ht' => s_X0_b76 ho hg rfl ht' (fun g' hg' => h1 rfl _ _ hg'))
  refine pk_eq t 1 (fun q => ?_) (fun q1 => ?_)
  · subst q
    exact s_X0_leadTwice (c := c) ho hg (fun t' ht' => s_X0_b76 ho hg rfl ht' (fun g' hg' => h1 rfl _ _ hg'))
  refine pk_eq t 2 (fun q => ?_) (fun q2 => ?_)
  · subst q
    exact s_X0_move (c := c) ho hg (fun t' ht' => s_X0_b76 ho hg rfl ht' (fun g' hg' => h1 rfl _ _ hg'))
  refine pk_eq t 3 (fun q => ?_) (fun q3 => ?_)
  · subst q
    refine s_X0_turnRound (c := c) ho hg (fun t' ht' => ?_)
    cases hk : tnOk n 3 f with
    | false => exact br_t rfl (h0 hk _)
    | true => exact br_f (by decide) (s_X0_b76 ho hg hk ht' (fun g' hg' => h1 hk _ _ hg'))
  have e : t = 4 := by omega
  subst e
  refine br_t rfl (s_X0_leadFurther ho hg hc (fun t' ht' => s_X0_b76 ho hg rfl ht' (fun g' hg' => h1 rfl _ _ hg')))
/-! the reference -/
/-! the figures, one behind the other -/
def dg (v i : Nat) : Nat := v / 10 ^ i % 10
def gdA (v : Nat) : Nat → Bool
  | 0 => true
  | k + 1 => gdA v k && decide (dg v k ≤ 4)
theorem gdA_at (v : Nat) : ∀ k i, gdA v k = true → i < k → dg v i ≤ 4
  | 0, _, _, h => absurd h (Nat.not_lt_zero _)
  | k + 1, i, h, hi => by
    rw [gdA, Bool.and_eq_true, decide_eq_true_iff] at h
    rcases Nat.lt_or_ge i k with q | q
    · exact gdA_at v k i h.1 q
    · rw [show i = k by omega]; exact h.2
theorem gdA_no (v : Nat) : ∀ k m, k ≤ m → gdA v k = false → gdA v m = false
  | k, 0, h, hk => by rw [show k = 0 by omega] at hk; exact hk
  | k, m + 1, h, hk => by
    rcases Nat.lt_or_ge k (m + 1) with q | q
    · rw [gdA, gdA_no v k m (by omega) hk]; rfl
    · rw [show k = m + 1 by omega] at hk; exact hk
/-- what a row of turnings makes: where all is led, and how many were done -/
def trS (n m v c : Nat) (f : Nat → Nat) : Nat → (Nat → Nat) × Nat
  | 0 => (f, 0)
  | s + 1 => if tnOk n (dg v (m - 1 - s)) (trS n m v c f s).1 then (tnF n (dg v (m - 1 - s)) c (trS n m v c f s).1, (trS n m v c f s).2 + 1) else trS n m v c f s
theorem trS_ok {m v : Nat} (ho : OkF n f) : ∀ s, OkF n (trS n m v c f s).1 ∧ (trS n m v c f s).2 ≤ s
  | 0 => ⟨ho, Nat.le_refl 0⟩
  | s + 1 => by
    obtain ⟨h1, h2⟩ := trS_ok (m := m) (v := v) ho s
    rw [trS]
    cases hk : tnOk n (dg v (m - 1 - s)) (trS n m v c f s).1 with
    | false => rw [boolif_f rfl]; exact ⟨h1, by omega⟩
    | true => rw [boolif_t rfl]; exact ⟨tnF_ok h1 hk, by show _ + 1 ≤ _; omega⟩
theorem s_X8_without {v m : Nat} {P : Int32 → Prop} (hv : v < 2 ^ 31) (hm : m ≤ 6) (h : P (nI (v / 10 ^ m))) : M_X8_withoutLast (nI v) (nI m) P := by
  refine LP2_ix (fun i a b => a = nI (v / 10 ^ i) ∧ b = nI i) m ?_ 0 _ _ (Nat.zero_le _) ⟨by rw [Nat.pow_zero, Nat.div_one], rfl⟩
  rintro K i a b hi ⟨rfl, rfl⟩ hK
  refine pk_le m i (fun c1 => ?_) (fun c1 => ?_)
  · have e : i = m := by omega
    subst e; exact h
  · refine hK _ _ c1 ⟨?_, nI_1 i⟩
    rw [show (10 : Int32) = nI 10 from rfl, pk_div (Nat.lt_of_le_of_lt (Nat.div_le_self _ _) hv) (by omega) (by omega), Nat.div_div_eq_div_mul, ← Nat.pow_succ]
theorem z_dg {v i : Nat} (hv : v < 2 ^ 31) : nI (v / 10 ^ i) - nI (v / 10 ^ i) / (10 : Int32) * (10 : Int32) = nI (dg v i) :=
  pk_rem (d := 10) (Nat.lt_of_le_of_lt (Nat.div_le_self _ _) hv) (by omega) (by omega)
theorem dg_lt (v i : Nat) : dg v i < 10 := Nat.mod_lt _ (by omega)
theorem s_X8_areTurnings {v m : Nat} {P : Int32 → Prop} (hv : v < 2 ^ 31) (hm : m ≤ 6) (h : P (if decide (v / 10 ^ m = 0) && gdA v m then 1 else 0)) : M_X8_areTurnings (nI m) (nI v) P := by
  refine br_f (nI_pos hv) (s_X8_without hv hm ?_)
  refine pk_eq (v / 10 ^ m) 0 (fun q => ?_) (fun q => ?_) rfl rfl (Nat.lt_of_le_of_lt (Nat.div_le_self _ _) hv) (by omega)
  · rw [decide_eq_true q, Bool.true_and] at h
    refine LP1_ix (fun i a => a = nI i ∧ gdA v i = true) m ?_ 0 _ (Nat.zero_le _) ⟨rfl, rfl⟩
    rintro K i a hi ⟨rfl, hgd⟩ hK
    refine pk_le m i (fun c1 => ?_) (fun c1 => ?_)
    · have e : i = m := by omega
      subst e
      rw [boolif_t hgd] at h; exact h
    · have hd := dg_lt v i
      refine s_X8_without hv (by omega) (pk_le (dg v i) 4 (fun q => ?_) (fun q => ?_) (z_dg hv))
      · exact hK _ c1 ⟨nI_1 i, by rw [gdA, hgd, decide_eq_true q]; rfl⟩
      · rw [boolif_f (gdA_no v (i + 1) m (by omega) (by rw [gdA, decide_eq_false (by omega), Bool.and_false]))] at h; exact h
  · rw [boolif_f (by rw [decide_eq_false q]; rfl)] at h; exact h
/-- refused -/
def trBad (x1 x2 x3 : Int32) : Prop := (x1 < 1 ∨ 6 < x1) ∨ x2 < 0 ∨ (x3 < 0 ∨ 7 < x3) ∨ (decide (x2.toNatClampNeg / 10 ^ x1.toNatClampNeg = 0) && gdA x2.toNatClampNeg x1.toNatClampNeg) = false
theorem s_X8_turn {d : Nat} {D : Nat → Nat → Nat} {x1 x2 x3 : Int32} {maps : Nat → Int32} {P : Int32 → (Nat → Int32) → Int32 → (Nat → Int32) → (Nat → Int32) → Prop} (ho : OkF n f) (hg : Has8 f g) (hd : d ≤ 10) (hm : HasD d D maps) (h0 : trBad x1 x2 x3 → P (-2) maps (nI d) tl g) (h1 : ∀ m v c maps' tl' g', ¬ trBad x1 x2 x3 → x1 = nI m → x2 = nI v → x3 = nI c → m ≤ 6 → v < 2 ^ 31 → c < 8 → HasD (nd d) (nD d D f) maps' → Has8 (trS n m v c f m).1 g' → P (nI (trS n m v c f m).2) maps' (nI (nd d)) tl' g') : M_X8_turn x1 x2 x3 g (nI d) maps (nI n) tl P := by
  refine br_c (fun q => h0 (Or.inl (Or.inl q))) (fun q1 => br_c (fun q => h0 (Or.inl (Or.inr q))) (fun q2 => ?_))
  obtain ⟨m, m1, m2, rfl⟩ := in_rng 1 6 q1 q2
  by_cases q3 : x2 < 0
  · exact br_t q3 (br_t rfl (h0 (Or.inr (Or.inl q3))))
  obtain ⟨v, hv, rfl⟩ := nI_of q3
  refine s_X8_areTurnings hv m2 ?_
  have e1 : (nI v).toNatClampNeg = v := nI_clamp hv
  have e2 : (nI m).toNatClampNeg = m := nI_clamp (by omega)
  cases hgd : (decide (v / 10 ^ m = 0) && gdA v m) with
  | false => exact br_t rfl (h0 (Or.inr (Or.inr (Or.inr (by rw [e1, e2]; exact hgd)))))
  | true =>
    refine br_f (by decide) (br_c (fun q => h0 (Or.inr (Or.inr (Or.inl (Or.inl q))))) (fun q4 => br_c (fun q5 => ?_) (fun q => ?_)))
    · have q6 : ¬ (7 : Int32) < x3 := by
        rw [fa_lt, show (8 : Int32).toInt = 8 from rfl] at q5; rw [fa_lt, show (7 : Int32).toInt = 7 from rfl]; omega
      obtain ⟨c, -, hc, rfl⟩ := in_rng 0 7 q4 q6
      have nb : ¬ trBad (nI m) (nI v) (nI c) := by
        rintro ((z | z) | z | (z | z) | z)
        · exact q1 z
        · exact q2 z
        · exact q3 z
        · exact q4 z
        · exact q6 z
        · rw [e1, e2, hgd] at z; cases z
      rw [Bool.and_eq_true] at hgd
      refine s_X0_packed (fun i hi => ho.lt hi) hg (s_X1_keep hd hm (fun maps' hm' => ?_))
      refine LP4_ix (fun s a b _ g' => a = nI (trS n m v c f s).2 ∧ b = nI (m - s) + (-1) ∧ Has8 (trS n m v c f s).1 g') m ?_ 0 _ _ _ _ (Nat.zero_le _) ⟨rfl, ?_, hg⟩
      · rintro K s a b tl' g' hs ⟨rfl, rfl, hg'⟩ hK
        obtain ⟨o1, o2⟩ := trS_ok (m := m) (v := v) (c := c) ho s
        rcases Nat.lt_or_ge s m with z | z
        · have e3 : nI (m - s) + (-1) = nI (m - 1 - s) := by rw [show m - s = (m - 1 - s) + 1 by omega, pk_m1]
          rw [e3]
          refine br_f (nI_pos (by omega)) (s_X8_without hv (by omega) ?_)
          rw [z_dg hv]
          have hdg := gdA_at v m (m - 1 - s) hgd.2 (by omega)
          have e4 : nI (m - 1 - s) + (-1) = nI (m - (s + 1)) + (-1) := by rw [show m - (s + 1) = m - 1 - s by omega]
          refine s_X0_turned o1 hg' (by omega) hdg (fun hk t' => ?_) (fun hk t' g2 hg2 => ?_)
          · exact br_t rfl (hK _ _ _ _ z ⟨by rw [trS, boolif_f hk], e4, by rw [trS, boolif_f hk]; exact hg'⟩)
          · exact br_f (by decide) (hK _ _ _ _ z ⟨by rw [trS, boolif_t hk]; exact nI_1 _, e4, by rw [trS, boolif_t hk]; exact hg2⟩)
        · have e : s = m := by omega
          subst e
          rw [Nat.sub_self]
          exact br_t (by decide) (h1 s v c _ _ _ nb rfl rfl rfl m2 hv (by omega) hm' hg')
      · rw [Nat.sub_zero, show m = (m - 1) + 1 by omega, pk_m1]; exact nI_pred _
    · refine h0 (Or.inr (Or.inr (Or.inl (Or.inr ?_))))
      rw [fa_lt, show (8 : Int32).toInt = 8 from rfl] at q; rw [fa_lt, show (7 : Int32).toInt = 7 from rfl]; omega
end TU

