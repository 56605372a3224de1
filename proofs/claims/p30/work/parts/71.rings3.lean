/-! p30: a ring, point by point; the rings one behind the other. -/
/-- the first k points of the ring of j, as bits -/
def oA (f : Nat → Nat) (j : Nat) : Nat → Nat
  | 0 => 0
  | k + 1 => oA f j k ||| 2 ^ it f k j
theorem oA_bit (f : Nat → Nat) (j v : Nat) : ∀ k, (oA f j k).testBit v = true ↔ ∃ s, s < k ∧ it f s j = v
  | 0 => by
    show (0 : Nat).testBit v = true ↔ _
    rw [Nat.zero_testBit]
    exact ⟨fun h => (by cases h), fun ⟨i, h, _⟩ => absurd h (Nat.not_lt_zero i)⟩
  | k + 1 => by
    rw [oA, Nat.testBit_or, Bool.or_eq_true, oA_bit f j v k, tb_pow, decide_eq_true_iff]
    constructor
    · rintro (⟨i, h1, h2⟩ | h)
      · exact ⟨i, by omega, h2⟩
      · exact ⟨k, by omega, h⟩
    · rintro ⟨i, h1, h2⟩
      rcases Nat.lt_or_ge i k with q | q
      · exact Or.inl ⟨i, q, h2⟩
      · exact Or.inr (by rw [show k = i by omega]; exact h2)
theorem pc_one : ∀ k, k < 8 → pc (2 ^ k) = 1 := by decide +kernel
section PR
variable {n : Nat} {f : Nat → Nat}
theorem oA_lt (ho : OkL n f) {j : Nat} (hj : j < n) : ∀ k, oA f j k < 256
  | 0 => by show 0 < 256; omega
  | k + 1 => or_lt256 (oA_lt ho hj k) (pow_lt256 (Nat.lt_of_lt_of_le (it_lt ho.2.2 k hj) ho.2.1))
/-- the points of a ring, one by one, each once; as many as it has -/
theorem pr_ring (ho : OkL n f) {j : Nat} (hj : j < n) (hr : Rd n f j) : 1 ≤ pc (rs n f j) ∧ pc (rs n f j) ≤ 8 ∧ it f (pc (rs n f j)) j = j ∧ oA f j (pc (rs n f j)) = rs n f j ∧ ∀ k, k < pc (rs n f j) → (oA f j k).testBit (it f k j) = false := by
  obtain ⟨p, p1, -, p3⟩ := id hr
  obtain ⟨q, ⟨q1, q2⟩, qno⟩ := pk_least (fun k => 1 ≤ k ∧ it f k j = j) ⟨p, p1, p3⟩
  have hno : ∀ k, 1 ≤ k → k < q → it f k j ≠ j := fun k k1 k2 e => qno k k2 ⟨k1, e⟩
  have dist : ∀ s k, s < k → k < q → it f s j ≠ it f k j := by
    intro s k h1 h2 e
    have e2 : it f (q - k + s) j = it f (q - k + k) j := by rw [it_add, it_add, e]
    rw [show q - k + k = q by omega, q2] at e2
    exact hno _ (by omega) (by omega) e2
  have fresh : ∀ k, k < q → (oA f j k).testBit (it f k j) = false := by
    intro k hk
    cases hb : (oA f j k).testBit (it f k j) with
    | false => rfl
    | true =>
      obtain ⟨s, s1, s2⟩ := (oA_bit f j _ k).mp hb
      exact absurd s2 (dist s k s1 hk)
  have hpc : ∀ k, k ≤ q → pc (oA f j k) = k := by
    intro k
    induction k with
    | zero => intro _; show pc 0 = 0; decide +kernel
    | succ k ih =>
      intro hk
      have hl : it f k j < 8 := Nat.lt_of_lt_of_le (it_lt ho.2.2 k hj) ho.2.1
      rw [oA, pc_or (oA_lt ho hj k) (pow_lt256 hl), ih (by omega), pc_one _ hl]
      rintro v _ ⟨h1, h2⟩
      rw [tb_pow, decide_eq_true_iff] at h2
      rw [← h2, fresh k (by omega)] at h1
      cases h1
  have all : oA f j q = rs n f j := by
    apply Nat.eq_of_testBit_eq
    intro v
    apply Bool.eq_iff_iff.mpr
    rw [oA_bit, rs_of_Rd ho.2.2 hj hr]
    constructor
    · rintro ⟨s, -, h⟩; exact ⟨s, h⟩
    · rintro ⟨k, h⟩
      exact ⟨k % q, Nat.mod_lt _ q1, by rw [← it_mod q2 k]; exact h⟩
  have e : pc (rs n f j) = q := by rw [← all]; exact hpc q (Nat.le_refl q)
  rw [e]
  refine ⟨q1, ?_, q2, all, fresh⟩
  rw [← e]
  exact pc_le _ (rs_lt ho.2.2 ho.2.1 hj)
/-- rings that aren't one have no point in common -/
theorem pr_apart (ho : OkL n f) {i j : Nat} (hi : i ≤ j) (hj : j < n) (hl : isL n f j = true) (hno : ∀ k, i ≤ k → k < j → isL n f k = false) {v : Nat} (hv : (rs n f j).testBit v = true) : (uL n f i).testBit v = false := by
  cases hb : (uL n f i).testBit v with
  | false => rfl
  | true =>
    obtain ⟨a, a1, a2, a3⟩ := (rl_bit n f v i).mp hb
    have e1 := rs_same ho.2.2 (show a < n by omega) a3
    have e2 := rs_same ho.2.2 hj hv
    have l1 := ((isL_low ho.2.1 ho.2.2 (show a < n by omega)).mp a2).2
    have l2 := ((isL_low ho.2.1 ho.2.2 hj).mp hl).2
    rw [← e1, e2, l2] at l1
    omega
theorem uL_no {k : Nat} (h : isL n f k = false) : uL n f (k + 1) = uL n f k := by rw [uL, boolif_f h]
theorem uL_yes {k : Nat} (h : isL n f k = true) : uL n f (k + 1) = uL n f k ||| rs n f k := by rw [uL, boolif_t h]
theorem uL_pc (ho : OkL n f) {k : Nat} (h : k ≤ n) : pc (uL n f k) ≤ 8 := pc_le _ (uL_lt ho k h)
theorem ct_pos (ho : OkL n f) : 1 ≤ ctL n f n := by
  have h2 := ho.1
  obtain ⟨a, b, -⟩ := rl_of ho (show 0 < n by omega)
  exact fb_ct_pos.mpr ⟨_, a, b⟩
/-- told as rings: led as it was on rings, else to itself -/
def fR (n : Nat) (f : Nat → Nat) : Nat → Nat := fun v => if (uA n f n).testBit v then f v else v
theorem uA_Rd (ho : OkL n f) {v : Nat} (hv : v < n) : (uA n f n).testBit v = true ↔ Rd n f v := by
  rw [uA_bit]
  constructor
  · rintro ⟨i, h1, h2⟩; exact rs_Rd ho.2.2 h1 h2
  · intro h; exact ⟨v, hv, (rs_self ho.2.2 hv).mpr h⟩
theorem uA_in (ho : OkL n f) {v : Nat} (h : (uA n f n).testBit v = true) : v < n := by
  obtain ⟨i, h1, h2⟩ := (uA_bit n f v n).mp h
  exact rs_in ho.2.2 h1 h2
theorem fR_ok (ho : OkF n f) : OkF n (fR n f) := by
  refine ⟨ho.1, ho.2.1, fun v hv => ?_, fun v hv => ?_⟩
  · unfold fR
    split
    · exact ho.2.2.1 v hv
    · exact hv
  · unfold fR
    split
    · exact ho.2.2.2 v hv
    · rfl
theorem fR_it (ho : OkL n f) {v : Nat} (hv : v < n) (hr : Rd n f v) : ∀ k, it (fR n f) k v = it f k v
  | 0 => rfl
  | k + 1 => by
    show fR n f (it (fR n f) k v) = f (it f k v)
    rw [fR_it ho hv hr k]
    unfold fR
    rw [if_pos ((uA_Rd ho (it_lt ho.2.2 k hv)).mpr (Rd_next hr k))]
theorem fR_Rd (ho : OkF n f) {v : Nat} (hv : v < n) : Rd n (fR n f) v := by
  have h2 := ho.1
  by_cases hr : Rd n f v
  · obtain ⟨p, p1, p2, p3⟩ := id hr
    exact ⟨p, p1, p2, (fR_it ho.L hv hr p).trans p3⟩
  · refine ⟨1, Nat.le_refl 1, by omega, ?_⟩
    show fR n f v = v
    unfold fR
    rw [if_neg (fun z => hr ((uA_Rd ho.L hv).mp z))]
theorem fR_all (ho : OkF n f) : pc (uA n (fR n f) n) = n := by
  have h8 := ho.2.1
  have hk := (fR_ok ho).L
  have e : uA n (fR n f) n = 2 ^ n - 1 := by
    apply Nat.eq_of_testBit_eq
    intro v
    rw [Nat.testBit_two_pow_sub_one]
    apply Bool.eq_iff_iff.mpr
    rw [decide_eq_true_iff]
    exact ⟨fun h => uA_in hk h, fun h => (uA_Rd hk h).mpr (fR_Rd ho h)⟩
  rw [e]
  exact (pc_full n (by omega) _ (by have := Nat.two_pow_pos n; omega)).mpr rfl
theorem ct_id : ∀ n, n < 9 → 2 ≤ n → ctL n id n = n := by decide +kernel
/-! a map in figures -/
def dm (f : Nat → Nat) : Nat → Nat
  | 0 => 0
  | k + 1 => dm f k * 10 + f k
theorem dm_lt (h : ∀ i, i < 8 → f i < 8) : ∀ k, k ≤ 8 → dm f k < 10 ^ k
  | 0, _ => by show 0 < 1; omega
  | k + 1, hk => by
    have h1 := dm_lt h k (by omega)
    have h2 := h k (by omega)
    rw [dm, Nat.pow_succ]
    omega
theorem dm_31 (h : ∀ i, i < 8 → f i < 8) {k : Nat} (hk : k ≤ 8) : dm f k < 2 ^ 31 :=
  Nat.lt_of_lt_of_le (dm_lt h k hk) (Nat.le_trans (Nat.pow_le_pow_right (by omega) hk) (by decide))
theorem a_map_dm : ∀ k, a_map f k = nI (dm f k)
  | 0 => nI_0.symm
  | k + 1 => by rw [a_map, a_map_dm k, dm, show (10 : Int32) = nI 10 from rfl, pk_mul, nI_add]
end PR
/-! kinds -/
def tk (p : Nat) (x : Int32) : Int32 := if x < 0 ∨ 4 < x then -2 else if ud (kd (nI p)) x then nI p else -13
theorem tk_of {n j : Nat} {f : Nat → Nat} {x1 x2 : Int32} (e : lk n f x1 = j) (hj : j < n) : a_taken n f x1 x2 = tk (pc (rs n f j)) x2 := by
  subst e
  rw [a_taken, if_pos hj]; rfl
theorem tk_k : ∀ p, p < 9 → 1 ≤ p → tk p (kd (nI p)) = nI p ∧ tk p 0 = nI p ∧ tk p 2 = (if nI p - nI p / 2 * 2 = 1 then nI p else -13) ∧ tk p 1 = (if nI p - nI p / 2 * 2 = 0 then nI p else -13) := by decide +kernel
/-! small numbers out of the script -/
theorem sc_at {tS : tsT} {x : Int32} (k : Nat) {P : Int32 → Prop} (hL : tS.1 ≤ 260) (hx : x = nI k) (hk : k < 100) (h : ∀ r, P r) : M_L_at tS x P := by
  subst hx
  refine pk_le tS.1 k (fun c => h _) (fun c => And.intro (vp_in_nI c (by omega)) (h _))
theorem sc_7 (x : Int32) : ∃ k, k < 8 ∧ x &&& (7 : Int32) = nI k := pk_andE x 3 (by decide)
theorem sc_1 (x : Int32) : ∃ k, k < 2 ∧ x &&& (1 : Int32) = nI k := pk_andE x 1 (by decide)
theorem sc_n (x : Int32) : ∃ k, 2 ≤ k ∧ k ≤ 8 ∧ (2 : Int32) + ((x &&& (7 : Int32)) - (x &&& (7 : Int32)) / (7 : Int32) * (7 : Int32)) = nI k := by
  obtain ⟨k, hk, e⟩ := sc_7 x
  have hm := Nat.mod_lt k (show 0 < 7 by omega)
  refine ⟨2 + k % 7, by omega, by omega, ?_⟩
  rw [e, show (7 : Int32) = nI 7 from rfl, pk_rem (by omega) (by omega) (by omega), show (2 : Int32) = nI 2 from rfl, nI_add]
theorem sc_r (x : Int32) {n : Nat} (h1 : 1 ≤ n) (h8 : n ≤ 9) : ∃ k, k < n ∧ (x &&& (7 : Int32)) - (x &&& (7 : Int32)) / nI n * nI n = nI k := by
  obtain ⟨k, hk, e⟩ := sc_7 x
  exact ⟨k % n, Nat.mod_lt _ (by omega), by rw [e, pk_rem (by omega) (by omega) (by omega)]⟩
