/-! simple loops are no fewer than none; what is forced -/
theorem sm_mulr (f : Nat → Nat) (c : Nat) : ∀ n, fb_sm (fun k => f k * c) n = fb_sm f n * c
  | 0 => (Nat.zero_mul c).symm
  | n + 1 => by rw [fb_sm_succ, fb_sm_succ, sm_mulr f c n, Nat.add_mul]
theorem sm_zero (n : Nat) : fb_sm (fun _ => 0) n = 0 := by rw [fb_sm_const, Nat.mul_zero]
theorem sm_swap (F : Nat → Nat → Nat) (m : Nat) : ∀ n, fb_sm (fun i => fb_sm (fun j => F i j) m) n = fb_sm (fun j => fb_sm (fun i => F i j) n) m
  | 0 => (sm_zero m).symm
  | n + 1 => by rw [fb_sm_succ, sm_swap F m n, ← fb_sm_add]; rfl
theorem sm_one (g : Nat → Nat) {p : Nat} : ∀ {n : Nat}, p < n → fb_sm (fun j => if p = j then g j else 0) n = g p
  | 0, h => absurd h (Nat.not_lt_zero p)
  | n + 1, h => by
    rw [fb_sm_succ]
    rcases Nat.lt_or_ge p n with q | q
    · rw [sm_one g q, if_neg (by omega), Nat.add_zero]
    · have e : p = n := by omega
      subst e
      have z : fb_sm (fun j => if p = j then g j else 0) p = fb_sm (fun _ => 0) p := fb_sm_cong fun k hk => if_neg (by omega)
      rw [z, sm_zero, if_pos rfl, Nat.zero_add]
theorem sm_split (g : Nat → Nat) {i n : Nat} (h : i < n) : fb_sm g n = g i + fb_sm (fun j => if j = i then 0 else g j) n := by
  have := fb_sm_upd g 0 h
  omega
theorem sm_ge (g : Nat → Nat) {i n : Nat} (h : i < n) : g i ≤ fb_sm g n := by
  have := fb_sm_part g h
  omega
/-- paths of k from p to q -/
def pvN (N : Nat) (C : Nat → Nat) (q : Nat) : Nat → Nat → Nat
  | 0 => fun p => if p = q then 1 else 0
  | k + 1 => fun p => fb_sm (fun j => if (C p).testBit j then pvN N C q k j else 0) N
def loN (N : Nat) (C : Nat → Nat) (m : Nat) : Nat := fb_sm (fun p => pvN N C p m p) N
theorem sL_nat {f : Nat → Int64} {g : Nat → Nat} : ∀ {n : Nat}, (∀ k, k < n → f k = lN (g k)) → sL f n = lN (fb_sm g n)
  | 0, _ => rfl
  | n + 1, h => by rw [sL, fb_sm_succ, sL_nat (fun k hk => h k (by omega)), h n (by omega), lN_add]
theorem pv_nat (N : Nat) (C : Nat → Nat) (q : Nat) : ∀ k p, pv N C q k p = lN (pvN N C q k p)
  | 0, p => by
    show (if p = q then (1 : Int64) else 0) = lN (if p = q then 1 else 0)
    split <;> rfl
  | k + 1, p => sL_nat fun j _ => by
    rw [pv_nat N C q k j]
    split <;> rfl
theorem lo_nat (N : Nat) (C : Nat → Nat) (m : Nat) : lo N C m = lN (loN N C m) := sL_nat fun p _ => pv_nat N C p m p
section MT
variable {N : Nat} {C : Nat → Nat}
theorem mt_comp (q b : Nat) : ∀ a p, p < N → pvN N C q (a + b) p = fb_sm (fun j => pvN N C j a p * pvN N C q b j) N
  | 0, p, hp => by
    rw [Nat.zero_add, ← sm_one (fun j => pvN N C q b j) hp]
    refine fb_sm_cong fun j _ => ?_
    show _ = (if p = j then 1 else 0) * _
    by_cases e : p = j
    · rw [if_pos e, if_pos e, Nat.one_mul]
    · rw [if_neg e, if_neg e, Nat.zero_mul]
  | a + 1, p, hp => by
    rw [show a + 1 + b = a + b + 1 by omega]
    show fb_sm (fun i => if (C p).testBit i then pvN N C q (a + b) i else 0) N = fb_sm (fun j => fb_sm (fun i => if (C p).testBit i then pvN N C j a i else 0) N * pvN N C q b j) N
    have e1 : fb_sm (fun i => if (C p).testBit i then pvN N C q (a + b) i else 0) N = fb_sm (fun i => fb_sm (fun j => (if (C p).testBit i then pvN N C j a i else 0) * pvN N C q b j) N) N := by
      refine fb_sm_cong fun i hi => ?_
      rw [mt_comp q b a i hi]
      split
      · rfl
      · exact ((fb_sm_cong (g := fun _ => 0) fun j _ => Nat.zero_mul _).trans (sm_zero N)).symm
    rw [e1, sm_swap]
    exact fb_sm_cong fun j _ => sm_mulr _ _ N
theorem mt_ge (a b : Nat) {p j q : Nat} (hp : p < N) (hj : j < N) : pvN N C j a p * pvN N C q b j ≤ pvN N C q (a + b) p := by
  rw [mt_comp q b a p hp]
  exact sm_ge (fun j => pvN N C j a p * pvN N C q b j) hj
theorem mt_pos (a b : Nat) {p j q : Nat} (hp : p < N) (hj : j < N) (h1 : 1 ≤ pvN N C j a p) (h2 : 1 ≤ pvN N C q b j) : 1 ≤ pvN N C q (a + b) p :=
  Nat.le_trans (Nat.mul_pos h1 h2) (mt_ge a b hp hj)
theorem mt_1 {p q : Nat} (hq : q < N) : pvN N C q 1 p = if (C p).testBit q then 1 else 0 := by
  show fb_sm (fun j => if (C p).testBit j then (if j = q then 1 else 0) else 0) N = _
  rw [← sm_one (fun j => if (C p).testBit j then 1 else 0) hq]
  refine fb_sm_cong fun j _ => ?_
  by_cases e : j = q
  · rw [if_pos e, if_pos e.symm]
  · rw [if_neg e, if_neg (show ¬ q = j from fun z => e z.symm)]; split <;> rfl
theorem mt_1le {p q : Nat} (hq : q < N) : pvN N C q 1 p ≤ 1 := by rw [mt_1 hq]; split <;> omega
theorem mt_self {i : Nat} (hi : i < N) (h : 1 ≤ pvN N C i 1 i) : ∀ k, 1 ≤ pvN N C i k i
  | 0 => by show 1 ≤ if i = i then 1 else 0; rw [if_pos rfl]; exact Nat.le_refl 1
  | k + 1 => mt_pos k 1 hi hi (mt_self hi h k) h
theorem mt_p {i : Nat} (hi : i < N) (k : Nat) : pvN N C i 1 i ≤ pvN N C i k i := by
  rcases Nat.eq_zero_or_pos (pvN N C i 1 i) with z | z
  · omega
  · have := mt_1le (C := C) (p := i) hi
    have := mt_self hi z k
    omega
theorem mt_sq {i : Nat} (hi : i < N) (k : Nat) : pvN N C i k i * pvN N C i k i ≤ pvN N C i (k + k) i := mt_ge k k hi hi
theorem sq_ge (x : Nat) : x ≤ x * x := by
  rcases Nat.eq_zero_or_pos x with z | z
  · omega
  · exact Nat.le_mul_of_pos_left x z
/-- the parts of a sum that go elsewhere, and those that stay -/
theorem mt_two {i : Nat} (hi : i < N) (k : Nat) : pvN N C i (k + k) i = pvN N C i k i * pvN N C i k i + fb_sm (fun j => if j = i then 0 else pvN N C j k i * pvN N C i k j) N := by
  rw [mt_comp i k k i hi]
  exact sm_split (fun j => pvN N C j k i * pvN N C i k j) hi
theorem mt_odd {i j : Nat} (hi : i < N) (hj : j < N) (h1 : 1 ≤ pvN N C j 1 i) (h2 : 1 ≤ pvN N C i 1 j) : ∀ k, 1 ≤ pvN N C j (k + k + 1) i
  | 0 => h1
  | k + 1 => by
    rw [show k + 1 + (k + 1) + 1 = 1 + (1 + (k + k + 1)) by omega]
    exact mt_pos 1 _ hi hj h1 (mt_pos 1 _ hj hi h2 (mt_odd hi hj h1 h2 k))
/-- 6 and 10: half of it odd -/
theorem mt_half {i : Nat} (hi : i < N) (k : Nat) : pvN N C i (k + k + 1) i + pvN N C i 2 i ≤ pvN N C i ((k + k + 1) + (k + k + 1)) i + pvN N C i 1 i := by
  rw [mt_two hi (k + k + 1), show (2 : Nat) = 1 + 1 from rfl, mt_two hi 1]
  have h1 : fb_sm (fun j => if j = i then 0 else pvN N C j 1 i * pvN N C i 1 j) N ≤ fb_sm (fun j => if j = i then 0 else pvN N C j (k + k + 1) i * pvN N C i (k + k + 1) j) N := by
    refine fb_sm_le fun j hj => ?_
    by_cases e : j = i
    · rw [if_pos e, if_pos e]; exact Nat.le_refl 0
    · rw [if_neg e, if_neg e]
      have a1 := mt_1le (C := C) (p := i) hj
      have a2 := mt_1le (C := C) (p := j) hi
      rcases Nat.eq_zero_or_pos (pvN N C j 1 i) with z | z
      · rw [z, Nat.zero_mul]; exact Nat.zero_le _
      · rcases Nat.eq_zero_or_pos (pvN N C i 1 j) with y | y
        · rw [y, Nat.mul_zero]; exact Nat.zero_le _
        · have b1 := mt_odd hi hj z y k
          have b2 := mt_odd hj hi y z k
          rw [show pvN N C j 1 i = 1 by omega, show pvN N C i 1 j = 1 by omega]
          exact Nat.mul_pos b1 b2
  have h2 := sq_ge (pvN N C i (k + k + 1) i)
  have h3 : pvN N C i 1 i * pvN N C i 1 i ≤ pvN N C i 1 i := by
    have := mt_1le (C := C) (p := i) hi
    rcases (show pvN N C i 1 i = 0 ∨ pvN N C i 1 i = 1 by omega) with z | z <;> rw [z] <;> omega
  omega
theorem cube_ge (u v : Nat) : u * v ≤ (u * (v * u)) * (v * (u * v)) := by
  have e : (u * (v * u)) * (v * (u * v)) = (u * v) * ((u * v) * (u * v)) := by
    rw [← Nat.mul_assoc u v u, Nat.mul_assoc (u * v) u, ← Nat.mul_assoc u v (u * v)]
  rw [e]
  exact Nat.le_trans (sq_ge _) (Nat.mul_le_mul_left _ (sq_ge _))
theorem mt_12 {i : Nat} (hi : i < N) : pvN N C i 6 i + pvN N C i 4 i ≤ pvN N C i 12 i + pvN N C i 2 i := by
  rw [show (12 : Nat) = 6 + 6 from rfl, mt_two hi 6, show (4 : Nat) = 2 + 2 from rfl, mt_two hi 2]
  have h1 : fb_sm (fun j => if j = i then 0 else pvN N C j 2 i * pvN N C i 2 j) N ≤ fb_sm (fun j => if j = i then 0 else pvN N C j 6 i * pvN N C i 6 j) N := by
    refine fb_sm_le fun j hj => ?_
    by_cases e : j = i
    · rw [if_pos e, if_pos e]; exact Nat.le_refl 0
    · rw [if_neg e, if_neg e]
      have b1 : pvN N C j 2 i * (pvN N C i 2 j * pvN N C j 2 i) ≤ pvN N C j 6 i :=
        Nat.le_trans (Nat.mul_le_mul_left _ (mt_ge 2 2 hj hi)) (mt_ge 2 4 hi hj)
      have b2 : pvN N C i 2 j * (pvN N C j 2 i * pvN N C i 2 j) ≤ pvN N C i 6 j :=
        Nat.le_trans (Nat.mul_le_mul_left _ (mt_ge 2 2 hi hj)) (mt_ge 2 4 hj hi)
      exact Nat.le_trans (cube_ge _ _) (Nat.mul_le_mul b1 b2)
  have h2 : pvN N C i 2 i ≤ pvN N C i 6 i := by
    have b1 : pvN N C i 2 i * (pvN N C i 2 i * pvN N C i 2 i) ≤ pvN N C i 6 i :=
      Nat.le_trans (Nat.mul_le_mul_left _ (mt_ge 2 2 hi hi)) (mt_ge 2 4 hi hi)
    exact Nat.le_trans (Nat.le_trans (sq_ge _) (Nat.mul_le_mul_left _ (sq_ge _))) b1
  generalize pvN N C i 6 i = z at *
  generalize pvN N C i 2 i = x at *
  have h3 : z + x * x ≤ z * z + x := by
    obtain ⟨t, rfl⟩ : ∃ t, z = x + t := ⟨z - x, by omega⟩
    have e : (x + t) * (x + t) = x * x + x * t + (t * x + t * t) := by rw [Nat.add_mul, Nat.mul_add, Nat.mul_add]
    have := sq_ge t
    omega
  omega
theorem lo_le {a b : Nat} (h : ∀ i, i < N → pvN N C i a i ≤ pvN N C i b i) : loN N C a ≤ loN N C b := fb_sm_le h
theorem lo_le2 {a b c d : Nat} (h : ∀ i, i < N → pvN N C i a i + pvN N C i b i ≤ pvN N C i c i + pvN N C i d i) : loN N C a + loN N C b ≤ loN N C c + loN N C d := by
  have := fb_sm_le (n := N) h
  rw [fb_sm_add, fb_sm_add] at this
  exact this
theorem pvN_le (q : Nat) : ∀ k p, pvN N C q k p ≤ N ^ k
  | 0, p => by show (if p = q then 1 else 0) ≤ N ^ 0; split <;> simp
  | k + 1, p => by
    have := fb_sm_bound (n := N) (c := N ^ k) (f := fun j => if (C p).testBit j then pvN N C q k j else 0) (fun j _ => by
      show (if (C p).testBit j then pvN N C q k j else 0) ≤ N ^ k
      split
      · exact pvN_le q k j
      · exact Nat.zero_le _)
    rw [Nat.pow_succ, Nat.mul_comm]
    exact this
theorem loN_le (hN : N ≤ 8) {m : Nat} (hm : m ≤ 12) : loN N C m < 2 ^ 40 := by
  have h1 : ∀ p, p < N → pvN N C p m p ≤ 2 ^ 36 := fun p _ => by
    refine Nat.le_trans (pvN_le p m p) (Nat.le_trans (Nat.pow_le_pow_left hN m) ?_)
    exact Nat.pow_le_pow_right (n := 8) (by omega) hm
  have h2 := fb_sm_bound h1
  have h3 : N * 2 ^ 36 ≤ 8 * 2 ^ 36 := Nat.mul_le_mul_right _ hN
  unfold loN
  omega
/-- the same over whole numbers -/
def rpZ (s : Nat → Int) (m : Nat) : Nat → Int
  | 0 => 0
  | k + 1 => rpZ s m k + (if m % (k + 1) = 0 then s (k + 1) else 0)
theorem rpZ_of {s : Nat → Int64} {z : Nat → Int} {m : Nat} : ∀ {k : Nat}, (∀ j, 1 ≤ j → j ≤ k → s j = Int64.ofInt (z j)) → rp s m k = Int64.ofInt (rpZ z m k)
  | 0, _ => rfl
  | k + 1, h => by
    rw [rp, rpZ, rpZ_of (fun j h1 h2 => h j h1 (by omega)), Int64.ofInt_add]
    split
    · rw [h (k + 1) (by omega) (by omega)]
    · rfl
end MT
def soZ (a : Nat → Nat) : Nat → Int
  | 1 => a 1
  | 2 => a 2 - a 1
  | 3 => a 3 - a 1
  | 4 => a 4 - a 2
  | 5 => a 5 - a 1
  | 6 => a 6 - a 3 - a 2 + a 1
  | 7 => a 7 - a 1
  | 8 => a 8 - a 4
  | 9 => a 9 - a 3
  | 10 => a 10 - a 5 - a 2 + a 1
  | 11 => a 11 - a 1
  | 12 => a 12 - a 6 - a 4 + a 2
  | _ => 0
theorem soZ_eq (a : Nat → Nat) : ∀ m, 1 ≤ m → m ≤ 12 → soZ a m = a m - rpZ (soZ a) m (m - 1) := by
  intro m h1 h2
  rcases (show m = 1 ∨ m = 2 ∨ m = 3 ∨ m = 4 ∨ m = 5 ∨ m = 6 ∨ m = 7 ∨ m = 8 ∨ m = 9 ∨ m = 10 ∨ m = 11 ∨ m = 12 by omega) with rfl | rfl | rfl | rfl | rfl | rfl | rfl | rfl | rfl | rfl | rfl | rfl
  all_goals simp [rpZ, soZ]
  all_goals omega
theorem lN_ofInt (n : Nat) : lN n = Int64.ofInt (n : Int) := rfl
theorem so_Z (N : Nat) (C : Nat → Nat) : ∀ m, 1 ≤ m → m ≤ 12 → so N C m = Int64.ofInt (soZ (loN N C) m) := by
  intro m
  induction m using Nat.strongRecOn with
  | ind m ih =>
    intro h1 h2
    rw [so_eq, rpZ_of (z := soZ (loN N C)) (fun j j1 j2 => ih j (by omega) j1 (by omega)), lo_nat, lN_ofInt, ← Int64.ofInt_sub, soZ_eq _ m h1 h2]
theorem so_ge (N : Nat) (C : Nat → Nat) (hN : N ≤ 8) : ∀ m, 1 ≤ m → m ≤ 12 → 0 ≤ soZ (loN N C) m ∧ soZ (loN N C) m < 2 ^ 41 := by
  intro m h1 h2
  have b := fun k (hk : k ≤ 12) => loN_le (N := N) (C := C) hN hk
  have p := fun k => lo_le (N := N) (C := C) (a := 1) (b := k) (fun i hi => mt_p hi k)
  have q4 : loN N C 2 ≤ loN N C 4 := lo_le fun i hi => Nat.le_trans (sq_ge _) (mt_sq hi 2)
  have q8 : loN N C 4 ≤ loN N C 8 := lo_le fun i hi => Nat.le_trans (sq_ge _) (mt_sq hi 4)
  have q9 : loN N C 3 ≤ loN N C 9 := lo_le fun i hi => Nat.le_trans (Nat.le_trans (sq_ge _) (Nat.mul_le_mul_left _ (sq_ge _))) (Nat.le_trans (Nat.mul_le_mul_left _ (mt_sq hi 3)) (mt_ge 3 6 hi hi))
  have q6 : loN N C 3 + loN N C 2 ≤ loN N C 6 + loN N C 1 := lo_le2 fun i hi => mt_half hi 1
  have q10 : loN N C 5 + loN N C 2 ≤ loN N C 10 + loN N C 1 := lo_le2 fun i hi => mt_half hi 2
  have q12 : loN N C 6 + loN N C 4 ≤ loN N C 12 + loN N C 2 := lo_le2 fun i hi => mt_12 hi
  have p2 := p 2
  have p3 := p 3
  have p5 := p 5
  have p7 := p 7
  have p11 := p 11
  have b1 := b 1 (by omega)
  have b2 := b 2 (by omega)
  have b3 := b 3 (by omega)
  have b4 := b 4 (by omega)
  have b5 := b 5 (by omega)
  have b6 := b 6 (by omega)
  have b7 := b 7 (by omega)
  have b8 := b 8 (by omega)
  have b9 := b 9 (by omega)
  have b10 := b 10 (by omega)
  have b11 := b 11 (by omega)
  have b12 := b 12 (by omega)
  rcases (show m = 1 ∨ m = 2 ∨ m = 3 ∨ m = 4 ∨ m = 5 ∨ m = 6 ∨ m = 7 ∨ m = 8 ∨ m = 9 ∨ m = 10 ∨ m = 11 ∨ m = 12 by omega) with rfl | rfl | rfl | rfl | rfl | rfl | rfl | rfl | rfl | rfl | rfl | rfl
  all_goals simp only [soZ]
  all_goals omega
theorem so_int (N : Nat) (C : Nat → Nat) (hN : N ≤ 8) {m : Nat} (h1 : 1 ≤ m) (h2 : m ≤ 12) : (so N C m).toInt = soZ (loN N C) m := by
  obtain ⟨a, b⟩ := so_ge N C hN m h1 h2
  rw [so_Z N C m h1 h2]
  exact Int64.toInt_ofInt_of_le (by omega) (by omega)
/-- a simple loop of m, or none -/
theorem so_pos (N : Nat) (C : Nat → Nat) (hN : N ≤ 8) {m : Nat} (h1 : 1 ≤ m) (h2 : m ≤ 12) : (lg_cmp (so N C m) 0 ≤ 0 ↔ so N C m = 0) ∧ (lg_cmp (so N C m) 0 = 0 ↔ so N C m = 0) := by
  have h := (so_ge N C hN m h1 h2).1
  rw [← so_int N C hN h1 h2] at h
  unfold lg_cmp
  by_cases e : so N C m = 0
  · rw [e, if_neg (by decide), if_pos rfl]
    exact ⟨⟨fun _ => rfl, fun _ => by decide⟩, ⟨fun _ => rfl, fun _ => rfl⟩⟩
  · have g : so N C m > 0 := by
      show 0 < so N C m
      rw [fa_lt64]
      have e2 : (so N C m).toInt ≠ 0 := fun z => e ((fa_eq64 _ _).mpr z)
      have : (0 : Int64).toInt = 0 := rfl
      omega
    rw [if_pos g]
    exact ⟨⟨fun z => absurd z (by decide), fun z => absurd z e⟩, ⟨fun z => absurd z (by decide), fun z => absurd z e⟩⟩
/-! what is forced -/
section FO
variable {n w : Nat} {f : Nat → Nat} {g c : Nat → Int32}
def frc (n w : Nat) (f : Nat → Nat) (m : Nat) : Bool := decide (so (pcs n w) (cov n w f) m ≠ 0) || (szA n f n).testBit m
def fbA (n w : Nat) (f : Nat → Nat) : Nat → Nat
  | 0 => szA n f n
  | k + 1 => fbA n w f k ||| (if so (pcs n w) (cov n w f) (k + 1) = 0 then 0 else 2 ^ (k + 1))
def fbM (n w : Nat) (f : Nat → Nat) : Nat → Nat
  | 0 => 0
  | k + 1 => fbM n w f k ||| (if frc n w f (k + 1) then 2 ^ (k + 1) else 0)
theorem sz_12 (ho : OkL n f) {j : Nat} (h : (szA n f n).testBit j = true) : 1 ≤ j ∧ j ≤ 8 := by
  obtain ⟨i, hi, rfl⟩ := (szA_bit n f j n).mp h
  have h8 := rs_lt ho.2.2 ho.2.1 hi
  exact ⟨pc_pos h8 (rs_pos ho.2.2 hi), pc_le _ h8⟩
theorem fbA_bit (j : Nat) : ∀ k, (fbA n w f k).testBit j = true ↔ (szA n f n).testBit j = true ∨ (1 ≤ j ∧ j ≤ k ∧ so (pcs n w) (cov n w f) j ≠ 0)
  | 0 => ⟨fun h => Or.inl h, fun h => h.elim id (fun h => by omega)⟩
  | k + 1 => by
    rw [fbA, Nat.testBit_or, Bool.or_eq_true, fbA_bit j k]
    by_cases e : so (pcs n w) (cov n w f) (k + 1) = 0
    · rw [if_pos e, Nat.zero_testBit]
      constructor
      · rintro ((h | h) | h)
        · exact Or.inl h
        · exact Or.inr ⟨h.1, by omega, h.2.2⟩
        · cases h
      · rintro (h | ⟨h1, h2, h3⟩)
        · exact Or.inl (Or.inl h)
        · refine Or.inl (Or.inr ⟨h1, ?_, h3⟩)
          rcases Nat.lt_or_ge k j with q | q
          · rw [show j = k + 1 by omega] at h3; exact absurd e h3
          · exact q
    · rw [if_neg e, tb_pow, decide_eq_true_iff]
      constructor
      · rintro ((h | h) | h)
        · exact Or.inl h
        · exact Or.inr ⟨h.1, by omega, h.2.2⟩
        · subst h; exact Or.inr ⟨by omega, Nat.le_refl _, e⟩
      · rintro (h | ⟨h1, h2, h3⟩)
        · exact Or.inl (Or.inl h)
        · rcases Nat.lt_or_ge k j with q | q
          · exact Or.inr (by omega)
          · exact Or.inl (Or.inr ⟨h1, q, h3⟩)
theorem fbM_bit (j : Nat) : ∀ k, (fbM n w f k).testBit j = true ↔ 1 ≤ j ∧ j ≤ k ∧ frc n w f j = true
  | 0 => by
    show (0 : Nat).testBit j = true ↔ _
    rw [Nat.zero_testBit]
    exact ⟨fun h => (by cases h), fun h => (by omega)⟩
  | k + 1 => by
    rw [fbM, Nat.testBit_or, Bool.or_eq_true, fbM_bit j k]
    cases e : frc n w f (k + 1) with
    | false =>
      rw [boolif_f rfl, Nat.zero_testBit]
      constructor
      · rintro (h | h)
        · exact ⟨h.1, by omega, h.2.2⟩
        · cases h
      · rintro ⟨h1, h2, h3⟩
        refine Or.inl ⟨h1, ?_, h3⟩
        rcases Nat.lt_or_ge k j with q | q
        · rw [show j = k + 1 by omega, e] at h3; cases h3
        · exact q
    | true =>
      rw [boolif_t rfl, tb_pow, decide_eq_true_iff]
      constructor
      · rintro (h | h)
        · exact ⟨h.1, by omega, h.2.2⟩
        · subst h; exact ⟨by omega, Nat.le_refl _, e⟩
      · rintro ⟨h1, h2, h3⟩
        rcases Nat.lt_or_ge k j with q | q
        · exact Or.inr (by omega)
        · exact Or.inl ⟨h1, q, h3⟩
theorem fb_same (ho : OkL n f) : fbA n w f 12 = fbM n w f 12 := by
  apply Nat.eq_of_testBit_eq
  intro j
  apply Bool.eq_iff_iff.mpr
  rw [fbA_bit, fbM_bit, frc, Bool.or_eq_true, decide_eq_true_iff]
  constructor
  · rintro (h | ⟨h1, h2, h3⟩)
    · have := sz_12 ho h
      exact ⟨this.1, by omega, Or.inr h⟩
    · exact ⟨h1, h2, Or.inl h3⟩
  · rintro ⟨h1, h2, h3 | h3⟩
    · exact Or.inr ⟨h1, h2, h3⟩
    · exact Or.inl h3
theorem fbM_lt : ∀ k, k ≤ 12 → fbM n w f k < 2 ^ 13
  | 0, _ => by show 0 < 2 ^ 13; decide
  | k + 1, h => by
    rw [fbM]
    refine Nat.or_lt_two_pow (fbM_lt k (by omega)) ?_
    split
    · exact Nat.pow_lt_pow_of_lt (by omega) (by omega)
    · decide
theorem s_X8_forcedBits {y1 y2 : Int32} {cl ss cs es : Nat → Int64} {P : Int32 → Int32 → Int32 → (Nat → Int32) → (Nat → Int64) → (Nat → Int64) → (Nat → Int64) → (Nat → Int64) → Prop} (ho : OkL n f) (hw : w ≤ 1) (hg : HasL n f g) (h : ∀ a b c d e i j, P (nI (fbM n w f 12)) a b c d e i j) : M_X8_forcedBits (nI w) (nI n) y1 y2 g c cl ss cs es P := by
  have hN : pcs n w ≤ 8 := Nat.le_trans pcs_le ho.2.1
  refine s_X5_learn ho hw hg (fun F c' hF hc => s_X5_measureLoops (l := 12) ho hw hc (by omega) (fun s' c1 e' cl' hs => s_X0_ringSizes ho hg ?_))
  refine LP2_ix (fun k a b => a = nI (fbA n w f k) ∧ b = nI (k + 1)) 12 ?_ 0 _ _ (Nat.zero_le _) ⟨rfl, rfl⟩
  rintro K k a b hk ⟨rfl, rfl⟩ hK
  refine pk_lt 12 (k + 1) (fun c2 => ?_) (fun c2 => ?_)
  · have e : k = 12 := by omega
    subst e
    rw [fb_same ho]
    exact h _ _ _ _ _ _ _
  · refine And.intro (vp_in_nI (by omega) (by omega)) ?_
    rw [nI_clamp (by omega), (hs (k + 1) (by omega) c2).1]
    refine br_c (fun c3 => ?_) (fun c3 => ?_)
    · rw [(so_pos _ _ hN (show 1 ≤ k + 1 by omega) c2).2] at c3
      exact hK _ _ (by omega) ⟨by rw [fbA, if_pos c3, Nat.or_zero], nI_1 _⟩
    · rw [(so_pos _ _ hN (show 1 ≤ k + 1 by omega) c2).2] at c3
      exact hK _ _ (by omega) ⟨by rw [fbA, if_neg c3, z_sh1 _ (by omega), z_or], nI_1 _⟩
theorem s_X9_isForced {m : Nat} {ms ps : Nat → Int64} {P : Int32 → (Nat → Int64) → (Nat → Int64) → Prop} (ho : OkL n f) (hw : w ≤ 1) (hg : HasL n f g) (h1 : 1 ≤ m) (h12 : m ≤ 12) (h : ∀ d e, P (if frc n w f m then 1 else 0) d e) : M_X9_isForced (nI m) (nI w) (nI n) ms ps g P := by
  have hn := ho.2.1
  have hN : pcs n w ≤ 8 := Nat.le_trans pcs_le hn
  have loop : ∀ (b0 : Bool) (d e : Nat → Int64), b0 = decide (so (pcs n w) (cov n w f) m ≠ 0) → M_X9_isForced_b18 (nI m) (nI w) (nI n) g P (if b0 then 1 else 0) 0 d e := by
    intro b0 d e hb0
    refine LP2_ix (fun t a b => ∃ i, t ≤ i ∧ i ≤ n ∧ b = nI (ctL n f i) ∧ ∃ b1 : Bool, a = (if b1 then 1 else 0) ∧ (b1 = true ↔ b0 = true ∨ ∃ j, j < i ∧ isL n f j = true ∧ pc (rs n f j) = m)) n ?_ 0 _ _ (Nat.zero_le _) ⟨0, Nat.le_refl _, Nat.zero_le _, rfl, b0, rfl, ⟨Or.inl, fun q => q.elim id (fun ⟨j, q, _⟩ => absurd q (Nat.not_lt_zero j))⟩⟩
    rintro K t a b ht ⟨i, hti, hi, rfl, b1, rfl, hb1⟩ hK
    rcases lk_next hn hi with ⟨e1, e2⟩ | ⟨j, j1, j2, e1, e2, e3⟩
    · refine s_X9_ringAt ho hg ?_
      rw [e1, if_neg (Nat.lt_irrefl n)]
      refine br_t rfl (And.intro (by cases b1 <;> rfl) ?_)
      have e4 : b1 = frc n w f m := by
        apply Bool.eq_iff_iff.mpr
        rw [hb1, frc, Bool.or_eq_true, hb0, sz_L ho]
        constructor
        · rintro (q | ⟨j, q1, q2, q3⟩)
          · exact Or.inl q
          · exact Or.inr ⟨j, by omega, q2, q3⟩
        · rintro (q | ⟨j, q1, q2, q3⟩)
          · exact Or.inl q
          · refine Or.inr ⟨j, ?_, q2, q3⟩
            rcases Nat.lt_or_ge j i with z | z
            · exact z
            · rw [e2 j z q1] at q2; cases q2
      rw [e4]
      exact h d e
    · refine s_X9_ringAt ho hg ?_
      rw [e1, if_pos j2]
      have h8 := rs_lt ho.2.2 hn j2
      have hp := pc_le _ h8
      have s1 : ctL n f j = ctL n f i := rl_skip (ctL n f) (fun k => ctL_no) j j1 e3
      refine br_f ?_ (s_X9_ringAt ho hg ?_)
      · rw [show (0 : Int32) = nI 0 from rfl, nI_eq (by omega) (by omega)]
        exact rs_pos ho.2.2 j2
      rw [e1, if_pos j2]
      have new : ∀ b2 : Bool, (b2 = true ↔ b1 = true ∨ pc (rs n f j) = m) → (b2 = true ↔ b0 = true ∨ ∃ j', j' < j + 1 ∧ isL n f j' = true ∧ pc (rs n f j') = m) := by
        intro b2 hb2
        rw [hb2, hb1]
        constructor
        · rintro ((q | ⟨j', q1, q2⟩) | q)
          · exact Or.inl q
          · exact Or.inr ⟨j', by omega, q2⟩
          · exact Or.inr ⟨j, by omega, e2, q⟩
        · rintro (q | ⟨j', q1, q2, q3⟩)
          · exact Or.inl (Or.inl q)
          · rcases Nat.lt_or_ge j' i with z | z
            · exact Or.inl (Or.inr ⟨j', z, q2, q3⟩)
            · rcases Nat.lt_or_ge j' j with y | y
              · rw [e3 j' z y] at q2; cases q2
              · rw [show j' = j by omega] at q3; exact Or.inr q3
      refine s_bitCount h8 (pk_eq (pc (rs n f j)) m (fun c => ?_) (fun c => ?_))
      · refine hK _ _ (by omega) ⟨j + 1, by omega, by omega, by rw [nI_1, ctL_yes e2, s1], true, ?_, new true ⟨fun _ => Or.inr c, fun _ => rfl⟩⟩
        cases b1 <;> rfl
      · refine hK _ _ (by omega) ⟨j + 1, by omega, by omega, by rw [nI_1, ctL_yes e2, s1], b1, ?_, new b1 ⟨Or.inl, fun q => q.elim id (fun q => absurd q c)⟩⟩
        cases b1 <;> rfl
  refine s_X9_simpleOf ho hw hg 32 m _ _ _ (by omega) h1 (by omega) (fun d e => ?_)
  have hs := (so_pos (pcs n w) (cov n w f) hN h1 h12).1
  refine br_c (fun c => ?_) (fun c => ?_)
  · rw [hs] at c
    exact loop false d e (by simp [c])
  · rw [hs] at c
    exact loop true d e (by simp [c])
theorem shr_bit : ∀ m, m < 13 → (((nI m) &&& (31 : Int32)).toBitVec.smod 32).toNat = m := by decide +kernel
theorem z_bitN {S m : Nat} (hS : S < 2 ^ 31) (hm : m < 13) : (nI S >>> (nI m &&& 31)) &&& (1 : Int32) = if S.testBit m then 1 else 0 := by
  rw [pk_shrN hS _ m (shr_bit m hm), show (1 : Int32) = nI 1 from rfl, z_and, Nat.and_one_is_mod]
  have e : S.testBit m = decide (S / 2 ^ m % 2 = 1) := Nat.testBit_eq_decide_div_mod_eq
  rw [e]
  rcases Nat.mod_two_eq_zero_or_one (S / 2 ^ m) with z | z
  · rw [z]; rfl
  · rw [z]; rfl
def a_forced (n w : Nat) (f : Nat → Nat) (x : Int32) : Int32 := if x < 1 ∨ 12 < x then -2 else if frc n w f x.toNatClampNeg then 1 else 0
theorem s_X8_forced {x y1 y2 : Int32} {cl ss cs es : Nat → Int64} {P : Int32 → Int32 → Int32 → (Nat → Int32) → (Nat → Int64) → (Nat → Int64) → (Nat → Int64) → (Nat → Int64) → Prop} (ho : OkL n f) (hw : w ≤ 1) (hg : HasL n f g) (h : ∀ a b c d e i j, P (a_forced n w f x) a b c d e i j) : M_X8_forced x (nI w) (nI n) y1 y2 g c cl ss cs es P := by
  refine br_c (fun q => ?_) (fun q1 => br_c (fun q2 => ?_) (fun q => ?_))
  · rw [a_forced, if_pos (Or.inl q)] at h; exact h _ _ _ _ _ _ _
  · have q3 : ¬ (12 : Int32) < x := fun z => (fa_of_lt z).2.1 q2
    obtain ⟨m, m1, m2, rfl⟩ := in_rng 1 12 q1 q3
    refine s_X8_forcedBits ho hw hg (fun a b c d e i j => ?_)
    rw [a_forced, if_neg (by rintro (z | z); exact q1 z; exact q3 z), nI_clamp (by omega)] at h
    have hb := fbM_lt (n := n) (w := w) (f := f) 12 (Nat.le_refl 12)
    rw [z_bitN (Nat.lt_trans hb (by decide)) (by omega)]
    have e : (fbM n w f 12).testBit m = frc n w f m := by
      apply Bool.eq_iff_iff.mpr
      rw [fbM_bit]
      exact ⟨fun q => q.2.2, fun q => ⟨m1, m2, q⟩⟩
    rw [e]
    exact h _ _ _ _ _ _ _
  · rw [a_forced, if_pos (Or.inr (fa_of_nle q))] at h; exact h _ _ _ _ _ _ _
theorem s_X9_forced {x : Int32} {ms ps : Nat → Int64} {P : Int32 → (Nat → Int64) → (Nat → Int64) → Prop} (ho : OkL n f) (hw : w ≤ 1) (hg : HasL n f g) (h : ∀ d e, P (a_forced n w f x) d e) : M_X9_forced x (nI w) (nI n) ms ps g P := by
  refine s_in (a := 1) (b := 12) rfl rfl (fun q => br_t rfl ?_) (fun q1 q3 => br_f (by decide) ?_)
  · rw [a_forced, if_pos q] at h; exact h _ _
  obtain ⟨m, m1, m2, rfl⟩ := in_rng 1 12 q1 q3
  rw [a_forced, if_neg (by rintro (z | z); exact q1 z; exact q3 z), nI_clamp (by omega)] at h
  refine s_X9_isForced ho hw hg m1 m2 (fun d e => ?_)
  cases hb : frc n w f m with
  | true => rw [hb] at h; exact br_f (by decide) (h _ _)
  | false => rw [hb] at h; exact br_t rfl (h _ _)
theorem s_X8_allForced {y1 y2 : Int32} {cl ss cs es : Nat → Int64} {P : Int32 → Int32 → Int32 → (Nat → Int32) → (Nat → Int64) → (Nat → Int64) → (Nat → Int64) → (Nat → Int64) → Prop} (ho : OkL n f) (hw : w ≤ 1) (hg : HasL n f g) (h : ∀ a b c d e i j, P (nI (fbM n w f 12)) a b c d e i j) : M_X8_allForced (nI w) (nI n) y1 y2 g c cl ss cs es P :=
  s_X8_forcedBits ho hw hg h
theorem s_X9_allForced {ms ps : Nat → Int64} {P : Int32 → (Nat → Int64) → (Nat → Int64) → Prop} (ho : OkL n f) (hw : w ≤ 1) (hg : HasL n f g) (h : ∀ d e, P (nI (fbM n w f 12)) d e) : M_X9_allForced (nI w) (nI n) ms ps g P := by
  refine LP4_ix (fun k a b _ _ => a = nI (fbM n w f k) ∧ b = nI (k + 1)) 12 ?_ 0 _ _ _ _ (Nat.zero_le _) ⟨rfl, rfl⟩
  rintro K k a b d e hk ⟨rfl, rfl⟩ hK
  refine pk_lt 12 (k + 1) (fun c2 => ?_) (fun c2 => ?_)
  · have e : k = 12 := by omega
    subst e
    exact h _ _
  · refine s_X9_isForced ho hw hg (by omega) c2 (fun d e => ?_)
    cases hb : frc n w f (k + 1) with
    | true => exact br_f (by decide) (hK _ _ _ _ (by omega) ⟨by rw [fbM, boolif_t hb, z_sh1 _ (by omega), z_or], nI_1 _⟩)
    | false => exact br_t rfl (hK _ _ _ _ (by omega) ⟨by rw [fbM, boolif_f hb, show (0 : Int32) = nI 0 from rfl, z_or], nI_1 _⟩)
end FO
