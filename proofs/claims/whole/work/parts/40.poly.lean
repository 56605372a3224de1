/-! the polynomial -/
theorem sL_add (f g : Nat → Int64) : ∀ n, sL (fun k => f k + g k) n = sL f n + sL g n
  | 0 => (i64_a0 0).symm
  | n + 1 => by
    rw [sL, sL, sL, sL_add f g n, Int64.add_assoc, Int64.add_assoc, ← Int64.add_assoc (sL g n), Int64.add_comm (sL g n) (f n), Int64.add_assoc]
theorem sL_mul (c : Int64) (f : Nat → Int64) : ∀ n, sL (fun k => c * f k) n = c * sL f n
  | 0 => Int64.mul_zero.symm
  | n + 1 => by rw [sL, sL, sL_mul c f n, Int64.mul_add]
theorem sL_zero : ∀ n, sL (fun _ => 0) n = 0
  | 0 => rfl
  | n + 1 => by rw [sL, sL_zero n]; rfl
theorem sL_swap (F : Nat → Nat → Int64) (m : Nat) : ∀ n, sL (fun i => sL (fun j => F i j) m) n = sL (fun j => sL (fun i => F i j) n) m
  | 0 => (sL_zero m).symm
  | n + 1 => by rw [sL, sL_swap F m n, ← sL_add]; rfl
theorem sL_front (f : Nat → Int64) : ∀ n, sL f (n + 1) = f 0 + sL (fun i => f (i + 1)) n
  | 0 => by show (0 : Int64) + f 0 = f 0 + 0; rw [Int64.zero_add, i64_a0]
  | n + 1 => by rw [sL, sL_front f n, sL, Int64.add_assoc]
def csum (s a : Nat → Int64) (j i : Nat) : Int64 := sL (fun i => s (j - (i + 1)) * a (i + 1)) i
def coF (a : Nat → Int64) : Nat → Nat → Int64
  | 0 => fun _ => 0
  | d + 1 => fun j => if j = 0 then 1 else (-(csum (coF a d) a j j)) / (nI j).toInt64
theorem csum_cong {s s' a : Nat → Int64} {j i : Nat} (hi : i ≤ j) (h : ∀ k, k < j → s k = s' k) : csum s a j i = csum s' a j i :=
  sL_cong fun k hk => by rw [h _ (by omega)]
theorem coF_fuel (a : Nat → Int64) : ∀ d d' j, j < d → j < d' → coF a d j = coF a d' j
  | 0, _, _, h, _ => absurd h (Nat.not_lt_zero _)
  | _ + 1, 0, _, _, h => absurd h (Nat.not_lt_zero _)
  | d + 1, d' + 1, j, h, h' => by
    show (if j = 0 then 1 else (-(csum (coF a d) a j j)) / (nI j).toInt64) = if j = 0 then 1 else (-(csum (coF a d') a j j)) / (nI j).toInt64
    rw [csum_cong (Nat.le_refl j) (fun k hk => coF_fuel a d d' k (by omega) (by omega))]
def co (a : Nat → Int64) (j : Nat) : Int64 := coF a (j + 1) j
theorem co_0 (a : Nat → Int64) : co a 0 = 1 := rfl
theorem co_eq (a : Nat → Int64) {j : Nat} (h : 1 ≤ j) : co a j = (-(csum (co a) a j j)) / (nI j).toInt64 := by
  show (if j = 0 then 1 else (-(csum (coF a j) a j j)) / (nI j).toInt64) = _
  rw [if_neg (by omega), csum_cong (Nat.le_refl j) (fun k hk => coF_fuel a j (k + 1) k (by omega) (by omega))]
  rfl
section PO
variable {n w : Nat} {f : Nat → Nat} {g c : Nat → Int32}
/-- the reference's table behind s steps -/
def tb (N : Nat) (C : Nat → Nat) (s p q : Nat) : Int64 := sL (fun i => co (lo N C) (s - i) * pv N C q i p) (s + 1)
def pr (N : Nat) (C : Nat → Nat) (s p q : Nat) : Int64 := nx N C (fun m => tb N C s m q) p
theorem pr_eq (N : Nat) (C : Nat → Nat) (s p q : Nat) : pr N C s p q = sL (fun i => co (lo N C) (s - i) * pv N C q (i + 1) p) (s + 1) := by
  have e1 : pr N C s p q = sL (fun j => sL (fun i => if (C p).testBit j then co (lo N C) (s - i) * pv N C q i j else 0) (s + 1)) N := by
    refine sL_cong fun j _ => ?_
    cases (C p).testBit j with
    | true => rfl
    | false => exact (sL_zero (s + 1)).symm
  rw [e1, sL_swap]
  refine sL_cong fun i _ => ?_
  show _ = co (lo N C) (s - i) * nx N C (pv N C q i) p
  rw [nx, ← sL_mul]
  refine sL_cong fun j _ => ?_
  cases (C p).testBit j with
  | true => rfl
  | false => exact Int64.mul_zero.symm
theorem pr_tr (N : Nat) (C : Nat → Nat) (s : Nat) : sL (fun p => pr N C s p p) N = csum (co (lo N C)) (lo N C) (s + 1) (s + 1) := by
  have e1 : sL (fun p => pr N C s p p) N = sL (fun p => sL (fun i => co (lo N C) (s - i) * pv N C p (i + 1) p) (s + 1)) N := sL_cong fun p _ => pr_eq N C s p p
  rw [e1, sL_swap]
  refine sL_cong fun i _ => ?_
  rw [sL_mul, Nat.add_sub_add_right]
  rfl
theorem pr_tb (N : Nat) (C : Nat → Nat) (s p q : Nat) : pr N C s p q + (if p = q then co (lo N C) (s + 1) else 0) = tb N C (s + 1) p q := by
  rw [tb, sL_front, pr_eq, Int64.add_comm]
  have e1 : sL (fun i => co (lo N C) (s + 1 - (i + 1)) * pv N C q (i + 1) p) (s + 1) = sL (fun i => co (lo N C) (s - i) * pv N C q (i + 1) p) (s + 1) := sL_cong fun i _ => by rw [Nat.add_sub_add_right]
  rw [e1]
  congr 1
  show _ = co (lo N C) (s + 1) * (if p = q then 1 else 0)
  split
  · rw [Int64.mul_one]
  · rw [Int64.mul_zero]
theorem tb_0 (N : Nat) (C : Nat → Nat) (p q : Nat) : tb N C 0 p q = if p = q then 1 else 0 := by
  show (0 : Int64) + 1 * (if p = q then 1 else 0) = _
  rw [Int64.zero_add, Int64.one_mul]
def a_poly (n w : Nat) (f : Nat → Nat) (x : Int32) : Int64 := if x < 0 ∨ nI (pcs n w) < x then -9223372036854775808 else co (lo (pcs n w) (cov n w f)) (pcs n w - x.toNatClampNeg)
theorem s_X5_coefficient {k : Nat} {cl ss cs es cf : Nat → Int64} {P : Int64 → (Nat → Int64) → (Nat → Int64) → (Nat → Int64) → (Nat → Int64) → (Nat → Int64) → Prop} (ho : OkL n f) (hw : w ≤ 1) (hc : HasC n w f c) (hk : k ≤ pcs n w) (h : ∀ a b d e i, P (co (lo (pcs n w) (cov n w f)) (pcs n w - k)) a b d e i) : M_X5_coefficient (nI k) (nI (pcs n w)) cl ss cs es c cf P := by
  have hN : pcs n w ≤ 8 := Nat.le_trans pcs_le ho.2.1
  refine s_X5_measureLoops ho hw hc (by omega) (fun s' c1 e' cl' hs => And.intro (vp_in_nI (n := 0) (by omega) (by omega)) ?_)
  refine LP2_ix (fun j a b => a = nI (j + 1) ∧ ∀ i, i ≤ j → b i = co (lo (pcs n w) (cov n w f)) i) (pcs n w) ?_ 0 _ _ (Nat.zero_le _) ⟨rfl, fun i hi => ?_⟩
  · rintro K j a b hj ⟨rfl, hb⟩ hK
    refine pk_lt (pcs n w) (j + 1) (fun c2 => ?_) (fun c2 => ?_)
    · have e : nI (pcs n w) - nI k = nI (pcs n w - k) := pk_sub hk
      rw [e]
      refine And.intro (vp_in_nI (by omega) (by omega)) ?_
      rw [nI_clamp (by omega), hb _ (by omega)]
      exact h _ _ _ _ _
    · refine LP2_ix (fun i a b2 => a = csum (co (lo (pcs n w) (cov n w f))) (lo (pcs n w) (cov n w f)) (j + 1) i ∧ b2 = nI (i + 1)) (j + 1) ?_ 0 _ _ (Nat.zero_le _) ⟨rfl, rfl⟩
      rintro K2 i a b2 hi ⟨rfl, rfl⟩ hK2
      refine pk_lt (j + 1) (i + 1) (fun c3 => ?_) (fun c3 => ?_)
      · have e : i = j + 1 := by omega
        subst e
        refine And.intro ?_ (And.intro (vp_in_nI (by omega) (by omega)) (hK _ _ (by omega) ⟨nI_1 _, fun i hi => ?_⟩))
        · rw [nI_l (by omega), lN_z (by omega)]; omega
        · rw [nI_clamp (by omega)]
          by_cases e : i = j + 1
          · subst e; rw [pk_uLs, co_eq _ (by omega)]
          · rw [pk_uLn e]; exact hb i (by omega)
      · have e : nI (j + 1) - nI (i + 1) = nI (j + 1 - (i + 1)) := pk_sub (by omega)
        rw [e]
        refine And.intro (vp_in_nI (by omega) (by omega)) (And.intro (vp_in_nI (by omega) (by omega)) ?_)
        rintro y rfl
        refine hK2 _ _ (by omega) ⟨?_, nI_1 _⟩
        rw [nI_clamp (by omega), nI_clamp (by omega), hb _ (by omega), (hs (i + 1) (by omega) (by omega)).2]
        rfl
  · have e : i = 0 := by omega
    subst e
    exact pk_uLs
theorem s_X8_polynomial {x y1 y2 : Int32} {cl ss cs es cf : Nat → Int64} {P : Int64 → Int32 → Int32 → (Nat → Int32) → (Nat → Int64) → (Nat → Int64) → (Nat → Int64) → (Nat → Int64) → (Nat → Int64) → Prop} (ho : OkL n f) (hw : w ≤ 1) (hg : HasL n f g) (h : ∀ a b c d e i j k, P (a_poly n w f x) a b c d e i j k) : M_X8_polynomial x (nI w) (nI n) y1 y2 g c cl ss cs es cf P := by
  have hN : pcs n w ≤ 8 := Nat.le_trans pcs_le ho.2.1
  unfold a_poly at h
  refine s_X5_learn ho hw hg (fun F c' hF hc => ?_)
  refine br_c (fun q => ?_) (fun q1 => br_c (fun q2 => ?_) (fun q => ?_))
  · rw [if_pos (Or.inl q)] at h; exact h _ _ _ _ _ _ _ _
  · have q3 : ¬ nI (pcs n w) < x := fun z => (fa_of_lt z).2.1 q2
    rw [if_neg (by rintro (z | z); exact q1 z; exact q3 z)] at h
    obtain ⟨k, -, hk, rfl⟩ := in_rng 0 (pcs n w) q1 q3
    rw [nI_clamp (by omega)] at h
    exact s_X5_coefficient ho hw hc hk (fun a b d e i => h _ _ _ _ _ _ _ _)
  · rw [if_pos (Or.inr (fa_of_nle q))] at h; exact h _ _ _ _ _ _ _ _
theorem s_X9_polynomial {x : Int32} {ps ts : Nat → Int64} {P : Int64 → (Nat → Int64) → (Nat → Int64) → Prop} (ho : OkL n f) (hw : w ≤ 1) (hg : HasL n f g) (h : ∀ d e, P (a_poly n w f x) d e) : M_X9_polynomial x (nI w) (nI n) ps ts g P := by
  have h2 := ho.1
  have hN : pcs n w ≤ 8 := Nat.le_trans pcs_le ho.2.1
  unfold a_poly at h
  refine s_X9_pieces (by omega) hw ?_
  refine s_in (a := 0) (b := nI (pcs n w)) rfl rfl (fun q => br_t rfl ?_) (fun q1 q3 => br_f (by decide) ?_)
  · rw [if_pos q] at h; exact h _ _
  rw [if_neg (by rintro (z | z); exact q1 z; exact q3 z)] at h
  obtain ⟨k, -, hk, rfl⟩ := in_rng 0 (pcs n w) q1 q3
  rw [nI_clamp (by omega)] at h
  refine LP2_ix (fun i a b => a = nI i ∧ ∀ c, c < i → b c = if c / 8 = c % 8 then 1 else 0) 64 ?_ 0 _ _ (Nat.zero_le _) ⟨rfl, fun p hp => absurd hp (Nat.not_lt_zero p)⟩
  rintro K i a b hi ⟨rfl, hb⟩ hK
  refine pk_le 64 i (fun c1 => ?_) (fun c1 => ?_)
  · have e : i = 64 := by omega
    subst e
    refine LP4_ix (fun s a b t _ => a = co (lo (pcs n w) (cov n w f)) s ∧ b = nI (s + 1) ∧ ∀ p, p < pcs n w → ∀ q, q < pcs n w → t (8 * p + q) = tb (pcs n w) (cov n w f) s p q) (pcs n w - k) ?_ 0 _ _ _ _ (Nat.zero_le _) ⟨rfl, rfl, fun p hp q hq => ?_⟩
    · rintro K s a b t pd hs ⟨rfl, rfl, ht⟩ hK
      refine pk_lt (pcs n w - k) (s + 1) (fun c2 => ?_) (fun c2 => ?_) (pk_sub hk)
      · have e : s = pcs n w - k := by omega
        subst e
        exact h _ _
      · refine LP3_ix (fun p a b d => a = sL (fun p => pr (pcs n w) (cov n w f) s p p) p ∧ b = nI p ∧ ∀ p', p' < p → ∀ q, q < pcs n w → d (8 * p' + q) = pr (pcs n w) (cov n w f) s p' q) (pcs n w) ?_ 0 _ _ _ (Nat.zero_le _) ⟨rfl, rfl, fun p hp => absurd hp (Nat.not_lt_zero p)⟩
        rintro K3 p a b d hp ⟨rfl, rfl, hd⟩ hK3
        refine pk_le (pcs n w) p (fun c3 => ?_) (fun c3 => ?_)
        · have e : p = pcs n w := by omega
          subst e
          rw [pr_tr, ← co_eq _ (show 1 ≤ s + 1 by omega)]
          refine And.intro (by rw [nI_l (by omega), lN_z (by omega)]; omega) ?_
          refine LP2_ix (fun p a t' => a = nI p ∧ (∀ p', p' < p → ∀ q, q < pcs n w → t' (8 * p' + q) = tb (pcs n w) (cov n w f) (s + 1) p' q)) (pcs n w) ?_ 0 _ _ (Nat.zero_le _) ⟨rfl, fun p hp => absurd hp (Nat.not_lt_zero p)⟩
          rintro K4 p a t' hp ⟨rfl, ht'⟩ hK4
          refine pk_le (pcs n w) p (fun c4 => ?_) (fun c4 => ?_)
          · have e : p = pcs n w := by omega
            subst e
            exact hK _ _ _ _ (by omega) ⟨rfl, nI_1 _, ht'⟩
          · refine LP2_ix (fun q a t' => a = nI q ∧ (∀ p', p' < p → ∀ q, q < pcs n w → t' (8 * p' + q) = tb (pcs n w) (cov n w f) (s + 1) p' q) ∧ ∀ q', q' < q → t' (8 * p + q') = tb (pcs n w) (cov n w f) (s + 1) p q') (pcs n w) ?_ 0 _ _ (Nat.zero_le _) ⟨rfl, ht', fun p hp => absurd hp (Nat.not_lt_zero p)⟩
            rintro K5 q a t' hq ⟨rfl, h1, h2⟩ hK5
            refine pk_le (pcs n w) q (fun c5 => ?_) (fun c5 => ?_)
            · have e : q = pcs n w := by omega
              subst e
              refine hK4 _ _ c4 ⟨nI_1 p, fun p' hp' q hq => ?_⟩
              rcases Nat.lt_or_ge p' p with z | z
              · exact h1 p' z q hq
              · rw [show p' = p by omega]; exact h2 q hq
            · rw [e8]
              refine And.intro (vp_in_nI (by omega) (by omega)) ?_
              have fin : ∀ y, y = tb (pcs n w) (cov n w f) (s + 1) p q → K5 (nI q + 1) (vp_updL t' (nI (8 * p + q)).toNatClampNeg y) := by
                rintro y rfl
                refine hK5 _ _ c5 ⟨nI_1 q, fun p' hp' q' hq' => ?_, fun q' hq' => ?_⟩
                · rw [nI_clamp (by omega), pk_uLn (by omega)]; exact h1 p' hp' q' hq'
                · rw [nI_clamp (by omega)]
                  by_cases e : q' = q
                  · subst e; rw [pk_uLs]
                  · rw [pk_uLn (by omega)]; exact h2 q' (by omega)
              refine pk_eq p q (fun c6 => ?_) (fun c6 => ?_)
              · rintro y rfl
                refine And.intro (vp_in_nI (by omega) (by omega)) (fin _ ?_)
                rw [nI_clamp (by omega), hd p c4 q c5, ← pr_tb, if_pos c6]
              · rintro y rfl
                refine And.intro (vp_in_nI (by omega) (by omega)) (fin _ ?_)
                rw [nI_clamp (by omega), hd p c4 q c5, ← pr_tb, if_neg c6]
        · refine s_X9_coversOf ho hw hg c3 ?_
          have h256 := cov_256 ho hw c3
          refine LP3_ix (fun q a b d => a = sL (fun p => pr (pcs n w) (cov n w f) s p p) p + (if p < q then pr (pcs n w) (cov n w f) s p p else 0) ∧ b = nI q ∧ (∀ p', p' < p → ∀ q, q < pcs n w → d (8 * p' + q) = pr (pcs n w) (cov n w f) s p' q) ∧ ∀ q', q' < q → d (8 * p + q') = pr (pcs n w) (cov n w f) s p q') (pcs n w) ?_ 0 _ _ _ (Nat.zero_le _) ⟨by rw [if_neg (by omega), i64_a0], rfl, hd, fun p hp => absurd hp (Nat.not_lt_zero p)⟩
          rintro K4 q a b d hq ⟨rfl, rfl, hd1, hd2⟩ hK4
          refine pk_le (pcs n w) q (fun c4 => ?_) (fun c4 => ?_)
          · have e : q = pcs n w := by omega
            subst e
            refine hK3 _ _ _ c3 ⟨by rw [if_pos c3, sL], nI_1 p, fun p' hp' q hq => ?_⟩
            rcases Nat.lt_or_ge p' p with z | z
            · exact hd1 p' z q hq
            · rw [show p' = p by omega]; exact hd2 q hq
          · refine LP2_ix (fun j a b2 => a = sL (fun j => if (cov n w f p).testBit j then tb (pcs n w) (cov n w f) s j q else 0) j ∧ b2 = nI j) (pcs n w) ?_ 0 _ _ (Nat.zero_le _) ⟨rfl, rfl⟩
            rintro K6 j a b2 hj ⟨rfl, rfl⟩ hK6
            refine pk_le (pcs n w) j (fun c5 => ?_) (fun c5 => ?_)
            · have e : j = pcs n w := by omega
              subst e
              rw [e8]
              refine And.intro (vp_in_nI (by omega) (by omega)) ?_
              have ev : sL (fun j => if (cov n w f p).testBit j then tb (pcs n w) (cov n w f) s j q else 0) (pcs n w) = pr (pcs n w) (cov n w f) s p q := rfl
              rw [ev]
              have fin : ∀ S, S = sL (fun p => pr (pcs n w) (cov n w f) s p p) p + (if p < q + 1 then pr (pcs n w) (cov n w f) s p p else 0) → K4 S (nI q + 1) (vp_updL d (nI (8 * p + q)).toNatClampNeg (pr (pcs n w) (cov n w f) s p q)) := by
                rintro S rfl
                refine hK4 _ _ _ c4 ⟨rfl, nI_1 q, fun p' hp' q' hq' => ?_, fun q' hq' => ?_⟩
                · rw [nI_clamp (by omega), pk_uLn (by omega)]; exact hd1 p' hp' q' hq'
                · rw [nI_clamp (by omega)]
                  by_cases e : q' = q
                  · subst e; rw [pk_uLs]
                  · rw [pk_uLn (by omega)]; exact hd2 q' (by omega)
              refine pk_eq p q (fun c6 => ?_) (fun c6 => ?_)
              · subst c6
                exact fin _ (by rw [if_neg (by omega), if_pos (by omega), i64_a0])
              · refine fin _ ?_
                rw [i64_a0]
                by_cases z : p < q
                · rw [if_pos z, if_pos (by omega)]
                · rw [if_neg z, if_neg (by omega)]
            · have e1 : (nI (cov n w f p) >>> (nI j &&& 31)) &&& (1 : Int32) = nI (if (cov n w f p).testBit j then 1 else 0) := z_bit _ h256 j (by omega)
              refine br_c (fun c6 => ?_) (fun c6 => ?_)
              · rw [e1] at c6
                have hb : (cov n w f p).testBit j = false := by
                  cases hb : (cov n w f p).testBit j with
                  | false => rfl
                  | true => rw [hb] at c6; exact absurd c6 (by decide)
                exact hK6 _ _ c5 ⟨by rw [sL, boolif_f hb], nI_1 j⟩
              · rw [e1] at c6
                have hb : (cov n w f p).testBit j = true := by
                  cases hb : (cov n w f p).testBit j with
                  | true => rfl
                  | false => rw [hb] at c6; exact absurd rfl c6
                rw [e8]
                refine And.intro (vp_in_nI (by omega) (by omega)) ?_
                rintro y rfl
                refine hK6 _ _ c5 ⟨?_, nI_1 j⟩
                rw [nI_clamp (by omega), ht j c5 q c4, sL, boolif_t hb]
    · rw [hb _ (by omega), tb_0]
      rw [show (8 * p + q) / 8 = p by omega, show (8 * p + q) % 8 = q by omega]
  · have eD : nI i / (8 : Int32) = nI (i / 8) := pk_div (d := 8) (by omega) (by omega) (by omega)
    have eM : nI i - nI i / (8 : Int32) * (8 : Int32) = nI (i % 8) := pk_rem (d := 8) (by omega) (by omega) (by omega)
    refine pk_eq (i / 8) (i % 8) (fun c2 => ?_) (fun c2 => ?_) eD eM
    · refine And.intro (vp_in_nI (by omega) (by omega)) (hK _ _ c1 ⟨nI_1 i, ?_⟩)
      intro p hp
      rw [nI_clamp (by omega)]
      by_cases e : p = i
      · subst e; rw [pk_uLs, if_pos c2]
      · rw [pk_uLn e]; exact hb p (by omega)
    · refine And.intro (vp_in_nI (by omega) (by omega)) (hK _ _ c1 ⟨nI_1 i, ?_⟩)
      intro p hp
      rw [nI_clamp (by omega)]
      by_cases e : p = i
      · subst e; rw [pk_uLs, if_neg c2]
      · rw [pk_uLn e]; exact hb p (by omega)
end PO
