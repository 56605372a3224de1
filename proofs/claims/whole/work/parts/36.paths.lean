/-! paths and loops, counted: one sum for both sides, in the same order -/
def sL (f : Nat → Int64) : Nat → Int64
  | 0 => 0
  | k + 1 => sL f k + f k
theorem sL_cong {f g : Nat → Int64} : ∀ {n : Nat}, (∀ k, k < n → f k = g k) → sL f n = sL g n
  | 0, _ => rfl
  | n + 1, h => by rw [sL, sL, sL_cong (fun k hk => h k (by omega)), h n (by omega)]
/-- one step on: the sum of what a piece covers -/
def nx (N : Nat) (C : Nat → Nat) (V : Nat → Int64) (p : Nat) : Int64 := sL (fun j => if (C p).testBit j then V j else 0) N
theorem nx_cong {N : Nat} {C : Nat → Nat} {V V' : Nat → Int64} (h : ∀ j, j < N → V j = V' j) (p : Nat) : nx N C V p = nx N C V' p :=
  sL_cong fun k hk => by rw [h k hk]
def pv (N : Nat) (C : Nat → Nat) (q : Nat) : Nat → Nat → Int64
  | 0 => fun p => if p = q then 1 else 0
  | k + 1 => nx N C (pv N C q k)
def lo (N : Nat) (C : Nat → Nat) (m : Nat) : Int64 := sL (fun p => pv N C p m p) N
/-- the sum over the divisors among 1 .. k -/
def rp (s : Nat → Int64) (m : Nat) : Nat → Int64
  | 0 => 0
  | k + 1 => rp s m k + (if m % (k + 1) = 0 then s (k + 1) else 0)
theorem rp_cong {s s' : Nat → Int64} {m : Nat} : ∀ {k : Nat}, (∀ j, 1 ≤ j → j ≤ k → s j = s' j) → rp s m k = rp s' m k
  | 0, _ => rfl
  | k + 1, h => by rw [rp, rp, rp_cong (fun j h1 h2 => h j h1 (by omega)), h (k + 1) (by omega) (by omega)]
def soF (N : Nat) (C : Nat → Nat) : Nat → Nat → Int64
  | 0 => fun _ => 0
  | d + 1 => fun m => lo N C m - rp (soF N C d) m (m - 1)
theorem soF_fuel (N : Nat) (C : Nat → Nat) : ∀ d d' m, m < d → m < d' → soF N C d m = soF N C d' m
  | 0, _, _, h, _ => absurd h (Nat.not_lt_zero _)
  | _ + 1, 0, _, _, h => absurd h (Nat.not_lt_zero _)
  | d + 1, d' + 1, m, h, h' => by
    show lo N C m - rp (soF N C d) m (m - 1) = lo N C m - rp (soF N C d') m (m - 1)
    rw [rp_cong (fun j h1 h2 => soF_fuel N C d d' j (by omega) (by omega))]
def so (N : Nat) (C : Nat → Nat) (m : Nat) : Int64 := soF N C (m + 1) m
theorem so_eq (N : Nat) (C : Nat → Nat) (m : Nat) : so N C m = lo N C m - rp (so N C) m (m - 1) := by
  show lo N C m - rp (soF N C m) m (m - 1) = _
  rw [rp_cong (fun j h1 h2 => soF_fuel N C m (j + 1) j (by omega) (by omega))]
  rfl
theorem i64_ss (x a b : Int64) : x - (a + b) = x - a - b := by
  first
    | exact Int64.sub_add_eq _ _ _
    | grind
    | (rw [Int64.sub_eq_add_neg, Int64.neg_add, Int64.sub_eq_add_neg, Int64.sub_eq_add_neg, Int64.add_assoc])
    | (rw [Int64.sub_eq_add_neg, Int64.neg_add, Int64.sub_eq_add_neg, Int64.sub_eq_add_neg, ← Int64.add_assoc])
theorem i64_a0 (x : Int64) : x + 0 = x := Int64.add_zero x
theorem i64_s0 (x : Int64) : x - 0 = x := Int64.sub_zero x
section PV
variable {n w : Nat} {f : Nat → Nat} {g c : Nat → Int32}
theorem s_X5_countOn {V cs es : Nat → Int64} {c : Nat → Int32} {P : (Nat → Int64) → (Nat → Int64) → Prop} (ho : OkL n f) (hw : w ≤ 1) (hc : HasC n w f c) (hV : ∀ p, p < pcs n w → cs p = V p) (h : ∀ e' c', (∀ p, p < pcs n w → e' p = V p) → (∀ p, p < pcs n w → c' p = nx (pcs n w) (cov n w f) V p) → P e' c') : M_X5_countOn cs es (nI (pcs n w)) c P := by
  have hN : pcs n w ≤ 8 := Nat.le_trans pcs_le ho.2.1
  refine And.intro cpy_c8 ?_
  have he : ∀ p, p < pcs n w → va_cpy cs es (0 : Int32).toNatClampNeg (0 : Int32).toNatClampNeg (8 : Int32).toNatClampNeg p = V p := by
    intro p hp
    rw [show (0 : Int32).toNatClampNeg = 0 from rfl, show (8 : Int32).toNatClampNeg = 8 from rfl, pk_cpy_in (by omega) (by omega), show 0 + (p - 0) = p by omega, hV p hp]
  refine LP2_ix (fun i a b => a = nI i ∧ ∀ p, p < i → b p = nx (pcs n w) (cov n w f) V p) (pcs n w) ?_ 0 _ _ (Nat.zero_le _) ⟨rfl, fun p hp => absurd hp (Nat.not_lt_zero p)⟩
  rintro K i a b hi ⟨rfl, hb⟩ hK
  refine pk_le (pcs n w) i (fun c1 => ?_) (fun c1 => ?_)
  · have e : i = pcs n w := by omega
    subst e
    exact h _ _ he hb
  · refine LP2_ix (fun j a b => a = sL (fun j => if (cov n w f i).testBit j then V j else 0) j ∧ b = nI j) (pcs n w) ?_ 0 _ _ (Nat.zero_le _) ⟨rfl, rfl⟩
    rintro K2 j a b2 hj ⟨rfl, rfl⟩ hK2
    refine pk_le (pcs n w) j (fun c2 => ?_) (fun c2 => ?_)
    · have e : j = pcs n w := by omega
      subst e
      refine And.intro (vp_in_nI (by omega) (by omega)) (hK _ _ c1 ⟨nI_1 i, ?_⟩)
      intro p hp
      rw [nI_clamp (by omega)]
      by_cases e : p = i
      · subst e; rw [pk_uLs]; rfl
      · rw [pk_uLn e]; exact hb p (by omega)
    · refine s_X5_isCovered ho hw hc c1 (by omega) ?_
      cases hb : (cov n w f i).testBit j with
      | false => exact br_t rfl (hK2 _ _ c2 ⟨by rw [sL, boolif_f hb], nI_1 j⟩)
      | true =>
        refine br_f (by decide) (And.intro (vp_in_nI (by omega) (by omega)) (hK2 _ _ c2 ⟨?_, nI_1 j⟩))
        rw [nI_clamp (by omega), he j c2, sL, boolif_t hb]
theorem s_X5_startAt {q : Nat} {cs : Nat → Int64} {P : (Nat → Int64) → Prop} (hq : q < 8) (h : ∀ c', (∀ p, p < 8 → c' p = if p = q then 1 else 0) → P c') : M_X5_startAt (nI q) cs P := by
  refine LP2_ix (fun i a b => a = nI i ∧ ∀ p, p < i → b p = if p = q then 1 else 0) 8 ?_ 0 _ _ (Nat.zero_le _) ⟨rfl, fun p hp => absurd hp (Nat.not_lt_zero p)⟩
  rintro K i a b hi ⟨rfl, hb⟩ hK
  refine pk_le 8 i (fun c1 => ?_) (fun c1 => ?_)
  · exact h _ (fun p hp => hb p (by omega))
  · refine pk_eq i q (fun c2 => ?_) (fun c2 => ?_)
    · refine And.intro (vp_in_nI (by omega) (by omega)) (hK _ _ c1 ⟨nI_1 i, ?_⟩)
      intro p hp
      rw [nI_clamp (by omega)]
      by_cases e : p = i
      · subst e; rw [pk_uLs, if_pos c2]
      · rw [pk_uLn e]; exact hb p (by omega)
    · refine And.intro (vp_in_nI (by omega) (by omega)) (hK _ _ c1 ⟨nI_1 i, ?_⟩)
      intro p hp
      rw [nI_clamp (by omega)]
      by_cases e : p = i
      · subst e; rw [pk_uLs, if_neg c2]
      · rw [pk_uLn e]; exact hb p (by omega)
def a_paths (n w : Nat) (f : Nat → Nat) (x1 x2 x3 : Int32) : Int64 := if (x1 < 0 ∨ nI (pcs n w) ≤ x1) ∨ (x2 < 0 ∨ nI (pcs n w) ≤ x2) ∨ (x3 < 0 ∨ 30 < x3) then -9223372036854775808 else pv (pcs n w) (cov n w f) x2.toNatClampNeg x3.toNatClampNeg x1.toNatClampNeg
theorem s_X8_paths {x1 x2 x3 y1 y2 : Int32} {cs es : Nat → Int64} {P : Int64 → Int32 → Int32 → (Nat → Int32) → (Nat → Int64) → (Nat → Int64) → Prop} (ho : OkL n f) (hw : w ≤ 1) (hg : HasL n f g) (h : ∀ a b c d e, P (a_paths n w f x1 x2 x3) a b c d e) : M_X8_paths x1 x2 x3 (nI w) (nI n) y1 y2 g c cs es P := by
  have hn := ho.2.1
  have hN : pcs n w ≤ 8 := Nat.le_trans pcs_le hn
  refine s_X5_learn ho hw hg (fun F c' hF hc => ?_)
  refine s_X5_holds hN (fun q => br_t rfl ?_) (fun p hp e1 => br_f (by decide) ?_)
  · have h := h (nI (pcs n w)) (nI F) c' cs es
    rw [a_paths, if_pos (Or.inl q)] at h; exact h
  refine s_X5_holds hN (fun q => br_t rfl ?_) (fun o hq e2 => br_f (by decide) ?_)
  · have h := h (nI (pcs n w)) (nI F) c' cs es
    rw [a_paths, if_pos (Or.inr (Or.inl q))] at h; exact h
  refine br_c (fun q => ?_) (fun q3 => br_c (fun q4 => ?_) (fun q => ?_))
  · have h := h (nI (pcs n w)) (nI F) c' cs es
    rw [a_paths, if_pos (Or.inr (Or.inr (Or.inl q)))] at h; exact h
  · have q5 : ¬ (30 : Int32) < x3 := fun z => (fa_of_lt z).2.1 q4
    obtain ⟨k, -, hk, rfl⟩ := in_rng 0 30 q3 q5
    subst e1; subst e2
    rw [a_paths, if_neg (by rintro (z | z | z); exact pt_yes hp (by omega) z; exact pt_yes hq (by omega) z; exact z.elim q3 q5), nI_clamp (by omega), nI_clamp (by omega), nI_clamp (by omega)] at h
    refine s_X5_startAt (by omega) (fun c1 hc1 => ?_)
    refine LP3_ix (fun i a b d => a = nI i ∧ ∀ p, p < pcs n w → b p = pv (pcs n w) (cov n w f) o i p) k ?_ 0 _ _ _ (Nat.zero_le _) ⟨rfl, fun p hp => hc1 p (by omega)⟩
    rintro K i a b d hi ⟨rfl, hb⟩ hK
    refine pk_le k i (fun c2 => ?_) (fun c2 => ?_)
    · have e : i = k := by omega
      subst e
      refine And.intro (vp_in_nI (by omega) (by omega)) ?_
      rw [nI_clamp (by omega), hb p hp]
      exact h _ _ _ _ _
    · exact s_X5_countOn ho hw hc hb (fun e' c' he hc' => hK _ _ _ c2 ⟨nI_1 i, hc'⟩)
  · have h := h (nI (pcs n w)) (nI F) c' cs es
    rw [a_paths, if_pos (Or.inr (Or.inr (Or.inr (fa_of_nle q))))] at h; exact h
/-! the reference's table of paths -/
def HasP (n w : Nat) (f : Nat → Nat) (k : Nat) (ps : Nat → Int64) : Prop := ∀ p, p < pcs n w → ∀ q, q < 8 → ps (8 * p + q) = pv (pcs n w) (cov n w f) q k p
theorem e8 (a b : Nat) : ((8 : Int32) * nI a) + nI b = nI (8 * a + b) := by rw [show (8 : Int32) = nI 8 from rfl, pk_mul, nI_add]
theorem s_X9_tellsPaths {k : Nat} {ms ps : Nat → Int64} {P : (Nat → Int64) → (Nat → Int64) → Prop} (ho : OkL n f) (hw : w ≤ 1) (hg : HasL n f g) (hk : k ≤ 30) (h : ∀ p' m', HasP n w f k p' → P p' m') : M_X9_tellsPaths (nI k) (nI w) (nI n) ms ps g P := by
  have h2 := ho.1
  have hN : pcs n w ≤ 8 := Nat.le_trans pcs_le ho.2.1
  refine LP2_ix (fun i a b => a = nI i ∧ ∀ c, c < i → b c = if c / 8 = c % 8 then 1 else 0) 64 ?_ 0 _ _ (Nat.zero_le _) ⟨rfl, fun p hp => absurd hp (Nat.not_lt_zero p)⟩
  rintro K i a b hi ⟨rfl, hb⟩ hK
  refine pk_le 64 i (fun c1 => ?_) (fun c1 => ?_)
  · have e : i = 64 := by omega
    subst e
    refine LP3_ix (fun t a b d => a = nI t ∧ HasP n w f t b) k ?_ 0 _ _ _ (Nat.zero_le _) ⟨rfl, fun p hp q hq => ?_⟩
    · rintro K t a b d ht ⟨rfl, hP⟩ hK
      refine pk_le k t (fun c2 => ?_) (fun c2 => ?_)
      · have e : t = k := by omega
        subst e
        exact h _ _ hP
      · refine LP2_ix (fun p a d => a = nI p ∧ ∀ p', p' < p → ∀ q, q < 8 → d (8 * p' + q) = pv (pcs n w) (cov n w f) q (t + 1) p') (pcs n w) ?_ 0 _ _ (Nat.zero_le _) ⟨rfl, fun p hp => absurd hp (Nat.not_lt_zero p)⟩
        rintro K3 p a d hp ⟨rfl, hd⟩ hK3
        refine s_X9_pieces (by omega) hw ?_
        refine pk_le (pcs n w) p (fun c3 => ?_) (fun c3 => ?_)
        · have e : p = pcs n w := by omega
          subst e
          refine LP2_ix (fun c a b' => a = nI c ∧ (∀ x, x < c → b' x = d x)) (8 * pcs n w) ?_ 0 _ _ (Nat.zero_le _) ⟨rfl, fun p hp => absurd hp (Nat.not_lt_zero p)⟩
          rintro K4 c a b' hc ⟨rfl, hb'⟩ hK4
          refine s_X9_pieces (by omega) hw ?_
          refine pk_le (8 * pcs n w) c (fun c4 => ?_) (fun c4 => ?_) (by rw [show (8 : Int32) = nI 8 from rfl, pk_mul])
          · refine hK _ _ _ c2 ⟨nI_1 t, fun p hp q hq => ?_⟩
            rw [hb' _ (by omega), hd p hp q hq]
          · refine And.intro (vp_in_nI (by omega) (by omega)) (And.intro (vp_in_nI (by omega) (by omega)) (hK4 _ _ c4 ⟨nI_1 c, ?_⟩))
            intro x hx
            rw [nI_clamp (by omega)]
            by_cases e : x = c
            · subst e; rw [pk_uLs]
            · rw [pk_uLn e]; exact hb' x (by omega)
        · refine s_X9_coversOf ho hw hg c3 ?_
          have h256 := cov_256 ho hw c3
          refine LP2_ix (fun q a d' => a = nI q ∧ (∀ p', p' < p → ∀ q, q < 8 → d' (8 * p' + q) = pv (pcs n w) (cov n w f) q (t + 1) p') ∧ ∀ q', q' < q → d' (8 * p + q') = pv (pcs n w) (cov n w f) q' (t + 1) p) 8 ?_ 0 _ _ (Nat.zero_le _) ⟨rfl, hd, fun p hp => absurd hp (Nat.not_lt_zero p)⟩
          rintro K5 q a d' hq ⟨rfl, hd1, hd2⟩ hK5
          refine pk_le 8 q (fun c4 => ?_) (fun c4 => ?_)
          · have e : q = 8 := by omega
            subst e
            refine hK3 _ _ c3 ⟨nI_1 p, fun p' hp' q hq => ?_⟩
            rcases Nat.lt_or_ge p' p with z | z
            · exact hd1 p' z q hq
            · rw [show p' = p by omega]; exact hd2 q hq
          · refine LP2_ix (fun j a b2 => a = sL (fun j => if (cov n w f p).testBit j then pv (pcs n w) (cov n w f) q t j else 0) j ∧ b2 = nI j) (pcs n w) ?_ 0 _ _ (Nat.zero_le _) ⟨rfl, rfl⟩
            rintro K6 j a b2 hj ⟨rfl, rfl⟩ hK6
            refine s_X9_pieces (by omega) hw ?_
            refine pk_le (pcs n w) j (fun c5 => ?_) (fun c5 => ?_)
            · have e : j = pcs n w := by omega
              subst e
              rw [e8]
              refine And.intro (vp_in_nI (by omega) (by omega)) (hK5 _ _ c4 ⟨nI_1 q, ?_, ?_⟩)
              · intro p' hp' q' hq'
                rw [nI_clamp (by omega), pk_uLn (by omega)]
                exact hd1 p' hp' q' hq'
              · intro q' hq'
                rw [nI_clamp (by omega)]
                by_cases e : q' = q
                · subst e; rw [pk_uLs]; rfl
                · rw [pk_uLn (by omega)]; exact hd2 q' (by omega)
            · have e1 : (nI (cov n w f p) >>> (nI j &&& 31)) &&& (1 : Int32) = nI (if (cov n w f p).testBit j then 1 else 0) := z_bit _ h256 j (by omega)
              refine br_c (fun c6 => ?_) (fun c6 => ?_)
              · rw [e1] at c6
                have hb : (cov n w f p).testBit j = false := by
                  cases hb : (cov n w f p).testBit j with
                  | false => rfl
                  | true => rw [hb] at c6; exact absurd c6 (by decide)
                exact hK6 _ _ c5 ⟨by rw [sL, boolif_f hb], nI_1 j⟩
              · rw [e1] at c6
                have hb : (cov n w f p).testBit j = true := by
                  cases hb : (cov n w f p).testBit j with
                  | true => rfl
                  | false => rw [hb] at c6; exact absurd rfl c6
                rw [e8]
                refine And.intro (vp_in_nI (by omega) (by omega)) (hK6 _ _ c5 ⟨?_, nI_1 j⟩)
                rw [nI_clamp (by omega), hP j c5 q c4, sL, boolif_t hb]
    · rw [hb _ (by omega)]
      show (if (8 * p + q) / 8 = (8 * p + q) % 8 then (1 : Int64) else 0) = if p = q then 1 else 0
      rw [show (8 * p + q) / 8 = p by omega, show (8 * p + q) % 8 = q by omega]
  · have eD : nI i / (8 : Int32) = nI (i / 8) := pk_div (d := 8) (by omega) (by omega) (by omega)
    have eM : nI i - nI i / (8 : Int32) * (8 : Int32) = nI (i % 8) := pk_rem (d := 8) (by omega) (by omega) (by omega)
    refine pk_eq (i / 8) (i % 8) (fun c2 => ?_) (fun c2 => ?_) eD eM
    · refine And.intro (vp_in_nI (by omega) (by omega)) (hK _ _ c1 ⟨nI_1 i, ?_⟩)
      intro p hp
      rw [nI_clamp (by omega)]
      by_cases e : p = i
      · subst e; rw [pk_uLs, if_pos c2]
      · rw [pk_uLn e]; exact hb p (by omega)
    · refine And.intro (vp_in_nI (by omega) (by omega)) (hK _ _ c1 ⟨nI_1 i, ?_⟩)
      intro p hp
      rw [nI_clamp (by omega)]
      by_cases e : p = i
      · subst e; rw [pk_uLs, if_neg c2]
      · rw [pk_uLn e]; exact hb p (by omega)
theorem s_X9_paths {x1 x2 x3 : Int32} {ms ps : Nat → Int64} {P : Int64 → (Nat → Int64) → (Nat → Int64) → Prop} (ho : OkL n f) (hw : w ≤ 1) (hg : HasL n f g) (h : ∀ d e, P (a_paths n w f x1 x2 x3) d e) : M_X9_paths x1 x2 x3 (nI w) (nI n) ms ps g P := by
  have hn := ho.2.1
  have hN : pcs n w ≤ 8 := Nat.le_trans pcs_le hn
  refine s_X9_isPiece ho.1 hn hw (fun q => br_t rfl ?_) (fun p hp e1 => br_f (by decide) ?_)
  · have h := h ps ms
    rw [a_paths, if_pos (Or.inl q)] at h; exact h
  refine s_X9_isPiece ho.1 hn hw (fun q => br_t rfl ?_) (fun o hq e2 => br_f (by decide) ?_)
  · have h := h ps ms
    rw [a_paths, if_pos (Or.inr (Or.inl q))] at h; exact h
  refine s_in (a := 0) (b := 30) rfl rfl (fun c => br_t rfl ?_) (fun q3 q5 => br_f (by decide) ?_)
  · have h := h ps ms
    rw [a_paths, if_pos (Or.inr (Or.inr c))] at h; exact h
  obtain ⟨k, -, hk, rfl⟩ := in_rng 0 30 q3 q5
  subst e1; subst e2
  rw [a_paths, if_neg (by rintro (z | z | z); exact pt_yes hp (by omega) z; exact pt_yes hq (by omega) z; exact z.elim q3 q5), nI_clamp (by omega), nI_clamp (by omega), nI_clamp (by omega)] at h
  refine s_X9_tellsPaths ho hw hg hk (fun p' m' hP => ?_)
  rw [e8]
  refine And.intro (vp_in_nI (by omega) (by omega)) ?_
  rw [nI_clamp (by omega), hP p hp o (by omega)]
  exact h _ _
theorem s_X9_loopsOf {k : Nat} {ms ps : Nat → Int64} {P : Int64 → (Nat → Int64) → (Nat → Int64) → Prop} (ho : OkL n f) (hw : w ≤ 1) (hg : HasL n f g) (hk : k ≤ 30) (h : ∀ d e, P (lo (pcs n w) (cov n w f) k) d e) : M_X9_loopsOf (nI k) (nI w) (nI n) ms ps g P := by
  have h2 := ho.1
  have hN : pcs n w ≤ 8 := Nat.le_trans pcs_le ho.2.1
  refine s_X9_tellsPaths ho hw hg hk (fun p' m' hP => ?_)
  refine LP2_ix (fun j a b2 => a = sL (fun p => pv (pcs n w) (cov n w f) p k p) j ∧ b2 = nI j) (pcs n w) ?_ 0 _ _ (Nat.zero_le _) ⟨rfl, rfl⟩
  rintro K j a b2 hj ⟨rfl, rfl⟩ hK
  refine s_X9_pieces (by omega) hw ?_
  refine pk_le (pcs n w) j (fun c5 => ?_) (fun c5 => ?_)
  · have e : j = pcs n w := by omega
    subst e
    exact h _ _
  · rw [e8]
    refine And.intro (vp_in_nI (by omega) (by omega)) (hK _ _ c5 ⟨?_, nI_1 j⟩)
    rw [nI_clamp (by omega), hP j c5 j (by omega), sL]
theorem rem_i {a b : Nat} (ha : a < 2 ^ 31) (hb : 0 < b) (hb2 : b < 2 ^ 31) {A B : Prop} (f : a % b = 0 → A) (g : a % b ≠ 0 → B) : ((nI a - nI a / nI b * nI b = 0) → A) ∧ (¬ (nI a - nI a / nI b * nI b = 0) → B) :=
  pk_eq (a % b) 0 f g (pk_rem ha hb hb2) rfl (Nat.lt_of_le_of_lt (Nat.mod_le _ _) ha) (by omega)
theorem s_X9_simpleOf (ho : OkL n f) (hw : w ≤ 1) (hg : HasL n f g) : ∀ d m (ms ps : Nat → Int64) (P : Int64 → (Nat → Int64) → (Nat → Int64) → Prop), m < d → 1 ≤ m → m ≤ 30 → (∀ d e, P (so (pcs n w) (cov n w f) m) d e) → M_X9_simpleOf d (nI m) (nI w) (nI n) ms ps g P
  | 0, _, _, _, _, h, _, _, _ => absurd h (Nat.not_lt_zero _)
  | d + 1, m, ms, ps, P, hd, h1, h30, h => by
    refine s_X9_loopsOf ho hw hg h30 (fun d1 e1 => ?_)
    refine LP4_ix (fun i a b _ _ => a = lo (pcs n w) (cov n w f) m - rp (so (pcs n w) (cov n w f)) m i ∧ b = nI (i + 1)) (m - 1) ?_ 0 _ _ _ _ (Nat.zero_le _) ⟨(i64_s0 _).symm, rfl⟩
    rintro K i a b d2 e2 hi ⟨rfl, rfl⟩ hK
    refine pk_le m (i + 1) (fun c => ?_) (fun c => ?_)
    · rw [show i = m - 1 by omega, ← so_eq]
      exact h _ _
    · refine And.intro (nI_ne0 (by omega) (by omega)) (rem_i (by omega) (by omega) (by omega) (fun q => ?_) (fun q => ?_))
      · refine s_X9_simpleOf ho hw hg d (i + 1) _ _ _ (by omega) (by omega) (by omega) (fun d3 e3 => hK _ _ _ _ (by omega) ⟨?_, nI_1 _⟩)
        rw [rp, if_pos q, i64_ss]
      · refine hK _ _ _ _ (by omega) ⟨?_, nI_1 _⟩
        rw [rp, if_neg q, i64_ss]
/-! the class's loops -/
theorem s_X5_repeated {m : Nat} {ss : Nat → Int64} {P : Int64 → Prop} (h1 : 1 ≤ m) (h30 : m ≤ 30) (h : P (rp ss m (m - 1))) : M_X5_repeatedLoops (nI m) ss P := by
  refine LP2_ix (fun i a b => a = rp ss m i ∧ b = nI (i + 1)) (m - 1) ?_ 0 _ _ (Nat.zero_le _) ⟨rfl, rfl⟩
  rintro K i a b hi ⟨rfl, rfl⟩ hK
  refine pk_le m (i + 1) (fun c => ?_) (fun c => ?_)
  · rw [show i = m - 1 by omega]; exact h
  · refine And.intro (nI_ne0 (by omega) (by omega)) (rem_i (by omega) (by omega) (by omega) (fun q => ?_) (fun q => ?_))
    · refine And.intro (vp_in_nI (by omega) (by omega)) (hK _ _ (by omega) ⟨?_, nI_1 _⟩)
      rw [nI_clamp (by omega), rp, if_pos q]
    · exact hK _ _ (by omega) ⟨by rw [rp, if_neg q], nI_1 _⟩
theorem s_X5_measureLoops {l : Nat} {cl ss cs es : Nat → Int64} {P : (Nat → Int64) → (Nat → Int64) → (Nat → Int64) → (Nat → Int64) → Prop} (ho : OkL n f) (hw : w ≤ 1) (hc : HasC n w f c) (hl : l ≤ 30) (h : ∀ s' c' e' cl', (∀ m, 1 ≤ m → m ≤ l → s' m = so (pcs n w) (cov n w f) m ∧ cl' m = lo (pcs n w) (cov n w f) m) → P s' c' e' cl') : M_X5_measureLoops (nI l) (nI (pcs n w)) cl ss cs es c P := by
  have hN : pcs n w ≤ 8 := Nat.le_trans pcs_le ho.2.1
  refine LP2_ix (fun i a b => a = nI (i + 1) ∧ ∀ m, 1 ≤ m → m ≤ i → b m = 0) l ?_ 0 _ _ (Nat.zero_le _) ⟨rfl, fun m h1 h2 => by omega⟩
  rintro K i a b hi ⟨rfl, hb⟩ hK
  refine pk_lt l (i + 1) (fun c1 => ?_) (fun c1 => ?_)
  · have e : i = l := by omega
    subst e
    refine LP4_ix (fun p a _ _ b => a = nI p ∧ ∀ m, 1 ≤ m → m ≤ i → b m = sL (fun p => pv (pcs n w) (cov n w f) p m p) p) (pcs n w) ?_ 0 _ _ _ _ (Nat.zero_le _) ⟨rfl, hb⟩
    rintro K p a c2 e2 b hp ⟨rfl, hb⟩ hK
    refine pk_le (pcs n w) p (fun c3 => ?_) (fun c3 => ?_)
    · have e : p = pcs n w := by omega
      subst e
      refine LP2_ix (fun t a s => a = nI (t + 1) ∧ ∀ m, 1 ≤ m → m ≤ t → s m = so (pcs n w) (cov n w f) m) i ?_ 0 _ _ (Nat.zero_le _) ⟨rfl, fun m h1 h2 => by omega⟩
      rintro K t a s ht ⟨rfl, hs⟩ hK
      refine pk_lt i (t + 1) (fun c4 => ?_) (fun c4 => ?_)
      · refine h _ _ _ _ (fun m h1 h2 => ⟨hs m h1 (by omega), hb m h1 h2⟩)
      · refine And.intro (vp_in_nI (by omega) (by omega)) (s_X5_repeated (by omega) (by omega) (And.intro (vp_in_nI (by omega) (by omega)) (hK _ _ (by omega) ⟨nI_1 _, ?_⟩)))
        intro m h1 h2
        rw [nI_clamp (by omega)]
        by_cases e : m = t + 1
        · subst e
          rw [pk_uLs, hb _ (by omega) (by omega), so_eq, rp_cong (fun j j1 j2 => hs j j1 (by omega))]; rfl
        · rw [pk_uLn e]; exact hs m h1 (by omega)
    · refine s_X5_startAt (by omega) (fun c4 hc4 => ?_)
      refine LP4_ix (fun t a cc _ b => a = nI (t + 1) ∧ (∀ q, q < pcs n w → cc q = pv (pcs n w) (cov n w f) p t q) ∧ ∀ m, 1 ≤ m → m ≤ i → b m = if m ≤ t then sL (fun p => pv (pcs n w) (cov n w f) p m p) (p + 1) else sL (fun p => pv (pcs n w) (cov n w f) p m p) p) i ?_ 0 _ _ _ _ (Nat.zero_le _) ⟨rfl, fun q hq => hc4 q (by omega), fun m h1 h2 => by rw [if_neg (by omega)]; exact hb m h1 h2⟩
      rintro K2 t a cc ee b2 ht ⟨rfl, hcc, hb2⟩ hK2
      refine pk_lt i (t + 1) (fun c5 => ?_) (fun c5 => ?_)
      · refine hK _ _ _ _ c3 ⟨nI_1 p, fun m h1 h2 => ?_⟩
        rw [hb2 m h1 h2, if_pos (by omega)]
      · refine s_X5_countOn ho hw hc hcc (fun e' c' he hc' => ?_)
        refine And.intro (vp_in_nI (by omega) (by omega)) (And.intro (vp_in_nI (by omega) (by omega)) (And.intro (vp_in_nI (by omega) (by omega)) (hK2 _ _ _ _ (by omega) ⟨nI_1 _, hc', ?_⟩)))
        intro m h1 h2
        rw [nI_clamp (by omega), nI_clamp (by omega)]
        by_cases e : m = t + 1
        · subst e
          rw [pk_uLs, hb2 _ h1 h2, if_neg (by omega), if_pos (Nat.le_refl _), hc' p c3]; rfl
        · rw [pk_uLn e, hb2 m h1 h2]
          by_cases z : m ≤ t
          · rw [if_pos z, if_pos (by omega)]
          · rw [if_neg z, if_neg (by omega)]
  · refine And.intro (vp_in_nI (by omega) (by omega)) (hK _ _ (by omega) ⟨nI_1 _, ?_⟩)
    intro m h1 h2
    rw [nI_clamp (by omega)]
    by_cases e : m = i + 1
    · subst e; rw [pk_uLs]
    · rw [pk_uLn e]; exact hb m h1 (by omega)
def a_loops (n w : Nat) (f : Nat → Nat) (x1 x2 : Int32) : Int64 := if (x1 < 1 ∨ 30 < x1) ∨ (x2 < 0 ∨ 1 < x2) then -9223372036854775808 else if x2 = 0 then lo (pcs n w) (cov n w f) x1.toNatClampNeg else so (pcs n w) (cov n w f) x1.toNatClampNeg
theorem s_X8_loops {x1 x2 y1 y2 : Int32} {cl ss cs es : Nat → Int64} {P : Int64 → Int32 → Int32 → (Nat → Int32) → (Nat → Int64) → (Nat → Int64) → (Nat → Int64) → (Nat → Int64) → Prop} (ho : OkL n f) (hw : w ≤ 1) (hg : HasL n f g) (h : ∀ a b c d e i j, P (a_loops n w f x1 x2) a b c d e i j) : M_X8_loops x1 x2 (nI w) (nI n) y1 y2 g c cl ss cs es P := by
  refine br_c (fun q => ?_) (fun q1 => br_c (fun q => ?_) (fun q2 => br_c (fun q => ?_) (fun q3 => br_c (fun q4 => ?_) (fun q => ?_))))
  · rw [a_loops, if_pos (Or.inl (Or.inl q))] at h; exact h _ _ _ _ _ _ _
  · rw [a_loops, if_pos (Or.inl (Or.inr q))] at h; exact h _ _ _ _ _ _ _
  · rw [a_loops, if_pos (Or.inr (Or.inl q))] at h; exact h _ _ _ _ _ _ _
  · have q5 : ¬ (1 : Int32) < x2 := fun z => (fa_of_lt z).2.1 q4
    rw [a_loops, if_neg (by rintro ((z | z) | (z | z)); exact q1 z; exact q2 z; exact q3 z; exact q5 z)] at h
    obtain ⟨m, m1, m2, rfl⟩ := in_rng 1 30 q1 q2
    rw [nI_clamp (by omega)] at h
    refine s_X5_learn ho hw hg (fun F c' hF hc => s_X5_measureLoops ho hw hc m2 (fun s' c1 e' cl' hs => ?_))
    refine br_c (fun q => ?_) (fun q => ?_)
    · rw [if_pos q] at h
      refine And.intro (vp_in_nI (by omega) (by omega)) ?_
      rw [nI_clamp (by omega), (hs m m1 (Nat.le_refl m)).2]
      exact h _ _ _ _ _ _ _
    · rw [if_neg q] at h
      refine And.intro (vp_in_nI (by omega) (by omega)) ?_
      rw [nI_clamp (by omega), (hs m m1 (Nat.le_refl m)).1]
      exact h _ _ _ _ _ _ _
  · rw [a_loops, if_pos (Or.inr (Or.inr (fa_of_nle q)))] at h; exact h _ _ _ _ _ _ _
theorem s_X9_loops {x1 x2 : Int32} {ms ps : Nat → Int64} {P : Int64 → (Nat → Int64) → (Nat → Int64) → Prop} (ho : OkL n f) (hw : w ≤ 1) (hg : HasL n f g) (h : ∀ d e, P (a_loops n w f x1 x2) d e) : M_X9_loops x1 x2 (nI w) (nI n) ms ps g P := by
  refine s_in (a := 1) (b := 30) rfl rfl (fun q => br_t rfl ?_) (fun q1 q2 => br_f (by decide) ?_)
  · rw [a_loops, if_pos (Or.inl q)] at h; exact h _ _
  refine s_in (a := 0) (b := 1) rfl rfl (fun q => br_t rfl ?_) (fun q3 q5 => br_f (by decide) ?_)
  · rw [a_loops, if_pos (Or.inr q)] at h; exact h _ _
  rw [a_loops, if_neg (by rintro ((z | z) | (z | z)); exact q1 z; exact q2 z; exact q3 z; exact q5 z)] at h
  obtain ⟨m, m1, m2, rfl⟩ := in_rng 1 30 q1 q2
  rw [nI_clamp (by omega)] at h
  refine br_c (fun q => ?_) (fun q => ?_)
  · rw [if_pos q] at h
    exact s_X9_loopsOf ho hw hg m2 h
  · rw [if_neg q] at h
    exact s_X9_simpleOf ho hw hg 32 m _ _ _ (by omega) m1 m2 h
end PV
