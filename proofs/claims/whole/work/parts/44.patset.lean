/-! the patterns of a map -/
def isLp (n m : Nat) (f l : Nat → Nat) : Prop := (∀ i, i < m → l i < pcs n 0) ∧ ∀ i, i < m → (cov n 0 f (l i)).testBit (l ((i + 1) % m)) = true
def rw_ (l : Nat → Nat) (m i : Nat) : Nat → Nat := fun k => l ((i + k) % m)
def RV (f l : Nat → Nat) (m i : Nat) : Nat := vv (fal 0 f) (rw_ l m i) m
def SPl (n : Nat) (f : Nat → Nat) (m x : Nat) : Prop := ∃ l, isLp n m f l ∧ PAT m (RV f l m) x
def SPr (n : Nat) (f : Nat → Nat) (m x : Nat) : Prop := ∃ a, a < n ∧ isL n f a = true ∧ pc (rs n f a) = m ∧ PAT m (fun i => it f i a) x
def SP (n : Nat) (f : Nat → Nat) (m x : Nat) : Prop := SPl n f m x ∨ SPr n f m x
theorem SP_pat {n m x : Nat} {f : Nat → Nat} (h : SP n f m x) : ∃ v, PAT m v x := by
  rcases h with ⟨l, -, h⟩ | ⟨a, -, -, -, h⟩
  · exact ⟨_, h⟩
  · exact ⟨_, h⟩
theorem RV_cong {f l l' : Nat → Nat} {m : Nat} (hm : 0 < m) (h : ∀ i, i < m → l' i = l i) : RV f l' m = RV f l m := by
  funext i
  refine vv_cong fun k _ => ?_
  exact h _ (Nat.mod_lt _ hm)
theorem RV_rot (f l : Nat → Nat) (m s : Nat) : RV f (fun i => l ((i + s) % m)) m = fun i => RV f l m ((i + s) % m) := by
  funext i
  refine vv_cong fun k _ => ?_
  show l (((i + k) % m + s) % m) = l (((i + s) % m + k) % m)
  rw [Nat.mod_add_mod, Nat.mod_add_mod]
  congr 2
  omega
theorem isLp_rot {n m : Nat} {f l : Nat → Nat} (hm : 0 < m) (h : isLp n m f l) (s : Nat) : isLp n m f (fun i => l ((i + s) % m)) := by
  refine ⟨fun i _ => h.1 _ (Nat.mod_lt _ hm), fun i _ => ?_⟩
  have := h.2 ((i + s) % m) (Nat.mod_lt _ hm)
  show (cov n 0 f (l ((i + s) % m))).testBit (l (((i + 1) % m + s) % m)) = true
  rw [Nat.mod_add_mod] at this ⊢
  rw [show i + 1 + s = i + s + 1 by omega]
  exact this
theorem argmin (l : Nat → Nat) : ∀ m, 0 < m → ∃ s, s < m ∧ ∀ i, i < m → l s ≤ l i
  | 0, h => absurd h (Nat.lt_irrefl 0)
  | 1, _ => ⟨0, by omega, fun i hi => by rw [show i = 0 by omega]; exact Nat.le_refl _⟩
  | m + 2, _ => by
    obtain ⟨s, h1, h2⟩ := argmin l (m + 1) (by omega)
    rcases Nat.lt_or_ge (l (m + 1)) (l s) with q | q
    · refine ⟨m + 1, by omega, fun i hi => ?_⟩
      rcases Nat.lt_or_ge i (m + 1) with z | z
      · have := h2 i z; omega
      · rw [show i = m + 1 by omega]; exact Nat.le_refl _
    · refine ⟨s, by omega, fun i hi => ?_⟩
      rcases Nat.lt_or_ge i (m + 1) with z | z
      · exact h2 i z
      · rw [show i = m + 1 by omega]; exact q
theorem SPl_min {n m x : Nat} {f : Nat → Nat} (hm : 0 < m) (h : SPl n f m x) : ∃ l, isLp n m f l ∧ PAT m (RV f l m) x ∧ ∀ i, i < m → l 0 ≤ l i := by
  obtain ⟨l, h1, h2⟩ := h
  obtain ⟨s, s1, s2⟩ := argmin l m hm
  refine ⟨fun i => l ((i + s) % m), isLp_rot hm h1 s, ?_, fun i _ => ?_⟩
  · rw [RV_rot]; exact PAT_rot hm h2 s
  · show l ((0 + s) % m) ≤ l ((i + s) % m)
    rw [Nat.zero_add, Nat.mod_eq_of_lt s1]
    exact s2 _ (Nat.mod_lt _ hm)
/-! rings as rows -/
def inE (e : Nat → Nat) : Nat → Nat → Bool
  | 0 => fun _ => false
  | k + 1 => fun j => if j = e k then true else inE e k j
theorem inE_iff (e : Nat → Nat) (j : Nat) : ∀ k, inE e k j = true ↔ ∃ i, i < k ∧ e i = j
  | 0 => ⟨fun h => (by cases h), fun ⟨i, h, _⟩ => absurd h (Nat.not_lt_zero i)⟩
  | k + 1 => by
    show (if j = e k then true else inE e k j) = true ↔ _
    by_cases q : j = e k
    · rw [if_pos q]
      exact ⟨fun _ => ⟨k, by omega, q.symm⟩, fun _ => rfl⟩
    · rw [if_neg q, inE_iff e j k]
      constructor
      · rintro ⟨i, h1, h2⟩; exact ⟨i, by omega, h2⟩
      · rintro ⟨i, h1, h2⟩
        rcases Nat.lt_or_ge i k with z | z
        · exact ⟨i, z, h2⟩
        · rw [show i = k by omega] at h2; exact absurd h2.symm q
theorem ct_img {e : Nat → Nat} {q : Nat → Bool} {M : Nat} : ∀ {k : Nat}, (∀ i j, i < j → j < k → e i ≠ e j) → (∀ i, i < k → e i < M) → fb_ct (fun j => inE e k j && q j) M = fb_ct (fun i => q (e i)) k
  | 0, _, _ => fb_ct_zero.mpr fun k _ => rfl
  | k + 1, h1, h2 => by
    have ih := ct_img (q := q) (M := M) (k := k) (fun i j a b => h1 i j a (by omega)) (fun i a => h2 i (by omega))
    have e1 : fb_ct (fun j => inE e (k + 1) j && q j) M = fb_ct (fun j => if j = e k then q (e k) else (inE e k j && q j)) M := fb_ct_cong fun j _ => by
      show ((if j = e k then true else inE e k j) && q j) = _
      by_cases z : j = e k
      · rw [if_pos z, if_pos z, z]; rfl
      · rw [if_neg z, if_neg z]
    have e2 := fb_ct_upd (fun j => inE e k j && q j) (q (e k)) (h2 k (by omega))
    have e3 : inE e k (e k) = false := by
      refine Bool.eq_false_iff.mpr (fun z => ?_)
      obtain ⟨i, i1, i2⟩ := (inE_iff e (e k) k).mp z
      exact h1 i k i1 (by omega) i2
    rw [e1, fb_ct_succ, ← ih]
    simp only [e3, Bool.false_and] at e2
    simpa using e2
theorem ct_below (b : Nat → Bool) {x : Nat} : ∀ {M : Nat}, x ≤ M → fb_ct (fun j => b j && decide (j < x)) M = fb_ct b x
  | 0, h => by rw [show x = 0 by omega]; rfl
  | M + 1, h => by
    rcases Nat.lt_or_ge x (M + 1) with q | q
    · rw [fb_ct_succ, ct_below b (show x ≤ M by omega), decide_eq_false (by omega), Bool.and_false]; rfl
    · have e : x = M + 1 := by omega
      subst e
      exact fb_ct_cong fun k hk => by rw [decide_eq_true hk, Bool.and_true]
theorem ring_per {n a : Nat} {f : Nat → Nat} (ho : OkL n f) (ha : a < n) (hr : Rd n f a) : it f (pc (rs n f a)) a = a ∧ Inj (pc (rs n f a)) (fun i => it f i a) ∧ 1 ≤ pc (rs n f a) ∧ ∀ j, (rs n f a).testBit j = inE (fun i => it f i a) (pc (rs n f a)) j := by
  have hf := ho.2.2
  have h8 := rs_lt hf ho.2.1 ha
  obtain ⟨p0, q1, q2, q3⟩ := id hr
  obtain ⟨p, p1, ⟨p2, p3⟩, p4⟩ := fb_first (p := fun p => 1 ≤ p ∧ it f p a = a) (n := n + 1) ⟨p0, by omega, q1, q3⟩
  have inj : ∀ i j, i < j → j < p → it f i a ≠ it f j a := by
    intro i j hij hj e
    refine p4 (p - (j - i)) (by omega) ⟨by omega, ?_⟩
    rw [show p - (j - i) = (p - j) + i by omega, it_add, e, ← it_add, show p - j + j = p by omega, p3]
  have bits : ∀ j, (rs n f a).testBit j = inE (fun i => it f i a) p j := by
    intro j
    apply Bool.eq_iff_iff.mpr
    rw [rs_of_Rd hf ha hr, inE_iff]
    constructor
    · rintro ⟨k, e⟩
      exact ⟨k % p, Nat.mod_lt _ (by omega), by rw [← e]; exact (it_mod p3 k).symm⟩
    · rintro ⟨i, -, e⟩; exact ⟨i, e⟩
  have hp : pc (rs n f a) = p := by
    rw [pc_ct _ h8]
    have e1 : fb_ct (fun j => (rs n f a).testBit j) 8 = fb_ct (fun j => inE (fun i => it f i a) p j && (fun _ => true) j) 8 := fb_ct_cong fun j _ => by rw [bits j, Bool.and_true]
    rw [e1, ct_img inj (fun i _ => Nat.lt_of_lt_of_le (it_lt hf i ha) ho.2.1)]
    exact fb_ct_all.mpr fun _ _ => rfl
  rw [hp]
  exact ⟨p3, inj, p2, bits⟩
/-- how many points of the ring are less: the rank -/
theorem ring_rk {n a : Nat} {f : Nat → Nat} (ho : OkL n f) (ha : a < n) (hr : Rd n f a) (k : Nat) : fb_ct (fun j => (rs n f a).testBit j) (it f k a) = rkv (fun i => it f i a) (pc (rs n f a)) k := by
  obtain ⟨h1, h2, h3, h4⟩ := ring_per ho ha hr
  have h8 : it f k a ≤ 8 := Nat.le_of_lt (Nat.lt_of_lt_of_le (it_lt ho.2.2 k ha) ho.2.1)
  rw [← ct_below (fun j => (rs n f a).testBit j) h8]
  have e1 : fb_ct (fun j => (rs n f a).testBit j && decide (j < it f k a)) 8 = fb_ct (fun j => inE (fun i => it f i a) (pc (rs n f a)) j && (fun j => decide (j < it f k a)) j) 8 := fb_ct_cong fun j _ => by rw [h4 j]
  rw [e1, ct_img h2 (fun i _ => Nat.lt_of_lt_of_le (it_lt ho.2.2 i ha) ho.2.1)]
  rfl
theorem pc_mask {S x : Nat} (hS : S < 256) (hx : x ≤ 8) : pc (S &&& (2 ^ x - 1)) = fb_ct (fun j => S.testBit j) x := by
  rw [pc_ct _ (Nat.lt_of_le_of_lt Nat.and_le_left hS), ← ct_below (fun j => S.testBit j) hx]
  exact fb_ct_cong fun j _ => by rw [Nat.testBit_and, Nat.testBit_two_pow_sub_one]
theorem ring_next {a m : Nat} {f : Nat → Nat} (h : it f m a = a) (k : Nat) : it f ((k + 1) % m) a = f (it f k a) := by
  rw [← it_mod h (k + 1)]; rfl
/-! the rows that are kept -/
def kSn (m : Nat) : Nat := if m = 2 then 0 else if m = 3 then 1 else if m = 4 then 3 else if m = 5 then 9 else 33
theorem kk_n {m : Nat} (h2 : 2 ≤ m) (h6 : m ≤ 6) : kS m = nI (kSn m) ∧ kM m = nI (kMn m) ∧ kSn m + kMn m ≤ 153 ∧ kMn m ≤ 120 ∧ 1 ≤ kMn m := by
  rcases (show m = 2 ∨ m = 3 ∨ m = 4 ∨ m = 5 ∨ m = 6 by omega) with rfl | rfl | rfl | rfl | rfl <;> exact ⟨rfl, rfl, by decide, by decide, by decide⟩
theorem kk_apart {m m' : Nat} (h2 : 2 ≤ m) (h6 : m ≤ 6) (h2' : 2 ≤ m') (h6' : m' ≤ 6) (h : m' ≠ m) : kSn m' + kMn m' ≤ kSn m ∨ kSn m + kMn m ≤ kSn m' := by
  rcases (show m = 2 ∨ m = 3 ∨ m = 4 ∨ m = 5 ∨ m = 6 by omega) with rfl | rfl | rfl | rfl | rfl <;> rcases (show m' = 2 ∨ m' = 3 ∨ m' = 4 ∨ m' = 5 ∨ m' = 6 by omega) with rfl | rfl | rfl | rfl | rfl <;> revert h <;> decide
def GD (n : Nat) (f : Nat → Nat) (m a : Nat) (F : Nat → Nat) : Prop := Ris a F ∧ ∀ k, k < a → SP n f m (F k)
def FO (m : Nat) (am fo : Nat → Int32) (a : Nat) (F : Nat → Nat) : Prop := am m = nI a ∧ ∀ k, k < a → fo (kSn m + k) = nI (F k)
def FR (m : Nat) (am fo am' fo' : Nat → Int32) : Prop := (∀ j, j ≠ m → am' j = am j) ∧ ∀ j, (j < kSn m ∨ kSn m + kMn m ≤ j) → fo' j = fo j
theorem FR.refl (m : Nat) (am fo : Nat → Int32) : FR m am fo am fo := ⟨fun _ _ => rfl, fun _ _ => rfl⟩
theorem FR.trans {m : Nat} {am fo am' fo' am2 fo2 : Nat → Int32} (h : FR m am fo am' fo') (h' : FR m am' fo' am2 fo2) : FR m am fo am2 fo2 :=
  ⟨fun j hj => (h'.1 j hj).trans (h.1 j hj), fun j hj => (h'.2 j hj).trans (h.2 j hj)⟩
theorem GD_le {n m a : Nat} {f F : Nat → Nat} (h2 : 2 ≤ m) (h6 : m ≤ 6) (h : GD n f m a F) : a ≤ kMn m := (Ris_bound h2 h6 h.1 (fun k hk => SP_pat (h.2 k hk))).1
theorem GD_full {n m a : Nat} {f F : Nat → Nat} (h2 : 2 ≤ m) (h6 : m ≤ 6) (h : GD n f m a F) (ha : kMn m ≤ a) {v : Nat → Nat} {x : Nat} (hx : PAT m v x) : InF a F x :=
  (Ris_bound h2 h6 h.1 (fun k hk => SP_pat (h.2 k hk))).2 (Nat.le_antisymm (GD_le h2 h6 h) ha) v x hx
theorem GD_small {n m a : Nat} {f F : Nat → Nat} (h2 : 2 ≤ m) (h6 : m ≤ 6) (h : GD n f m a F) {k : Nat} (hk : k < a) : F k < 1000000 := by
  obtain ⟨v, hv⟩ := SP_pat (h.2 k hk)
  exact PAT_lt h2 h6 hv
/-- how many kept ones are less than a number -/
def plF (F : Nat → Nat) (a : Nat) (x : Int32) : Nat := fa_first (fun k => !decide (nI (F k) < x)) a
theorem plF_le (F : Nat → Nat) (a : Nat) (x : Int32) : plF F a x ≤ a := fa_first_le _ _
theorem plF_lo {F : Nat → Nat} {a k : Nat} {x : Int32} (h : k < plF F a x) : nI (F k) < x := by
  have := fa_first_no _ a k h
  simpa using this
theorem plF_hi {F : Nat → Nat} {a k : Nat} {x : Int32} (hr : Ris a F) (hs : ∀ k, k < a → F k < 1000000) (h : plF F a x ≤ k) (hk : k < a) : ¬ nI (F k) < x := by
  have h1 : ¬ nI (F (plF F a x)) < x := by
    have := fa_first_yes (fun k => !decide (nI (F k) < x)) a (by show plF F a x < a; omega)
    intro z
    rw [show fa_first (fun k => !decide (nI (F k) < x)) a = plF F a x from rfl, decide_eq_true z] at this
    cases this
  rcases Nat.lt_or_ge (plF F a x) k with q | q
  · have h2 := hr _ k q hk
    have s1 := hs k hk
    intro z
    apply h1
    rw [fa_lt] at z ⊢
    rw [nI_toInt (by omega)] at z ⊢
    omega
  · rw [show k = plF F a x by omega]; exact h1
section CL
variable {n m : Nat} {f : Nat → Nat}
theorem s_X4_at {k : Nat} {fo : Nat → Int32} {P : Int32 → Prop} (h2 : 2 ≤ m) (h6 : m ≤ 6) (hk : kSn m + k < 153) (h : P (fo (kSn m + k))) : M_X4_at (nI m) (nI k) fo P := by
  obtain ⟨e1, e2, e3, e4, e5⟩ := kk_n h2 h6
  refine And.intro (vp_in_nI (by omega) (by omega)) ?_
  rw [nI_clamp (by omega), e1, nI_add]
  refine And.intro (vp_in_nI (by omega) (by omega)) ?_
  rw [nI_clamp (by omega)]
  exact h
theorem s_X4_placeFor {a : Nat} {F : Nat → Nat} {x : Int32} {am fo : Nat → Int32} {P : Int32 → Prop} (h2 : 2 ≤ m) (h6 : m ≤ 6) (hg : GD n f m a F) (hF : FO m am fo a F) (h : P (nI (plF F a x))) : M_X4_placeFor (nI m) x am fo P := by
  obtain ⟨e1, e2, e3, e4, e5⟩ := kk_n h2 h6
  have ha := GD_le h2 h6 hg
  have hs : ∀ k, k < a → F k < 1000000 := fun k hk => GD_small h2 h6 hg hk
  have hpl := plF_le F a x
  refine And.intro (vp_in_nI (by omega) (by omega)) ?_
  rw [nI_clamp (by omega), hF.1]
  refine LP3_ix (fun t lo hi s => s = nI t ∧ ∃ l u, lo = nI l ∧ hi = nI u ∧ l ≤ plF F a x ∧ plF F a x ≤ u ∧ u ≤ a ∧ (u - l) * 2 ^ t ≤ 128) 8 ?_ 0 _ _ _ (Nat.zero_le _) ⟨rfl, 0, a, rfl, rfl, Nat.zero_le _, hpl, Nat.le_refl _, by rw [Nat.pow_zero]; omega⟩
  rintro K t lo hi s ht ⟨rfl, l, u, rfl, rfl, hl, hu, hua, hw⟩ hK
  refine pk_le 32 t (fun c => absurd c (by omega)) (fun _ => pk_le u l (fun c => ?_) (fun c => ?_))
  · rw [show plF F a x = l by omega] at h; exact h
  · have t8 : t < 8 := by
      rcases Nat.lt_or_ge t 8 with q | q
      · exact q
      · have e : t = 8 := by omega
        subst e
        have : 1 * 2 ^ 8 ≤ (u - l) * 2 ^ 8 := Nat.mul_le_mul_right _ (by omega)
        omega
    have em : (nI l + nI u) / (2 : Int32) = nI ((l + u) / 2) := by rw [nI_add]; exact pk_div (d := 2) (by omega) (by omega) (by omega)
    have hmid : l ≤ (l + u) / 2 ∧ (l + u) / 2 < u := by omega
    have half : ∀ z, 2 * z ≤ u - l → z * 2 ^ (t + 1) ≤ 128 := by
      intro z hz
      have : (2 * z) * 2 ^ t ≤ (u - l) * 2 ^ t := Nat.mul_le_mul_right _ hz
      rw [Nat.pow_succ, ← Nat.mul_assoc, Nat.mul_comm _ 2, ← Nat.mul_assoc]
      omega
    rw [em]
    refine s_X4_at h2 h6 (by omega) ?_
    rw [hF.2 _ (by omega)]
    refine br_c (fun c2 => ?_) (fun c2 => ?_)
    · refine hK _ _ _ t8 ⟨nI_1 t, l, (l + u) / 2, rfl, rfl, hl, ?_, by omega, half _ (by omega)⟩
      rcases Nat.lt_or_ge ((l + u) / 2) (plF F a x) with q | q
      · exact absurd c2 (fa_of_lt (plF_lo q)).2.1
      · exact q
    · refine hK _ _ _ t8 ⟨nI_1 t, (l + u) / 2 + 1, u, nI_1 _, rfl, ?_, hu, hua, half _ (by omega)⟩
      rcases Nat.lt_or_ge ((l + u) / 2) (plF F a x) with q | q
      · exact q
      · exact absurd (fa_of_nle c2) (plF_hi hg.1 hs q (by omega))
theorem s_X4_add56 {a p y : Nat} {F : Nat → Nat} {am fo : Nat → Int32} {P : (Nat → Int32) → (Nat → Int32) → Prop} (h2 : 2 ≤ m) (h6 : m ≤ 6) (hF : FO m am fo a F) (ha : a < kMn m) (hp : p ≤ a) (h : ∀ fo' am', FO m am' fo' (a + 1) (insF F p y) → FR m am fo am' fo' → P fo' am') : M_X4_add_b56 (nI m) (nI y) P (nI p) (kS m + am m) fo am := by
  obtain ⟨e1, e2, e3, e4, e5⟩ := kk_n h2 h6
  have es : kS m + am m = nI (kSn m + a) := by rw [e1, hF.1, nI_add]
  rw [es]
  refine LP2_ix (fun t l4 b => l4 = nI (kSn m + a - t) ∧ ∀ k, b k = if kSn m + a - t < k ∧ k ≤ kSn m + a then fo (k - 1) else fo k) (a - p) ?_ 0 _ _ (Nat.zero_le _) ⟨rfl, fun k => by rw [if_neg (by omega)]⟩
  rintro K t l4 b ht ⟨rfl, hb⟩ hK
  refine And.intro (vp_in_nI (by omega) (by omega)) ?_
  rw [nI_clamp (by omega), e1, nI_add]
  refine pk_le (kSn m + a - t) (kSn m + p) (fun c => ?_) (fun c => ?_)
  · have e : kSn m + a - t = kSn m + p := by omega
    refine And.intro (vp_in_nI (by omega) (by omega)) (And.intro (vp_in_nI (by omega) (by omega)) (And.intro (vp_in_nI (by omega) (by omega)) (And.intro (vp_in_nI (by omega) (by omega)) ?_)))
    rw [nI_clamp (by omega), hF.1, show nI a + (1 : Int32) = nI (a + 1) from nI_1 a]
    refine h _ _ ⟨pk_us, fun k hk => ?_⟩ ⟨fun j hj => pk_un hj, fun j hj => ?_⟩
    · unfold insF
      by_cases q : k < p
      · rw [if_pos q, pk_un (by omega), hb, if_neg (by omega), hF.2 k (by omega)]
      · rw [if_neg q]
        by_cases z : k = p
        · rw [if_pos z, z, pk_us]
        · rw [if_neg z, pk_un (by omega), hb, if_pos (by omega), show kSn m + k - 1 = kSn m + (k - 1) by omega, hF.2 _ (by omega)]
    · rw [pk_un (by omega), hb, if_neg (by omega)]
  · have e : nI (kSn m + a - t) - (1 : Int32) = nI (kSn m + a - t - 1) := pk_sub (b := 1) (by omega)
    have e6 : nI (kSn m + a - t) + (-1) = nI (kSn m + a - (t + 1)) := by
      rw [show kSn m + a - t = (kSn m + a - (t + 1)) + 1 by omega, pk_m1]
    rw [e]
    refine And.intro (vp_in_nI (by omega) (by omega)) (And.intro (vp_in_nI (by omega) (by omega)) (hK _ _ (by omega) ⟨e6, fun k => ?_⟩))
    rw [nI_clamp (by omega), nI_clamp (by omega)]
    by_cases z : k = kSn m + a - t
    · subst z; rw [pk_us, hb, if_neg (by omega), if_pos (by omega)]
    · rw [pk_un z, hb]
      by_cases q : kSn m + a - t < k ∧ k ≤ kSn m + a
      · rw [if_pos q, if_pos (by omega)]
      · rw [if_neg q, if_neg (by omega)]
theorem s_X4_add {a y : Nat} {F : Nat → Nat} {am fo : Nat → Int32} {P : (Nat → Int32) → (Nat → Int32) → Prop} (h2 : 2 ≤ m) (h6 : m ≤ 6) (hg : GD n f m a F) (hF : FO m am fo a F) (hy : SP n f m y) (h : ∀ fo' am' a' F', GD n f m a' F' → FO m am' fo' a' F' → FR m am fo am' fo' → (∀ x, InF a' F' x ↔ InF a F x ∨ x = y) → P fo' am') : M_X4_add (nI m) (nI y) am fo P := by
  obtain ⟨e1, e2, e3, e4, e5⟩ := kk_n h2 h6
  obtain ⟨v, hv⟩ := SP_pat hy
  have hys := PAT_lt h2 h6 hv
  have ha := GD_le h2 h6 hg
  have hs : ∀ k, k < a → F k < 1000000 := fun k hk => GD_small h2 h6 hg hk
  have hpl := plF_le F a (nI y)
  refine s_X4_placeFor h2 h6 hg hF (And.intro (vp_in_nI (by omega) (by omega)) (And.intro (vp_in_nI (by omega) (by omega)) ?_))
  rw [nI_clamp (by omega), e2, hF.1]
  have same : InF a F y → P fo am := fun q => h fo am a F hg hF (FR.refl _ _ _) (fun x => ⟨Or.inl, fun z => z.elim id (fun z => by rw [z]; exact q)⟩)
  refine pk_le (kMn m) a (fun c => same (GD_full h2 h6 hg c hv)) (fun c => ?_)
  have lo : ∀ k, k < plF F a (nI y) → F k < y := fun k hk => by
    have := plF_lo hk
    have s1 := hs k (by omega)
    rwa [nI_ltI (by omega) (by omega)] at this
  have hi : ∀ k, plF F a (nI y) ≤ k → k < a → y ≤ F k := fun k hk hka => by
    have := plF_hi hg.1 hs hk hka
    have s1 := hs k hka
    rw [nI_ltI (by omega) (by omega)] at this
    omega
  have put : (plF F a (nI y) < a → F (plF F a (nI y)) ≠ y) → M_X4_add_b56 (nI m) (nI y) P (nI (plF F a (nI y))) (nI (kSn m) + nI a) fo am := by
    intro hne
    have hi2 : ∀ k, plF F a (nI y) ≤ k → k < a → y < F k := fun k hk hka => by
      rcases Nat.lt_or_ge (plF F a (nI y)) k with q | q
      · have h1 := hi _ (Nat.le_refl _) (by omega : plF F a (nI y) < a)
        have h3 := hg.1 _ k q hka
        omega
      · have e : k = plF F a (nI y) := by omega
        have h1 := hi k hk hka
        have h3 := hne (by omega)
        rw [← e] at h3
        omega
    have := s_X4_add56 (p := plF F a (nI y)) (y := y) (P := P) h2 h6 hF (by omega) hpl (fun fo' am' hF' hR => h fo' am' (a + 1) (insF F (plF F a (nI y)) y) ⟨insF_ris hg.1 hpl lo hi2, fun k hk => ?_⟩ hF' hR (insF_in hpl))
    · rw [e1, hF.1] at this; exact this
    · rcases (insF_in (F := F) (y := y) hpl _).mp ⟨k, hk, rfl⟩ with ⟨j, j1, j2⟩ | z
      · rw [← j2]; exact hg.2 j j1
      · rw [z]; exact hy
  refine And.intro (vp_in_nI (by omega) (by omega)) (pk_le a (plF F a (nI y)) (fun c2 => ?_) (fun c2 => ?_))
  · rw [e1]
    exact And.intro (vp_in_nI (by omega) (by omega)) (And.intro (vp_in_nI (by omega) (by omega)) (put (fun z => absurd z (by omega))))
  · refine s_X4_at h2 h6 (by omega) ?_
    rw [hF.2 _ c2]
    have s1 := hs _ c2
    refine pk_eq (F (plF F a (nI y))) y (fun c3 => same ⟨_, c2, c3⟩) (fun c3 => ?_)
    rw [e1]
    exact And.intro (vp_in_nI (by omega) (by omega)) (And.intro (vp_in_nI (by omega) (by omega)) (put (fun _ => c3)))
/-! rings -/
theorem s_X4_ringFigures {a : Nat} {g : Nat → Int32} {P : Int32 → Prop} (ho : OkL n f) (hg : HasL n f g) (ha : a < n) (hr : Rd n f a) (h : ∀ x, PAT (pc (rs n f a)) (fun i => it f i a) x → P (nI x)) : M_X4_ringFigures (nI (rs n f a)) (nI n) g P := by
  have h8 := ho.2.1
  have h256 := rs_lt ho.2.2 h8 ha
  obtain ⟨r1, r2, r3, r4⟩ := ring_per ho ha hr
  have hld := ldC_ok r2
  refine LP2_ix (fun i x y => x = nI (dgs (ldC (pc (rs n f a)) (fun i => it f i a)) (fb_ct (fun j => (rs n f a).testBit j) i)) ∧ y = nI i) n ?_ 0 _ _ (Nat.zero_le _) ⟨rfl, rfl⟩
  rintro K i x y hi ⟨rfl, rfl⟩ hK
  refine pk_le n i (fun c => ?_) (fun c => ?_)
  · have e : i = n := by omega
    subst e
    have e2 : fb_ct (fun j => (rs i f a).testBit j) i = pc (rs i f a) := by
      rw [pc_ct _ h256]
      have := fb_ct_split (fun j => (rs i f a).testBit j) i (8 - i)
      rw [show i + (8 - i) = 8 by omega] at this
      have z0 : fb_ct (fun k => (rs i f a).testBit (i + k)) (8 - i) = 0 := fb_ct_zero.mpr (fun k _ => Bool.eq_false_iff.mpr (fun z => by have := rs_in ho.2.2 ha z; omega))
      rw [this, z0, Nat.add_zero]
    rw [e2]
    exact h _ (PAT_ex r2)
  · have e1 : (nI (rs n f a) >>> (nI i &&& 31)) &&& (1 : Int32) = nI (if (rs n f a).testBit i then 1 else 0) := z_bit _ h256 i (by omega)
    refine br_c (fun c2 => ?_) (fun c2 => ?_)
    · rw [e1] at c2
      have hb : (rs n f a).testBit i = true := by
        cases hb : (rs n f a).testBit i with
        | true => rfl
        | false => rw [hb] at c2; exact absurd c2 (by decide)
      obtain ⟨k, k1, k2⟩ := (inE_iff _ i _).mp (by rw [← r4]; exact hb)
      have k2 : it f k a = i := k2
      have hf := ho.2.2 i c
      refine And.intro (vp_in_nI (by omega) (by omega)) ?_
      rw [nI_clamp (by omega), hg i c]
      rintro y rfl
      have e3 : nI (rs n f a) &&& (((1 : Int32) <<< (nI (f i) &&& 31)) - (1 : Int32)) = nI (rs n f a &&& (2 ^ f i - 1)) := by
        rw [z_sh1 _ (by omega), show (1 : Int32) = nI 1 from rfl, pk_sub Nat.one_le_two_pow, z_and]
      rw [e3]
      refine s_bitCount (Nat.lt_of_le_of_lt Nat.and_le_left h256) (hK _ _ c ⟨?_, nI_1 i⟩)
      rw [pc_mask h256 (by omega), fb_ct_succ, boolif_t hb, dgs, show (10 : Int32) = nI 10 from rfl, pk_mul, nI_add]
      have e4 : fb_ct (fun j => (rs n f a).testBit j) i = rkv (fun i => it f i a) (pc (rs n f a)) k := by rw [← k2]; exact ring_rk ho ha hr k
      have e5 : fb_ct (fun j => (rs n f a).testBit j) (f i) = rkv (fun i => it f i a) (pc (rs n f a)) ((k + 1) % pc (rs n f a)) := by
        rw [← ring_rk ho ha hr, ring_next r1, k2]
      rw [e5, e4, ← hld k k1, Nat.mul_comm]
    · rw [e1] at c2
      have hb : (rs n f a).testBit i = false := by
        cases hb : (rs n f a).testBit i with
        | false => rfl
        | true => rw [hb] at c2; exact absurd rfl c2
      exact hK _ _ c ⟨by rw [fb_ct_succ, boolif_f hb]; rfl, nI_1 i⟩
theorem s_X4_addRings {a : Nat} {F : Nat → Nat} {g am fo : Nat → Int32} {P : (Nat → Int32) → (Nat → Int32) → Prop} (ho : OkL n f) (hg : HasL n f g) (h2 : 2 ≤ m) (h6 : m ≤ 6) (hG : GD n f m a F) (hF : FO m am fo a F) (h : ∀ fo' am' a' F', GD n f m a' F' → FO m am' fo' a' F' → FR m am fo am' fo' → (∀ x, SPr n f m x → InF a' F' x) → P fo' am') : M_X4_addRings (nI m) (nI n) g am fo P := by
  have h8 := ho.2.1
  refine LP3_ix (fun i y b d => y = nI i ∧ ∃ a' F', GD n f m a' F' ∧ FO m d b a' F' ∧ FR m am fo d b ∧ ∀ c x, c < i → isL n f c = true → pc (rs n f c) = m → PAT m (fun i => it f i c) x → InF a' F' x) n ?_ 0 _ _ _ (Nat.zero_le _) ⟨rfl, a, F, hG, hF, FR.refl _ _ _, fun c x hc => absurd hc (Nat.not_lt_zero c)⟩
  rintro K i y b d hi ⟨rfl, a', F', hG', hF', hR', hin⟩ hK
  refine pk_le n i (fun c => ?_) (fun c => ?_)
  · have e : i = n := by omega
    subst e
    exact h _ _ a' F' hG' hF' hR' (fun x ⟨c, c1, c2, c3, c4⟩ => hin c x c1 c2 c3 c4)
  · have h256 := rs_lt ho.2.2 h8 c
    have skip : ¬ (isL n f i = true ∧ pc (rs n f i) = m) → K (nI i + 1) b d := fun hn => by
      refine hK _ _ _ c ⟨nI_1 i, a', F', hG', hF', hR', fun c x hc q1 q2 q3 => ?_⟩
      rcases Nat.lt_or_ge c i with z | z
      · exact hin c x z q1 q2 q3
      · rw [show c = i by omega] at q1 q2; exact absurd ⟨q1, q2⟩ hn
    refine s_X0_ringBits ho hg c (s_X0_isLeast ho hg c ?_)
    cases hl : isL n f i with
    | false => exact br_t rfl (skip (fun q => by rw [hl] at q; cases q.1))
    | true =>
      have hp := pc_le _ h256
      refine br_f (by decide) (s_bitCount h256 (pk_eq (pc (rs n f i)) m (fun q => ?_) (fun q => skip (fun z => q z.2))))
      have hrd := ((isL_low h8 ho.2.2 c).mp hl).1
      refine s_X4_ringFigures ho hg c hrd (fun x hx => ?_)
      rw [q] at hx
      refine s_X4_add h2 h6 hG' hF' (Or.inr ⟨i, c, hl, q, hx⟩) (fun fo2 am2 a2 F2 hG2 hF2 hR2 hin2 => hK _ _ _ c ⟨nI_1 i, a2, F2, hG2, hF2, hR'.trans hR2, fun c x' hc q1 q2 q3 => ?_⟩)
      rw [hin2]
      rcases Nat.lt_or_ge c i with z | z
      · exact Or.inl (hin c x' z q1 q2 q3)
      · rw [show c = i by omega] at q3
        exact Or.inr (PAT_one q3 hx)
end CL
