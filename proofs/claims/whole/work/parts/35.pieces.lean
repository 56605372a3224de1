/-! pieces: what they cover, whether they fall, what is reached -/
def cvr (n w a b : Nat) : Nat := if w = 0 then 2 ^ max a b - 2 ^ min a b else if a ≤ b then 2 ^ b - 2 ^ a else (2 ^ n - 2 ^ a) ||| (2 ^ b - 1)
def cov (n w : Nat) (f : Nat → Nat) (p : Nat) : Nat := cvr n w (f p) (f ((p + 1) % n))
def fal (w : Nat) (f : Nat → Nat) (p : Nat) : Bool := decide (w = 0) && decide (f (p + 1) < f p)
def arc (n a t : Nat) : Nat := if a + t ≤ n then 2 ^ (a + t) - 2 ^ a else (2 ^ n - 2 ^ a) ||| (2 ^ (a + t - n) - 1)
def arcT (n a b : Nat) : Nat := if a ≤ b then b - a else n - a + b
theorem arc_step : ∀ n, n < 9 → ∀ a, a < n → ∀ t, t < n → arc n a (t + 1) = arc n a t ||| 2 ^ ((a + t) % n) := by decide +kernel
theorem arc_end : ∀ n, n < 9 → ∀ a, a < n → ∀ b, b < n → arc n a (arcT n a b) = cvr n 1 a b ∧ (a + arcT n a b) % n = b ∧ arcT n a b < n := by decide +kernel
theorem arc_no : ∀ n, n < 9 → ∀ a, a < n → ∀ b, b < n → ∀ t, t < arcT n a b → (a + t) % n ≠ b := by decide +kernel
theorem bt_step : ∀ k, k < 9 → ∀ a, a ≤ k → (2 ^ k - 2 ^ a) ||| 2 ^ k = 2 ^ (k + 1) - 2 ^ a := by decide +kernel
theorem cvr_lt : ∀ n, n < 9 → ∀ a, a < n → ∀ b, b < n → cvr n 0 a b < 2 ^ (n - 1) ∧ cvr n 1 a b < 2 ^ n := by decide +kernel
theorem pcs_le {n w : Nat} : pcs n w ≤ n := by unfold pcs; split <;> omega
theorem pcs_1 {n w : Nat} (h : 2 ≤ n) : 1 ≤ pcs n w := by unfold pcs; split <;> omega
theorem pcs_in {n w p : Nat} (h : p < pcs n w) : p < n := Nat.lt_of_lt_of_le h pcs_le
theorem cov_lt {n w : Nat} {f : Nat → Nat} (ho : OkL n f) (hw : w ≤ 1) {p : Nat} (hp : p < pcs n w) : cov n w f p < 2 ^ pcs n w := by
  have h1 := ho.2.2 p (pcs_in hp)
  have h2 := ho.2.2 ((p + 1) % n) (Nat.mod_lt _ (by have := ho.1; omega))
  have h3 := cvr_lt n (by have := ho.2.1; omega) _ h1 _ h2
  rcases (show w = 0 ∨ w = 1 by omega) with rfl | rfl
  · exact h3.1
  · exact h3.2
theorem cov_256 {n w : Nat} {f : Nat → Nat} (ho : OkL n f) (hw : w ≤ 1) {p : Nat} (hp : p < pcs n w) : cov n w f p < 256 := by
  have h1 := cov_lt ho hw hp
  have h2 : pcs n w ≤ 8 := Nat.le_trans pcs_le ho.2.1
  exact Nat.lt_of_lt_of_le h1 (Nat.pow_le_pow_right (by omega) h2 : 2 ^ pcs n w ≤ 2 ^ 8)
def HasC (n w : Nat) (f : Nat → Nat) (c : Nat → Int32) : Prop := ∀ p, p < pcs n w → c p = nI (cov n w f p)
def HasFal (n w : Nat) (f : Nat → Nat) (F : Nat) : Prop := F < 256 ∧ ∀ p, p < pcs n w → F.testBit p = fal w f p
theorem z_min (a b : Nat) (ha : a < 2 ^ 31) (hb : b < 2 ^ 31) : (if nI b < nI a then nI b else nI a) = nI (min a b) := by
  by_cases h : b < a
  · rw [if_pos ((nI_ltI hb ha).mpr h), Nat.min_eq_right (by omega)]
  · rw [if_neg (fun q => h ((nI_ltI hb ha).mp q)), Nat.min_eq_left (by omega)]
theorem z_btw {a b : Nat} (h : a ≤ b) (hb : b < 31) : ((1 : Int32) <<< (nI b &&& 31)) - ((1 : Int32) <<< (nI a &&& 31)) = nI (2 ^ b - 2 ^ a) := by
  rw [z_sh1 _ hb, z_sh1 _ (by omega), pk_sub (Nat.pow_le_pow_right (by omega) h)]
theorem s_X5_forward {a b n : Nat} {P : Int32 → Prop} (ha : a < n) (hb : b < n) (hn : n ≤ 8) (h : P (nI (cvr n 1 a b))) : M_X5_forward (nI a) (nI b) (nI n) P := by
  unfold cvr at h
  rw [if_neg (by omega)] at h
  refine pk_lt b a (fun c => ?_) (fun c => ?_)
  · rw [if_neg (by omega)] at h
    show P ((((1 : Int32) <<< (nI n &&& 31)) - ((1 : Int32) <<< (nI a &&& 31))) ||| (((1 : Int32) <<< (nI b &&& 31)) - ((1 : Int32) <<< (nI 0 &&& 31))))
    rw [z_btw (by omega) (by omega), z_btw (by omega) (by omega), z_or]
    exact h
  · rw [if_pos c] at h
    show P (((1 : Int32) <<< (nI b &&& 31)) - ((1 : Int32) <<< (nI a &&& 31)))
    rw [z_btw c (by omega)]
    exact h
theorem s_X5_learn {n w : Nat} {f : Nat → Nat} {x y : Int32} {g c : Nat → Int32} {P : Int32 → Int32 → (Nat → Int32) → Prop} (ho : OkL n f) (hw : w ≤ 1) (hg : HasL n f g) (h : ∀ F c', HasFal n w f F → HasC n w f c' → P (nI (pcs n w)) (nI F) c') : M_X5_learn (nI w) (nI n) x y g c P := by
  have h2 := ho.1
  have h8 := ho.2.1
  have hpn := @pcs_le n w
  refine s_X0_pieceNumber (by omega) hw ?_
  refine LP3_ix (fun i a b c => a = nI i ∧ (∃ F, b = nI F ∧ F < 256 ∧ (∀ p, p < i → F.testBit p = fal w f p) ∧ ∀ p, i ≤ p → F.testBit p = false) ∧ ∀ p, p < i → c p = nI (cov n w f p)) (pcs n w) ?_ 0 _ _ _ (Nat.zero_le _) ⟨rfl, ⟨0, rfl, by omega, fun p hp => absurd hp (Nat.not_lt_zero p), fun p _ => Nat.zero_testBit p⟩, fun p hp => absurd hp (Nat.not_lt_zero p)⟩
  rintro K i a b c hi ⟨rfl, ⟨F, rfl, hF, hb, hF2⟩, hc⟩ hK
  refine pk_le (pcs n w) i (fun c1 => ?_) (fun c1 => ?_)
  · have e : i = pcs n w := by omega
    subst e
    exact h F _ ⟨hF, hb⟩ hc
  have hin : i < n := by omega
  have hfi := ho.2.2 i hin
  have hmod : (i + 1) % n < n := Nat.mod_lt _ (by omega)
  have hfj := ho.2.2 _ hmod
  refine And.intro (vp_in_nI (by omega) (by omega)) ?_
  have key : ∀ s1, s1 = (i + 1) % n → M_X5_learn_b51 (nI w) (nI n) g K P (nI i) (g (nI i).toNatClampNeg) (nI s1) (nI (pcs n w)) (nI F) c := by
    rintro s1 rfl
    rw [nI_clamp (by omega), hg i hin]
    refine And.intro (vp_in_nI (by omega) (by omega)) ?_
    rw [nI_clamp (by omega), hg _ hmod]
    have up : ∀ (v : Int32), v = nI (cov n w f i) → ∀ p, p < i + 1 → upd c (nI i).toNatClampNeg v p = nI (cov n w f p) := by
      rintro v rfl p hp
      rw [nI_clamp (by omega)]
      by_cases e : p = i
      · subst e; rw [pk_us]
      · rw [pk_un e]; exact hc p (by omega)
    refine pk_eq w 1 (fun cw => ?_) (fun cw => ?_)
    · subst cw
      refine s_X5_forward hfi hfj h8 (And.intro (vp_in_nI (by omega) (by omega)) (hK _ _ _ c1 ⟨nI_1 i, ⟨F, rfl, hF, ?_, fun p hp => hF2 p (by omega)⟩, up _ rfl⟩))
      intro p hp
      by_cases e : p = i
      · subst e; rw [hF2 p (Nat.le_refl p)]; rfl
      · exact hb p (by omega)
    · have cw : w = 0 := by omega
      subst cw
      have e1 : (i + 1) % n = i + 1 := Nat.mod_eq_of_lt (by unfold pcs at c1; rw [if_pos rfl] at c1; omega)
      rw [z_min _ _ (by omega) (by omega), z_max _ _ (by omega) (by omega)]
      refine And.intro (vp_in_nI (by omega) (by omega)) ?_
      have e2 : ((1 : Int32) <<< (nI (max (f i) (f ((i + 1) % n))) &&& 31)) - ((1 : Int32) <<< (nI (min (f i) (f ((i + 1) % n))) &&& 31)) = nI (cov n 0 f i) := z_btw (by omega) (by omega)
      refine pk_le (f i) (f ((i + 1) % n)) (fun c4 => ?_) (fun c4 => ?_)
      · have e3 : nI F ||| (0 : Int32) = nI F := by rw [show (0 : Int32) = nI 0 from rfl, z_or, Nat.or_zero]
        refine hK _ _ _ c1 ⟨nI_1 i, ⟨F, e3, hF, ?_, fun p hp => hF2 p (by omega)⟩, up _ e2⟩
        intro p hp
        by_cases e : p = i
        · subst e
          rw [hF2 p (Nat.le_refl p), fal]
          rw [e1] at c4
          simp; omega
        · exact hb p (by omega)
      · have e3 : nI F ||| ((1 : Int32) <<< (nI i &&& 31)) = nI (F ||| 2 ^ i) := by rw [z_sh1 _ (by omega), z_or]
        refine hK _ _ _ c1 ⟨nI_1 i, ⟨F ||| 2 ^ i, e3, or_lt256 hF (pow_lt256 (by omega)), ?_, ?_⟩, up _ e2⟩
        · intro p hp
          rw [Nat.testBit_or, tb_pow]
          by_cases e : p = i
          · subst e
            rw [fal]
            rw [e1] at c4
            simp [c4]
          · rw [decide_eq_false (fun q => e q.symm), Bool.or_false]; exact hb p (by omega)
        · intro p hp
          rw [Nat.testBit_or, tb_pow, hF2 p (by omega), decide_eq_false (by omega)]; rfl
  refine pk_le n (i + 1) (fun c2 => ?_) (fun c2 => ?_) rfl (nI_1 i)
  · exact key 0 (by rw [show i + 1 = n by omega, Nat.mod_self])
  · have := key (i + 1) (Nat.mod_eq_of_lt c2).symm
    rw [← nI_1 i] at this
    exact this
theorem s_X9_coversOf {n w p : Nat} {f : Nat → Nat} {g : Nat → Int32} {P : Int32 → Prop} (ho : OkL n f) (hw : w ≤ 1) (hg : HasL n f g) (hp : p < pcs n w) (h : P (nI (cov n w f p))) : M_X9_coversOf (nI p) g (nI n) (nI w) P := by
  have h2 := ho.1
  have h8 := ho.2.1
  have hpn := pcs_in hp
  have hmod : (p + 1) % n < n := Nat.mod_lt _ (by omega)
  have ha := ho.2.2 p hpn
  have hb := ho.2.2 _ hmod
  have e1 : (nI p + (1 : Int32)) - (nI p + (1 : Int32)) / nI n * nI n = nI ((p + 1) % n) := by
    rw [show nI p + (1 : Int32) = nI (p + 1) from nI_1 p]
    exact pk_rem (by omega) (by omega) (by omega)
  refine And.intro (vp_in_nI (by omega) (by omega)) (And.intro (nI_ne0 (by omega) (by omega)) ?_)
  rw [e1]
  refine And.intro (vp_in_nI (by omega) (by omega)) ?_
  rintro y rfl
  rw [nI_clamp (by omega), nI_clamp (by omega), hg _ hmod, hg _ hpn]
  unfold cov at h
  generalize f p = a at *
  generalize f ((p + 1) % n) = b at *
  refine pk_eq w 0 (fun cw => ?_) (fun cw => ?_)
  · subst cw
    rintro y rfl
    rw [z_min _ _ (by omega) (by omega)]
    refine LP2_ix (fun t s k => s = nI (2 ^ (min a b + t) - 2 ^ min a b) ∧ k = nI (min a b + t)) (max a b - min a b) ?_ 0 _ _ (Nat.zero_le _) ⟨by rw [Nat.add_zero, Nat.sub_self]; rfl, rfl⟩
    rintro K t s k ht ⟨rfl, rfl⟩ hK
    refine pk_le (max a b) (min a b + t) (fun c => ?_) (fun c => ?_) (z_max _ _ (by omega) (by omega))
    · have e : min a b + t = max a b := by omega
      rw [e]
      exact h
    · refine hK _ _ (by omega) ⟨?_, nI_1 _⟩
      rw [z_sh1 _ (by omega), z_or, bt_step _ (by omega) _ (by omega)]; rfl
  · have cw : w = 1 := by omega
    subst cw
    obtain ⟨e2, e3, e4⟩ := arc_end n (by omega) a ha b hb
    refine LP2_ix (fun t s k => s = nI (arc n a t) ∧ k = nI ((a + t) % n)) (arcT n a b) ?_ 0 _ _ (Nat.zero_le _) ⟨?_, by rw [Nat.add_zero, Nat.mod_eq_of_lt ha]⟩
    · rintro K t s k ht ⟨rfl, rfl⟩ hK
      have hm : (a + t) % n < n := Nat.mod_lt _ (by omega)
      refine pk_eq ((a + t) % n) b (fun c => ?_) (fun c => ?_)
      · have e : t = arcT n a b := by
          rcases Nat.lt_or_ge t (arcT n a b) with q | q
          · exact absurd c (arc_no n (by omega) a ha b hb t q)
          · omega
        subst e
        rw [e2]; exact h
      · have q : t < arcT n a b := by
          rcases Nat.lt_or_ge t (arcT n a b) with q | q
          · exact q
          · rw [show t = arcT n a b by omega] at c; exact absurd e3 c
        refine And.intro (nI_ne0 (by omega) (by omega)) (hK _ _ q ⟨?_, ?_⟩)
        · rw [z_sh1 _ (by omega), z_or, arc_step n (by omega) a ha t (by omega)]
        · rw [show nI ((a + t) % n) + (1 : Int32) = nI ((a + t) % n + 1) from nI_1 _, pk_rem (by omega) (by omega) (by omega), Nat.mod_add_mod, Nat.add_assoc]
    · rw [arc, Nat.add_zero, if_pos (by omega), Nat.sub_self]; rfl
theorem s_X5_falls {n w p F : Nat} {f : Nat → Nat} {P : Int32 → Prop} (hn : n ≤ 8) (hF : HasFal n w f F) (hp : p < pcs n w) (h : P (if fal w f p then 1 else 0)) : M_X5_falls (nI p) (nI F) P := by
  have hpn := pcs_in hp
  rw [← hF.2 p hp] at h
  have e1 : (nI F >>> (nI p &&& 31)) &&& (1 : Int32) = nI (if F.testBit p then 1 else 0) := z_bit F hF.1 p (by omega)
  refine br_c (fun c => ?_) (fun c => ?_)
  · rw [e1] at c
    cases hb : F.testBit p with
    | true => rw [hb] at h; exact h
    | false => rw [hb] at c; exact absurd c (by decide)
  · rw [e1] at c
    cases hb : F.testBit p with
    | false => rw [hb] at h; exact h
    | true => rw [hb] at c; exact absurd rfl c
theorem s_X9_falls {n w p : Nat} {f : Nat → Nat} {g : Nat → Int32} {P : Int32 → Prop} (ho : OkL n f) (hw : w ≤ 1) (hg : HasL n f g) (hp : p < pcs n w) (h : P (if fal w f p then 1 else 0)) : M_X9_falls (nI p) (nI w) g P := by
  have hpn := pcs_in hp
  have h8 := ho.2.1
  refine pk_eq w 0 (fun cw => ?_) (fun cw => ?_)
  · subst cw
    have hp1 : p + 1 < n := by unfold pcs at hp; rw [if_pos rfl] at hp; omega
    have ha := ho.2.2 p hpn
    have hb := ho.2.2 _ hp1
    refine And.intro (vp_in_nI (by omega) (by omega)) ?_
    rw [show nI p + (1 : Int32) = nI (p + 1) from nI_1 p]
    refine And.intro (vp_in_nI (by omega) (by omega)) ?_
    rw [nI_clamp (by omega), nI_clamp (by omega), hg _ hpn, hg _ hp1]
    refine pk_le (f p) (f (p + 1)) (fun c => ?_) (fun c => ?_)
    · rw [boolif_f (by simp [fal]; omega)] at h; exact h
    · rw [boolif_t (by simp [fal]; omega)] at h; exact h
  · rw [boolif_f (by simp [fal, cw])] at h; exact h
/-- one bit of what a piece covers, 0 or 1 -/
theorem s_X5_isCovered {n w p j : Nat} {f : Nat → Nat} {c : Nat → Int32} {P : Int32 → Prop} (ho : OkL n f) (hw : w ≤ 1) (hc : HasC n w f c) (hp : p < pcs n w) (hj : j < 8) (h : P (if (cov n w f p).testBit j then 1 else 0)) : M_X5_isCovered (nI j) (nI p) c P := by
  have hpn := pcs_in hp
  have h8 := ho.2.1
  refine And.intro (vp_in_nI (by omega) (by omega)) ?_
  rw [nI_clamp (by omega), hc p hp]
  have e1 : (nI (cov n w f p) >>> (nI j &&& 31)) &&& (1 : Int32) = nI (if (cov n w f p).testBit j then 1 else 0) := z_bit _ (cov_256 ho hw hp) j (by omega)
  refine br_c (fun c => ?_) (fun c => ?_)
  · rw [e1] at c
    cases hb : (cov n w f p).testBit j with
    | true => rw [hb] at h; exact h
    | false => rw [hb] at c; exact absurd c (by decide)
  · rw [e1] at c
    cases hb : (cov n w f p).testBit j with
    | false => rw [hb] at h; exact h
    | true => rw [hb] at c; exact absurd rfl c
/-! reached -/
def rcS (c : Nat → Nat) (S : Nat) : Nat → Nat
  | 0 => S
  | k + 1 => rcS c S k ||| (if (rcS c S k).testBit k then c k else 0)
def rcI (c : Nat → Nat) (N S : Nat) : Nat → Nat
  | 0 => S
  | t + 1 => rcS c (rcI c N S t) N
theorem rcS_sub (c : Nat → Nat) (S j : Nat) : ∀ k, S.testBit j = true → (rcS c S k).testBit j = true
  | 0, h => h
  | k + 1, h => by rw [rcS, Nat.testBit_or, rcS_sub c S j k h]; rfl
theorem rcS_lt {c : Nat → Nat} {N S : Nat} (hS : S < 2 ^ N) (hc : ∀ i, i < N → c i < 2 ^ N) : ∀ k, k ≤ N → rcS c S k < 2 ^ N
  | 0, _ => hS
  | k + 1, h => by
    rw [rcS]
    refine Nat.or_lt_two_pow (rcS_lt hS hc k (by omega)) ?_
    split
    · exact hc k (by omega)
    · exact Nat.two_pow_pos N
theorem rcI_lt {c : Nat → Nat} {N S : Nat} (hS : S < 2 ^ N) (hc : ∀ i, i < N → c i < 2 ^ N) : ∀ t, rcI c N S t < 2 ^ N
  | 0 => hS
  | t + 1 => rcS_lt (rcI_lt hS hc t) hc N (Nat.le_refl N)
theorem ct_eq {p q : Nat → Bool} : ∀ {n : Nat}, (∀ k, k < n → p k = true → q k = true) → fb_ct q n ≤ fb_ct p n → ∀ k, k < n → q k = true → p k = true
  | 0, _, _, k, hk, _ => absurd hk (Nat.not_lt_zero k)
  | n + 1, h, hl, k, hk, hq => by
    have h1 := fb_ct_sub (n := n) (p := p) (q := q) (fun k hk => h k (by omega))
    rw [fb_ct_succ, fb_ct_succ] at hl
    have h2 := h n (by omega)
    rcases Nat.lt_or_ge k n with z | z
    · refine ct_eq (n := n) (fun k hk => h k (by omega)) ?_ k z hq
      cases hp : p n <;> cases hqn : q n <;> simp_all <;> omega
    · have e : k = n := by omega
      subst e
      cases hp : p k with
      | true => rfl
      | false => rw [hp, hq] at hl; simp at hl; omega
theorem rcI_fix {c : Nat → Nat} {N S : Nat} (hS : S < 2 ^ N) (hc : ∀ i, i < N → c i < 2 ^ N) : rcS c (rcI c N S N) N = rcI c N S N := by
  have key : ∀ t, rcS c (rcI c N S t) N = rcI c N S t ∨ t + 1 ≤ fb_ct (fun j => (rcI c N S t).testBit j) N := by
    intro t
    induction t with
    | zero =>
      by_cases z : S = 0
      · left
        subst z
        have h : ∀ k, rcS c 0 k = 0 := by
          intro k
          induction k with
          | zero => rfl
          | succ k ih => rw [rcS, ih, Nat.zero_testBit, boolif_f rfl, Nat.or_zero]
        exact h N
      · right
        show 1 ≤ fb_ct (fun j => S.testBit j) N
        refine fb_ct_pos.mpr ?_
        refine Classical.byContradiction fun hx => z (Nat.eq_of_testBit_eq fun j => ?_)
        rw [Nat.zero_testBit]
        rcases Nat.lt_or_ge j N with q | q
        · cases hb : S.testBit j with
          | false => rfl
          | true => exact absurd ⟨j, q, hb⟩ hx
        · exact Nat.testBit_lt_two_pow (Nat.lt_of_lt_of_le hS (Nat.pow_le_pow_right (by omega) q))
    | succ t ih =>
      rcases ih with ih | ih
      · left
        show rcS c (rcS c (rcI c N S t) N) N = rcS c (rcI c N S t) N
        rw [ih, ih]
      · by_cases z : rcS c (rcI c N S t) N = rcI c N S t
        · left
          show rcS c (rcS c (rcI c N S t) N) N = rcS c (rcI c N S t) N
          rw [z, z]
        · right
          refine Nat.lt_of_le_of_lt ih (Nat.lt_of_not_le fun hl => z ?_)
          have h1 := ct_eq (p := fun j => (rcI c N S t).testBit j) (q := fun j => (rcI c N S (t + 1)).testBit j) (n := N) (fun k _ hk => rcS_sub c _ k N hk) hl
          apply Nat.eq_of_testBit_eq
          intro j
          apply Bool.eq_iff_iff.mpr
          constructor
          · intro hj
            rcases Nat.lt_or_ge j N with q | q
            · exact h1 j q hj
            · have := Nat.testBit_lt_two_pow (Nat.lt_of_lt_of_le (rcI_lt hS hc (t + 1)) (Nat.pow_le_pow_right (by omega) q) : rcI c N S (t + 1) < 2 ^ j)
              rw [show rcS c (rcI c N S t) N = rcI c N S (t + 1) from rfl, this] at hj
              cases hj
          · exact rcS_sub c _ j N
  rcases key N with h | h
  · exact h
  · have := fb_ct_le (fun j => (rcI c N S N).testBit j) N
    omega
theorem rcI_end {c : Nat → Nat} {N S : Nat} (hS : S < 2 ^ N) (hc : ∀ i, i < N → c i < 2 ^ N) : ∀ k, rcI c N S (N + k) = rcI c N S N
  | 0 => rfl
  | k + 1 => by
    show rcS c (rcI c N S (N + k)) N = _
    rw [rcI_end hS hc k, rcI_fix hS hc]
def rch (n w : Nat) (f : Nat → Nat) (p : Nat) : Nat := rcI (cov n w f) (pcs n w) (cov n w f p) 8
theorem s_X5_reachedFrom {n w p : Nat} {f : Nat → Nat} {c : Nat → Int32} {P : Int32 → Prop} (ho : OkL n f) (hw : w ≤ 1) (hc : HasC n w f c) (hp : p < pcs n w) (h : P (nI (rch n w f p))) : M_X5_reachedFrom (nI p) c (nI (pcs n w)) P := by
  have h8 := ho.2.1
  have hN : pcs n w ≤ 8 := Nat.le_trans pcs_le h8
  have hpn := pcs_in hp
  have hl := fun t => rcI_lt (cov_lt ho hw hp) (fun i hi => cov_lt ho hw hi) t
  have h256 : ∀ S, S < 2 ^ pcs n w → S < 256 := fun S hS => Nat.lt_of_lt_of_le hS (Nat.pow_le_pow_right (by omega) hN : 2 ^ pcs n w ≤ 2 ^ 8)
  refine And.intro (vp_in_nI (by omega) (by omega)) ?_
  rw [nI_clamp (by omega), hc p hp]
  refine LP2_ix (fun t a b => a = nI (rcI (cov n w f) (pcs n w) (cov n w f p) t) ∧ b = nI t) (pcs n w) ?_ 0 _ _ (Nat.zero_le _) ⟨rfl, rfl⟩
  rintro K t a b ht ⟨rfl, rfl⟩ hK
  refine pk_le (pcs n w) t (fun c1 => ?_) (fun c1 => ?_)
  · have e : t = pcs n w := by omega
    subst e
    rw [rch, show 8 = pcs n w + (8 - pcs n w) by omega, rcI_end (cov_lt ho hw hp) (fun i hi => cov_lt ho hw hi)] at h
    exact h
  · refine LP2_ix (fun k a b => a = nI (rcS (cov n w f) (rcI (cov n w f) (pcs n w) (cov n w f p) t) k) ∧ b = nI k) (pcs n w) ?_ 0 _ _ (Nat.zero_le _) ⟨rfl, rfl⟩
    rintro K2 k a b hk ⟨rfl, rfl⟩ hK2
    have hS := h256 _ (rcS_lt (hl t) (fun i hi => cov_lt ho hw hi) k hk)
    refine pk_le (pcs n w) k (fun c2 => ?_) (fun c2 => ?_)
    · have e : k = pcs n w := by omega
      subst e
      exact hK _ _ c1 ⟨rfl, nI_1 t⟩
    · have e1 := z_bit _ hS k (by omega)
      refine br_c (fun c3 => ?_) (fun c3 => ?_)
      · rw [e1] at c3
        have hb : (rcS (cov n w f) (rcI (cov n w f) (pcs n w) (cov n w f p) t) k).testBit k = true := by
          cases hb : (rcS (cov n w f) (rcI (cov n w f) (pcs n w) (cov n w f p) t) k).testBit k with
          | true => rfl
          | false => rw [hb] at c3; exact absurd c3 (by decide)
        refine And.intro (vp_in_nI (by omega) (by omega)) (hK2 _ _ c2 ⟨?_, nI_1 k⟩)
        rw [nI_clamp (by omega), hc k c2, z_or, rcS, boolif_t hb]
      · rw [e1] at c3
        have hb : (rcS (cov n w f) (rcI (cov n w f) (pcs n w) (cov n w f p) t) k).testBit k = false := by
          cases hb : (rcS (cov n w f) (rcI (cov n w f) (pcs n w) (cov n w f p) t) k).testBit k with
          | false => rfl
          | true => rw [hb] at c3; exact absurd rfl c3
        refine hK2 _ _ c2 ⟨?_, nI_1 k⟩
        rw [show (0 : Int32) = nI 0 from rfl, z_or, rcS, boolif_f hb]
theorem s_X9_reached {n w p : Nat} {f : Nat → Nat} {g : Nat → Int32} {P : Int32 → Prop} (ho : OkL n f) (hw : w ≤ 1) (hg : HasL n f g) (hp : p < pcs n w) (h : P (nI (rch n w f p))) : M_X9_reached (nI p) g (nI n) (nI w) P := by
  have h2 := ho.1
  have h8 := ho.2.1
  have hN : pcs n w ≤ 8 := Nat.le_trans pcs_le h8
  have hl := fun t => rcI_lt (cov_lt ho hw hp) (fun i hi => cov_lt ho hw hi) t
  have h256 : ∀ S, S < 2 ^ pcs n w → S < 256 := fun S hS => Nat.lt_of_lt_of_le hS (Nat.pow_le_pow_right (by omega) hN : 2 ^ pcs n w ≤ 2 ^ 8)
  refine s_X9_coversOf ho hw hg hp ?_
  refine LP2_ix (fun t a b => a = nI (rcI (cov n w f) (pcs n w) (cov n w f p) t) ∧ b = nI t) 8 ?_ 0 _ _ (Nat.zero_le _) ⟨rfl, rfl⟩
  rintro K t a b ht ⟨rfl, rfl⟩ hK
  refine pk_le 8 t (fun c1 => ?_) (fun c1 => ?_)
  · have e : t = 8 := by omega
    subst e
    exact h
  · refine LP2_ix (fun k a b => a = nI (rcS (cov n w f) (rcI (cov n w f) (pcs n w) (cov n w f p) t) k) ∧ b = nI k) (pcs n w) ?_ 0 _ _ (Nat.zero_le _) ⟨rfl, rfl⟩
    rintro K2 k a b hk ⟨rfl, rfl⟩ hK2
    have hS := h256 _ (rcS_lt (hl t) (fun i hi => cov_lt ho hw hi) k hk)
    refine s_X9_pieces (by omega) hw ?_
    refine pk_le (pcs n w) k (fun c2 => ?_) (fun c2 => ?_)
    · have e : k = pcs n w := by omega
      subst e
      exact hK _ _ c1 ⟨rfl, nI_1 t⟩
    · have e1 := z_bit _ hS k (by omega)
      refine br_c (fun c3 => ?_) (fun c3 => ?_)
      · rw [e1] at c3
        have hb : (rcS (cov n w f) (rcI (cov n w f) (pcs n w) (cov n w f p) t) k).testBit k = false := by
          cases hb : (rcS (cov n w f) (rcI (cov n w f) (pcs n w) (cov n w f p) t) k).testBit k with
          | false => rfl
          | true => rw [hb] at c3; exact absurd c3 (by decide)
        refine hK2 _ _ c2 ⟨?_, nI_1 k⟩
        rw [show (0 : Int32) = nI 0 from rfl, z_or, rcS, boolif_f hb]
      · rw [e1] at c3
        have hb : (rcS (cov n w f) (rcI (cov n w f) (pcs n w) (cov n w f p) t) k).testBit k = true := by
          cases hb : (rcS (cov n w f) (rcI (cov n w f) (pcs n w) (cov n w f p) t) k).testBit k with
          | true => rfl
          | false => rw [hb] at c3; exact absurd rfl c3
        refine s_X9_coversOf ho hw hg c2 (hK2 _ _ c2 ⟨?_, nI_1 k⟩)
        rw [z_or, rcS, boolif_t hb]
theorem s_X9_isPiece {x : Int32} {n w : Nat} {P : Int32 → Prop} (h2 : 2 ≤ n) (h8 : n ≤ 8) (hw : w ≤ 1) (h0 : x < 0 ∨ nI (pcs n w) ≤ x → P 0) (h1 : ∀ j, j < pcs n w → x = nI j → P 1) : M_X9_isPiece x (nI w) (nI n) P :=
  s_X9_pieces (by omega) hw (s_X9_isPoint (n := pcs n w) (pcs_1 h2) (Nat.le_trans pcs_le h8) h0 h1)
theorem s_X5_holds {x : Int32} {n : Nat} {P : Int32 → Prop} (h8 : n ≤ 8) (h0 : (x < 0 ∨ nI n ≤ x) → P 0) (h1 : ∀ j, j < n → x = nI j → P 1) : M_X5_holds x (nI n) P := s_X0_holds h8 h0 h1
def a_cov1 (n w : Nat) (f : Nat → Nat) (p : Nat) (x : Int32) : Int32 := if x = 0 then nI (cov n w f p) else if x = 1 then (if fal w f p then 1 else 0) else if x = 2 then nI (rch n w f p) else -2
def a_covers (n w : Nat) (f : Nat → Nat) (x1 x2 : Int32) : Int32 := if x1 < 0 ∨ nI (pcs n w) ≤ x1 then -2 else a_cov1 n w f x1.toNatClampNeg x2
theorem s_X8_covers {n w : Nat} {f : Nat → Nat} {g c : Nat → Int32} {x1 x2 y1 y2 : Int32} {P : Int32 → Int32 → Int32 → (Nat → Int32) → Prop} (ho : OkL n f) (hw : w ≤ 1) (hg : HasL n f g) (h : ∀ a b c, P (a_covers n w f x1 x2) a b c) : M_X8_covers x1 x2 (nI w) (nI n) y1 y2 g c P := by
  have hn := ho.2.1
  have hN : pcs n w ≤ 8 := Nat.le_trans pcs_le hn
  refine s_X5_learn ho hw hg (fun F c' hF hc => ?_)
  have h := h (nI (pcs n w)) (nI F) c'
  refine s_X5_holds (Nat.le_trans pcs_le hn) (fun q => br_t rfl ?_) (fun p hp e => br_f (by decide) ?_)
  · rw [a_covers, if_pos q] at h; exact h
  · subst e
    have hpn := pcs_in hp
    rw [a_covers, if_neg (pt_yes hp (by omega)), nI_clamp (by omega), a_cov1] at h
    refine br_c (fun q => ?_) (fun q => ?_)
    · rw [if_pos q] at h
      refine And.intro (vp_in_nI (by omega) (by omega)) ?_
      rw [nI_clamp (by omega), hc p hp]; exact h
    rw [if_neg q] at h
    refine br_c (fun q => ?_) (fun q => ?_)
    · rw [if_pos q] at h
      refine s_X5_falls hn hF hp ?_
      cases hb : fal w f p with
      | true => rw [hb] at h; exact br_f (by decide) h
      | false => rw [hb] at h; exact br_t rfl h
    rw [if_neg q] at h
    refine br_c (fun q => ?_) (fun q => ?_)
    · rw [if_pos q] at h; exact s_X5_reachedFrom ho hw hc hp h
    rw [if_neg q] at h; exact h
theorem s_X9_covers {n w : Nat} {f : Nat → Nat} {g : Nat → Int32} {x1 x2 : Int32} {P : Int32 → Prop} (ho : OkL n f) (hw : w ≤ 1) (hg : HasL n f g) (h : P (a_covers n w f x1 x2)) : M_X9_covers x1 x2 (nI w) (nI n) g P := by
  have hn := ho.2.1
  have hN : pcs n w ≤ 8 := Nat.le_trans pcs_le hn
  refine s_X9_isPiece ho.1 hn hw (fun q => br_t rfl ?_) (fun p hp e => br_f (by decide) ?_)
  · rw [a_covers, if_pos q] at h; exact h
  · subst e
    have hpn := pcs_in hp
    rw [a_covers, if_neg (pt_yes hp (by omega)), nI_clamp (by omega), a_cov1] at h
    refine s_in (a := 0) (b := 2) rfl rfl (fun c => br_t rfl ?_) (fun c1 c2 => br_f (by decide) ?_)
    · rw [if_neg (by rintro rfl; revert c; decide), if_neg (by rintro rfl; revert c; decide), if_neg (by rintro rfl; revert c; decide)] at h
      exact h
    · refine br_c (fun q => ?_) (fun q => ?_)
      · rw [if_pos q] at h; exact s_X9_coversOf ho hw hg hp h
      rw [if_neg q] at h
      refine br_c (fun q2 => ?_) (fun q2 => ?_)
      · subst q2
        rw [if_neg (by decide), if_pos rfl] at h; exact s_X9_reached ho hw hg hp h
      obtain ⟨k, -, hk, rfl⟩ := in_rng 0 2 c1 c2
      have e : k = 1 := by
        rcases (show k = 0 ∨ k = 1 ∨ k = 2 by omega) with rfl | rfl | rfl
        · exact absurd nI_0 q
        · rfl
        · exact absurd rfl q2
      subst e
      rw [if_pos (show nI 1 = 1 from rfl)] at h
      refine s_X9_falls ho hw hg hp ?_
      cases hb : fal w f p with
      | true => rw [hb] at h; exact br_f (by decide) h
      | false => rw [hb] at h; exact br_t rfl h
