/-! texts -/
/-- stage, points told, rings, where led, the latest point, the first + 1: behind i bytes -/
def rdS (n : Nat) (T : Nat → Nat) : Nat → Nat × Nat × Nat × (Nat → Nat) × Nat × Nat
  | 0 => (0, 0, 0, id, 0, 0)
  | i + 1 =>
    if (rdS n T i).1 = 1 then (2, (rdS n T i).2.1 ||| 2 ^ (T i - 48), (rdS n T i).2.2.1, (if (rdS n T i).2.2.2.2.2 = 0 then (rdS n T i).2.2.2.1 else uf (rdS n T i).2.2.2.1 (rdS n T i).2.2.2.2.1 (T i - 48)), T i - 48, (if (rdS n T i).2.2.2.2.2 = 0 then T i - 48 + 1 else (rdS n T i).2.2.2.2.2))
    else if (rdS n T i).1 = 2 then (if T i = 32 then (1, (rdS n T i).2) else (3, (rdS n T i).2.1, (rdS n T i).2.2.1 + 1, uf (rdS n T i).2.2.2.1 (rdS n T i).2.2.2.2.1 ((rdS n T i).2.2.2.2.2 - 1), (rdS n T i).2.2.2.2.1, (rdS n T i).2.2.2.2.2))
    else (1, (rdS n T i).2.1, (rdS n T i).2.2.1, (rdS n T i).2.2.2.1, (rdS n T i).2.2.2.2.1, 0)
def rS (n : Nat) (T : Nat → Nat) (i : Nat) : Nat := (rdS n T i).1
def rT (n : Nat) (T : Nat → Nat) (i : Nat) : Nat := (rdS n T i).2.1
def rR (n : Nat) (T : Nat → Nat) (i : Nat) : Nat := (rdS n T i).2.2.1
def rL (n : Nat) (T : Nat → Nat) (i : Nat) : Nat → Nat := (rdS n T i).2.2.2.1
def rA (n : Nat) (T : Nat → Nat) (i : Nat) : Nat := (rdS n T i).2.2.2.2.1
def rF (n : Nat) (T : Nat → Nat) (i : Nat) : Nat := (rdS n T i).2.2.2.2.2
def okB (n : Nat) (T : Nat → Nat) (i : Nat) : Bool := if rS n T i = 1 then (decide (48 ≤ T i) && (decide (T i - 48 < n) && !(rT n T i).testBit (T i - 48))) else if rS n T i = 2 then decide (T i = 32) || decide (T i = 41) else decide (T i = 40)
def bV (b : Nat) : Int32 := if b = 0 then -1 else nI (b - 1)
section RD
variable {n : Nat} {T : Nat → Nat}
theorem rd_1 {i : Nat} (h : rS n T i = 1) : rS n T (i + 1) = 2 ∧ rT n T (i + 1) = rT n T i ||| 2 ^ (T i - 48) ∧ rR n T (i + 1) = rR n T i ∧ rL n T (i + 1) = (if rF n T i = 0 then rL n T i else uf (rL n T i) (rA n T i) (T i - 48)) ∧ rA n T (i + 1) = T i - 48 ∧ rF n T (i + 1) = (if rF n T i = 0 then T i - 48 + 1 else rF n T i) := by
  have e : rdS n T (i + 1) = (2, rT n T i ||| 2 ^ (T i - 48), rR n T i, (if rF n T i = 0 then rL n T i else uf (rL n T i) (rA n T i) (T i - 48)), T i - 48, (if rF n T i = 0 then T i - 48 + 1 else rF n T i)) := if_pos h
  exact ⟨congrArg (fun z => z.1) e, congrArg (fun z => z.2.1) e, congrArg (fun z => z.2.2.1) e, congrArg (fun z => z.2.2.2.1) e, congrArg (fun z => z.2.2.2.2.1) e, congrArg (fun z => z.2.2.2.2.2) e⟩
theorem rd_2b {i : Nat} (h : rS n T i = 2) (hc : T i = 32) : rS n T (i + 1) = 1 ∧ rT n T (i + 1) = rT n T i ∧ rR n T (i + 1) = rR n T i ∧ rL n T (i + 1) = rL n T i ∧ rA n T (i + 1) = rA n T i ∧ rF n T (i + 1) = rF n T i := by
  have e : rdS n T (i + 1) = (1, (rdS n T i).2) := (if_neg (show ¬ (rdS n T i).1 = 1 by rw [show (rdS n T i).1 = rS n T i from rfl, h]; decide)).trans ((if_pos h).trans (if_pos hc))
  exact ⟨congrArg (fun z => z.1) e, congrArg (fun z => z.2.1) e, congrArg (fun z => z.2.2.1) e, congrArg (fun z => z.2.2.2.1) e, congrArg (fun z => z.2.2.2.2.1) e, congrArg (fun z => z.2.2.2.2.2) e⟩
theorem rd_2e {i : Nat} (h : rS n T i = 2) (hc : ¬ T i = 32) : rS n T (i + 1) = 3 ∧ rT n T (i + 1) = rT n T i ∧ rR n T (i + 1) = rR n T i + 1 ∧ rL n T (i + 1) = uf (rL n T i) (rA n T i) (rF n T i - 1) ∧ rA n T (i + 1) = rA n T i ∧ rF n T (i + 1) = rF n T i := by
  have e : rdS n T (i + 1) = (3, rT n T i, rR n T i + 1, uf (rL n T i) (rA n T i) (rF n T i - 1), rA n T i, rF n T i) := (if_neg (show ¬ (rdS n T i).1 = 1 by rw [show (rdS n T i).1 = rS n T i from rfl, h]; decide)).trans ((if_pos h).trans (if_neg hc))
  exact ⟨congrArg (fun z => z.1) e, congrArg (fun z => z.2.1) e, congrArg (fun z => z.2.2.1) e, congrArg (fun z => z.2.2.2.1) e, congrArg (fun z => z.2.2.2.2.1) e, congrArg (fun z => z.2.2.2.2.2) e⟩
theorem rd_0 {i : Nat} (h1 : ¬ rS n T i = 1) (h2 : ¬ rS n T i = 2) : rS n T (i + 1) = 1 ∧ rT n T (i + 1) = rT n T i ∧ rR n T (i + 1) = rR n T i ∧ rL n T (i + 1) = rL n T i ∧ rA n T (i + 1) = rA n T i ∧ rF n T (i + 1) = 0 := by
  have e : rdS n T (i + 1) = (1, rT n T i, rR n T i, rL n T i, rA n T i, 0) := (if_neg h1).trans (if_neg h2)
  exact ⟨congrArg (fun z => z.1) e, congrArg (fun z => z.2.1) e, congrArg (fun z => z.2.2.1) e, congrArg (fun z => z.2.2.2.1) e, congrArg (fun z => z.2.2.2.2.1) e, congrArg (fun z => z.2.2.2.2.2) e⟩
/-- what holds as long as no byte was a fault -/
def rdV (n : Nat) (T : Nat → Nat) (i : Nat) : Prop := rS n T i ≤ 3 ∧ rT n T i < 2 ^ n ∧ rR n T i ≤ i ∧ (rS n T i = 0 → rR n T i = 0) ∧ (rS n T i = 3 → 1 ≤ rR n T i) ∧ (∀ v, (rT n T i).testBit v = false → rL n T i v = v) ∧ (∀ v, v < n → rL n T i v < n) ∧ (rS n T i = 2 ∨ (rS n T i = 1 ∧ rF n T i ≠ 0) → rA n T i < n ∧ (rT n T i).testBit (rA n T i) = true ∧ rF n T i ≠ 0 ∧ rF n T i ≤ n)
theorem okB_1 {i : Nat} (h : rS n T i = 1) : okB n T i = true ↔ 48 ≤ T i ∧ T i - 48 < n ∧ (rT n T i).testBit (T i - 48) = false := by
  rw [okB, if_pos h, Bool.and_eq_true, Bool.and_eq_true, decide_eq_true_iff, decide_eq_true_iff, Bool.not_eq_true']
theorem okB_2 {i : Nat} (h : rS n T i = 2) : okB n T i = true ↔ T i = 32 ∨ T i = 41 := by
  rw [okB, if_neg (by rw [h]; decide), if_pos h, Bool.or_eq_true, decide_eq_true_iff, decide_eq_true_iff]
theorem okB_0 {i : Nat} (h1 : ¬ rS n T i = 1) (h2 : ¬ rS n T i = 2) : okB n T i = true ↔ T i = 40 := by
  rw [okB, if_neg h1, if_neg h2, decide_eq_true_iff]
theorem uf_bits {L : Nat → Nat} {S a x : Nat} (h : ∀ v, S.testBit v = false → L v = v) (ha : S.testBit a = true) : ∀ v, S.testBit v = false → uf L a x v = v := by
  intro v hv
  unfold uf
  rw [if_neg (fun e => by rw [e, ha] at hv; cases hv)]
  exact h v hv
theorem uf_lt {L : Nat → Nat} {a x : Nat} (h : ∀ v, v < n → L v < n) (hx : x < n) : ∀ v, v < n → uf L a x v < n := by
  intro v hv
  unfold uf
  split
  · exact hx
  · exact h v hv
theorem rd_V : ∀ i, (∀ j, j < i → okB n T j = true) → rdV n T i
  | 0, _ => ⟨Nat.zero_le _, Nat.two_pow_pos n, Nat.le_refl 0, fun _ => rfl, fun h => absurd h (by show ¬ (0 : Nat) = 3; decide), fun _ _ => rfl, fun _ h => h, fun h => absurd h (by show ¬ ((0 : Nat) = 2 ∨ ((0 : Nat) = 1 ∧ _)); omega)⟩
  | i + 1, h => by
    obtain ⟨v1, v2, v3, v4, v5, v6, v7, v8⟩ := rd_V i (fun j hj => h j (by omega))
    have hi := h i (by omega)
    by_cases q1 : rS n T i = 1
    · obtain ⟨o1, o2, o3⟩ := (okB_1 q1).mp hi
      obtain ⟨e1, e2, e3, e4, e5, e6⟩ := rd_1 (n := n) (T := T) q1
      have hsub : ∀ v, (rT n T i ||| 2 ^ (T i - 48)).testBit v = false → (rT n T i).testBit v = false := by
        intro v hv
        rw [Nat.testBit_or, Bool.or_eq_false_iff] at hv
        exact hv.1
      have hx : (rT n T i ||| 2 ^ (T i - 48)).testBit (T i - 48) = true := by
        rw [Nat.testBit_or, tb_pow, decide_eq_true rfl, Bool.or_true]
      rw [rdV, e1, e2, e3, e4, e5, e6]
      refine ⟨by decide, Nat.or_lt_two_pow v2 (Nat.pow_lt_pow_of_lt (by omega) o2), by omega, fun z => absurd z (by decide), fun z => absurd z (by decide), ?_, ?_, fun _ => ⟨o2, hx, ?_, ?_⟩⟩
      · intro v hv
        by_cases z : rF n T i = 0
        · rw [if_pos z]; exact v6 v (hsub v hv)
        · rw [if_neg z]
          refine uf_bits (S := rT n T i ||| 2 ^ (T i - 48)) (fun v hv => v6 v (hsub v hv)) ?_ v hv
          rw [Nat.testBit_or, (v8 (Or.inr ⟨q1, z⟩)).2.1]; rfl
      · by_cases z : rF n T i = 0
        · rw [if_pos z]; exact v7
        · rw [if_neg z]; exact uf_lt v7 o2
      · split <;> omega
      · by_cases z : rF n T i = 0
        · rw [if_pos z]; omega
        · rw [if_neg z]; exact (v8 (Or.inr ⟨q1, z⟩)).2.2.2
    by_cases q2 : rS n T i = 2
    · obtain ⟨w1, w2, w3, w4⟩ := v8 (Or.inl q2)
      by_cases c : T i = 32
      · obtain ⟨e1, e2, e3, e4, e5, e6⟩ := rd_2b (n := n) (T := T) q2 c
        rw [rdV, e1, e2, e3, e4, e5, e6]
        exact ⟨by decide, v2, by omega, fun z => absurd z (by decide), fun z => absurd z (by decide), v6, v7, fun _ => ⟨w1, w2, w3, w4⟩⟩
      · obtain ⟨e1, e2, e3, e4, e5, e6⟩ := rd_2e (n := n) (T := T) q2 c
        rw [rdV, e1, e2, e3, e4, e5, e6]
        exact ⟨by decide, v2, by omega, fun z => absurd z (by decide), fun _ => by omega, uf_bits v6 w2, uf_lt v7 (by omega), fun z => absurd z (by omega)⟩
    · obtain ⟨e1, e2, e3, e4, e5, e6⟩ := rd_0 (n := n) (T := T) q1 q2
      rw [rdV, e1, e2, e3, e4, e5, e6]
      exact ⟨by decide, v2, by omega, fun z => absurd z (by decide), fun z => absurd z (by decide), v6, v7, fun z => absurd z (by omega)⟩
/-- the first byte that can't stand there -/
def rdF (n t : Nat) (T : Nat → Nat) : Nat := fa_first (fun i => !okB n T i) t
theorem rdF_le (t : Nat) : rdF n t T ≤ t := fa_first_le _ _
theorem rdF_ok {t i : Nat} (h : i < rdF n t T) : okB n T i = true := by
  have := fa_first_no (fun i => !okB n T i) t i h
  simpa using this
theorem rdF_V {t i : Nat} (h : i ≤ rdF n t T) : rdV n T i := rd_V i (fun j hj => rdF_ok (t := t) (by omega))
theorem rdF_lt {t i : Nat} (h : i ≤ rdF n t T) (hi : i < t) (ho : okB n T i = true) : i < rdF n t T := by
  rcases Nat.lt_or_ge i (rdF n t T) with q | q
  · exact q
  · have e : rdF n t T = i := by omega
    have := fa_first_yes (fun i => !okB n T i) t (by rw [show fa_first (fun i => !okB n T i) t = i from e]; exact hi)
    rw [show fa_first (fun i => !okB n T i) t = i from e, ho] at this
    cases this
theorem rdF_is {t i : Nat} (h : i ≤ rdF n t T) (hi : i < t) (ho : okB n T i = false) : rdF n t T = i :=
  fa_first_is hi (by rw [ho]; rfl) (fun k hk => by rw [rdF_ok (t := t) (by omega)]; rfl)
def rdG (n t : Nat) (T : Nat → Nat) : Bool := decide (rdF n t T = t) && decide (rS n T t = 3)
theorem rT_256 (h8 : n ≤ 8) {i : Nat} (h : rdV n T i) : rT n T i < 256 := Nat.lt_of_lt_of_le h.2.1 (Nat.pow_le_pow_right (by omega) h8 : 2 ^ n ≤ 2 ^ 8)
theorem rL_ok (h2 : 2 ≤ n) (h8 : n ≤ 8) {i : Nat} (h : rdV n T i) : OkF n (rL n T i) :=
  ⟨h2, h8, h.2.2.2.2.2.2.1, fun v hv => h.2.2.2.2.2.1 v (Nat.testBit_lt_two_pow (Nat.lt_of_lt_of_le h.2.1 (Nat.pow_le_pow_right (by omega) hv)))⟩
theorem bV_1 {b : Nat} (h : b ≠ 0) : bV b = nI (b - 1) := if_neg h
theorem s_X7_canTake {i : Nat} {la fi : Int32} {g : Nat → Int32} {P : Int32 → (Nat → Int32) → Int32 → Int32 → Int32 → Int32 → Int32 → Prop} (h2 : 2 ≤ n) (h8 : n ≤ 8) (hT : T i < 128) (hV : rdV n T i) (hg : Has8 (rL n T i) g) (hla : rS n T i = 2 ∨ (rS n T i = 1 ∧ rF n T i ≠ 0) → la = nI (rA n T i)) (hfi : rS n T i = 1 ∨ rS n T i = 2 → fi = bV (rF n T i))
    (h0 : okB n T i = false → ∀ g' a b, P 0 g' (nI (rT n T i)) a b fi (nI (rR n T i)) ∧ P 0 g' (nI (rT n T i)) a b la (nI (rR n T i)))
    (h1 : okB n T i = true → ∀ g' la' fi', Has8 (rL n T (i + 1)) g' → (rS n T (i + 1) = 2 ∨ (rS n T (i + 1) = 1 ∧ rF n T (i + 1) ≠ 0) → la' = nI (rA n T (i + 1))) → (rS n T (i + 1) = 1 ∨ rS n T (i + 1) = 2 → fi' = bV (rF n T (i + 1))) → P 1 g' (nI (rT n T (i + 1))) la' (nI (rS n T (i + 1))) fi' (nI (rR n T (i + 1)))) :
    M_X7_canTake (nI (T i)) (nI (rS n T i)) (nI n) (nI (rT n T i)) fi la g (nI (rR n T i)) P := by
  have h256 := rT_256 h8 hV
  obtain ⟨v1, v2, v3, v4, v5, v6, v7, v8⟩ := hV
  refine pk_eq (rS n T i) 1 (fun q1 => ?_) (fun q1 => ?_)
  · obtain ⟨e1, e2, e3, e4, e5, e6⟩ := rd_1 (n := n) (T := T) q1
    have ok := okB_1 (n := n) (T := T) q1
    have bad : okB n T i = false → ∀ z : Int32, narrow .boolean (.int (0 : Int32)) = .int 0 ∧ P 0 g (nI (rT n T i)) la (nI (rS n T i)) fi (nI (rR n T i)) := fun hb _ => ⟨rfl, (h0 hb g la (nI (rS n T i))).1⟩
    by_cases hlow : 48 ≤ T i
    · have e : nI (T i) - (48 : Int32) = nI (T i - 48) := pk_sub (b := 48) hlow
      rw [e]
      refine br_f (nI_pos (by omega)) (pk_le n (T i - 48) (fun c => ?_) (fun c => ?_))
      · exact bad (Bool.eq_false_iff.mpr (fun z => by have := (ok.mp z).2.1; omega)) 0
      · have e1b : (nI (rT n T i) >>> (nI (T i - 48) &&& 31)) &&& (1 : Int32) = nI (if (rT n T i).testBit (T i - 48) then 1 else 0) := z_bit _ h256 _ (by omega)
        refine br_c (fun c2 => ?_) (fun c2 => ?_)
        · rw [e1b] at c2
          have hb : (rT n T i).testBit (T i - 48) = true := by
            cases hb : (rT n T i).testBit (T i - 48) with
            | true => rfl
            | false => rw [hb] at c2; exact absurd c2 (by decide)
          exact bad (Bool.eq_false_iff.mpr (fun z => by have := (ok.mp z).2.2; rw [hb] at this; cases this)) 0
        · rw [e1b] at c2
          have hb : (rT n T i).testBit (T i - 48) = false := by
            cases hb : (rT n T i).testBit (T i - 48) with
            | false => rfl
            | true => rw [hb] at c2; exact absurd rfl c2
          have hP := h1 (ok.mpr ⟨hlow, c, hb⟩)
          rw [e1, e2, e3, e4, e5, e6] at hP
          have et : nI (rT n T i) ||| ((1 : Int32) <<< (nI (T i - 48) &&& 31)) = nI (rT n T i ||| 2 ^ (T i - 48)) := by rw [z_sh1 _ (by omega), z_or]
          have hf := hfi (Or.inl q1)
          by_cases z : rF n T i = 0
          · rw [if_pos z, if_pos z] at hP
            have hf : fi = -1 := by rw [hf, z]; rfl
            subst hf
            refine br_f (by decide) (And.intro rfl ?_)
            rw [et]
            exact hP g _ _ hg (fun _ => rfl) (fun _ => by rw [bV_1 (by omega)]; rfl)
          · rw [if_neg z, if_neg z] at hP
            obtain ⟨w1, w2, w3, w4⟩ := v8 (Or.inr ⟨q1, z⟩)
            have hl := hla (Or.inr ⟨q1, z⟩)
            rw [bV_1 z] at hf
            subst hf; subst hl
            refine br_t (nI_pos' (by omega)) (And.intro (vp_in_nI (by omega) (by omega)) (And.intro rfl ?_))
            rw [et, nI_clamp (by omega)]
            exact hP _ _ _ (uf_has hg) (fun _ => rfl) (fun _ => by rw [bV_1 z])
    · have e : nI (T i) - (48 : Int32) < 0 := pk_sneg (b := 48) (by omega) (by omega)
      exact br_t e (bad (Bool.eq_false_iff.mpr (fun z => hlow (ok.mp z).1)) 0)
  refine pk_eq (rS n T i) 2 (fun q2 => ?_) (fun q2 => ?_)
  · obtain ⟨w1, w2, w3, w4⟩ := v8 (Or.inl q2)
    have ok := okB_2 (n := n) (T := T) q2
    have hf := hfi (Or.inr q2)
    have hl := hla (Or.inl q2)
    refine pk_eq (T i) 32 (fun c => ?_) (fun c => ?_)
    · obtain ⟨e1, e2, e3, e4, e5, e6⟩ := rd_2b (n := n) (T := T) q2 c
      have hP := h1 (ok.mpr (Or.inl c))
      rw [e1, e2, e3, e4, e5, e6] at hP
      exact And.intro rfl (hP g la fi hg (fun _ => hl) (fun _ => hf))
    refine pk_eq (T i) 41 (fun c2 => ?_) (fun c2 => ?_)
    · obtain ⟨e1, e2, e3, e4, e5, e6⟩ := rd_2e (n := n) (T := T) q2 c
      have hP := h1 (ok.mpr (Or.inr c2))
      rw [e1, e2, e3, e4, e5, e6] at hP
      rw [bV_1 w3] at hf
      subst hf; subst hl
      refine And.intro (vp_in_nI (by omega) (by omega)) (And.intro rfl ?_)
      rw [nI_clamp (by omega), show nI (rR n T i) + (1 : Int32) = nI (rR n T i + 1) from nI_1 _]
      exact hP _ _ _ (uf_has hg) (fun z => absurd z (by omega)) (fun z => absurd z (by omega))
    · exact And.intro rfl (h0 (Bool.eq_false_iff.mpr (fun z => (ok.mp z).elim c c2)) g la _).1
  · have ok := okB_0 (n := n) (T := T) q1 q2
    obtain ⟨e1, e2, e3, e4, e5, e6⟩ := rd_0 (n := n) (T := T) q1 q2
    refine pk_eq (T i) 40 (fun c => ?_) (fun c => ?_)
    · have hP := h1 (ok.mpr c)
      rw [e1, e2, e3, e4, e5, e6] at hP
      exact And.intro rfl (hP g la (-1) hg (fun z => absurd z (by omega)) (fun _ => rfl))
    · exact And.intro rfl (h0 (Bool.eq_false_iff.mpr (fun z => c (ok.mp z))) g la _).1
theorem s_X7_faultIn {t : Nat} {y1 y2 y3 y4 fi0 la0 : Int32} {g b : Nat → Int32} {P : Int32 → Int32 → Int32 → Int32 → Int32 → (Nat → Int32) → Int32 → Int32 → Prop} (h2 : 2 ≤ n) (h8 : n ≤ 8) (ht : OkT t T) (hb : HasT t T b)
    (h0 : rdG n t T = false → ∀ s g' la fi, P (nI (rdF n t T)) s (nI n) (nI (rT n T (rdF n t T))) (nI (rR n T (rdF n t T))) g' la fi)
    (h1 : rdG n t T = true → ∀ s x g' la fi, Has8 (rL n T t) g' → P (-1) s (nI n) x (nI (rR n T t)) g' la fi) :
    M_X7_faultIn (nI n) y1 y2 y3 y4 g (nI t) b fi0 la0 P := by
  have h60 := ht.1
  refine LP2_ix (fun i a b => a = nI i ∧ ∀ k, k < i → b k = nI k) 8 ?_ 0 _ _ (Nat.zero_le _) ⟨rfl, fun k hk => absurd hk (Nat.not_lt_zero k)⟩
  rintro K i a g1 hi ⟨rfl, hg1⟩ hK
  refine pk_le 8 i (fun c1 => ?_) (fun c1 => ?_)
  · have hFt := rdF_le (n := n) (T := T) t
    refine LP7_ix (fun i l3 s tt rr g' la fi => l3 = nI i ∧ s = nI (rS n T i) ∧ tt = nI (rT n T i) ∧ rr = nI (rR n T i) ∧ Has8 (rL n T i) g' ∧ (rS n T i = 2 ∨ (rS n T i = 1 ∧ rF n T i ≠ 0) → la = nI (rA n T i)) ∧ (rS n T i = 1 ∨ rS n T i = 2 → fi = bV (rF n T i))) (rdF n t T) ?_ 0 _ _ _ _ _ _ _ (Nat.zero_le _) ⟨rfl, rfl, rfl, rfl, fun k hk => hg1 k (by omega), fun z => absurd z (by show ¬ ((0 : Nat) = 2 ∨ ((0 : Nat) = 1 ∧ _)); omega), fun z => absurd z (by show ¬ ((0 : Nat) = 1 ∨ (0 : Nat) = 2); omega)⟩
    rintro K i l3 s tt rr g' la fi hi ⟨rfl, rfl, rfl, rfl, hg', hla, hfi⟩ hK
    have hV := rdF_V hi
    refine pk_le t i (fun c2 => ?_) (fun c2 => ?_)
    · have e : i = t := by omega
      have eF : rdF n t T = t := by omega
      subst e
      rw [eF] at h0
      have h3 := hV.1
      refine pk_eq (rS n T i) 3 (fun q => ?_) (fun q => ?_)
      · exact h1 (by rw [rdG, decide_eq_true eF, decide_eq_true q]; rfl) _ _ _ _ _ hg'
      · exact h0 (by rw [rdG, decide_eq_false q, Bool.and_false]) _ _ _ _
    · refine And.intro (vp_in_nI (by omega) (by omega)) ?_
      rw [nI_clamp (by omega), hb i c2]
      refine s_X7_canTake h2 h8 (ht.2 i c2) hV hg' hla hfi (fun ho g2 a b => ?_) (fun ho g2 la2 fi2 hg2 hla2 hfi2 => ?_)
      · have eF := rdF_is hi c2 ho
        have eG : rdG n t T = false := by rw [rdG, decide_eq_false (by omega)]; rfl
        rw [eF] at h0
        exact ⟨br_t rfl (h0 eG _ _ _ _), br_t rfl (h0 eG _ _ _ _)⟩
      · exact br_f (by decide) (hK _ _ _ _ _ _ _ (rdF_lt hi c2 ho) ⟨nI_1 i, rfl, rfl, rfl, hg2, hla2, hfi2⟩)
  · refine And.intro (vp_in_nI (by omega) (by omega)) (hK _ _ (by omega) ⟨nI_1 i, ?_⟩)
    intro k hk
    rw [nI_clamp (by omega)]
    by_cases e : k = i
    · subst e; exact pk_us
    · rw [pk_un e]; exact hg1 k (by omega)
/-- the reasons of a fault -/
def rdR (n t : Nat) (T : Nat → Nat) (k : Nat) : Nat := if k = 0 then rR n T (rdF n t T) else if k = 1 then pc (rT n T (rdF n t T)) else rdF n t T
theorem s_X8_read {t d : Nat} {D : Nat → Nat → Nat} {f : Nat → Nat} {y1 y2 y3 y4 fi0 la0 hr : Int32} {g tg b maps : Nat → Int32} {rs : Nat → Int64} {P : Int32 → Int32 → Int32 → Int32 → Int32 → (Nat → Int32) → Int32 → Int32 → Int32 → (Nat → Int32) → Int32 → (Nat → Int32) → Int32 → (Nat → Int64) → Prop} (ho : OkF n f) (hg : Has8 f g) (hd : d ≤ 10) (hm : HasD d D maps) (ht : OkT t T) (hb : HasT t T b)
    (h0 : rdG n t T = false → ∀ a b c e g' i j rs', (∀ k, k < 3 → rs' k = (nI (rdR n t T k)).toInt64) → P ((-100) - nI (rdF n t T)) a b c e g' i j 0 maps (nI d) g 1 rs')
    (h1 : rdG n t T = true → ∀ a b c e g' i j maps' g2, HasD (nd d) (nD d D f) maps' → Has8 (rL n T t) g2 → P (nI (rR n T t)) a b c e g' i j 0 maps' (nI (nd d)) g2 hr rs) :
    M_X8_read (nI n) y1 y2 y3 y4 tg (nI t) b fi0 la0 g (nI d) maps hr rs P := by
  have hFt := rdF_le (n := n) (T := T) t
  have h60 := ht.1
  refine s_X7_faultIn ho.1 ho.2.1 ht hb (fun hG s g' la fi => ?_) (fun hG s x g' la fi hg' => ?_)
  · have hV := rdF_V (Nat.le_refl (rdF n t T))
    have h256 := rT_256 ho.2.1 hV
    refine br_f (nI_pos (by omega)) (And.intro (vp_in_nI (n := 0) (by omega) (by omega)) (s_bitCount h256 (And.intro (vp_in_nI (n := 1) (by omega) (by omega)) (And.intro (vp_in_nI (n := 2) (by omega) (by omega)) ?_))))
    refine h0 hG _ _ _ _ _ _ _ _ (fun k hk => ?_)
    rw [show (0 : Int32).toNatClampNeg = 0 from rfl, show (1 : Int32).toNatClampNeg = 1 from rfl, show (2 : Int32).toNatClampNeg = 2 from rfl]
    rcases (show k = 0 ∨ k = 1 ∨ k = 2 by omega) with rfl | rfl | rfl
    · rw [pk_uLn (by decide), pk_uLn (by decide), pk_uLs]; rfl
    · rw [pk_uLn (by decide), pk_uLs]; rfl
    · rw [pk_uLs]; rfl
  · refine br_t (by decide) (s_X0_packed (fun i hi => ho.lt hi) hg (s_X1_keep hd hm (fun maps' hm' => And.intro cpy_c8 ?_)))
    exact h1 hG _ _ _ _ _ _ _ _ _ hm' (cpy8 hg')
/-! the reference -/
end RD

