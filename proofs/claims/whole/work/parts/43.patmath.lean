/-! patterns: rows and their order -/
def ev (F : Nat → Bool) (s : Nat → Nat) : Nat → Bool
  | 0 => true
  | k + 1 => if F (s k) then !ev F s k else ev F s k
def vd (F : Nat → Bool) (s : Nat → Nat) (k : Nat) : Nat := if ev F s k then s k else 7 - s k
def vv (F : Nat → Bool) (s : Nat → Nat) : Nat → Nat
  | 0 => 0
  | k + 1 => vv F s k * 8 + vd F s k
theorem ev_cong {F : Nat → Bool} {s s' : Nat → Nat} : ∀ {k : Nat}, (∀ j, j < k → s j = s' j) → ev F s k = ev F s' k
  | 0, _ => rfl
  | k + 1, h => by rw [ev, ev, ev_cong (fun j hj => h j (by omega)), h k (by omega)]
theorem vv_cong {F : Nat → Bool} {s s' : Nat → Nat} : ∀ {k : Nat}, (∀ j, j < k → s j = s' j) → vv F s k = vv F s' k
  | 0, _ => rfl
  | k + 1, h => by rw [vv, vv, vv_cong (fun j hj => h j (by omega)), vd, vd, ev_cong (fun j hj => h j (by omega)), h k (by omega)]
theorem vd_lt {F : Nat → Bool} {s : Nat → Nat} {k : Nat} (h : s k < 8) : vd F s k < 8 := by unfold vd; split <;> omega
theorem vv_go {F : Nat → Bool} {s s' : Nat → Nat} {m k : Nat} (h : ∀ j, j < m → s j < 8) (hp : ∀ j, j < k → s j = s' j) (hd : vd F s k < vd F s' k) : ∀ j, k + 1 ≤ j → j ≤ m → vv F s j < vv F s' j
  | 0, h1, _ => by omega
  | j + 1, h1, h2 => by
    rcases Nat.lt_or_ge k j with q | q
    · have ih := vv_go h hp hd j (by omega) (by omega)
      have := vd_lt (F := F) (h j (by omega))
      rw [vv, vv]; omega
    · have e : j = k := by omega
      subst e
      rw [vv, vv, vv_cong hp]; omega
theorem vv_lt {F : Nat → Bool} {s s' : Nat → Nat} {m k : Nat} (hk : k < m) (h : ∀ j, j < m → s j < 8) (h' : ∀ j, j < m → s' j < 8) (hp : ∀ j, j < k → s j = s' j) (hne : s k ≠ s' k) : vv F s m < vv F s' m ↔ ev F s k = decide (s k < s' k) := by
  have e1 : ev F s' k = ev F s k := ev_cong fun j hj => (hp j hj).symm
  have hs := h k hk
  have hs' := h' k hk
  have key : vd F s k < vd F s' k ↔ ev F s k = decide (s k < s' k) := by
    rw [vd, vd, e1]
    cases ev F s k with
    | true => rw [boolif_t rfl, boolif_t rfl]; simp
    | false =>
      rw [boolif_f rfl, boolif_f rfl]
      constructor
      · intro q; exact (decide_eq_false (by omega)).symm
      · intro q
        have : ¬ s k < s' k := of_decide_eq_false q.symm
        omega
  have hne2 : vd F s k ≠ vd F s' k := by
    rw [vd, vd, e1]
    split <;> omega
  rw [← key]
  constructor
  · intro q
    rcases Nat.lt_trichotomy (vd F s k) (vd F s' k) with z | z | z
    · exact z
    · exact absurd z hne2
    · have := vv_go h' (fun j hj => (hp j hj).symm) z m hk (Nat.le_refl m)
      omega
  · intro q; exact vv_go h hp q m hk (Nat.le_refl m)
theorem vv_ne {F : Nat → Bool} {s s' : Nat → Nat} {m k : Nat} (hk : k < m) (h : ∀ j, j < m → s j < 8) (h' : ∀ j, j < m → s' j < 8) (hp : ∀ j, j < k → s j = s' j) (hne : s k ≠ s' k) : vv F s m ≠ vv F s' m := by
  have e1 : ev F s' k = ev F s k := ev_cong fun j hj => (hp j hj).symm
  have hs := h k hk
  have hs' := h' k hk
  have hne2 : vd F s k ≠ vd F s' k := by
    rw [vd, vd, e1]
    split <;> omega
  rcases Nat.lt_trichotomy (vd F s k) (vd F s' k) with z | z | z
  · have := vv_go h hp z m hk (Nat.le_refl m); omega
  · exact absurd z hne2
  · have := vv_go h' (fun j hj => (hp j hj).symm) z m hk (Nat.le_refl m); omega
/-- the first place at which two rows are otherwise -/
def fo (s s' : Nat → Nat) (m : Nat) : Nat := fa_first (fun k => !decide (s k = s' k)) m
theorem fo_le (s s' : Nat → Nat) (m : Nat) : fo s s' m ≤ m := fa_first_le _ _
theorem fo_eq {s s' : Nat → Nat} {m k : Nat} (h : k < fo s s' m) : s k = s' k := by
  have := fa_first_no _ m k h
  simpa using this
theorem fo_ne {s s' : Nat → Nat} {m : Nat} (h : fo s s' m < m) : s (fo s s' m) ≠ s' (fo s s' m) := by
  have h1 : (!decide (s (fo s s' m) = s' (fo s s' m))) = true := fa_first_yes (fun k => !decide (s k = s' k)) m h
  intro e
  rw [decide_eq_true e] at h1
  cases h1
theorem fo_vv {F : Nat → Bool} {s s' : Nat → Nat} {m : Nat} (h : ∀ j, j < m → s j < 8) (h' : ∀ j, j < m → s' j < 8) : fo s s' m < m ↔ vv F s m ≠ vv F s' m := by
  constructor
  · intro q; exact vv_ne q h h' (fun j hj => fo_eq hj) (fo_ne q)
  · intro q
    rcases Nat.lt_or_ge (fo s s' m) m with z | z
    · exact z
    · exact absurd (vv_cong fun j hj => fo_eq (m := m) (by omega)) q
/-! ranks -/
def rkv (v : Nat → Nat) (m i : Nat) : Nat := fb_ct (fun j => decide (v j < v i)) m
def Inj (m : Nat) (v : Nat → Nat) : Prop := ∀ i j, i < j → j < m → v i ≠ v j
theorem Inj.eq {m : Nat} {v : Nat → Nat} (h : Inj m v) {i j : Nat} (hi : i < m) (hj : j < m) (e : v i = v j) : i = j := by
  rcases Nat.lt_trichotomy i j with q | q | q
  · exact absurd e (h i j q hj)
  · exact q
  · exact absurd e.symm (h j i q hi)
theorem rkv_lt (v : Nat → Nat) {m i : Nat} (hi : i < m) : rkv v m i < m := by
  refine Nat.lt_of_le_of_ne (fb_ct_le _ m) (fun e => ?_)
  have := fb_ct_all.mp e i hi
  simp at this
theorem rkv_mono {v : Nat → Nat} {m i j : Nat} (hi : i < m) (h : v i < v j) : rkv v m i < rkv v m j := by
  refine Nat.lt_of_not_le (fun hl => ?_)
  have := ct_eq (p := fun k => decide (v k < v i)) (q := fun k => decide (v k < v j)) (n := m) (fun k _ hk => by simp at hk ⊢; omega) hl i hi (by simp [h])
  simp at this
theorem rkv_ne {v : Nat → Nat} {m i j : Nat} (hi : i < m) (hj : j < m) (h : v i ≠ v j) : rkv v m i ≠ rkv v m j := by
  rcases Nat.lt_or_gt_of_ne h with q | q
  · have := rkv_mono hi q; omega
  · have := rkv_mono hj q; omega
theorem rkv_onto {v : Nat → Nat} {m : Nat} (h : Inj m v) {r : Nat} (hr : r < m) : ∃ i, i < m ∧ rkv v m i = r :=
  fb_onto (f := fun i => rkv v m i) (fun i hi => rkv_lt v hi) (fun i j hij hj => rkv_ne (by omega) hj (h i j hij hj)) hr
/-! figures -/
def dgs (ld : Nat → Nat) : Nat → Nat
  | 0 => 0
  | r + 1 => 10 * dgs ld r + ld r
theorem dgs_cong {ld ld' : Nat → Nat} : ∀ {k : Nat}, (∀ r, r < k → ld r = ld' r) → dgs ld k = dgs ld' k
  | 0, _ => rfl
  | k + 1, h => by rw [dgs, dgs, dgs_cong (fun r hr => h r (by omega)), h k (by omega)]
theorem dgs_lt {ld : Nat → Nat} : ∀ {k : Nat}, (∀ r, r < k → ld r < 10) → dgs ld k < 10 ^ k
  | 0, _ => by show 0 < 10 ^ 0; decide
  | k + 1, h => by
    have h1 := dgs_lt (k := k) (fun r hr => h r (by omega))
    have h2 := h k (by omega)
    rw [dgs, Nat.pow_succ]; omega
/-- ld tells to which rank each rank is led -/
def Lds (m : Nat) (v : Nat → Nat) (ld : Nat → Nat) : Prop := ∀ i, i < m → ld (rkv v m i) = rkv v m ((i + 1) % m)
def PAT (m : Nat) (v : Nat → Nat) (x : Nat) : Prop := Inj m v ∧ ∃ ld, Lds m v ld ∧ x = dgs ld m
theorem Lds_same {m : Nat} {v ld ld' : Nat → Nat} (hi : Inj m v) (h : Lds m v ld) (h' : Lds m v ld') : ∀ r, r < m → ld r = ld' r := by
  intro r hr
  obtain ⟨i, h1, rfl⟩ := rkv_onto hi hr
  rw [h i h1, h' i h1]
theorem PAT_one {m x y : Nat} {v : Nat → Nat} (h : PAT m v x) (h' : PAT m v y) : x = y := by
  obtain ⟨hi, ld, h1, rfl⟩ := h
  obtain ⟨-, ld', h2, rfl⟩ := h'
  exact dgs_cong (Lds_same hi h1 h2)
theorem PAT_of {m x : Nat} {v ld : Nat → Nat} (h : PAT m v x) (h' : Lds m v ld) : x = dgs ld m := PAT_one h ⟨h.1, ld, h', rfl⟩
noncomputable def ldC (m : Nat) (v : Nat → Nat) (r : Nat) : Nat := rkv v m ((Classical.epsilon (fun i => i < m ∧ rkv v m i = r) + 1) % m)
theorem ldC_ok {m : Nat} {v : Nat → Nat} (hi : Inj m v) : Lds m v (ldC m v) := by
  intro i h
  have h1 := Classical.epsilon_spec (p := fun k => k < m ∧ rkv v m k = rkv v m i) ⟨i, h, rfl⟩
  have e : Classical.epsilon (fun k => k < m ∧ rkv v m k = rkv v m i) = i := by
    refine Classical.byContradiction fun hne => ?_
    refine rkv_ne h1.1 h (fun q => hne (hi.eq h1.1 h q)) h1.2
  rw [ldC, e]
theorem PAT_ex {m : Nat} {v : Nat → Nat} (hi : Inj m v) : PAT m v (dgs (ldC m v) m) := ⟨hi, _, ldC_ok hi, rfl⟩
theorem Lds_lt {m : Nat} {v ld : Nat → Nat} (hm : 0 < m) (hi : Inj m v) (h : Lds m v ld) {r : Nat} (hr : r < m) : ld r < m := by
  obtain ⟨i, h1, rfl⟩ := rkv_onto hi hr
  rw [h i h1]
  exact rkv_lt v (Nat.mod_lt _ hm)
theorem PAT_lt {m x : Nat} {v : Nat → Nat} (h2 : 2 ≤ m) (h6 : m ≤ 6) (h : PAT m v x) : x < 1000000 := by
  obtain ⟨hi, ld, h1, rfl⟩ := h
  refine Nat.lt_of_lt_of_le (dgs_lt fun r hr => ?_) (Nat.pow_le_pow_right (by omega) h6 : 10 ^ m ≤ 10 ^ 6)
  have := Lds_lt (by omega) hi h1 hr
  omega
/-! turned round -/
theorem ct_rot1 (p : Nat → Bool) : ∀ m, fb_ct (fun j => p ((j + 1) % m)) m = fb_ct p m
  | 0 => rfl
  | m + 1 => by
    have e1 : fb_ct (fun j => p ((j + 1) % (m + 1))) m = fb_ct (fun j => p (1 + j)) m := fb_ct_cong fun k hk => by
      rw [Nat.mod_eq_of_lt (by omega), Nat.add_comm]
    rw [fb_ct_succ, e1, Nat.mod_self, Nat.add_comm m 1, fb_ct_split p 1 m]
    show _ = (0 + if p 0 then 1 else 0) + _
    omega
theorem ct_rot (p : Nat → Bool) {m : Nat} (hm : 0 < m) : ∀ s, fb_ct (fun j => p ((j + s) % m)) m = fb_ct p m
  | 0 => fb_ct_cong fun k hk => by rw [Nat.add_zero, Nat.mod_eq_of_lt hk]
  | s + 1 => by
    rw [← ct_rot p hm s, ← ct_rot1 (fun j => p ((j + s) % m)) m]
    refine fb_ct_cong fun k hk => ?_
    show p _ = p _
    rw [Nat.mod_add_mod, show k + (s + 1) = k + 1 + s by omega]
theorem rkv_rot (v : Nat → Nat) {m : Nat} (hm : 0 < m) (s i : Nat) : rkv (fun i => v ((i + s) % m)) m i = rkv v m ((i + s) % m) :=
  ct_rot (fun j => decide (v j < v ((i + s) % m))) hm s
theorem Inj_rot {v : Nat → Nat} {m : Nat} (h : Inj m v) (s : Nat) : Inj m (fun i => v ((i + s) % m)) := by
  intro i j hij hj e
  have hm : 0 < m := by omega
  have e2 := h.eq (Nat.mod_lt _ hm) (Nat.mod_lt _ hm) e
  have e3 : (j + s) % m = (i + s) % m := e2.symm
  have e4 : (j - i) % m = 0 := by
    have h1 : j + s = (j - i) + (i + s) := by omega
    rw [h1] at e3
    have h2 := Nat.sub_mod_eq_zero_of_mod_eq e3
    rwa [Nat.add_sub_cancel] at h2
  rw [Nat.mod_eq_of_lt (by omega)] at e4
  omega
theorem PAT_rot {m x : Nat} {v : Nat → Nat} (hm : 0 < m) (h : PAT m v x) (s : Nat) : PAT m (fun i => v ((i + s) % m)) x := by
  obtain ⟨hi, ld, h1, rfl⟩ := h
  refine ⟨Inj_rot hi s, ld, fun i hi => ?_, rfl⟩
  rw [rkv_rot v hm, rkv_rot v hm, h1 _ (Nat.mod_lt _ hm), Nat.mod_add_mod, Nat.mod_add_mod]
  congr 2
  omega
/-! how many patterns there can be -/
def enc (m : Nat) (ld : Nat → Nat) : Nat → Nat
  | 0 => 0
  | r + 1 => enc m ld r + ld r * m ^ r
def dec_ (m c r : Nat) : Nat := c / m ^ r % m
theorem enc_lt {m : Nat} {ld : Nat → Nat} : ∀ {k : Nat}, (∀ r, r < k → ld r < m) → enc m ld k < m ^ k
  | 0, _ => by show 0 < m ^ 0; rw [Nat.pow_zero]; omega
  | k + 1, h => by
    have h1 := enc_lt (k := k) (fun r hr => h r (by omega))
    have h2 := h k (by omega)
    have h3 : (ld k + 1) * m ^ k ≤ m * m ^ k := Nat.mul_le_mul_right _ h2
    rw [Nat.add_mul, Nat.one_mul] at h3
    rw [enc, Nat.pow_succ, Nat.mul_comm (m ^ k) m]
    omega
theorem enc_dec {m : Nat} {ld : Nat → Nat} (hm : 0 < m) : ∀ {k : Nat}, (∀ r, r < k → ld r < m) → ∀ r, r < k → dec_ m (enc m ld k) r = ld r
  | 0, _, r, hr => absurd hr (Nat.not_lt_zero r)
  | k + 1, h, r, hr => by
    have hpos : 0 < m ^ r := Nat.pow_pos hm
    rcases Nat.lt_or_ge r k with q | q
    · have ih := enc_dec hm (k := k) (fun r hr => h r (by omega)) r q
      have e : ld k * m ^ k = m ^ r * (m * (ld k * m ^ (k - r - 1))) := by
        have e1 : m ^ k = m ^ r * (m * m ^ (k - r - 1)) := by
          rw [← Nat.pow_succ', ← Nat.pow_add]; congr 1; omega
        rw [e1, Nat.mul_left_comm (ld k), Nat.mul_left_comm (ld k) m]
      rw [dec_, enc, e, Nat.add_mul_div_left _ _ hpos, Nat.add_mul_mod_self_left]
      exact ih
    · have e : r = k := by omega
      subst e
      have hl := enc_lt (m := m) (ld := ld) (k := r) (fun r hr => h r (by omega))
      rw [dec_, enc, Nat.add_mul_div_right _ _ hpos, Nat.div_eq_of_lt hl, Nat.zero_add, Nat.mod_eq_of_lt (h r (by omega))]
def CY (m c : Nat) : Bool := decide (c < m ^ (m - 1)) && (decide (rb (dec_ m c) (m - 1) ||| 1 = 2 ^ m - 1) && decide (rb (dec_ m c) (m - 1) % 2 = 0))
def ctb (p : Nat → Bool) (l : Nat) : Nat → Nat
  | 0 => if p l then 1 else 0
  | k + 1 => ctb p l k + ctb p (l + 2 ^ k) k
theorem ctb_ct (p : Nat → Bool) : ∀ k l, ctb p l k = fb_ct (fun j => p (l + j)) (2 ^ k)
  | 0, l => by show (if p l then 1 else 0) = 0 + if p (l + 0) then 1 else 0; rw [Nat.zero_add, Nat.add_zero]
  | k + 1, l => by
    rw [ctb, ctb_ct p k l, ctb_ct p k (l + 2 ^ k), Nat.pow_succ, Nat.mul_two, fb_ct_split]
    congr 1
    exact fb_ct_cong fun j _ => by rw [Nat.add_assoc]
def kMn (m : Nat) : Nat := if m = 2 then 1 else if m = 3 then 2 else if m = 4 then 6 else if m = 5 then 24 else 120
def cD (m : Nat) : Nat := if m = 2 then 1 else if m = 3 then 4 else if m = 4 then 6 else if m = 5 then 10 else 13
theorem cy_2 : ctb (CY 2) 0 1 = 1 := by decide +kernel
theorem cy_3 : ctb (CY 3) 0 4 = 2 := by decide +kernel
theorem cy_4 : ctb (CY 4) 0 6 = 6 := by decide +kernel
theorem cy_5 : ctb (CY 5) 0 10 = 24 := by decide +kernel
theorem cy_6 : ctb (CY 6) 0 13 = 120 := by decide +kernel
theorem cy_ct {m : Nat} (h2 : 2 ≤ m) (h6 : m ≤ 6) : fb_ct (CY m) (2 ^ cD m) = kMn m := by
  have e : fb_ct (CY m) (2 ^ cD m) = ctb (CY m) 0 (cD m) := by
    rw [ctb_ct]
    exact fb_ct_cong fun j _ => by rw [Nat.zero_add]
  rw [e]
  rcases (show m = 2 ∨ m = 3 ∨ m = 4 ∨ m = 5 ∨ m = 6 by omega) with rfl | rfl | rfl | rfl | rfl
  · exact cy_2
  · exact cy_3
  · exact cy_4
  · exact cy_5
  · exact cy_6
theorem CY_lt {m c : Nat} (h2 : 2 ≤ m) (h6 : m ≤ 6) (h : CY m c = true) : c < 2 ^ cD m := by
  rw [CY, Bool.and_eq_true, decide_eq_true_iff] at h
  refine Nat.lt_of_lt_of_le h.1 ?_
  rcases (show m = 2 ∨ m = 3 ∨ m = 4 ∨ m = 5 ∨ m = 6 by omega) with rfl | rfl | rfl | rfl | rfl <;> decide
/-- a number that a pattern has for itself: its ranks in their order, from the least one on -/
def PZ (m x c : Nat) : Prop := CY m c = true ∧ ∃ v, PAT m v x ∧ rkv v m 0 = 0 ∧ ∀ k, k < m - 1 → dec_ m c k = rkv v m (k + 1)
theorem PAT_cy {m x : Nat} {v : Nat → Nat} (h2 : 2 ≤ m) (h : PAT m v x) : ∃ c, PZ m x c := by
  obtain ⟨i0, hi0, e0⟩ := rkv_onto h.1 (show 0 < m by omega)
  have hr := PAT_rot (show 0 < m by omega) h i0
  have e1 : rkv (fun i => v ((i + i0) % m)) m 0 = 0 := by rw [rkv_rot v (by omega), Nat.zero_add, Nat.mod_eq_of_lt hi0, e0]
  generalize (fun i => v ((i + i0) % m)) = u at hr e1
  have hl : ∀ k, k < m - 1 → rkv u m (k + 1) < m := fun k hk => rkv_lt u (by omega)
  have hd := enc_dec (m := m) (ld := fun k => rkv u m (k + 1)) (k := m - 1) (by omega) hl
  refine ⟨enc m (fun k => rkv u m (k + 1)) (m - 1), ?_, u, hr, e1, hd⟩
  have hb : ∀ j, (rb (dec_ m (enc m (fun k => rkv u m (k + 1)) (m - 1))) (m - 1)).testBit j = true ↔ 1 ≤ j ∧ j < m := by
    intro j
    rw [rb_bit]
    constructor
    · rintro ⟨k, hk, rfl⟩
      rw [hd k hk]
      refine ⟨?_, hl k hk⟩
      have := rkv_ne (v := u) (m := m) (i := 0) (j := k + 1) (by omega) (by omega) (hr.1 0 (k + 1) (by omega) (by omega))
      show 1 ≤ rkv u m (k + 1)
      omega
    · rintro ⟨j1, j2⟩
      obtain ⟨i, i1, i2⟩ := rkv_onto hr.1 j2
      have hi : i ≠ 0 := fun z => by rw [z, e1] at i2; omega
      exact ⟨i - 1, by omega, by rw [hd (i - 1) (by omega)]; show rkv u m (i - 1 + 1) = j; rw [show i - 1 + 1 = i by omega]; exact i2⟩
  rw [CY, decide_eq_true (enc_lt hl), Bool.true_and, Bool.and_eq_true, decide_eq_true_iff, decide_eq_true_iff]
  constructor
  · apply Nat.eq_of_testBit_eq
    intro j
    apply Bool.eq_iff_iff.mpr
    rw [Nat.testBit_or, Bool.or_eq_true, hb, Nat.testBit_two_pow_sub_one, decide_eq_true_iff, show (1 : Nat) = 2 ^ 0 from rfl, tb_pow, decide_eq_true_iff]
    omega
  · have h0 : (rb (dec_ m (enc m (fun k => rkv u m (k + 1)) (m - 1))) (m - 1)).testBit 0 = false := by
      refine Bool.eq_false_iff.mpr (fun z => ?_)
      have := (hb 0).mp z
      omega
    rw [Nat.testBit_zero] at h0
    have := of_decide_eq_false h0
    omega
theorem PZ_one {m x y c : Nat} (h : PZ m x c) (h' : PZ m y c) : x = y := by
  obtain ⟨-, v, v1, v2, v3⟩ := h
  obtain ⟨-, u, u1, u2, u3⟩ := h'
  have e : ∀ i, i < m → rkv v m i = rkv u m i := by
    intro i hi
    rcases Nat.eq_zero_or_pos i with z | z
    · rw [z, v2, u2]
    · have h1 := v3 (i - 1) (by omega)
      have h2 := u3 (i - 1) (by omega)
      rw [show i - 1 + 1 = i by omega] at h1 h2
      rw [← h1, ← h2]
  obtain ⟨i1, ld, l1, rfl⟩ := v1
  refine (PAT_of u1 (fun i hi => ?_)).symm
  rw [← e i hi, ← e _ (Nat.mod_lt _ (by omega))]
  exact l1 i hi
/-! rows that rise, each number once -/
def Ris (a : Nat) (F : Nat → Nat) : Prop := ∀ i j, i < j → j < a → F i < F j
def InF (a : Nat) (F : Nat → Nat) (x : Nat) : Prop := ∃ k, k < a ∧ F k = x
theorem Ris_bound {m a : Nat} {F : Nat → Nat} (h2 : 2 ≤ m) (h6 : m ≤ 6) (hr : Ris a F) (hp : ∀ k, k < a → ∃ v, PAT m v (F k)) : a ≤ kMn m ∧ (a = kMn m → ∀ v x, PAT m v x → InF a F x) := by
  have hs : ∀ k, k < a → PZ m (F k) (Classical.epsilon (fun c => PZ m (F k) c)) := fun k hk => by
    obtain ⟨v, hv⟩ := hp k hk
    exact Classical.epsilon_spec (PAT_cy h2 hv)
  have gi : ∀ i j, i < j → j < a → fb_ct (CY m) (Classical.epsilon (fun c => PZ m (F i) c)) ≠ fb_ct (CY m) (Classical.epsilon (fun c => PZ m (F j) c)) := by
    intro i j hij hj e
    have e2 := fb_ct_kth_one (hs i (by omega)).1 (hs j hj).1 e
    have h1 := hs i (by omega)
    rw [e2] at h1
    have h3 := PZ_one h1 (hs j hj)
    have := hr i j hij hj
    omega
  have gl : ∀ c, CY m c = true → fb_ct (CY m) c < kMn m := by
    intro c h
    rw [← cy_ct h2 h6]
    have h1 := fb_ct_mono (CY m) (show c + 1 ≤ 2 ^ cD m from CY_lt h2 h6 h)
    rw [fb_ct_succ, boolif_t h] at h1
    omega
  have hb := fb_holes (kMn m) a _ (fun i hi => gl _ (hs i hi).1) gi
  refine ⟨hb, fun e v x hx => ?_⟩
  subst e
  obtain ⟨c, c1⟩ := PAT_cy h2 hx
  obtain ⟨i, i1, i2⟩ := fb_onto (fun i hi => gl _ (hs i hi).1) gi (gl c c1.1)
  have e2 := fb_ct_kth_one (hs i i1).1 c1.1 i2
  have h1 := hs i i1
  rw [e2] at h1
  exact ⟨i, i1, PZ_one h1 c1⟩
theorem Ris_one {a b : Nat} {F G : Nat → Nat} (hF : Ris a F) (hG : Ris b G) (h : ∀ x, InF a F x ↔ InF b G x) : a = b ∧ ∀ k, k < a → F k = G k := by
  have key : ∀ k, k < a → k < b → F k = G k := by
    intro k
    induction k using Nat.strongRecOn with
    | ind k ih =>
      intro ha hb
      obtain ⟨j, j1, j2⟩ := (h (F k)).mp ⟨k, ha, rfl⟩
      obtain ⟨i, i1, i2⟩ := (h (G k)).mpr ⟨k, hb, rfl⟩
      rcases Nat.lt_trichotomy j k with q | q | q
      · have := hF j k q ha
        rw [ih j q (by omega) j1] at this; omega
      · rw [← q]; rw [q] at j2; rw [q]; exact j2.symm
      · rcases Nat.lt_trichotomy i k with z | z | z
        · have := hG i k z hb
          rw [← ih i z i1 (by omega)] at this; omega
        · rw [z] at i2; exact i2
        · have h1 := hG k j q j1
          have h2 := hF k i z i1
          omega
  have hab : a = b := by
    rcases Nat.lt_trichotomy a b with q | q | q
    · obtain ⟨i, i1, i2⟩ := (h (G a)).mpr ⟨a, q, rfl⟩
      have := hG i a i1 q
      rw [← key i i1 (by omega)] at this; omega
    · exact q
    · obtain ⟨i, i1, i2⟩ := (h (F b)).mp ⟨b, q, rfl⟩
      have := hF i b i1 q
      rw [key i (by omega) i1] at this; omega
  exact ⟨hab, fun k hk => key k hk (by omega)⟩
/-- a number put in at its place -/
def insF (F : Nat → Nat) (p y : Nat) : Nat → Nat := fun k => if k < p then F k else if k = p then y else F (k - 1)
theorem insF_ris {a p y : Nat} {F : Nat → Nat} (hr : Ris a F) (hp : p ≤ a) (h1 : ∀ k, k < p → F k < y) (h2 : ∀ k, p ≤ k → k < a → y < F k) : Ris (a + 1) (insF F p y) := by
  intro i j hij hj
  unfold insF
  by_cases hi : i < p
  · rw [if_pos hi]
    by_cases q : j < p
    · rw [if_pos q]; exact hr i j hij (by omega)
    · rw [if_neg q]
      by_cases z : j = p
      · rw [if_pos z]; exact h1 i hi
      · rw [if_neg z]
        exact Nat.lt_trans (h1 i hi) (h2 (j - 1) (by omega) (by omega))
  · rw [if_neg hi, if_neg (show ¬ j < p by omega), if_neg (show ¬ j = p by omega)]
    by_cases z : i = p
    · rw [if_pos z]; exact h2 (j - 1) (by omega) (by omega)
    · rw [if_neg z]; exact hr (i - 1) (j - 1) (by omega) (by omega)
theorem insF_in {a p y : Nat} {F : Nat → Nat} (hp : p ≤ a) (x : Nat) : InF (a + 1) (insF F p y) x ↔ InF a F x ∨ x = y := by
  constructor
  · rintro ⟨k, hk, e⟩
    unfold insF at e
    by_cases q : k < p
    · rw [if_pos q] at e; exact Or.inl ⟨k, by omega, e⟩
    · rw [if_neg q] at e
      by_cases z : k = p
      · rw [if_pos z] at e; exact Or.inr e.symm
      · rw [if_neg z] at e; exact Or.inl ⟨k - 1, by omega, e⟩
  · rintro (⟨k, hk, e⟩ | e)
    · rcases Nat.lt_or_ge k p with q | q
      · exact ⟨k, by omega, by unfold insF; rw [if_pos q]; exact e⟩
      · exact ⟨k + 1, by omega, by unfold insF; rw [if_neg (by omega), if_neg (by omega), Nat.add_sub_cancel]; exact e⟩
    · exact ⟨p, by omega, by unfold insF; rw [if_neg (by omega), if_pos rfl]; exact e.symm⟩
