/-! the class's loops -/
def prc (row o i j : Nat) : Bool := decide ((i < j ∧ (i < row ∨ (i = row ∧ j < o))) ∨ (j < i ∧ (j < row ∨ (j = row ∧ i < o))))
def cnR (v : Nat → Nat) (m row o i : Nat) : Nat := fb_ct (fun j => prc row o i j && decide (v j < v i)) m
theorem cnR_put {v : Nat → Nat} {m row o o' i x : Nat} (hx : x < m) (h0 : prc row o i x = false) (h1 : prc row o' i x = true) (h : ∀ j, j < m → j ≠ x → prc row o' i j = prc row o i j) : cnR v m row o' i = cnR v m row o i + (if v x < v i then 1 else 0) := by
  have e1 : cnR v m row o' i = fb_ct (fun j => if j = x then decide (v x < v i) else (prc row o i j && decide (v j < v i))) m := fb_ct_cong fun j hj => by
    by_cases z : j = x
    · rw [if_pos z, z, h1, Bool.true_and]
    · rw [if_neg z, h j hj z]
  have e2 := fb_ct_upd (fun j => prc row o i j && decide (v j < v i)) (decide (v x < v i)) hx
  simp only [h0, Bool.false_and] at e2
  rw [e1]
  simp only [decide_eq_true_eq] at e2
  unfold cnR
  simpa using e2
theorem cnR_row {v : Nat → Nat} {m row o : Nat} (h : row < o) (ho : o < m) : cnR v m row (o + 1) row = cnR v m row o row + (if v o < v row then 1 else 0) :=
  cnR_put ho (by simp [prc]; omega) (by simp [prc]; omega) (fun j _ hj => by unfold prc; congr 1; apply propext; omega)
theorem cnR_o {v : Nat → Nat} {m row o : Nat} (h : row < o) (ho : o < m) : cnR v m row (o + 1) o = cnR v m row o o + (if v row < v o then 1 else 0) :=
  cnR_put (show row < m by omega) (by simp [prc]; omega) (by simp [prc]; omega) (fun j _ hj => by unfold prc; congr 1; apply propext; omega)
theorem cnR_else {v : Nat → Nat} {m row o i : Nat} (h1 : i ≠ row) (h2 : i ≠ o) : cnR v m row (o + 1) i = cnR v m row o i :=
  fb_ct_cong fun j _ => by
    have : prc row (o + 1) i j = prc row o i j := by unfold prc; congr 1; apply propext; omega
    rw [this]
theorem cnR_next {v : Nat → Nat} {m row i : Nat} (hi : i < m) : cnR v m (row + 1) (row + 1 + 1) i = cnR v m row m i :=
  fb_ct_cong fun j hj => by
    have : prc (row + 1) (row + 1 + 1) i j = prc row m i j := by unfold prc; congr 1; apply propext; omega
    rw [this]
theorem cnR_0 (v : Nat → Nat) (m i : Nat) : cnR v m 0 (0 + 1) i = 0 := fb_ct_zero.mpr fun j _ => by
  have : prc 0 (0 + 1) i j = false := by simp [prc]; omega
  rw [this]; rfl
theorem cnR_end {v : Nat → Nat} {m i : Nat} (hi : i < m) : cnR v m m (m + 1) i = rkv v m i :=
  fb_ct_cong fun j hj => by
    by_cases z : i = j
    · rw [z]; simp
    · have : prc m (m + 1) i j = true := by simp [prc]; omega
      rw [this, Bool.true_and]
theorem cnR_le (v : Nat → Nat) (m row o i : Nat) : cnR v m row o i ≤ m := fb_ct_le _ _
def DL (m : Nat) (l : Nat → Nat) (lp : Nat → Int32) : Prop := ∀ k, k < 2 * m → lp k = nI (l (k % m))
section CL
variable {n m : Nat} {f l : Nat → Nat}
theorem lpc8 (hn : n ≤ 8) (hl : ∀ i, i < m → l i < pcs n 0) {i : Nat} (hi : i < m) : l i < 8 := by
  have h1 := hl i hi
  have h2 := @pcs_le n 0
  omega
theorem rw8 (hn : n ≤ 8) (hm : 0 < m) (hl : ∀ i, i < m → l i < pcs n 0) (i k : Nat) : rw_ l m i k < 8 := lpc8 hn hl (Nat.mod_lt _ hm)
theorem s_X4_firstOther {i j : Nat} {lp : Nat → Int32} {P : Int32 → Prop} (hn : n ≤ 8) (h6 : m ≤ 6) (hl : ∀ i, i < m → l i < pcs n 0) (hD : DL m l lp) (hi : i < m) (hj : j < m) (h : P (nI (fo (rw_ l m i) (rw_ l m j) m))) : M_X4_firstOther (nI m) (nI i) (nI j) lp P := by
  have hfo := fo_le (rw_ l m i) (rw_ l m j) m
  refine LP1_ix (fun t a => a = nI t) (fo (rw_ l m i) (rw_ l m j) m) ?_ 0 _ (Nat.zero_le _) rfl
  rintro K t a ht rfl hK
  refine pk_le m t (fun c => ?_) (fun c => ?_)
  · rw [show fo (rw_ l m i) (rw_ l m j) m = t by omega] at h; exact h
  · rw [nI_add, nI_add]
    refine And.intro (vp_in_nI (by omega) (by omega)) (And.intro (vp_in_nI (by omega) (by omega)) ?_)
    rw [nI_clamp (by omega), nI_clamp (by omega), hD _ (by omega), hD _ (by omega)]
    have b1 := rw8 hn (by omega) hl i t
    have b2 := rw8 hn (by omega) hl j t
    refine pk_eq (rw_ l m i t) (rw_ l m j t) (fun q => ?_) (fun q => ?_)
    · refine hK _ ?_ (nI_1 t)
      rcases Nat.lt_or_ge t (fo (rw_ l m i) (rw_ l m j) m) with z | z
      · exact z
      · have e : fo (rw_ l m i) (rw_ l m j) m = t := by omega
        have := fo_ne (s := rw_ l m i) (s' := rw_ l m j) (m := m) (by omega)
        rw [e] at this
        exact absurd q this
    · rcases Nat.lt_or_ge t (fo (rw_ l m i) (rw_ l m j) m) with z | z
      · exact absurd (fo_eq z) q
      · rw [show fo (rw_ l m i) (rw_ l m j) m = t by omega] at h; exact h
theorem s_X4_isLess {i j Fa : Nat} {lp : Nat → Int32} {P : Int32 → Prop} (hn : n ≤ 8) (h6 : m ≤ 6) (hl : ∀ i, i < m → l i < pcs n 0) (hD : DL m l lp) (hFa : HasFal n 0 f Fa) (hi : i < m) (hj : j < m) (hp : fo (rw_ l m i) (rw_ l m j) m < m) (h : P (if decide (RV f l m i < RV f l m j) then 1 else 0)) : M_X4_isLess (nI i) (nI j) (nI (fo (rw_ l m i) (rw_ l m j) m)) lp (nI Fa) P := by
  have hv : RV f l m i < RV f l m j ↔ _ := vv_lt (F := fal 0 f) hp (fun k _ => rw8 hn (by omega) hl i k) (fun k _ => rw8 hn (by omega) hl j k) (fun k hk => fo_eq hk) (fo_ne hp)
  have hne := fo_ne hp
  generalize fo (rw_ l m i) (rw_ l m j) m = p at *
  refine LP2_ix (fun t a b => a = (if ev (fal 0 f) (rw_ l m i) t then 1 else 0) ∧ b = nI t) p ?_ 0 _ _ (Nat.zero_le _) ⟨rfl, rfl⟩
  rintro K t a b ht ⟨rfl, rfl⟩ hK
  refine pk_le p t (fun c => ?_) (fun c => ?_)
  · have e : t = p := by omega
    subst e
    rw [nI_add, nI_add]
    refine And.intro (vp_in_nI (by omega) (by omega)) (And.intro (vp_in_nI (by omega) (by omega)) ?_)
    rw [nI_clamp (by omega), nI_clamp (by omega), hD _ (by omega), hD _ (by omega)]
    have b1 := rw8 hn (by omega) hl i t
    have b2 := rw8 hn (by omega) hl j t
    refine pk_le (rw_ l m j t) (rw_ l m i t) (fun q => ?_) (fun q => ?_)
    · rw [decide_eq_false (show ¬ rw_ l m i t < rw_ l m j t by omega)] at hv
      cases he : ev (fal 0 f) (rw_ l m i) t with
      | true =>
        rw [boolif_f (decide_eq_false (fun z => by have := hv.mp z; rw [he] at this; cases this))] at h
        exact br_f (by decide) h
      | false =>
        rw [boolif_t (decide_eq_true (hv.mpr he))] at h
        exact br_t rfl h
    · rw [decide_eq_true q] at hv
      cases he : ev (fal 0 f) (rw_ l m i) t with
      | true =>
        rw [boolif_t (decide_eq_true (hv.mpr he))] at h
        exact br_t rfl h
      | false =>
        rw [boolif_f (decide_eq_false (fun z => by have := hv.mp z; rw [he] at this; cases this))] at h
        exact br_f (by decide) h
  · rw [nI_add]
    refine And.intro (vp_in_nI (by omega) (by omega)) ?_
    rw [nI_clamp (by omega), hD _ (by omega)]
    have hlp : l ((i + t) % m) < pcs n 0 := hl _ (Nat.mod_lt _ (by omega))
    refine s_X5_falls hn hFa hlp ?_
    cases hb : fal 0 f (l ((i + t) % m)) with
    | false => exact br_t rfl (hK _ _ c ⟨by rw [ev, boolif_f (show fal 0 f (rw_ l m i t) = false from hb)], nI_1 t⟩)
    | true =>
      have e : ev (fal 0 f) (rw_ l m i) (t + 1) = !ev (fal 0 f) (rw_ l m i) t := boolif_t (show fal 0 f (rw_ l m i t) = true from hb) _ _
      refine br_f (by decide) ?_
      cases he : ev (fal 0 f) (rw_ l m i) t with
      | true => exact br_f (by decide) (hK _ _ c ⟨by rw [e, he]; rfl, nI_1 t⟩)
      | false => exact br_t rfl (hK _ _ c ⟨by rw [e, he]; rfl, nI_1 t⟩)
theorem s_X4_numberRows {Fa : Nat} {lp less : Nat → Int32} {P : Int32 → (Nat → Int32) → Prop} (hn : n ≤ 8) (h2 : 2 ≤ m) (h6 : m ≤ 6) (hl : ∀ i, i < m → l i < pcs n 0) (hD : DL m l lp) (hFa : HasFal n 0 f Fa) (h0 : ¬ Inj m (RV f l m) → ∀ less', P 0 less') (h1 : Inj m (RV f l m) → ∀ less', (∀ i, i < m → less' i = nI (rkv (RV f l m) m i)) → P 1 less') : M_X4_numberRows (nI m) lp (nI Fa) less P := by
  refine LP2_ix (fun i a b => a = nI i ∧ ∀ k, k < i → b k = 0) m ?_ 0 _ _ (Nat.zero_le _) ⟨rfl, fun k hk => absurd hk (Nat.not_lt_zero k)⟩
  rintro K i a b hi ⟨rfl, hb⟩ hK
  refine pk_le m i (fun c => ?_) (fun c => ?_)
  · have e : i = m := by omega
    subst e
    refine LP2_ix (fun row a b => a = nI row ∧ (∀ k, k < i → b k = nI (cnR (RV f l i) i row (row + 1) k)) ∧ ∀ r o, r < o → o < i → r < row → RV f l i r ≠ RV f l i o) i ?_ 0 _ _ (Nat.zero_le _) ⟨rfl, fun k hk => by rw [hb k hk, cnR_0]; rfl, fun r o _ _ hr => absurd hr (Nat.not_lt_zero r)⟩
    rintro K row a b hrow ⟨rfl, hb, hne⟩ hK
    refine pk_le i row (fun c2 => ?_) (fun c2 => ?_)
    · have e : row = i := by omega
      subst e
      exact h1 (fun r o h1 h2 => hne r o h1 h2 (by omega)) _ (fun k hk => by rw [hb k hk, cnR_end hk])
    · rw [show nI row + (1 : Int32) = nI (row + 1) from nI_1 row]
      refine LP2_ix (fun o a b => a = nI o ∧ row < o ∧ (∀ k, k < i → b k = nI (cnR (RV f l i) i row o k)) ∧ ∀ o', row < o' → o' < o → RV f l i row ≠ RV f l i o') i ?_ (row + 1) _ _ (by omega) ⟨rfl, by omega, hb, fun o' h1 h2 => by omega⟩
      rintro K2 o a b ho ⟨rfl, hro, hb, hne2⟩ hK2
      refine pk_le i o (fun c3 => ?_) (fun c3 => ?_)
      · have e : o = i := by omega
        subst e
        refine hK _ _ c2 ⟨nI_1 row, fun k hk => by rw [hb k hk, cnR_next hk], fun r o' q1 q2 q3 => ?_⟩
        rcases Nat.lt_or_ge r row with z | z
        · exact hne r o' q1 q2 z
        · rw [show r = row by omega]; exact hne2 o' (by omega) q2
      · by_cases hro2 : row < o
        · refine s_X4_firstOther hn h6 hl hD c2 c3 ?_
          have hfo := fo_le (rw_ l i row) (rw_ l i o) i
          have hfv := fo_vv (F := fal 0 f) (s := rw_ l i row) (s' := rw_ l i o) (m := i) (fun k _ => rw8 hn (by omega) hl row k) (fun k _ => rw8 hn (by omega) hl o k)
          refine pk_eq (fo (rw_ l i row) (rw_ l i o) i) i (fun q => ?_) (fun q => ?_)
          · refine h0 (fun z => ?_) _
            have := hfv.mpr (z row o hro c3)
            omega
          · have hlt : fo (rw_ l i row) (rw_ l i o) i < i := by omega
            have hvne : RV f l i row ≠ RV f l i o := hfv.mp hlt
            have b1 := cnR_le (RV f l i) i row o row
            have b2 := cnR_le (RV f l i) i row o o
            have ne2 : ∀ o', row < o' → o' < o + 1 → RV f l i row ≠ RV f l i o' := fun o' z1 z2 => by
              rcases Nat.lt_or_ge o' o with z | z
              · exact hne2 o' z1 z
              · rw [show o' = o by omega]; exact hvne
            refine s_X4_isLess hn h6 hl hD hFa c2 c3 hlt ?_
            by_cases q2 : RV f l i row < RV f l i o
            · rw [boolif_t (decide_eq_true q2)]
              refine br_f (by decide) (And.intro (vp_in_nI (by omega) (by omega)) (And.intro (vp_in_nI (by omega) (by omega)) (hK2 _ _ c3 ⟨nI_1 o, by omega, fun k hk => ?_, ne2⟩)))
              rw [nI_clamp (by omega)]
              by_cases z : k = o
              · subst z; rw [pk_us, hb k hk, cnR_o hro c3, if_pos q2]; exact nI_1 _
              · rw [pk_un z, hb k hk]
                by_cases y : k = row
                · subst y; rw [cnR_row hro c3, if_neg (by omega)]; rfl
                · rw [cnR_else y z]
            · rw [boolif_f (decide_eq_false q2)]
              refine br_t rfl (And.intro (vp_in_nI (by omega) (by omega)) (And.intro (vp_in_nI (by omega) (by omega)) (hK2 _ _ c3 ⟨nI_1 o, by omega, fun k hk => ?_, ne2⟩)))
              rw [nI_clamp (by omega)]
              by_cases z : k = row
              · subst z; rw [pk_us, hb k hk, cnR_row hro c3, if_pos (by omega)]; exact nI_1 _
              · rw [pk_un z, hb k hk]
                by_cases y : k = o
                · subst y; rw [cnR_o hro c3, if_neg q2]; rfl
                · rw [cnR_else z y]
        · exact absurd hro hro2
  · refine And.intro (vp_in_nI (by omega) (by omega)) (hK _ _ c ⟨nI_1 i, fun k hk => ?_⟩)
    rw [nI_clamp (by omega)]
    by_cases z : k = i
    · subst z; exact pk_us
    · rw [pk_un z]; exact hb k (by omega)
theorem s_X4_loopFigures {v : Nat → Nat} {less leads : Nat → Int32} {P : Int32 → (Nat → Int32) → Prop} (h2 : 2 ≤ m) (h6 : m ≤ 6) (hv : Inj m v) (hless : ∀ i, i < m → less i = nI (rkv v m i)) (h : ∀ leads', P (nI (dgs (ldC m v) m)) leads') : M_X4_loopFigures (nI m) leads less P := by
  have hld := ldC_ok hv
  refine LP2_ix (fun i a b => a = nI i ∧ ∀ k, k < i → b (rkv v m k) = nI (rkv v m ((k + 1) % m))) m ?_ 0 _ _ (Nat.zero_le _) ⟨rfl, fun k hk => absurd hk (Nat.not_lt_zero k)⟩
  rintro K i a b hi ⟨rfl, hb⟩ hK
  refine pk_le m i (fun c => ?_) (fun c => ?_)
  · have e : i = m := by omega
    subst e
    refine LP2_ix (fun r a b2 => a = nI (dgs (ldC i v) r) ∧ b2 = nI r) i ?_ 0 _ _ (Nat.zero_le _) ⟨rfl, rfl⟩
    rintro K2 r a b2 hr ⟨rfl, rfl⟩ hK2
    refine pk_le i r (fun c2 => ?_) (fun c2 => ?_)
    · have e : r = i := by omega
      subst e
      exact h _
    · refine And.intro (vp_in_nI (by omega) (by omega)) (hK2 _ _ c2 ⟨?_, nI_1 r⟩)
      obtain ⟨k, k1, k2⟩ := rkv_onto hv c2
      rw [nI_clamp (by omega), dgs, ← k2, hb k k1, hld k k1, show (10 : Int32) = nI 10 from rfl, pk_mul, nI_add, Nat.mul_comm]
  · have hr := rkv_lt v c
    have hr2 := rkv_lt v (Nat.mod_lt (i + 1) (show 0 < m by omega))
    have fin : ∀ k, k < i + 1 → upd b (nI (rkv v m i)).toNatClampNeg (nI (rkv v m ((i + 1) % m))) (rkv v m k) = nI (rkv v m ((k + 1) % m)) := by
      intro k hk
      rw [nI_clamp (by omega)]
      by_cases z : k = i
      · subst z; rw [pk_us]
      · rw [pk_un (rkv_ne (by omega) c (hv k i (by omega) c))]; exact hb k (by omega)
    refine And.intro (vp_in_nI (by omega) (by omega)) ?_
    rw [show nI i + (1 : Int32) = nI (i + 1) from nI_1 i, show (nI i).toNatClampNeg = i from nI_clamp (by omega), hless i c]
    refine pk_le m (i + 1) (fun c2 => ?_) (fun c2 => ?_)
    · have e : (i + 1) % m = 0 := by rw [show i + 1 = m by omega, Nat.mod_self]
      rw [e] at fin hr2
      refine And.intro (vp_in_nI (n := 0) (by omega) (by omega)) (And.intro (vp_in_nI (by omega) (by omega)) (hK _ _ c ⟨rfl, ?_⟩))
      rw [show (0 : Int32).toNatClampNeg = 0 from rfl, hless 0 (by omega)]
      exact fin
    · have e : (i + 1) % m = i + 1 := Nat.mod_eq_of_lt c2
      rw [e] at fin hr2
      refine And.intro (vp_in_nI (by omega) (by omega)) (And.intro (vp_in_nI (by omega) (by omega)) (hK _ _ c ⟨rfl, ?_⟩))
      rw [nI_clamp (n := i + 1) (by omega), hless (i + 1) c2]
      exact fin
theorem s_X4_takeLoop {a Fa : Nat} {F : Nat → Nat} {lp less leads am fo pcv : Nat → Int32} {P : (Nat → Int32) → (Nat → Int32) → (Nat → Int32) → (Nat → Int32) → (Nat → Int32) → Prop} (ho : OkL n f) (h2 : 2 ≤ m) (h6 : m ≤ 6) (hl : ∀ i, i < m → l i < pcs n 0) (hlp : ∀ i, i < m → lp i = nI (l i)) (hadj : ∀ i, i + 1 < m → (cov n 0 f (l i)).testBit (l (i + 1)) = true) (hFa : HasFal n 0 f Fa) (hC : HasC n 0 f pcv) (hG : GD n f m a F) (hF : FO m am fo a F)
    (h : ∀ lp' less' leads' fo' am' a' F', (∀ i, i < m → lp' i = nI (l i)) → GD n f m a' F' → FO m am' fo' a' F' → FR m am fo am' fo' → (∀ x, InF a F x → InF a' F' x) → (∀ x, isLp n m f l → PAT m (RV f l m) x → InF a' F' x) → P lp' less' leads' fo' am') :
    M_X4_takeLoop (nI m) lp pcv (nI Fa) less leads am fo P := by
  have h8 := ho.2.1
  have hl0 := lpc8 h8 hl (show 0 < m by omega)
  refine And.intro (vp_in_nI (n := 0) (by omega) (by omega)) ?_
  rw [show nI m - (1 : Int32) = nI (m - 1) from pk_sub (b := 1) (by omega)]
  refine And.intro (vp_in_nI (by omega) (by omega)) ?_
  rw [show (0 : Int32).toNatClampNeg = 0 from rfl, nI_clamp (n := m - 1) (by omega), hlp 0 (by omega), hlp (m - 1) (by omega)]
  refine s_X5_isCovered ho (Nat.zero_le 1) hC (hl _ (by omega)) hl0 ?_
  cases hb : (cov n 0 f (l (m - 1))).testBit (l 0) with
  | false =>
    refine br_t rfl (h _ _ _ _ _ a F hlp hG hF (FR.refl _ _ _) (fun x hx => hx) (fun x hx _ => ?_))
    have := hx.2 (m - 1) (by omega)
    rw [show m - 1 + 1 = m by omega, Nat.mod_self, hb] at this
    cases this
  | true =>
    have hLp : isLp n m f l := ⟨hl, fun i hi => by
      rcases Nat.lt_or_ge (i + 1) m with z | z
      · rw [Nat.mod_eq_of_lt z]; exact hadj i z
      · rw [show i = m - 1 by omega, show m - 1 + 1 = m by omega, Nat.mod_self]; exact hb⟩
    refine br_f (by decide) (And.intro ?_ ?_)
    · rw [nI_clamp (by omega)]
      exact ⟨by decide, nI_pos (by omega), nI_pos (by omega), by show 0 + m ≤ 12; omega, by omega⟩
    rw [nI_clamp (n := m) (by omega)]
    have hcp : ∀ i, i < m → va_cpy lp lp 0 m m i = nI (l i) := fun i hi => by rw [pk_cpy_out (by omega), hlp i hi]
    have hD : DL m l (va_cpy lp lp 0 m m) := fun k hk => by
      rcases Nat.lt_or_ge k m with z | z
      · rw [hcp k z, Nat.mod_eq_of_lt z]
      · rw [pk_cpy_in z (by omega), hlp _ (by omega), Nat.mod_eq_sub_mod z, Nat.mod_eq_of_lt (by omega)]
        congr 2
        omega
    refine s_X4_numberRows h8 h2 h6 hl hD hFa (fun hi less' => ?_) (fun hi less' hless => ?_)
    · exact br_t rfl (h _ _ _ _ _ a F hcp hG hF (FR.refl _ _ _) (fun x hx => hx) (fun x _ hx => absurd hx.1 hi))
    · refine br_f (by decide) (s_X4_loopFigures h2 h6 hi hless (fun leads' => ?_))
      have hP := PAT_ex hi
      refine s_X4_add h2 h6 hG hF (Or.inl ⟨l, hLp, hP⟩) (fun fo' am' a' F' hG' hF' hR' hin => h _ _ _ _ _ a' F' hcp hG' hF' hR' (fun x hx => (hin x).mpr (Or.inl hx)) (fun x _ hx => (hin x).mpr (Or.inr (PAT_one hx hP))))
end CL
/-- what goes on behind the pieces that are laid -/
theorem s_X4_extend {n m Fa : Nat} {f : Nat → Nat} {pcv : Nat → Int32} (ho : OkL n f) (h2 : 2 ≤ m) (h6 : m ≤ 6) (hFa : HasFal n 0 f Fa) (hC : HasC n 0 f pcv) : ∀ (d len a : Nat) (l F : Nat → Nat) (lp less leads am fo : Nat → Int32) (P : (Nat → Int32) → (Nat → Int32) → (Nat → Int32) → (Nat → Int32) → (Nat → Int32) → Prop), m - len < d → 1 ≤ len → len ≤ m → (∀ i, i < len → l i < pcs n 0) → (∀ i, i < len → lp i = nI (l i)) → (∀ i, i + 1 < len → (cov n 0 f (l i)).testBit (l (i + 1)) = true) → GD n f m a F → FO m am fo a F →
    (∀ lp' less' leads' fo' am' a' F', (∀ i, i < len → lp' i = nI (l i)) → GD n f m a' F' → FO m am' fo' a' F' → FR m am fo am' fo' → (∀ x, InF a F x → InF a' F' x) → (∀ l' x, (∀ i, i < len → l' i = l i) → isLp n m f l' → (∀ i, i < m → l 0 ≤ l' i) → PAT m (RV f l' m) x → InF a' F' x) → P lp' less' leads' fo' am') →
    M_X4_extend d (nI m) (nI len) am lp (nI (pcs n 0)) pcv (nI Fa) less leads fo P := by
  have h8 := ho.2.1
  have hN : pcs n 0 ≤ 8 := Nat.le_trans pcs_le h8
  obtain ⟨e1, e2, e3, e4, e5⟩ := kk_n h2 h6
  intro d
  induction d with
  | zero => intro len a l F lp less leads am fo P hd; omega
  | succ d ih =>
    intro len a l F lp less leads am fo P hd h1 hlen hl hlp hadj hG hF h
    have ha := GD_le h2 h6 hG
    refine pk_lt len 1 (fun c => absurd c (by omega)) (fun _ => pk_lt m len (fun c => absurd c (by omega)) (fun _ => ?_))
    refine And.intro (vp_in_nI (by omega) (by omega)) (And.intro (vp_in_nI (by omega) (by omega)) ?_)
    rw [nI_clamp (n := m) (by omega), e2, hF.1]
    refine pk_lt a (kMn m) (fun c => ?_) (fun c => ?_)
    · refine pk_eq len m (fun q => ?_) (fun q => ?_)
      · subst q
        refine s_X4_takeLoop ho h2 h6 hl hlp hadj hFa hC hG hF (fun lp' less' leads' fo' am' a' F' q1 q2 q3 q4 q5 q6 => h lp' less' leads' fo' am' a' F' q1 q2 q3 q4 q5 (fun l' x w1 w2 w3 w4 => ?_))
        refine q6 x ⟨hl, fun i hi => ?_⟩ (by rw [← RV_cong (f := f) (by omega) w1]; exact w4)
        have := w2.2 i hi
        rw [w1 i hi, w1 _ (Nat.mod_lt _ (by omega))] at this
        exact this
      · have hl0 := hl 0 (by omega)
        refine And.intro (vp_in_nI (n := 0) (by omega) (by omega)) ?_
        rw [show (0 : Int32).toNatClampNeg = 0 from rfl, hlp 0 (by omega)]
        refine LP6_ix (fun i y lp' _ _ fo' am' => y = nI i ∧ (∀ j, j < len → lp' j = nI (l j)) ∧ ∃ a' F', GD n f m a' F' ∧ FO m am' fo' a' F' ∧ FR m am fo am' fo' ∧ (∀ x, InF a F x → InF a' F' x) ∧ ∀ l' x, (∀ i, i < len → l' i = l i) → isLp n m f l' → (∀ i, i < m → l 0 ≤ l' i) → l' len < i → PAT m (RV f l' m) x → InF a' F' x) (pcs n 0) ?_ (l 0) _ _ _ _ _ _ (by omega) ⟨rfl, hlp, a, F, hG, hF, FR.refl _ _ _, fun x hx => hx, fun l' x _ _ w3 w4 _ => absurd (w3 len (by omega)) (by omega)⟩
        rintro K i y lp' less' leads' fo' am' hi ⟨rfl, hlp', a', F', hG', hF', hR', hmono, hcov⟩ hK
        refine pk_le (pcs n 0) i (fun c2 => ?_) (fun c2 => ?_)
        · exact h lp' less' leads' fo' am' a' F' hlp' hG' hF' hR' hmono (fun l' x w1 w2 w3 w4 => hcov l' x w1 w2 w3 (Nat.lt_of_lt_of_le (w2.1 len (by omega)) c2) w4)
        · rw [show nI len - (1 : Int32) = nI (len - 1) from pk_sub (b := 1) h1]
          refine And.intro (vp_in_nI (by omega) (by omega)) ?_
          rw [nI_clamp (by omega), hlp' _ (by omega)]
          refine s_X5_isCovered ho (Nat.zero_le 1) hC (hl _ (by omega)) (by omega) ?_
          have at_ : ∀ l', isLp n m f l' → (∀ i, i < len → l' i = l i) → (cov n 0 f (l (len - 1))).testBit (l' len) = true := by
            intro l' w2 w1
            have := w2.2 (len - 1) (by omega)
            rw [w1 _ (by omega), show len - 1 + 1 = len by omega, Nat.mod_eq_of_lt (by omega)] at this
            exact this
          cases hb : (cov n 0 f (l (len - 1))).testBit i with
          | false =>
            refine br_t rfl (hK _ _ _ _ _ _ c2 ⟨nI_1 i, hlp', a', F', hG', hF', hR', hmono, fun l' x w1 w2 w3 w5 w4 => ?_⟩)
            rcases Nat.lt_or_ge (l' len) i with z | z
            · exact hcov l' x w1 w2 w3 z w4
            · have := at_ l' w2 w1
              rw [show l' len = i by omega, hb] at this
              cases this
          | true =>
            refine br_f (by decide) (And.intro (vp_in_nI (by omega) (by omega)) ?_)
            rw [show nI len + (1 : Int32) = nI (len + 1) from nI_1 len, nI_clamp (by omega)]
            have u0 : ∀ j, j < len → uf l len i j = l j := fun j hj => if_neg (by omega)
            have u1 : uf l len i len = i := if_pos rfl
            refine ih (len + 1) a' (uf l len i) F' _ less' leads' am' fo' _ (by omega) (by omega) (by omega) (fun j hj => ?_) (fun j hj => ?_) (fun j hj => ?_) hG' hF' (fun lp2 less2 leads2 fo2 am2 a2 F2 q1 q2 q3 q4 q5 q6 => hK _ _ _ _ _ _ c2 ⟨nI_1 i, fun j hj => ?_, a2, F2, q2, q3, hR'.trans q4, fun x hx => q5 x (hmono x hx), fun l' x w1 w2 w3 w5 w4 => ?_⟩)
            · by_cases z : j = len
              · rw [z, u1]; exact c2
              · rw [u0 j (by omega)]; exact hl j (by omega)
            · by_cases z : j = len
              · rw [z, u1, pk_us]
              · rw [u0 j (by omega), pk_un z]; exact hlp' j (by omega)
            · by_cases z : j + 1 = len
              · rw [u0 j (by omega), z, u1, show j = len - 1 by omega]; exact hb
              · rw [u0 j (by omega), u0 (j + 1) (by omega)]; exact hadj j (by omega)
            · rw [q1 j (by omega), u0 j hj]
            · rcases Nat.lt_or_ge (l' len) i with z | z
              · exact q5 x (hcov l' x w1 w2 w3 z w4)
              · refine q6 l' x (fun j hj => ?_) w2 (by rw [u0 0 (by omega)]; exact w3) w4
                by_cases y : j = len
                · rw [y, u1]; omega
                · rw [u0 j (by omega)]; exact w1 j (by omega)
    · exact h lp less leads fo am a F hlp hG hF (FR.refl _ _ _) (fun x hx => hx) (fun l' x _ _ _ w4 => GD_full h2 h6 hG c w4)
/-! the search, kept for each map -/
def EN (n : Nat) (f : Nat → Nat) (m a : Nat) (F : Nat → Nat) : Prop := Ris a F ∧ ∀ x, InF a F x ↔ SP n f m x
theorem EN_GD {n m a : Nat} {f F : Nat → Nat} (h : EN n f m a F) : GD n f m a F := ⟨h.1, fun k hk => (h.2 _).mp ⟨k, hk, rfl⟩⟩
theorem GD_EN {n m a : Nat} {f F : Nat → Nat} (h : GD n f m a F) (h' : ∀ x, SP n f m x → InF a F x) : EN n f m a F :=
  ⟨h.1, fun x => ⟨fun ⟨k, hk, e⟩ => by rw [← e]; exact h.2 k hk, h' x⟩⟩
def AMs (n : Nat) (f : Nat → Nat) (am fo : Nat → Int32) : Prop := ∀ m, 2 ≤ m → m ≤ 6 → am m = -1 ∨ ∃ a F, EN n f m a F ∧ FO m am fo a F
def CI (ss sm pn pf : Int32) (pcv am fo : Nat → Int32) : Prop := ss = 0 ∨ ∃ n f Fa, OkF n f ∧ ss = nI n ∧ sm = nI (pkA f 8) ∧ pn = nI (pcs n 0) ∧ pf = nI Fa ∧ HasFal n 0 f Fa ∧ HasC n 0 f pcv ∧ AMs n f am fo
theorem FO_FR {m m' a : Nat} {F : Nat → Nat} {am fo am' fo' : Nat → Int32} (h2 : 2 ≤ m) (h6 : m ≤ 6) (h2' : 2 ≤ m') (h6' : m' ≤ 6) (hne : m' ≠ m) (h : FR m am fo am' fo') (ha : a ≤ kMn m') (hF : FO m' am fo a F) : FO m' am' fo' a F := by
  refine ⟨by rw [h.1 m' hne]; exact hF.1, fun k hk => ?_⟩
  have := kk_apart h2 h6 h2' h6' hne
  rw [h.2 _ (by omega)]
  exact hF.2 k hk
theorem EN_le {n m a : Nat} {f F : Nat → Nat} (h2 : 2 ≤ m) (h6 : m ≤ 6) (h : EN n f m a F) : a ≤ kMn m := GD_le h2 h6 (EN_GD h)
theorem s_X4_seek27 {n m Fa : Nat} {f : Nat → Nat} {ss sm : Int32} {g pcv am fo lp less leads : Nat → Int32} {w : Int32} {P : Int32 → Int32 → Int32 → Int32 → (Nat → Int32) → (Nat → Int32) → (Nat → Int32) → (Nat → Int32) → (Nat → Int32) → (Nat → Int32) → Prop} (ho : OkF n f) (hg : Has8 f g) (h2 : 2 ≤ m) (h6 : m ≤ 6) (hFa : HasFal n 0 f Fa) (hC : HasC n 0 f pcv) (hA : AMs n f am fo)
    (h : ∀ am' fo' lp' less' leads' a F, AMs n f am' fo' → EN n f m a F → FO m am' fo' a F → P ss sm (nI (pcs n 0)) (nI Fa) pcv am' fo' lp' less' leads') :
    M_X4_seek_b27 (nI m) (nI n) g w P ss sm (nI (pcs n 0)) (nI Fa) pcv am fo lp less leads := by
  have h8 := ho.2.1
  have hN : pcs n 0 ≤ 8 := Nat.le_trans pcs_le h8
  refine And.intro (vp_in_nI (by omega) (by omega)) ?_
  rw [nI_clamp (by omega)]
  refine br_c (fun c => ?_) (fun c => ?_)
  · refine And.intro (vp_in_nI (by omega) (by omega)) ?_
    refine s_X4_addRings (a := 0) (F := id) ho.L (hg.L h8) h2 h6 ⟨fun i j _ hj => absurd hj (Nat.not_lt_zero j), fun k hk => absurd hk (Nat.not_lt_zero k)⟩ ⟨pk_us, fun k hk => absurd hk (Nat.not_lt_zero k)⟩ (fun fo1 am1 a1 F1 hG1 hF1 hR1 hin1 => ?_)
    refine LP6_ix (fun i y am' fo' _ _ _ => y = nI i ∧ ∃ a' F', GD n f m a' F' ∧ FO m am' fo' a' F' ∧ FR m am1 fo1 am' fo' ∧ (∀ x, InF a1 F1 x → InF a' F' x) ∧ ∀ l x, isLp n m f l → (∀ i, i < m → l 0 ≤ l i) → l 0 < i → PAT m (RV f l m) x → InF a' F' x) (pcs n 0) ?_ 0 _ _ _ _ _ _ (Nat.zero_le _) ⟨rfl, a1, F1, hG1, hF1, FR.refl _ _ _, fun x hx => hx, fun l x _ _ q => absurd q (Nat.not_lt_zero _)⟩
    rintro K i y am' fo' lp' less' leads' hi ⟨rfl, a', F', hG', hF', hR', hmono, hcov⟩ hK
    refine pk_le (pcs n 0) i (fun c2 => ?_) (fun c2 => ?_)
    · have hE : EN n f m a' F' := by
        refine GD_EN hG' (fun x hx => ?_)
        rcases hx with hx | hx
        · obtain ⟨l, q1, q2, q3⟩ := SPl_min (by omega) hx
          exact hcov l x q1 q3 (Nat.lt_of_lt_of_le (q1.1 0 (by omega)) c2) q2
        · exact hmono x (hin1 x hx)
      refine h am' fo' lp' less' leads' a' F' (fun m' q2 q6 => ?_) hE hF'
      by_cases z : m' = m
      · subst z; exact Or.inr ⟨a', F', hE, hF'⟩
      · rcases hA m' q2 q6 with w | ⟨a2, F2, w1, w2⟩
        · left
          rw [hR'.1 m' z, hR1.1 m' z, pk_un z]; exact w
        · refine Or.inr ⟨a2, F2, w1, ?_⟩
          have w3 : FO m' (upd am m 0) fo a2 F2 := ⟨by rw [pk_un z]; exact w2.1, w2.2⟩
          exact FO_FR h2 h6 q2 q6 z hR' (EN_le q2 q6 w1) (FO_FR h2 h6 q2 q6 z hR1 (EN_le q2 q6 w1) w3)
    · refine And.intro (vp_in_nI (n := 0) (by omega) (by omega)) ?_
      rw [show (0 : Int32).toNatClampNeg = 0 from rfl]
      refine s_X4_extend ho.L h2 h6 hFa hC 8 1 a' (fun _ => i) F' _ less' leads' am' fo' _ (by omega) (by omega) (by omega) (fun j _ => c2) (fun j hj => ?_) (fun j hj => absurd hj (by omega)) hG' hF' (fun lp2 less2 leads2 fo2 am2 a2 F2 q1 q2 q3 q4 q5 q6 => hK _ _ _ _ _ _ c2 ⟨nI_1 i, a2, F2, q2, q3, hR'.trans q4, fun x hx => q5 x (hmono x hx), fun l x w1 w2 w3 w4 => ?_⟩)
      · rw [show j = 0 by omega, pk_us]
      · rcases Nat.lt_or_ge (l 0) i with z | z
        · exact q5 x (hcov l x w1 w2 z w4)
        · have e : l 0 = i := by omega
          exact q6 l x (fun j hj => by rw [show j = 0 by omega]; exact e) w1 (fun j hj => by rw [← e]; exact w2 j hj) w4
  · rcases hA m h2 h6 with w | ⟨a, F, w1, w2⟩
    · exact absurd w c
    · exact h am fo lp less leads a F hA w1 w2
theorem s_X4_seek {n m : Nat} {f : Nat → Nat} {ss sm pn pf : Int32} {g pcv am fo lp less leads : Nat → Int32} {P : Int32 → Int32 → Int32 → Int32 → (Nat → Int32) → (Nat → Int32) → (Nat → Int32) → (Nat → Int32) → (Nat → Int32) → (Nat → Int32) → Prop} (ho : OkF n f) (hg : Has8 f g) (h2 : 2 ≤ m) (h6 : m ≤ 6) (hI : CI ss sm pn pf pcv am fo)
    (h : ∀ ss' sm' pn' pf' pcv' am' fo' lp' less' leads' a F, CI ss' sm' pn' pf' pcv' am' fo' → EN n f m a F → FO m am' fo' a F → P ss' sm' pn' pf' pcv' am' fo' lp' less' leads') :
    M_X4_seek (nI m) ss (nI n) g sm (nI 0) pn pf pcv am fo lp less leads P := by
  have h8 := ho.2.1
  have hn2 := ho.1
  have hf8 : ∀ i, i < 8 → f i < 8 := fun i hi => ho.lt hi
  have fresh : M_X4_seek_b22 (nI m) (nI n) g (nI 0) P ss sm pn pf pcv am fo lp less leads := by
    refine s_X0_packed hf8 hg (s_X5_learn (w := 0) ho.L (Nat.zero_le 1) (hg.L h8) (fun Fa c' hFa hC => ?_))
    refine LP2_ix (fun i a b => a = nI i ∧ ∀ k, k < i → b k = -1) 7 ?_ 0 _ _ (Nat.zero_le _) ⟨rfl, fun k hk => absurd hk (Nat.not_lt_zero k)⟩
    rintro K i a b hi ⟨rfl, hb⟩ hK
    refine pk_lt 6 i (fun c => ?_) (fun c => ?_)
    · have e : i = 7 := by omega
      subst e
      refine s_X4_seek27 ho hg h2 h6 hFa hC (fun m' q2 q6 => Or.inl (hb m' (by omega))) (fun am' fo' lp' less' leads' a F q1 q2 q3 => h _ _ _ _ _ _ _ _ _ _ a F (Or.inr ⟨n, f, Fa, ho, rfl, rfl, rfl, rfl, hFa, hC, q1⟩) q2 q3)
    · refine And.intro (vp_in_nI (by omega) (by omega)) (hK _ _ (by omega) ⟨nI_1 i, fun k hk => ?_⟩)
      rw [nI_clamp (by omega)]
      by_cases z : k = i
      · subst z; exact pk_us
      · rw [pk_un z]; exact hb k (by omega)
  refine br_c (fun c => ?_) (fun _ => fresh)
  refine s_X0_packed hf8 hg (br_c (fun c2 => ?_) (fun _ => fresh))
  rcases hI with z | ⟨n0, f0, Fa, ho0, rfl, rfl, rfl, rfl, hFa, hC, hA⟩
  · rw [z] at c
    have : nI 0 = nI n := c
    rw [nI_eq (by omega) (by omega)] at this
    omega
  · have h80 := ho0.2.1
    rw [nI_eq (by omega) (by omega)] at c
    subst c
    have hf80 : ∀ i, i < 8 → f0 i < 8 := fun i hi => ho0.lt hi
    have l1 := pkA_24 hf8 (Nat.le_refl 8)
    have l2 := pkA_24 hf80 (Nat.le_refl 8)
    rw [nI_eq (by omega) (by omega)] at c2
    have e : f0 = f := by
      funext i
      rcases Nat.lt_or_ge i 8 with z | z
      · exact pk_same hf80 hf8 c2 i z
      · rw [ho0.2.2.2 i (by omega), ho.2.2.2 i (by omega)]
    subst e
    exact s_X4_seek27 ho hg h2 h6 hFa hC hA (fun am' fo' lp' less' leads' a F q1 q2 q3 => h _ _ _ _ _ _ _ _ _ _ a F (Or.inr ⟨n0, f0, Fa, ho, rfl, rfl, rfl, rfl, hFa, hC, q1⟩) q2 q3)
/-! the answers -/
noncomputable def enA (n : Nat) (f : Nat → Nat) (m : Nat) : Nat := Classical.epsilon (fun a => ∃ F, EN n f m a F)
noncomputable def enF (n : Nat) (f : Nat → Nat) (m : Nat) : Nat → Nat := Classical.epsilon (fun F => EN n f m (enA n f m) F)
theorem EN_is {n m a : Nat} {f F : Nat → Nat} (h : EN n f m a F) : enA n f m = a ∧ ∀ k, k < a → enF n f m k = F k := by
  obtain ⟨F0, h0⟩ := Classical.epsilon_spec (p := fun a => ∃ F, EN n f m a F) ⟨a, F, h⟩
  have h0 : EN n f m (enA n f m) F0 := h0
  have h1 : EN n f m (enA n f m) (enF n f m) := Classical.epsilon_spec (p := fun F => EN n f m (enA n f m) F) ⟨F0, h0⟩
  obtain ⟨e1, e2⟩ := Ris_one h1.1 h.1 (fun x => (h1.2 x).trans (h.2 x).symm)
  exact ⟨e1, fun k hk => e2 k (by omega)⟩
noncomputable def a_pat (n : Nat) (f : Nat → Nat) (m : Nat) (x : Int32) : Int32 := if x = -1 then nI (enA n f m) else if nI (enA n f m) ≤ x then -1 else nI (enF n f m x.toNatClampNeg)
noncomputable def a_pattern (n w : Nat) (f : Nat → Nat) (x1 x2 : Int32) : Int32 := if (x1 < 2 ∨ 6 < x1) ∨ x2 < -1 then -2 else if w = 1 then -3 else a_pat n f x1.toNatClampNeg x2
noncomputable def a_has (n w : Nat) (f : Nat → Nat) (x1 x2 : Int32) : Int32 := if x1 < 2 ∨ 6 < x1 then -2 else if w = 1 then -3 else if fb_ct (fun k => decide (nI (enF n f x1.toNatClampNeg k) = x2)) (enA n f x1.toNatClampNeg) = 0 then 0 else 1
section PA
variable {n w : Nat} {f : Nat → Nat} {g : Nat → Int32}
theorem s_X4_canBeOf {x : Int32} {P : Int32 → Prop} (h0 : (x < 2 ∨ 6 < x) → P 0) (h1 : ∀ m, 2 ≤ m → m ≤ 6 → x = nI m → P 1) : M_X4_canBeOf x P := by
  refine br_c (fun c => h0 (Or.inl c)) (fun c => br_c (fun c2 => h0 (Or.inr c2)) (fun c2 => ?_))
  obtain ⟨m, m1, m2, e⟩ := in_rng 2 6 c c2
  exact h1 m m1 m2 e
theorem m1_cases {x : Int32} (h : ¬ x < -1) : x = -1 ∨ ∃ k, k < 2 ^ 31 ∧ x = nI k := by
  by_cases q : x < 0
  · left
    rw [fa_lt, show (-1 : Int32).toInt = -1 from rfl] at h
    rw [fa_lt, show (0 : Int32).toInt = 0 from rfl] at q
    exact (fa_eq _ _).mpr (by rw [show (-1 : Int32).toInt = -1 from rfl]; omega)
  · exact Or.inr (nI_of q)
theorem s_X8_pattern {x1 x2 ss sm pn pf : Int32} {pcv am fo lp less leads : Nat → Int32} {P : Int32 → Int32 → Int32 → Int32 → Int32 → (Nat → Int32) → (Nat → Int32) → (Nat → Int32) → (Nat → Int32) → (Nat → Int32) → (Nat → Int32) → Prop} (ho : OkF n f) (hw : w ≤ 1) (hg : Has8 f g) (hI : CI ss sm pn pf pcv am fo)
    (h : ∀ ss' sm' pn' pf' pcv' am' fo' lp' less' leads', CI ss' sm' pn' pf' pcv' am' fo' → P (a_pattern n w f x1 x2) ss' sm' pn' pf' pcv' am' fo' lp' less' leads') :
    M_X8_pattern x1 x2 (nI w) ss (nI n) g sm pn pf pcv am fo lp less leads P := by
  unfold a_pattern at h
  refine s_X4_canBeOf (fun q => br_t rfl ?_) (fun m h2 h6 e => br_f (by decide) (br_c (fun c => ?_) (fun c => ?_)))
  · rw [if_pos (Or.inl q)] at h; exact h _ _ _ _ _ _ _ _ _ _ hI
  · subst e
    have c2 : ¬ x2 < -1 := fun z => (fa_of_lt z).2.1 c
    have nb : ¬ ((nI m < 2 ∨ 6 < nI m) ∨ x2 < -1) := by
      rintro ((z | z) | z)
      · rw [show (2 : Int32) = nI 2 from rfl, nI_ltI (by omega) (by omega)] at z; omega
      · rw [show (6 : Int32) = nI 6 from rfl, nI_ltI (by omega) (by omega)] at z; omega
      · exact c2 z
    rw [if_neg nb, nI_clamp (by omega)] at h
    refine pk_eq w 1 (fun q => ?_) (fun q => ?_)
    · rw [if_pos q] at h; exact h _ _ _ _ _ _ _ _ _ _ hI
    · rw [if_neg q] at h
      have e : w = 0 := by omega
      subst e
      refine s_X4_seek ho hg h2 h6 hI (fun ss' sm' pn' pf' pcv' am' fo' lp' less' leads' a F hI' hE hF => ?_)
      have h := h ss' sm' pn' pf' pcv' am' fo' lp' less' leads' hI'
      obtain ⟨u1, u2⟩ := EN_is hE
      have hae := EN_le h2 h6 hE
      obtain ⟨k1, k2, k3, k4, k5⟩ := kk_n h2 h6
      unfold a_pat at h
      rw [u1] at h
      refine And.intro (vp_in_nI (by omega) (by omega)) ?_
      rw [nI_clamp (by omega), hF.1]
      refine br_c (fun z => ?_) (fun z => ?_)
      · rw [if_pos z] at h; exact h
      rw [if_neg z] at h
      refine br_c (fun y => ?_) (fun y => ?_)
      · rw [if_pos y] at h; exact h
      rw [if_neg y] at h
      rcases m1_cases c2 with v | ⟨k, kl, rfl⟩
      · exact absurd v z
      · rw [nI_leI (by omega) kl] at y
        rw [nI_clamp kl, u2 k (by omega)] at h
        refine s_X4_at h2 h6 (by omega) ?_
        rw [hF.2 k (by omega)]; exact h
  · rw [if_pos (Or.inr (fa_of_nle c))] at h; exact h _ _ _ _ _ _ _ _ _ _ hI
theorem s_X8_has {x1 x2 ss sm pn pf : Int32} {pcv am fo lp less leads : Nat → Int32} {P : Int32 → Int32 → Int32 → Int32 → Int32 → (Nat → Int32) → (Nat → Int32) → (Nat → Int32) → (Nat → Int32) → (Nat → Int32) → (Nat → Int32) → Prop} (ho : OkF n f) (hw : w ≤ 1) (hg : Has8 f g) (hI : CI ss sm pn pf pcv am fo)
    (h : ∀ ss' sm' pn' pf' pcv' am' fo' lp' less' leads', CI ss' sm' pn' pf' pcv' am' fo' → P (a_has n w f x1 x2) ss' sm' pn' pf' pcv' am' fo' lp' less' leads') :
    M_X8_has x1 x2 (nI w) ss (nI n) g sm pn pf pcv am fo lp less leads P := by
  unfold a_has at h
  refine s_X4_canBeOf (fun q => br_t rfl ?_) (fun m h2 h6 e => br_f (by decide) ?_)
  · rw [if_pos q] at h; exact h _ _ _ _ _ _ _ _ _ _ hI
  subst e
  have nb : ¬ (nI m < 2 ∨ 6 < nI m) := by
    rintro (z | z)
    · rw [show (2 : Int32) = nI 2 from rfl, nI_ltI (by omega) (by omega)] at z; omega
    · rw [show (6 : Int32) = nI 6 from rfl, nI_ltI (by omega) (by omega)] at z; omega
  rw [if_neg nb, nI_clamp (by omega)] at h
  refine pk_eq w 1 (fun q => ?_) (fun q => ?_)
  · rw [if_pos q] at h; exact h _ _ _ _ _ _ _ _ _ _ hI
  · rw [if_neg q] at h
    have e : w = 0 := by omega
    subst e
    refine s_X4_seek ho hg h2 h6 hI (fun ss' sm' pn' pf' pcv' am' fo' lp' less' leads' a F hI' hE hF => ?_)
    have h := h ss' sm' pn' pf' pcv' am' fo' lp' less' leads' hI'
    obtain ⟨u1, u2⟩ := EN_is hE
    have hae := EN_le h2 h6 hE
    obtain ⟨k1, k2, k3, k4, k5⟩ := kk_n h2 h6
    have hG := EN_GD hE
    have hs : ∀ k, k < a → F k < 1000000 := fun k hk => GD_small h2 h6 hG hk
    have hpl := plF_le F a x2
    rw [u1] at h
    have e1 : fb_ct (fun k => decide (nI (enF n f m k) = x2)) a = fb_ct (fun k => decide (nI (F k) = x2)) a := fb_ct_cong fun k hk => by rw [u2 k hk]
    rw [e1] at h
    refine s_X4_placeFor h2 h6 hG hF (And.intro (vp_in_nI (by omega) (by omega)) ?_)
    rw [nI_clamp (by omega), hF.1]
    have none : (∀ k, k < a → nI (F k) ≠ x2) → P 0 ss' sm' pn' pf' pcv' am' fo' lp' less' leads' := fun z => by
      rw [if_pos (fb_ct_zero.mpr (fun k hk => decide_eq_false (z k hk)))] at h; exact h
    refine pk_le a (plF F a x2) (fun c => ?_) (fun c => ?_)
    · refine br_t rfl (none (fun k hk e => ?_))
      have := plF_lo (F := F) (a := a) (x := x2) (k := k) (by omega)
      rw [e] at this
      exact (fa_of_lt this).2.2.2.1 rfl
    · refine s_X4_at h2 h6 (by omega) ?_
      rw [hF.2 _ c]
      refine br_c (fun q2 => br_f (by decide) ?_) (fun q2 => br_t rfl (none (fun k hk e => ?_)))
      · rw [if_neg (fun z => by have := fb_ct_zero.mp z _ c; rw [decide_eq_true q2] at this; cases this)] at h; exact h
      · rcases Nat.lt_trichotomy k (plF F a x2) with z | z | z
        · have := plF_lo z
          rw [e] at this
          exact (fa_of_lt this).2.2.2.1 rfl
        · rw [z] at e; exact q2 e
        · have h3 := hG.1 _ k z hk
          have s1 := hs k hk
          have h4 := plF_hi hG.1 hs (Nat.le_refl _) c
          have s2 := hs _ c
          have e3 : x2.toInt = (F k : Int) := by rw [← e]; exact nI_toInt (by omega)
          rw [fa_lt, nI_toInt (by omega)] at h4
          omega
end PA
