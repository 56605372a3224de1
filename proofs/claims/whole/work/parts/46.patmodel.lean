/-! the reference's patterns -/
def MO (many : Int32) (ps : Nat → Int32) (a : Nat) (F : Nat → Nat) : Prop := many = nI a ∧ ∀ k, k < a → ps k = nI (F k)
section MD
variable {n m : Nat} {f : Nat → Nat}
theorem s_X9_comes50 {a p y : Nat} {F : Nat → Nat} {ps : Nat → Int32} {P : (Nat → Int32) → Int32 → Prop} (h800 : a < 800) (hF : ∀ k, k < a → ps k = nI (F k)) (hp : p ≤ a) (h : ∀ ps', MO (nI (a + 1)) ps' (a + 1) (insF F p y) → P ps' (nI (a + 1))) : M_X9_comes_b50 (nI y) P (nI p) (nI a) ps (nI a) := by
  refine LP2_ix (fun t l3 b => l3 = nI (a - t) ∧ ∀ k, b k = if a - t < k ∧ k ≤ a then ps (k - 1) else ps k) (a - p) ?_ 0 _ _ (Nat.zero_le _) ⟨rfl, fun k => by rw [if_neg (by omega)]⟩
  rintro K t l3 b ht ⟨rfl, hb⟩ hK
  refine pk_le (a - t) p (fun c => ?_) (fun c => ?_)
  · have e : a - t = p := by omega
    refine And.intro (vp_in_nI (by omega) (by omega)) ?_
    rw [nI_clamp (by omega), show nI a + (1 : Int32) = nI (a + 1) from nI_1 a]
    refine h _ ⟨rfl, fun k hk => ?_⟩
    unfold insF
    by_cases q : k < p
    · rw [if_pos q, pk_un (by omega), hb, if_neg (by omega), hF k (by omega)]
    · rw [if_neg q]
      by_cases z : k = p
      · rw [if_pos z, z, pk_us]
      · rw [if_neg z, pk_un (by omega), hb, if_pos (by omega), hF _ (by omega)]
  · have e : nI (a - t) - (1 : Int32) = nI (a - t - 1) := pk_sub (b := 1) (by omega)
    have e6 : nI (a - t) + (-1) = nI (a - (t + 1)) := by
      rw [show a - t = (a - (t + 1)) + 1 by omega, pk_m1]
    rw [e]
    refine And.intro (vp_in_nI (by omega) (by omega)) (And.intro (vp_in_nI (by omega) (by omega)) (hK _ _ (by omega) ⟨e6, fun k => ?_⟩))
    rw [nI_clamp (by omega), nI_clamp (by omega)]
    by_cases z : k = a - t
    · subst z; rw [pk_us, hb, if_neg (by omega), if_pos (by omega)]
    · rw [pk_un z, hb]
      by_cases q : a - t < k ∧ k ≤ a
      · rw [if_pos q, if_pos (by omega)]
      · rw [if_neg q, if_neg (by omega)]
theorem s_X9_comes {a y : Nat} {F : Nat → Nat} {ps : Nat → Int32} {P : (Nat → Int32) → Int32 → Prop} (h2 : 2 ≤ m) (h6 : m ≤ 6) (hg : GD n f m a F) (hF : ∀ k, k < a → ps k = nI (F k)) (hy : SP n f m y) (h : ∀ ps' a' F', GD n f m a' F' → (∀ k, k < a' → ps' k = nI (F' k)) → (∀ x, InF a' F' x ↔ InF a F x ∨ x = y) → P ps' (nI a')) : M_X9_comes (nI y) (nI a) ps P := by
  obtain ⟨e1, e2, e3, e4, e5⟩ := kk_n h2 h6
  obtain ⟨v, hv⟩ := SP_pat hy
  have hys := PAT_lt h2 h6 hv
  have ha := GD_le h2 h6 hg
  have hs : ∀ k, k < a → F k < 1000000 := fun k hk => GD_small h2 h6 hg hk
  have hpl := plF_le F a (nI y)
  have lo : ∀ k, k < plF F a (nI y) → F k < y := fun k hk => by
    have := plF_lo hk
    have s1 := hs k (by omega)
    rwa [nI_ltI (by omega) (by omega)] at this
  have hi : ∀ k, plF F a (nI y) ≤ k → k < a → y ≤ F k := fun k hk hka => by
    have := plF_hi hg.1 hs hk hka
    have s1 := hs k hka
    rw [nI_ltI (by omega) (by omega)] at this
    omega
  have put : (plF F a (nI y) < a → F (plF F a (nI y)) ≠ y) → M_X9_comes_b50 (nI y) P (nI (plF F a (nI y))) (nI a) ps (nI a) := by
    intro hne
    have hi2 : ∀ k, plF F a (nI y) ≤ k → k < a → y < F k := fun k hk hka => by
      rcases Nat.lt_or_ge (plF F a (nI y)) k with q | q
      · have h1 := hi _ (Nat.le_refl _) (by omega : plF F a (nI y) < a)
        have h3 := hg.1 _ k q hka
        omega
      · have e : k = plF F a (nI y) := by omega
        have h1 := hi k hk hka
        have h3 := hne (by omega)
        rw [← e] at h3
        omega
    refine s_X9_comes50 (by omega) hF hpl (fun ps' hM => h ps' (a + 1) (insF F (plF F a (nI y)) y) ⟨insF_ris hg.1 hpl lo hi2, fun k hk => ?_⟩ hM.2 (insF_in hpl))
    rcases (insF_in (F := F) (y := y) hpl _).mp ⟨k, hk, rfl⟩ with ⟨j, j1, j2⟩ | z
    · rw [← j2]; exact hg.2 j j1
    · rw [z]; exact hy
  have fin : M_X9_comes_b26 (nI y) P (nI (plF F a (nI y))) ps (nI a) := by
    refine pk_le a (plF F a (nI y)) (fun c => put (fun z => absurd z (by omega))) (fun c => And.intro (vp_in_nI (by omega) (by omega)) ?_)
    rw [nI_clamp (by omega), hF _ c]
    have s1 := hs _ c
    refine pk_eq (F (plF F a (nI y))) y (fun c3 => ?_) (fun c3 => put (fun _ => c3))
    exact h ps a F hg hF (fun x => ⟨Or.inl, fun z => z.elim id (fun z => by rw [z]; exact ⟨_, c, c3⟩)⟩)
  refine LP1_ix (fun i x => x = nI i) (plF F a (nI y)) ?_ 0 _ (Nat.zero_le _) rfl
  rintro K i x hi2 rfl hK
  refine pk_le a i (fun c => ?_) (fun c => ?_)
  · rw [show i = plF F a (nI y) by omega]; exact fin
  · refine And.intro (vp_in_nI (by omega) (by omega)) ?_
    rw [nI_clamp (by omega), hF i c]
    have s1 := hs i c
    refine pk_le y (F i) (fun c2 => ?_) (fun c2 => ?_)
    · have e : i = plF F a (nI y) := by
        rcases Nat.lt_or_ge i (plF F a (nI y)) with z | z
        · have := lo i z; omega
        · omega
      rw [e]; exact fin
    · refine hK _ ?_ (nI_1 i)
      rcases Nat.lt_or_ge i (plF F a (nI y)) with z | z
      · exact z
      · have := hi i z c; omega
theorem mod_nI {a b : Nat} (ha : a < 2 ^ 30) (hb : 0 < b) (hb2 : b < 2 ^ 30) : nI a - nI a / nI b * nI b = nI (a % b) := pk_rem (by omega) hb (by omega)
theorem s_X9_comesBy {a : Nat} {v F : Nat → Nat} {ps rk : Nat → Int32} {P : (Nat → Int32) → Int32 → Prop} (h2 : 2 ≤ m) (h6 : m ≤ 6) (hv : Inj m v) (hrk : ∀ i, i < m → rk i = nI (rkv v m i)) (hg : GD n f m a F) (hF : ∀ k, k < a → ps k = nI (F k)) (hy : ∀ x, PAT m v x → SP n f m x) (h : ∀ ps' a' F', GD n f m a' F' → (∀ k, k < a' → ps' k = nI (F' k)) → (∀ x, InF a F x → InF a' F' x) → (∀ x, PAT m v x → InF a' F' x) → P ps' (nI a')) : M_X9_comesBy (nI m) (nI a) ps rk P := by
  have hld := ldC_ok hv
  have hP := PAT_ex hv
  refine LP2_ix (fun r x y => x = nI (dgs (ldC m v) r) ∧ y = nI r) m ?_ 0 _ _ (Nat.zero_le _) ⟨rfl, rfl⟩
  rintro K r x y hr ⟨rfl, rfl⟩ hK
  refine pk_le m r (fun c => ?_) (fun c => ?_)
  · have e : r = m := by omega
    subst e
    exact s_X9_comes h2 h6 hg hF (hy _ hP) (fun ps' a' F' q1 q2 q3 => h ps' a' F' q1 q2 (fun x hx => (q3 x).mpr (Or.inl hx)) (fun x hx => (q3 x).mpr (Or.inr (PAT_one hx hP))))
  · obtain ⟨k0, k1, k2⟩ := rkv_onto hv c
    refine LP2_ix (fun i x y => x = nI (if k0 < i then dgs (ldC m v) (r + 1) else dgs (ldC m v) r) ∧ y = nI i) m ?_ 0 _ _ (Nat.zero_le _) ⟨by rw [if_neg (by omega)], rfl⟩
    rintro K2 i x y hi ⟨rfl, rfl⟩ hK2
    refine pk_le m i (fun c2 => ?_) (fun c2 => ?_)
    · rw [if_pos (by omega)]
      exact hK _ _ c ⟨rfl, nI_1 r⟩
    · have hr2 := rkv_lt v c2
      refine And.intro (vp_in_nI (by omega) (by omega)) ?_
      rw [nI_clamp (n := i) (by omega), hrk i c2]
      refine pk_eq (rkv v m i) r (fun q => ?_) (fun q => ?_)
      · have e : i = k0 := by
          refine Classical.byContradiction fun hne => ?_
          exact rkv_ne c2 k1 (fun z => hne (hv.eq c2 k1 z)) (q.trans k2.symm)
        subst e
        have hm : (i + 1) % m < m := Nat.mod_lt _ (by omega)
        refine And.intro (nI_ne0 (by omega) (by omega)) ?_
        rw [show nI i + (1 : Int32) = nI (i + 1) from nI_1 i, mod_nI (by omega) (by omega) (by omega)]
        refine And.intro (vp_in_nI (by omega) (by omega)) ?_
        rintro y rfl
        refine hK2 _ _ c2 ⟨?_, rfl⟩
        rw [if_neg (by omega), if_pos (by omega), nI_clamp (by omega), hrk _ hm, dgs, ← k2, hld i c2, show (10 : Int32) = nI 10 from rfl, pk_mul, nI_add]
      · refine hK2 _ _ c2 ⟨?_, nI_1 i⟩
        by_cases z : k0 < i
        · rw [if_pos z, if_pos (by omega)]
        · rw [if_neg z, if_neg]
          intro y
          rw [show k0 = i by omega] at k2
          exact q k2
section LO
variable {l : Nat → Nat} {lp : Nat → Int32}
theorem s_X9_isSimple {P : Int32 → Prop} (hn : n ≤ 8) (h2 : 2 ≤ m) (h6 : m ≤ 6) (hl : ∀ i, i < m → l i < pcs n 0) (hlp : ∀ i, i < m → lp i = nI (l i)) (h0 : ¬ Inj m (RV f l m) → P 0) (h1 : Inj m (RV f l m) → P 1) : M_X9_isSimple (nI m) lp P := by
  refine LP1_ix (fun t x => x = nI (t + 1) ∧ ∀ s, 1 ≤ s → s ≤ t → ∃ i, i < m ∧ l i ≠ l ((i + s) % m)) (m - 1) ?_ 0 _ (Nat.zero_le _) ⟨rfl, fun s a b => by omega⟩
  rintro K t x ht ⟨rfl, hno⟩ hK
  refine pk_le m (t + 1) (fun c => ?_) (fun c => ?_)
  · refine h1 (fun i j hij hj e => ?_)
    have hfo : ¬ fo (rw_ l m i) (rw_ l m j) m < m := fun z => (fo_vv (F := fal 0 f) (fun k _ => rw8 hn (by omega) hl i k) (fun k _ => rw8 hn (by omega) hl j k)).mp z e
    have hfl := fo_le (rw_ l m i) (rw_ l m j) m
    obtain ⟨x, x1, x2⟩ := hno (j - i) (by omega) (by omega)
    apply x2
    have := fo_eq (s := rw_ l m i) (s' := rw_ l m j) (m := m) (k := (x + m - i) % m) (Nat.lt_of_lt_of_le (Nat.mod_lt _ (by omega)) (by omega))
    have q1 : (i + (x + m - i) % m) % m = x := by
      rw [Nat.add_mod_mod, show i + (x + m - i) = x + m by omega, Nat.add_mod_right, Nat.mod_eq_of_lt x1]
    have q2 : (j + (x + m - i) % m) % m = (x + (j - i)) % m := by
      rw [Nat.add_mod_mod, show j + (x + m - i) = x + (j - i) + m by omega, Nat.add_mod_right]
    have this : l ((i + (x + m - i) % m) % m) = l ((j + (x + m - i) % m) % m) := this
    rw [q1, q2] at this
    exact this
  · refine LP2_ix (fun i x y => y = nI i ∧ ∃ b : Bool, x = (if b then 1 else 0) ∧ (b = true ↔ ∀ k, k < i → l k = l ((k + (t + 1)) % m))) m ?_ 0 _ _ (Nat.zero_le _) ⟨rfl, true, rfl, ⟨fun _ k hk => absurd hk (Nat.not_lt_zero k), fun _ => rfl⟩⟩
    rintro K2 i x y hi ⟨rfl, b, rfl, hb⟩ hK2
    refine pk_le m i (fun c2 => ?_) (fun c2 => ?_)
    · have e : i = m := by omega
      subst e
      cases b with
      | false =>
        refine br_t rfl (hK _ (by omega) ⟨nI_1 _, fun s s1 s2 => ?_⟩)
        rcases Nat.lt_or_ge s (t + 1) with z | z
        · exact hno s s1 (by omega)
        · rw [show s = t + 1 by omega]
          refine Classical.byContradiction fun hne => ?_
          have : false = true := hb.mpr (fun k hk => Classical.byContradiction fun z => hne ⟨k, hk, z⟩)
          cases this
      | true =>
        refine br_f (by decide) (h0 (fun z => z 0 (t + 1) (by omega) c (vv_cong fun k hk => ?_)))
        have := hb.mp rfl k hk
        show l ((0 + k) % i) = l ((t + 1 + k) % i)
        rw [Nat.zero_add, Nat.mod_eq_of_lt hk, this, Nat.add_comm k]
    · have hm : (i + (t + 1)) % m < m := Nat.mod_lt _ (by omega)
      refine And.intro (vp_in_nI (by omega) (by omega)) (And.intro (nI_ne0 (by omega) (by omega)) ?_)
      rw [nI_add, mod_nI (by omega) (by omega) (by omega)]
      refine And.intro (vp_in_nI (by omega) (by omega)) ?_
      rw [nI_clamp (by omega), nI_clamp (by omega), hlp i c2, hlp _ hm]
      have b1 := lpc8 hn hl c2
      have b2 := lpc8 hn hl hm
      refine pk_eq (l i) (l ((i + (t + 1)) % m)) (fun q => ?_) (fun q => ?_)
      · refine hK2 _ _ c2 ⟨nI_1 i, b, by cases b <;> rfl, ?_⟩
        rw [hb]
        constructor
        · intro z k hk
          rcases Nat.lt_or_ge k i with y | y
          · exact z k y
          · rw [show k = i by omega]; exact q
        · intro z k hk; exact z k (by omega)
      · refine hK2 _ _ c2 ⟨nI_1 i, false, by cases b <;> rfl, ⟨fun z => (by cases z), fun z => absurd (z i (by omega)) q⟩⟩
theorem s_X9_isLess {i j : Nat} {g : Nat → Int32} {P : Int32 → Prop} (ho : OkL n f) (hg : HasL n f g) (h2 : 2 ≤ m) (h6 : m ≤ 6) (hl : ∀ i, i < m → l i < pcs n 0) (hlp : ∀ i, i < m → lp i = nI (l i)) (hi : i < m) (hj : j < m) (hne : RV f l m i ≠ RV f l m j) (h : P (if decide (RV f l m i < RV f l m j) then 1 else 0)) : M_X9_isLess (nI i) (nI j) (nI m) lp (nI 0) g P := by
  have hn := ho.2.1
  have hp : fo (rw_ l m i) (rw_ l m j) m < m := (fo_vv (F := fal 0 f) (fun k _ => rw8 hn (by omega) hl i k) (fun k _ => rw8 hn (by omega) hl j k)).mpr hne
  have hv : RV f l m i < RV f l m j ↔ _ := vv_lt (F := fal 0 f) hp (fun k _ => rw8 hn (by omega) hl i k) (fun k _ => rw8 hn (by omega) hl j k) (fun k hk => fo_eq hk) (fo_ne hp)
  have heq : ∀ k, k < fo (rw_ l m i) (rw_ l m j) m → rw_ l m i k = rw_ l m j k := fun k hk => fo_eq hk
  have hne2 := fo_ne hp
  generalize fo (rw_ l m i) (rw_ l m j) m = p at *
  refine LP2_ix (fun t a b => a = (if ev (fal 0 f) (rw_ l m i) t then 1 else 0) ∧ b = nI t) p ?_ 0 _ _ (Nat.zero_le _) ⟨rfl, rfl⟩
  rintro K t a b ht ⟨rfl, rfl⟩ hK
  have m1 : (i + t) % m < m := Nat.mod_lt _ (by omega)
  have m2 : (j + t) % m < m := Nat.mod_lt _ (by omega)
  have n0 : ¬ nI m = 0 := nI_ne0 (by omega) (by omega)
  have v1 : vp_in (nI ((i + t) % m)) 6 := vp_in_nI (by omega) (by omega)
  have v2 : vp_in (nI ((j + t) % m)) 6 := vp_in_nI (by omega) (by omega)
  have b1 := lpc8 hn hl m1
  have b2 := lpc8 hn hl m2
  unfold M_X9_isLess_l6
  rw [nI_add, nI_add, mod_nI (by omega) (by omega) (by omega), mod_nI (by omega) (by omega) (by omega), nI_clamp (n := (i + t) % m) (by omega), nI_clamp (n := (j + t) % m) (by omega), hlp _ m1, hlp _ m2]
  refine And.intro n0 (And.intro v1 (And.intro n0 (And.intro v2 ?_)))
  refine pk_eq (l ((i + t) % m)) (l ((j + t) % m)) (fun q => ?_) (fun q => ?_)
  · have hlt : t < p := by
      rcases Nat.lt_or_ge t p with z | z
      · exact z
      · rw [show p = t by omega] at hne2; exact absurd q hne2
    refine And.intro n0 (And.intro v1 (s_X9_falls ho (Nat.zero_le 1) hg (hl _ m1) (hK _ _ hlt ⟨?_, nI_1 t⟩)))
    cases hb : fal 0 f (l ((i + t) % m)) with
    | false =>
      rw [ev, boolif_f (show fal 0 f (rw_ l m i t) = false from hb)]
      cases ev (fal 0 f) (rw_ l m i) t <;> rfl
    | true =>
      rw [ev, boolif_t (show fal 0 f (rw_ l m i t) = true from hb)]
      cases ev (fal 0 f) (rw_ l m i) t <;> rfl
  · have e : t = p := by
      rcases Nat.lt_or_ge t p with z | z
      · exact absurd (heq t z) q
      · omega
    subst e
    refine And.intro n0 (And.intro v1 (And.intro n0 (And.intro v2 ?_)))
    refine pk_le (l ((j + t) % m)) (l ((i + t) % m)) (fun q2 => ?_) (fun q2 => ?_)
    · rw [decide_eq_false (show ¬ rw_ l m i t < rw_ l m j t from fun z => absurd (show l ((i + t) % m) < l ((j + t) % m) from z) (by omega))] at hv
      cases he : ev (fal 0 f) (rw_ l m i) t with
      | true =>
        rw [boolif_f (decide_eq_false (fun z => by have := hv.mp z; rw [he] at this; cases this))] at h
        exact br_f (by decide) h
      | false =>
        rw [boolif_t (decide_eq_true (hv.mpr he))] at h
        exact br_t rfl h
    · rw [decide_eq_true (show rw_ l m i t < rw_ l m j t from q2)] at hv
      cases he : ev (fal 0 f) (rw_ l m i) t with
      | true =>
        rw [boolif_t (decide_eq_true (hv.mpr he))] at h
        exact br_t rfl h
      | false =>
        rw [boolif_f (decide_eq_false (fun z => by have := hv.mp z; rw [he] at this; cases this))] at h
        exact br_f (by decide) h
end LO
theorem s_X9_goes (ho : OkL n f) {g : Nat → Int32} (hg : HasL n f g) (h2 : 2 ≤ m) (h6 : m ≤ 6) : ∀ (d len a : Nat) (l F : Nat → Nat) (lp ps rk : Nat → Int32) (P : (Nat → Int32) → Int32 → (Nat → Int32) → (Nat → Int32) → Prop), m - len < d → len ≤ m → (∀ i, i < len → l i < pcs n 0) → (∀ i, i < len → lp i = nI (l i)) → (∀ i, i + 1 < len → (cov n 0 f (l i)).testBit (l (i + 1)) = true) → GD n f m a F → (∀ k, k < a → ps k = nI (F k)) →
    (∀ ps' rk' lp' a' F', (∀ i, i < len → lp' i = nI (l i)) → GD n f m a' F' → (∀ k, k < a' → ps' k = nI (F' k)) → (∀ x, InF a F x → InF a' F' x) → (∀ l' x, (∀ i, i < len → l' i = l i) → isLp n m f l' → PAT m (RV f l' m) x → InF a' F' x) → P ps' (nI a') rk' lp') →
    M_X9_goes d (nI len) (nI m) lp g (nI n) (nI 0) (nI a) ps rk P := by
  have h8 := ho.2.1
  have hn2 := ho.1
  have hN : pcs n 0 ≤ 8 := Nat.le_trans pcs_le h8
  intro d
  induction d with
  | zero => intro len a l F lp ps rk P hd; omega
  | succ d ih =>
    intro len a l F lp ps rk P hd hlen hl hlp hadj hG hF h
    refine pk_le m len (fun c => ?_) (fun c => ?_)
    · have e : len = m := by omega
      subst e
      have hl0 := lpc8 h8 hl (show 0 < len by omega)
      rw [show nI len - (1 : Int32) = nI (len - 1) from pk_sub (b := 1) (by omega)]
      refine And.intro (vp_in_nI (by omega) (by omega)) ?_
      rw [nI_clamp (by omega), hlp (len - 1) (by omega)]
      refine s_X9_coversOf ho (Nat.zero_le 1) hg (hl _ (by omega)) (And.intro (vp_in_nI (n := 0) (by omega) (by omega)) ?_)
      rw [show (0 : Int32).toNatClampNeg = 0 from rfl, hlp 0 (by omega)]
      have e1 : (nI (cov n 0 f (l (len - 1))) >>> (nI (l 0) &&& 31)) &&& (1 : Int32) = nI (if (cov n 0 f (l (len - 1))).testBit (l 0) then 1 else 0) := z_bit _ (cov_256 ho (Nat.zero_le 1) (hl _ (by omega))) _ (by omega)
      have noth : (∀ x, isLp n len f l → PAT len (RV f l len) x → False) → P ps (nI a) rk lp := fun hno => h ps rk lp a F hlp hG hF (fun x hx => hx) (fun l' x w1 w2 w4 => (hno x ⟨hl, fun i hi => by
        have := w2.2 i hi
        rw [w1 i hi, w1 _ (Nat.mod_lt _ (by omega))] at this
        exact this⟩ (by rw [← RV_cong (f := f) (by omega) w1]; exact w4)).elim)
      refine br_c (fun c2 => ?_) (fun c2 => ?_)
      · rw [e1] at c2
        refine noth (fun x w1 _ => ?_)
        have := w1.2 (len - 1) (by omega)
        rw [show len - 1 + 1 = len by omega, Nat.mod_self] at this
        rw [this] at c2
        exact absurd c2 (by decide)
      · rw [e1] at c2
        have hb : (cov n 0 f (l (len - 1))).testBit (l 0) = true := by
          cases hb : (cov n 0 f (l (len - 1))).testBit (l 0) with
          | true => rfl
          | false => rw [hb] at c2; exact absurd rfl c2
        have hLp : isLp n len f l := ⟨hl, fun i hi => by
          rcases Nat.lt_or_ge (i + 1) len with z | z
          · rw [Nat.mod_eq_of_lt z]; exact hadj i z
          · rw [show i = len - 1 by omega, show len - 1 + 1 = len by omega, Nat.mod_self]; exact hb⟩
        refine s_X9_isSimple (f := f) h8 h2 h6 hl hlp (fun hi => br_t rfl (noth (fun x _ w => hi w.1))) (fun hi => br_f (by decide) ?_)
        refine LP2_ix (fun i y b => y = nI i ∧ ∀ k, k < i → b k = nI (rkv (RV f l len) len k)) len ?_ 0 _ _ (Nat.zero_le _) ⟨rfl, fun k hk => absurd hk (Nat.not_lt_zero k)⟩
        rintro K i y b hil ⟨rfl, hbk⟩ hK
        refine pk_le len i (fun c3 => ?_) (fun c3 => ?_)
        · refine s_X9_comesBy h2 h6 hi (fun k hk => hbk k (by omega)) hG hF (fun x hx => Or.inl ⟨l, hLp, hx⟩) (fun ps' a' F' q1 q2 q3 q4 => h ps' b lp a' F' hlp q1 q2 q3 (fun l' x w1 w2 w4 => q4 x (by rw [← RV_cong (f := f) (by omega) w1]; exact w4)))
        · refine And.intro (vp_in_nI (by omega) (by omega)) ?_
          refine LP2_ix (fun j y b2 => y = nI j ∧ (∀ k, k < i → b2 k = nI (rkv (RV f l len) len k)) ∧ b2 i = nI (fb_ct (fun j => decide (RV f l len j < RV f l len i)) j)) len ?_ 0 _ _ (Nat.zero_le _) ⟨rfl, fun k hk => by rw [nI_clamp (by omega), pk_un (by omega)]; exact hbk k hk, by rw [nI_clamp (by omega), pk_us]; rfl⟩
          rintro K2 j y b2 hj ⟨rfl, hb2, hb3⟩ hK2
          refine pk_le len j (fun c4 => ?_) (fun c4 => ?_)
          · have e : j = len := by omega
            subst e
            refine hK _ _ c3 ⟨nI_1 i, fun k hk => ?_⟩
            rcases Nat.lt_or_ge k i with z | z
            · exact hb2 k z
            · rw [show k = i by omega]; exact hb3
          · have fin : ∀ (v : Int32) (bb : Bool), bb = decide (RV f l len j < RV f l len i) → v = (if bb then 1 else 0) → K2 (nI j + 1) (upd b2 (nI i).toNatClampNeg (b2 (nI i).toNatClampNeg + v)) := by
              rintro v bb hbb rfl
              rw [nI_clamp (by omega)]
              refine hK2 _ _ c4 ⟨nI_1 j, fun k hk => by rw [pk_un (by omega)]; exact hb2 k hk, ?_⟩
              rw [pk_us, hb3, fb_ct_succ, ← hbb]
              cases bb with
              | true => exact nI_1 _
              | false => exact nI_add _ 0
            refine And.intro (vp_in_nI (by omega) (by omega)) (pk_eq j i (fun q => ?_) (fun q => ?_))
            · exact And.intro (vp_in_nI (by omega) (by omega)) (fin _ false (by rw [q]; exact (decide_eq_false (Nat.lt_irrefl _)).symm) rfl)
            · refine s_X9_isLess ho hg h2 h6 hl hlp c4 c3 (fun z => q (hi.eq c4 c3 z)) ?_
              cases hd2 : decide (RV f l len j < RV f l len i) with
              | false => exact br_t rfl (And.intro (vp_in_nI (by omega) (by omega)) (fin _ false hd2.symm rfl))
              | true => exact br_f (by decide) (And.intro (vp_in_nI (by omega) (by omega)) (fin _ true hd2.symm rfl))
    · refine LP5_ix (fun i y ps' many rk' lp' => y = nI i ∧ (∀ j, j < len → lp' j = nI (l j)) ∧ ∃ a' F', many = nI a' ∧ GD n f m a' F' ∧ (∀ k, k < a' → ps' k = nI (F' k)) ∧ (∀ x, InF a F x → InF a' F' x) ∧ ∀ l' x, (∀ i, i < len → l' i = l i) → isLp n m f l' → l' len < i → PAT m (RV f l' m) x → InF a' F' x) (pcs n 0) ?_ 0 _ _ _ _ _ (Nat.zero_le _) ⟨rfl, hlp, a, F, rfl, hG, hF, fun x hx => hx, fun l' x _ _ q => absurd q (Nat.not_lt_zero _)⟩
      rintro K i y ps' many rk' lp' hi ⟨rfl, hlp', a', F', rfl, hG', hF', hmono, hcov⟩ hK
      refine s_X9_pieces (w := 0) (by omega) (Nat.zero_le 1) (pk_le (pcs n 0) i (fun c2 => ?_) (fun c2 => ?_))
      · exact h ps' rk' lp' a' F' hlp' hG' hF' hmono (fun l' x w1 w2 w4 => hcov l' x w1 w2 (Nat.lt_of_lt_of_le (w2.1 len (by omega)) c2) w4)
      · have go : (len ≠ 0 → (cov n 0 f (l (len - 1))).testBit i = true) → M_X9_goes_b38 (M_X9_goes d) (nI len) (nI m) g (nI n) (nI 0) K P (nI i) ps' (nI a') rk' lp' := by
          intro hbit
          refine And.intro (vp_in_nI (by omega) (by omega)) ?_
          rw [show nI len + (1 : Int32) = nI (len + 1) from nI_1 len, nI_clamp (by omega)]
          have u0 : ∀ j, j < len → uf l len i j = l j := fun j hj => if_neg (by omega)
          have u1 : uf l len i len = i := if_pos rfl
          refine ih (len + 1) a' (uf l len i) F' _ ps' rk' _ (by omega) (by omega) (fun j hj => ?_) (fun j hj => ?_) (fun j hj => ?_) hG' hF' (fun ps2 rk2 lp2 a2 F2 q1 q2 q3 q5 q6 => hK _ _ _ _ _ c2 ⟨nI_1 i, fun j hj => ?_, a2, F2, rfl, q2, q3, fun x hx => q5 x (hmono x hx), fun l' x w1 w2 w5 w4 => ?_⟩)
          · by_cases z : j = len
            · rw [z, u1]; exact c2
            · rw [u0 j (by omega)]; exact hl j (by omega)
          · by_cases z : j = len
            · rw [z, u1, pk_us]
            · rw [u0 j (by omega), pk_un z]; exact hlp' j (by omega)
          · by_cases z : j + 1 = len
            · rw [u0 j (by omega), z, u1, show j = len - 1 by omega]; exact hbit (by omega)
            · rw [u0 j (by omega), u0 (j + 1) (by omega)]; exact hadj j (by omega)
          · rw [q1 j (by omega), u0 j hj]
          · rcases Nat.lt_or_ge (l' len) i with z | z
            · exact q5 x (hcov l' x w1 w2 z w4)
            · refine q6 l' x (fun j hj => ?_) w2 w4
              by_cases y : j = len
              · rw [y, u1]; omega
              · rw [u0 j (by omega)]; exact w1 j (by omega)
        refine pk_eq len 0 (fun q => go (fun z => absurd q z)) (fun q => ?_)
        rw [show nI len - (1 : Int32) = nI (len - 1) from pk_sub (b := 1) (by omega)]
        refine And.intro (vp_in_nI (by omega) (by omega)) ?_
        rw [nI_clamp (by omega), hlp' _ (by omega)]
        have hlm := hl (len - 1) (by omega)
        refine s_X9_coversOf ho (Nat.zero_le 1) hg hlm ?_
        have e1 : (nI (cov n 0 f (l (len - 1))) >>> (nI i &&& 31)) &&& (1 : Int32) = nI (if (cov n 0 f (l (len - 1))).testBit i then 1 else 0) := z_bit _ (cov_256 ho (Nat.zero_le 1) hlm) _ (by omega)
        refine br_c (fun c3 => ?_) (fun c3 => ?_)
        · rw [e1] at c3
          refine hK _ _ _ _ _ c2 ⟨nI_1 i, hlp', a', F', rfl, hG', hF', hmono, fun l' x w1 w2 w5 w4 => ?_⟩
          rcases Nat.lt_or_ge (l' len) i with z | z
          · exact hcov l' x w1 w2 z w4
          · have := w2.2 (len - 1) (by omega)
            rw [w1 _ (by omega), show len - 1 + 1 = len by omega, Nat.mod_eq_of_lt (by omega), show l' len = i by omega] at this
            rw [this] at c3
            exact absurd c3 (by decide)
        · rw [e1] at c3
          refine go (fun _ => ?_)
          cases hb : (cov n 0 f (l (len - 1))).testBit i with
          | true => rfl
          | false => rw [hb] at c3; exact absurd rfl c3
theorem s_X9_tellsPatterns (ho : OkL n f) {g lp ps rk : Nat → Int32} {many : Int32} {P : Int32 → (Nat → Int32) → (Nat → Int32) → (Nat → Int32) → Prop} (hg : HasL n f g) (h2 : 2 ≤ m) (h6 : m ≤ 6) (h : ∀ ps' rk' lp' a F, EN n f m a F → (∀ k, k < a → ps' k = nI (F k)) → P (nI a) ps' rk' lp') : M_X9_tellsPatterns (nI m) many lp g (nI n) (nI 0) ps rk P := by
  have hn := ho.2.1
  have hn2 := ho.1
  refine s_X9_goes ho hg h2 h6 8 0 0 id id _ ps rk _ (by omega) (by omega) (fun i hi => absurd hi (Nat.not_lt_zero i)) (fun i hi => absurd hi (Nat.not_lt_zero i)) (fun i hi => absurd hi (Nat.not_lt_zero _)) ⟨fun i j _ hj => absurd hj (Nat.not_lt_zero j), fun k hk => absurd hk (Nat.not_lt_zero k)⟩ (fun k hk => absurd hk (Nat.not_lt_zero k)) (fun ps1 rk1 lp1 a1 F1 _ hG1 hF1 _ hcov1 => ?_)
  refine LP4_ix (fun t y many ps' rk' => ∃ i, t ≤ i ∧ i ≤ n ∧ y = nI (ctL n f i) ∧ ∃ a' F', many = nI a' ∧ GD n f m a' F' ∧ (∀ k, k < a' → ps' k = nI (F' k)) ∧ (∀ x, InF a1 F1 x → InF a' F' x) ∧ ∀ c x, c < i → isL n f c = true → pc (rs n f c) = m → PAT m (fun i => it f i c) x → InF a' F' x) n ?_ 0 _ _ _ _ (Nat.zero_le _) ⟨0, Nat.le_refl _, Nat.zero_le _, rfl, a1, F1, rfl, hG1, hF1, fun x hx => hx, fun c x hc => absurd hc (Nat.not_lt_zero c)⟩
  rintro K t y many ps' rk' ht ⟨i, hti, hi, rfl, a', F', rfl, hG', hF', hmono, hin⟩ hK
  rcases lk_next hn hi with ⟨e1, e2⟩ | ⟨j, j1, j2, e1, e2, e3⟩
  · refine s_X9_ringAt ho hg ?_
    rw [e1, if_neg (Nat.lt_irrefl n)]
    refine br_t rfl (h ps' rk' lp1 a' F' (GD_EN hG' (fun x hx => ?_)) hF')
    rcases hx with ⟨l, w1, w2⟩ | ⟨c, c1, c2, c3, c4⟩
    · exact hmono x (hcov1 l x (fun i hi => absurd hi (Nat.not_lt_zero i)) w1 w2)
    · refine hin c x ?_ c2 c3 c4
      rcases Nat.lt_or_ge c i with z | z
      · exact z
      · rw [e2 c z c1] at c2; cases c2
  · refine s_X9_ringAt ho hg ?_
    rw [e1, if_pos j2]
    have h8 := rs_lt ho.2.2 hn j2
    have hp := pc_le _ h8
    have hpos := rs_pos ho.2.2 j2
    have s1 : ctL n f j = ctL n f i := rl_skip (ctL n f) (fun k => ctL_no) j j1 e3
    refine br_f (by rw [show (0 : Int32) = nI 0 from rfl, nI_eq (by omega) (by omega)]; exact hpos) (s_X9_ringAt ho hg ?_)
    rw [e1, if_pos j2]
    have next : ∀ ps2 rk2 a2 F2, GD n f m a2 F2 → (∀ k, k < a2 → ps2 k = nI (F2 k)) → (∀ x, InF a' F' x → InF a2 F2 x) → (pc (rs n f j) = m → ∀ x, PAT m (fun i => it f i j) x → InF a2 F2 x) → K (nI (ctL n f i) + 1) (nI a2) ps2 rk2 := by
      intro ps2 rk2 a2 F2 q1 q2 q3 q4
      refine hK _ _ _ _ (by omega) ⟨j + 1, by omega, by omega, by rw [nI_1, ctL_yes e2, s1], a2, F2, rfl, q1, q2, fun x hx => q3 x (hmono x hx), fun c x hc w2 w3 w4 => ?_⟩
      rcases Nat.lt_or_ge c i with z | z
      · exact q3 x (hin c x z w2 w3 w4)
      · rcases Nat.lt_or_ge c j with y | y
        · rw [e3 c z y] at w2; cases w2
        · rw [show c = j by omega] at w3 w4; exact q4 w3 x w4
    refine s_bitCount h8 (pk_eq (pc (rs n f j)) m (fun q => ?_) (fun q => next ps' rk' a' F' hG' hF' (fun x hx => hx) (fun z => absurd z q)))
    have hL := (isL_low hn ho.2.2 j2).mp e2
    obtain ⟨r1, r2, r3, r4⟩ := ring_per ho j2 hL.1
    rw [q] at r1 r2
    refine s_ntz h8 hpos ?_
    rw [hL.2]
    refine LP3_ix (fun k x y b => x = nI (it f k j) ∧ y = nI k ∧ ∀ k', k' < k → b k' = nI (rkv (fun i => it f i j) m k')) m ?_ 0 _ _ _ (Nat.zero_le _) ⟨rfl, rfl, fun k hk => absurd hk (Nat.not_lt_zero k)⟩
    rintro K2 k x y b hk ⟨rfl, rfl, hb⟩ hK2
    have hit : it f k j < n := it_lt ho.2.2 k j2
    refine pk_le m k (fun c => ?_) (fun c => ?_)
    · exact s_X9_comesBy h2 h6 r2 (fun k' hk' => hb k' (by omega)) hG' hF' (fun x hx => Or.inr ⟨j, j2, e2, q, hx⟩) (fun ps2 a2 F2 q1 q2 q3 q4 => next ps2 b a2 F2 q1 q2 q3 (fun _ x hx => q4 x hx))
    · have e4 : nI (rs n f j) &&& (((1 : Int32) <<< (nI (it f k j) &&& 31)) - (1 : Int32)) = nI (rs n f j &&& (2 ^ it f k j - 1)) := by
        rw [z_sh1 _ (by omega), show (1 : Int32) = nI 1 from rfl, pk_sub Nat.one_le_two_pow, z_and]
      rw [e4]
      refine s_bitCount (Nat.lt_of_le_of_lt Nat.and_le_left h8) (And.intro (vp_in_nI (by omega) (by omega)) (And.intro (vp_in_nI (by omega) (by omega)) (hK2 _ _ _ c ⟨?_, nI_1 k, fun k' hk' => ?_⟩)))
      · rw [nI_clamp (by omega), hg _ hit]; rfl
      · rw [nI_clamp (by omega)]
        by_cases z : k' = k
        · subst z
          rw [pk_us, pc_mask h8 (by omega), ring_rk ho j2 hL.1, q]
        · rw [pk_un z]; exact hb k' (by omega)
end MD
section PM
variable {n w : Nat} {f : Nat → Nat} {g : Nat → Int32}
theorem s_X9_pattern {x1 x2 many : Int32} {lp ps rk : Nat → Int32} {P : Int32 → Int32 → (Nat → Int32) → (Nat → Int32) → (Nat → Int32) → Prop} (ho : OkF n f) (hw : w ≤ 1) (hg : Has8 f g)
    (h : ∀ many' ps' rk' lp', P (a_pattern n w f x1 x2) many' ps' rk' lp') :
    M_X9_pattern x1 x2 (nI w) many lp g (nI n) ps rk P := by
  unfold a_pattern at h
  refine s_in (a := 2) (b := 6) rfl rfl (fun q => br_t rfl ?_) (fun q1 q2 => br_f (by decide) (br_c (fun c => ?_) (fun c => ?_)))
  · rw [if_pos (Or.inl q)] at h; exact h _ _ _ _
  · have c2 : ¬ x2 < -1 := fun z => (fa_of_lt z).2.1 c
    rw [if_neg (by rintro ((z | z) | z); exact q1 z; exact q2 z; exact c2 z)] at h
    obtain ⟨m, h2, h6, rfl⟩ := in_rng 2 6 q1 q2
    rw [nI_clamp (by omega)] at h
    refine pk_eq w 1 (fun q => ?_) (fun q => ?_)
    · rw [if_pos q] at h; exact h _ _ _ _
    · rw [if_neg q] at h
      have e : w = 0 := by omega
      subst e
      refine s_X9_tellsPatterns ho.L (hg.L ho.2.1) h2 h6 (fun ps' rk' lp' a F hE hF => ?_)
      have h := h (nI a) ps' rk' lp'
      obtain ⟨u1, u2⟩ := EN_is hE
      have hae := EN_le h2 h6 hE
      obtain ⟨k1, k2, k3, k4, k5⟩ := kk_n h2 h6
      unfold a_pat at h
      rw [u1] at h
      refine br_c (fun z => ?_) (fun z => ?_)
      · rw [if_pos z] at h; exact h
      rw [if_neg z] at h
      refine br_c (fun y => ?_) (fun y => ?_)
      · rw [if_pos y] at h; exact h
      rw [if_neg y] at h
      rcases m1_cases c2 with v | ⟨k, kl, rfl⟩
      · exact absurd v z
      · rw [nI_leI (by omega) kl] at y
        rw [nI_clamp kl, u2 k (by omega)] at h
        refine And.intro (vp_in_nI (by omega) (by omega)) ?_
        rw [nI_clamp kl, hF k (by omega)]; exact h
  · rw [if_pos (Or.inr (fa_of_nle c))] at h; exact h _ _ _ _
theorem s_X9_has {x1 x2 many : Int32} {lp ps rk : Nat → Int32} {P : Int32 → Int32 → (Nat → Int32) → (Nat → Int32) → (Nat → Int32) → Prop} (ho : OkF n f) (hw : w ≤ 1) (hg : Has8 f g)
    (h : ∀ many' ps' rk' lp', P (a_has n w f x1 x2) many' ps' rk' lp') :
    M_X9_has x1 x2 (nI w) many lp g (nI n) ps rk P := by
  unfold a_has at h
  refine s_in (a := 2) (b := 6) rfl rfl (fun q => br_t rfl ?_) (fun q1 q2 => br_f (by decide) ?_)
  · rw [if_pos q] at h; exact h _ _ _ _
  rw [if_neg (by rintro (z | z); exact q1 z; exact q2 z)] at h
  obtain ⟨m, h2, h6, rfl⟩ := in_rng 2 6 q1 q2
  rw [nI_clamp (by omega)] at h
  refine pk_eq w 1 (fun q => ?_) (fun q => ?_)
  · rw [if_pos q] at h; exact h _ _ _ _
  · rw [if_neg q] at h
    have e : w = 0 := by omega
    subst e
    refine s_X9_tellsPatterns ho.L (hg.L ho.2.1) h2 h6 (fun ps' rk' lp' a F hE hF => ?_)
    have h := h (nI a) ps' rk' lp'
    obtain ⟨u1, u2⟩ := EN_is hE
    have hae := EN_le h2 h6 hE
    obtain ⟨k1, k2, k3, k4, k5⟩ := kk_n h2 h6
    rw [u1] at h
    have e1 : fb_ct (fun k => decide (nI (enF n f m k) = x2)) a = fb_ct (fun k => decide (nI (F k) = x2)) a := fb_ct_cong fun k hk => by rw [u2 k hk]
    rw [e1] at h
    refine LP2_ix (fun i x y => x = (if fb_ct (fun k => decide (nI (F k) = x2)) i = 0 then 0 else 1) ∧ y = nI i) a ?_ 0 _ _ (Nat.zero_le _) ⟨rfl, rfl⟩
    rintro K i x y hi ⟨rfl, rfl⟩ hK
    refine pk_le a i (fun c => ?_) (fun c => ?_)
    · have e : i = a := by omega
      subst e
      exact h
    · refine And.intro (vp_in_nI (by omega) (by omega)) ?_
      rw [nI_clamp (by omega), hF i c]
      refine br_c (fun q => ?_) (fun q => ?_)
      · exact hK _ _ c ⟨by rw [fb_ct_succ, boolif_t (decide_eq_true q), if_neg (by omega)], nI_1 i⟩
      · exact hK _ _ c ⟨by rw [fb_ct_succ, boolif_f (decide_eq_false q)]; rfl, nI_1 i⟩
end PM
