/-! where the points are led, kept and taken back: one function for both sides -/
theorem in_rng (a b : Nat) {x A B : Int32} (h0 : ¬ x < A) (h1 : ¬ B < x) (hA : A = nI a := by rfl) (hB : B = nI b := by rfl) (ha : a < 2 ^ 30 := by omega) (hb : b < 2 ^ 30 := by omega) : ∃ k, a ≤ k ∧ k ≤ b ∧ x = nI k := by
  subst hA; subst hB
  rw [fa_lt, nI_toInt (by omega)] at h0
  rw [fa_lt, nI_toInt (by omega)] at h1
  obtain ⟨j, hj, rfl⟩ := nI_of (x := x) (by rw [fa_lt]; have : (0 : Int32).toInt = 0 := rfl; omega)
  rw [nI_toInt hj] at h0 h1
  exact ⟨j, by omega, by omega, rfl⟩
def OkF (n : Nat) (f : Nat → Nat) : Prop := 2 ≤ n ∧ n ≤ 8 ∧ (∀ i, i < n → f i < n) ∧ ∀ i, n ≤ i → f i = i
def Has8 (f : Nat → Nat) (g : Nat → Int32) : Prop := ∀ i, i < 8 → g i = nI (f i)
theorem OkF.L {n : Nat} {f : Nat → Nat} (h : OkF n f) : OkL n f := ⟨h.1, h.2.1, h.2.2.1⟩
theorem Has8.L {n : Nat} {f : Nat → Nat} {g : Nat → Int32} (hn : n ≤ 8) (h : Has8 f g) : HasL n f g := fun i hi => h i (by omega)
theorem OkF.lt {n : Nat} {f : Nat → Nat} (h : OkF n f) {i : Nat} (hi : i < 8) : f i < 8 := by
  obtain ⟨_, h8, h1, h2⟩ := h
  rcases Nat.lt_or_ge i n with q | q
  · exact Nat.lt_of_lt_of_le (h1 i q) h8
  · rw [h2 i q]; exact hi
theorem OkF_id {n : Nat} (h2 : 2 ≤ n) (h8 : n ≤ 8) : OkF n id := ⟨h2, h8, fun _ h => h, fun _ _ => rfl⟩
/-! points, way -/
theorem s_X0_startWith {x s : Int32} {g : Nat → Int32} {P : Int32 → (Nat → Int32) → Prop} (h : ∀ g', Has8 id g' → P x g') : M_X0_startWith x s g P := by
  refine LP2_ix (fun i a b => a = nI i ∧ ∀ k, k < i → b k = nI k) 8 ?_ 0 _ _ (Nat.zero_le _) ⟨rfl, fun k hk => absurd hk (Nat.not_lt_zero k)⟩
  rintro K i a b hi ⟨rfl, hb⟩ hK
  refine pk_le 8 i (fun c => ?_) (fun c => ?_)
  · exact h _ (fun k hk => hb k (by omega))
  · refine And.intro (vp_in_nI (by omega) (by omega)) (hK _ _ (by omega) ⟨nI_1 i, ?_⟩)
    intro k hk
    rw [nI_clamp (by omega)]
    by_cases e : k = i
    · subst e; exact pk_us
    · rw [pk_un e]; exact hb k (by omega)
theorem s_X8_points {x s am : Int32} {g : Nat → Int32} {P : Int32 → Int32 → (Nat → Int32) → Int32 → Prop} (h0 : (x < 2 ∨ 8 < x) → P (-2) s g am) (h1 : ∀ k g', 2 ≤ k → k ≤ 8 → x = nI k → Has8 id g' → P s x g' 0) : M_X8_points x s g am P := by
  refine br_c (fun c => h0 (Or.inl c)) (fun c => br_c (fun c2 => ?_) (fun c2 => h0 (Or.inr (fa_of_nle c2))))
  have c3 : ¬ (8 : Int32) < x := fun q => (fa_of_lt q).2.1 c2
  obtain ⟨k, k1, k2, e⟩ := in_rng 2 8 c c3
  exact s_X0_startWith (fun g' hg => h1 k g' k1 k2 e hg)
theorem s_X8_way {x w am : Int32} {P : Int32 → Int32 → Int32 → Prop} (h0 : ¬ x = 0 → ¬ x = 1 → P (-2) w am) (h1 : x = 0 ∨ x = 1 → P w x 0) : M_X8_way x w am P :=
  br_c (fun c => h1 (Or.inl c)) (fun c => br_c (fun c2 => h1 (Or.inr c2)) (fun c2 => h0 c c2))
/-! a map in one number -/
def pkA (f : Nat → Nat) : Nat → Nat
  | 0 => 0
  | t + 1 => pkA f t * 8 + f (7 - t)
theorem pkA_lt {f : Nat → Nat} (hf : ∀ i, i < 8 → f i < 8) : ∀ t, t ≤ 8 → pkA f t < 2 ^ (3 * t)
  | 0, _ => by show 0 < 2 ^ 0; decide
  | t + 1, h => by
    have h1 := pkA_lt hf t (by omega)
    have h2 := hf (7 - t) (by omega)
    have e : 2 ^ (3 * (t + 1)) = 2 ^ (3 * t) * 8 := by rw [Nat.mul_add, Nat.pow_add]
    rw [pkA, e]
    omega
theorem pkA_24 {f : Nat → Nat} (hf : ∀ i, i < 8 → f i < 8) {t : Nat} (h : t ≤ 8) : pkA f t < 16777216 :=
  Nat.lt_of_lt_of_le (pkA_lt hf t h) (Nat.pow_le_pow_right (by omega) (show 3 * t ≤ 24 by omega))
theorem s_X0_packed {f : Nat → Nat} {g : Nat → Int32} {P : Int32 → Prop} (hf : ∀ i, i < 8 → f i < 8) (hg : Has8 f g) (h : P (nI (pkA f 8))) : M_X0_packed g P := by
  refine LP2_ix (fun t a b => a = nI (pkA f t) ∧ b = nI (8 - t) + (-1)) 8 ?_ 0 _ _ (Nat.zero_le _) ⟨rfl, rfl⟩
  rintro K t a b ht ⟨rfl, rfl⟩ hK
  rcases Nat.lt_or_ge t 8 with q | q
  · have e : nI (8 - t) + (-1) = nI (7 - t) := by rw [show 8 - t = (7 - t) + 1 by omega, pk_m1]
    rw [e]
    refine br_f (nI_pos (by omega)) (And.intro (vp_in_nI (by omega) (by omega)) ?_)
    rintro y rfl
    refine hK _ _ (by omega) ⟨?_, by rw [show 8 - (t + 1) = 7 - t by omega]⟩
    rw [nI_clamp (by omega), hg _ (by omega)]
    have hb : pkA f t * 8 < 2 ^ 32 := by
      have := pkA_24 hf (show t ≤ 8 by omega)
      omega
    rw [pk_shlN (n := pkA f t) ((3 : Int32) &&& 31) 3 (by decide) hb, show pkA f t * 2 ^ 3 = 2 ^ 3 * pkA f t from Nat.mul_comm _ _, fa_or_sum _ (hf _ (by omega)), pkA, Nat.mul_comm]
  · have e : t = 8 := by omega
    subst e
    exact br_t (by decide) h
theorem pk_dig {f : Nat → Nat} (hf : ∀ i, i < 8 → f i < 8) : ∀ i, i < 8 → pkA f 8 / 2 ^ (3 * i) % 8 = f i := by
  have h0 := hf 0 (by omega)
  have h1 := hf 1 (by omega)
  have h2 := hf 2 (by omega)
  have h3 := hf 3 (by omega)
  have h4 := hf 4 (by omega)
  have h5 := hf 5 (by omega)
  have h6 := hf 6 (by omega)
  have h7 := hf 7 (by omega)
  have e : pkA f 8 = ((((((((0 * 8 + f 7) * 8 + f 6) * 8 + f 5) * 8 + f 4) * 8 + f 3) * 8 + f 2) * 8 + f 1) * 8 + f 0) := rfl
  intro i hi
  rw [e]
  rcases (show i = 0 ∨ i = 1 ∨ i = 2 ∨ i = 3 ∨ i = 4 ∨ i = 5 ∨ i = 6 ∨ i = 7 by omega) with rfl | rfl | rfl | rfl | rfl | rfl | rfl | rfl
  all_goals simp only [Nat.reduceMul, Nat.reducePow]
  all_goals omega
theorem pk_same {f f' : Nat → Nat} (hf : ∀ i, i < 8 → f i < 8) (hf' : ∀ i, i < 8 → f' i < 8) (h : pkA f 8 = pkA f' 8) : ∀ i, i < 8 → f i = f' i := fun i hi => by
  rw [← pk_dig hf i hi, ← pk_dig hf' i hi, h]
theorem sh3 : ∀ i, i < 8 → (((nI i * (3 : Int32)) &&& 31).toBitVec.smod 32).toNat = 3 * i := by decide +kernel
theorem s_X0_unpack {f : Nat → Nat} {g : Nat → Int32} {P : (Nat → Int32) → Prop} (hf : ∀ i, i < 8 → f i < 8) (h : ∀ g', Has8 f g' → P g') : M_X0_unpack (nI (pkA f 8)) g P := by
  have hp := pkA_24 hf (Nat.le_refl 8)
  refine LP2_ix (fun i a b => a = nI i ∧ ∀ k, k < i → b k = nI (f k)) 8 ?_ 0 _ _ (Nat.zero_le _) ⟨rfl, fun k hk => absurd hk (Nat.not_lt_zero k)⟩
  rintro K i a b hi ⟨rfl, hb⟩ hK
  refine pk_le 8 i (fun c => ?_) (fun c => ?_)
  · exact h _ (fun k hk => hb k (by omega))
  · refine And.intro (vp_in_nI (by omega) (by omega)) (hK _ _ (by omega) ⟨nI_1 i, ?_⟩)
    intro k hk
    rw [nI_clamp (by omega)]
    by_cases e : k = i
    · subst e
      rw [pk_us, pk_shrN (by omega) _ (3 * k) (sh3 k (by omega)), pk_andN (Nat.lt_of_le_of_lt (Nat.div_le_self _ _) (by omega)) 3 (by decide)]
      exact congrArg nI (pk_dig hf k (by omega))
    · rw [pk_un e]; exact hb k (by omega)
/-! deeds -/
def nd (d : Nat) : Nat := if d = 10 then 10 else d + 1
def nD (d : Nat) (D : Nat → Nat → Nat) (f : Nat → Nat) : Nat → Nat → Nat := fun k => if d = 10 then (if k < 9 then D (k + 1) else f) else (if k = d then f else D k)
def HasD (d : Nat) (D : Nat → Nat → Nat) (maps : Nat → Int32) : Prop := ∀ k, k < d → maps k = nI (pkA (D k) 8)
def HasW (d : Nat) (D : Nat → Nat → Nat) (were : Nat → Int32) : Prop := ∀ k, k < d → ∀ i, i < 8 → were (8 * k + i) = nI (D k i)
def OkD (n d : Nat) (D : Nat → Nat → Nat) : Prop := d ≤ 10 ∧ ∀ k, k < d → OkF n (D k)
theorem OkD_nD {n d : Nat} {D : Nat → Nat → Nat} {f : Nat → Nat} (h : OkD n d D) (hf : OkF n f) : OkD n (nd d) (nD d D f) := by
  obtain ⟨h1, h2⟩ := h
  by_cases e : d = 10
  · subst e
    refine ⟨Nat.le_refl 10, fun k hk => ?_⟩
    have hk : k < 10 := hk
    show OkF n (if k < 9 then D (k + 1) else f)
    split
    · exact h2 _ (by omega)
    · exact hf
  · refine ⟨by rw [nd, if_neg e]; omega, fun k hk => ?_⟩
    rw [nd, if_neg e] at hk
    rw [nD, if_neg e]
    split
    · exact hf
    · exact h2 _ (by omega)
theorem s_X1_keep {d : Nat} {D : Nat → Nat → Nat} {f : Nat → Nat} {maps : Nat → Int32} {P : (Nat → Int32) → Int32 → Prop} (hd : d ≤ 10) (hm : HasD d D maps) (h : ∀ maps', HasD (nd d) (nD d D f) maps' → P maps' (nI (nd d))) : M_X1_keep (nI (pkA f 8)) (nI d) maps P := by
  refine pk_eq d 10 (fun c => ?_) (fun c => ?_)
  · subst c
    refine LP2_ix (fun t a b => a = nI (1 + t) ∧ ∀ k, k < 10 → b k = if k < t then maps (k + 1) else maps k) 9 ?_ 0 _ _ (Nat.zero_le _) ⟨rfl, fun k _ => (if_neg (Nat.not_lt_zero k)).symm⟩
    rintro K t a b ht ⟨rfl, hb⟩ hK
    refine pk_le 10 (1 + t) (fun c => ?_) (fun c => ?_)
    · have e : t = 9 := by omega
      subst e
      rw [show nI 10 - (1 : Int32) = nI 9 from rfl]
      refine And.intro (vp_in_nI (by omega) (by omega)) ?_
      refine h _ (fun k hk => ?_)
      have hk : k < 10 := hk
      show upd b (nI 9).toNatClampNeg _ k = nI (pkA (if k < 9 then D (k + 1) else f) 8)
      rw [nI_clamp (by omega)]
      by_cases e : k = 9
      · subst e; rw [pk_us, if_neg (by omega)]
      · rw [pk_un e, hb k hk, if_pos (by omega), if_pos (by omega), hm _ (by omega)]
    · have e : nI (1 + t) - (1 : Int32) = nI t := pk_sub (a := 1 + t) (b := 1) (by omega) |>.trans (by rw [show 1 + t - 1 = t by omega])
      refine And.intro (vp_in_nI (by omega) (by omega)) ?_
      rw [e]
      refine And.intro (vp_in_nI (by omega) (by omega)) (hK _ _ (by omega) ⟨nI_1 _, ?_⟩)
      intro k hk
      rw [nI_clamp (by omega), nI_clamp (by omega)]
      by_cases e : k = t
      · subst e; rw [pk_us, hb _ (by omega), if_neg (by omega), if_pos (by omega), Nat.add_comm]
      · rw [pk_un e, hb k hk]
        by_cases q : k < t
        · rw [if_pos q, if_pos (by omega)]
        · rw [if_neg q, if_neg (by omega)]
  · refine And.intro (vp_in_nI (by omega) (by omega)) ?_
    rw [show nI d + (1 : Int32) = nI (nd d) by rw [nd, if_neg c]; exact nI_1 d]
    refine h _ (fun k hk => ?_)
    rw [nd, if_neg c] at hk
    rw [nI_clamp (by omega), nD, if_neg c]
    by_cases e : k = d
    · subst e; rw [pk_us, if_pos rfl]
    · rw [pk_un e, if_neg e, hm k (by omega)]
/-! lead -/
def uf (f : Nat → Nat) (i j : Nat) : Nat → Nat := fun k => if k = i then j else f k
theorem uf_ok {n : Nat} {f : Nat → Nat} {i j : Nat} (h : OkF n f) (hi : i < n) (hj : j < n) : OkF n (uf f i j) := by
  refine ⟨h.1, h.2.1, fun k hk => ?_, fun k hk => ?_⟩
  · unfold uf; split
    · exact hj
    · exact h.2.2.1 k hk
  · unfold uf; rw [if_neg (by omega)]; exact h.2.2.2 k hk
theorem uf_has {f : Nat → Nat} {g : Nat → Int32} {i j : Nat} (h : Has8 f g) : Has8 (uf f i j) (upd g i (nI j)) := by
  intro k hk
  unfold uf
  by_cases e : k = i
  · subst e; rw [pk_us, if_pos rfl]
  · rw [pk_un e, if_neg e, h k hk]
theorem s_X8_lead {n d : Nat} {D : Nat → Nat → Nat} {f : Nat → Nat} {x1 x2 : Int32} {g maps : Nat → Int32} {P : Int32 → (Nat → Int32) → Int32 → (Nat → Int32) → Prop} (ho : OkF n f) (hg : Has8 f g) (hd : d ≤ 10) (hm : HasD d D maps) (h0 : (x1 < 0 ∨ nI n ≤ x1) ∨ (x2 < 0 ∨ nI n ≤ x2) → P (-2) maps (nI d) g) (h1 : ∀ i j maps' g', i < n → j < n → x1 = nI i → x2 = nI j → HasD (nd d) (nD d D f) maps' → Has8 (uf f i j) g' → P (nI (f i)) maps' (nI (nd d)) g') : M_X8_lead x1 x2 (nI n) g (nI d) maps P := by
  have hn := ho.2.1
  refine s_X0_holds hn (fun c => br_t rfl (h0 (Or.inl c))) (fun i hi e1 => br_f (by decide) ?_)
  refine s_X0_holds hn (fun c => br_t rfl (h0 (Or.inr c))) (fun j hj e2 => br_f (by decide) ?_)
  refine s_X0_packed (fun i hi => ho.lt hi) hg (s_X1_keep hd hm (fun maps' hm' => ?_))
  subst e1; subst e2
  refine And.intro (vp_in_nI (by omega) (by omega)) (And.intro (vp_in_nI (by omega) (by omega)) ?_)
  rw [nI_clamp (by omega), hg i (by omega)]
  exact h1 i j _ _ hi hj rfl rfl hm' (uf_has hg)
/-! back -/
theorem s_X8_back {n d : Nat} {D : Nat → Nat → Nat} {g maps : Nat → Int32} {P : Int32 → Int32 → (Nat → Int32) → Prop} (hD : OkD n d D) (hm : HasD d D maps) (h0 : d = 0 → P (-3) (nI d) g) (h1 : ∀ e g', d = e + 1 → Has8 (D e) g' → P (nI e) (nI e) g') : M_X8_back (nI d) maps g P := by
  obtain ⟨hd, hO⟩ := hD
  refine pk_eq d 0 (fun c => h0 c) (fun c => ?_)
  obtain ⟨e, rfl⟩ : ∃ e, d = e + 1 := ⟨d - 1, by omega⟩
  refine br_f (nI_nle (by omega) (by omega)) ?_
  rw [nI_pred]
  refine And.intro (vp_in_nI (by omega) (by omega)) ?_
  rw [nI_clamp (by omega), hm e (by omega)]
  exact s_X0_unpack (fun i hi => (hO e (by omega)).lt hi) (fun g' hg => h1 e g' rfl hg)
/-! the image -/
theorem cpy8 {f : Nat → Nat} {g g0 : Nat → Int32} (hg : Has8 f g) : Has8 f (va_cpy g g0 (0 : Int32).toNatClampNeg (0 : Int32).toNatClampNeg (8 : Int32).toNatClampNeg) := by
  intro k hk
  rw [show (0 : Int32).toNatClampNeg = 0 from rfl, show (8 : Int32).toNatClampNeg = 8 from rfl, pk_cpy_in (by omega) (by omega), show 0 + (k - 0) = k by omega, hg k hk]
theorem cpy_c8 : ¬ (0 : Int32) < 0 ∧ ¬ (0 : Int32) < 0 ∧ ¬ (8 : Int32) < 0 ∧ (0 : Int32).toNatClampNeg + (8 : Int32).toNatClampNeg ≤ 8 ∧ (0 : Int32).toNatClampNeg + (8 : Int32).toNatClampNeg ≤ 8 := by decide
theorem s_X8_image {n w k1 k2 im : Int32} {f : Nat → Nat} {g g0 : Nat → Int32} {P : Int32 → Int32 → Int32 → (Nat → Int32) → Int32 → Prop} (hg : Has8 f g) (h : ∀ g', Has8 f g' → P n n w g' 1) : M_X8_image n k1 w k2 g g0 im P :=
  And.intro cpy_c8 (h _ (cpy8 hg))
theorem s_X8_undo {im kn n kw w am : Int32} {f : Nat → Nat} {g g0 : Nat → Int32} {P : Int32 → Int32 → Int32 → (Nat → Int32) → Int32 → Prop} (h0 : im = 0 → P (-3) n w g0 am) (h : ¬ im = 0 → Has8 f g) (h1 : ∀ g', ¬ im = 0 → Has8 f g' → P kn kn kw g' 0) : M_X8_undo im kn n kw w g g0 am P :=
  br_c h0 (fun c => And.intro cpy_c8 (h1 _ c (cpy8 (h c))))
/-! count, feed, why -/
def pcs (n w : Nat) : Nat := if w = 0 then n - 1 else n
theorem s_X0_pieceNumber {n w : Nat} {P : Int32 → Prop} (hn : 1 ≤ n) (hw : w ≤ 1) (h : P (nI (pcs n w))) : M_X0_pieceNumber (nI w) (nI n) P := by
  refine pk_eq w 1 (fun c => ?_) (fun c => ?_)
  · rw [pcs, if_neg (by omega)] at h; exact h
  · rw [pcs, if_pos (by omega), ← pk_sub hn] at h; exact h
def a_count (n w : Nat) (am tl x : Int32) : Int32 := if x = 0 then nI n else if x = 1 then nI w else if x = 2 then nI (pcs n w) else if x = 3 then am else if x = 4 then tl else if x = 5 then 1123 else -2
theorem s_X8_count {n w : Nat} {am tl x : Int32} {P : Int32 → Prop} (hn : 1 ≤ n) (hw : w ≤ 1) (h : P (a_count n w am tl x)) : M_X8_count x (nI n) (nI w) am tl 1123 P := by
  unfold a_count at h
  refine br_c (fun c => ?_) (fun c => ?_)
  · rw [if_pos c] at h; exact h
  rw [if_neg c] at h
  refine br_c (fun c => ?_) (fun c => ?_)
  · rw [if_pos c] at h; exact h
  rw [if_neg c] at h
  refine br_c (fun c => ?_) (fun c => ?_)
  · rw [if_pos c] at h; exact s_X0_pieceNumber hn hw h
  rw [if_neg c] at h
  refine br_c (fun c => ?_) (fun c => ?_)
  · rw [if_pos c] at h; exact h
  rw [if_neg c] at h
  refine br_c (fun c => ?_) (fun c => ?_)
  · rw [if_pos c] at h; exact h
  rw [if_neg c] at h
  refine br_c (fun c => ?_) (fun c => ?_)
  · rw [if_pos c] at h; exact h
  rw [if_neg c] at h; exact h
def HasT (t : Nat) (T : Nat → Nat) (b : Nat → Int32) : Prop := ∀ k, k < t → b k = nI (T k)
def OkT (t : Nat) (T : Nat → Nat) : Prop := t ≤ 60 ∧ ∀ k, k < t → T k < 128
theorem uf_okT {t v : Nat} {T : Nat → Nat} (h : OkT t T) (ht : t < 60) (hv : v < 128) : OkT (t + 1) (uf T t v) := by
  refine ⟨by omega, fun k hk => ?_⟩
  unfold uf; split
  · exact hv
  · exact h.2 k (by omega)
theorem uf_hasT {t v : Nat} {T : Nat → Nat} {b : Nat → Int32} (h : HasT t T b) : HasT (t + 1) (uf T t v) (upd b t (nI v)) := by
  intro k hk
  unfold uf
  by_cases e : k = t
  · subst e; rw [pk_us, if_pos rfl]
  · rw [pk_un e, if_neg e, h k (by omega)]
theorem s_X8_feed {t : Nat} {T : Nat → Nat} {b : Nat → Int32} {x : Int32} {P : Int32 → (Nat → Int32) → Int32 → Prop} (ht : OkT t T) (hb : HasT t T b) (h0 : (x < 0 ∨ 127 < x) → P (-2) b (nI t)) (h1 : ¬ (x < 0 ∨ 127 < x) → t = 60 → P (-4) b (nI t)) (h2 : ∀ v b', t < 60 → v < 128 → x = nI v → HasT (t + 1) (uf T t v) b' → P (nI (t + 1)) b' (nI (t + 1))) : M_X8_feed x (nI t) b P := by
  have h60 := ht.1
  refine br_c (fun c => h0 (Or.inl c)) (fun c => br_c (fun c2 => ?_) (fun c2 => h0 (Or.inr (fa_of_nle c2))))
  have c3 : ¬ (127 : Int32) < x := fun q => (fa_of_lt q).2.1 c2
  refine pk_lt t 60 (fun c4 => ?_) (fun c4 => h1 (fun q => q.elim c c3) (by omega))
  obtain ⟨v, v1, v2, rfl⟩ := in_rng 0 127 c c3
  refine pk_le 60 t (fun c5 => absurd c5 (by omega)) (fun c5 => And.intro (vp_in_nI (by omega) (by omega)) ?_)
  rw [show nI t + (1 : Int32) = nI (t + 1) from nI_1 t, vp_nar_byte, fa_byte_small (by omega), fa_byte_small (by omega), nI_clamp (by omega)]
  exact h2 v _ c4 (by omega) rfl (uf_hasT hb)
def a_why (hr : Bool) (R : Nat → Nat) (x : Int32) : Int64 := if hr = true ∧ ¬ (x < 0 ∨ 2 < x) then (nI (R x.toNatClampNeg)).toInt64 else -9223372036854775808
theorem s_X8_why {hr : Bool} {R : Nat → Nat} {rs : Nat → Int64} {x : Int32} {P : Int64 → Prop} (hR : hr = true → ∀ k, k < 3 → rs k = (nI (R k)).toInt64) (h : P (a_why hr R x)) : M_X8_why x (if hr then 1 else 0) rs P := by
  unfold a_why at h
  refine br_c (fun c => ?_) (fun c => br_c (fun c2 => ?_) (fun c2 => ?_))
  · rw [if_neg (fun q => q.2 (Or.inl c))] at h; exact h
  · have c3 : (2 : Int32) < x := by
      rw [fa_le, show (3 : Int32).toInt = 3 from rfl] at c2; rw [fa_lt, show (2 : Int32).toInt = 2 from rfl]; omega
    rw [if_neg (fun q => q.2 (Or.inr c3))] at h
    exact h
  · have c3 : ¬ (2 : Int32) < x := by
      rw [fa_le, show (3 : Int32).toInt = 3 from rfl] at c2; rw [fa_lt, show (2 : Int32).toInt = 2 from rfl]; omega
    cases hr with
    | false => rw [if_neg (fun q => by cases q.1)] at h; exact br_t rfl h
    | true =>
      rw [if_pos ⟨rfl, fun q => q.elim c c3⟩] at h
      obtain ⟨v, v1, v2, rfl⟩ := in_rng 0 2 c c3
      rw [nI_clamp (by omega)] at h
      refine br_f (by decide) (And.intro (vp_in_nI (by omega) (by omega)) ?_)
      rw [nI_clamp (by omega), hR rfl v (by omega)]
      exact h
