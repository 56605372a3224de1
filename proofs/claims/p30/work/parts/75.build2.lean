/-! p30: what the law's own making of an object leads to. -/
def PB (sz : Int32) (led : Nat → Int32) (am wy : Int32) (maps : Nat → Int32) : Prop := ∃ (n w d : Nat) (f : Nat → Nat) (D : Nat → Nat → Nat), sz = nI n ∧ wy = nI w ∧ am = nI d ∧ OkF n f ∧ w ≤ 1 ∧ Has8 f led ∧ OkD n d D ∧ HasD d D maps
theorem pc_more : ∀ S, S < 256 → ∀ x, x < 8 → pc (S ||| 2 ^ x) ≤ pc S + 1 := by decide +kernel
theorem pc_free {S n : Nat} (hS : S < 256) (hn : n ≤ 8) (h : pc S < n) : ∃ v, v < n ∧ S.testBit v = false := by
  refine Classical.byContradiction fun hx => ?_
  have hall : ∀ v, v < n → S.testBit v = true := fun v hv => by
    cases hb : S.testBit v with
    | true => rfl
    | false => exact absurd ⟨v, hv, hb⟩ hx
  have h1 : fb_ct (fun v => S.testBit v) n = n := fb_ct_all.mpr hall
  have h2 := fb_ct_mono (fun v => S.testBit v) hn
  have h3 : pc S = fb_ct (fun v => S.testBit v) 8 := pc_ct S hS
  omega
theorem B_loop {tS : tsT} {n w : Nat} {l3 : Int32} {g maps : Nat → Int32} (hL : tS.1 ≤ 260) (n2 : 2 ≤ n) (n8 : n ≤ 8) (hw : w ≤ 1) (hg : Has8 id g) : M_L_build_b67 tS PB (nI n) l3 0 0 (nI n) g 0 (nI w) maps := by
  refine LP5_ix (fun i a b c am mp => b = nI i ∧ ∃ S d f D, a = nI S ∧ S < 256 ∧ pc S ≤ i ∧ am = nI d ∧ OkF n f ∧ Has8 f c ∧ OkD n d D ∧ HasD d D mp) n ?_ 0 _ _ _ _ _ (Nat.zero_le _) ⟨rfl, 0, 0, id, fun _ _ => 0, rfl, by omega, by decide +kernel, rfl, OkF_id n2 n8, hg, ⟨Nat.zero_le _, fun k hk => absurd hk (Nat.not_lt_zero k)⟩, fun k hk => absurd hk (Nat.not_lt_zero k)⟩
  rintro K i a b c am mp hi ⟨rfl, S, d, f, D, rfl, hS, hpc, rfl, ho, hf, hD, hm⟩ hK
  refine pk_le n i (fun c1 => ?_) (fun c1 => ?_)
  · exact ⟨n, w, d, f, D, rfl, rfl, rfl, ho, hw, hf, hD, hm⟩
  · refine sc_at 1 hL rfl (by omega) (fun r => And.intro (nI_ne0 (by omega) (by omega)) ?_)
    obtain ⟨j, hj, ej⟩ := sc_r (r >>> (((3 : Int32) * nI i) &&& 31)) (n := n) (by omega) (by omega)
    rw [ej]
    rintro y rfl
    obtain ⟨v, hv, hvS⟩ := pc_free hS n8 (by omega : pc S < n)
    have key : ∀ x, x < n → M_L_build_b115 tS K PB (nI n) l3 (nI S) (nI i) (nI x) (nI n) c (nI d) (nI w) mp := by
      intro x hx
      refine s_X8_lead ho hf hD.1 hm (fun z => ?_) (fun a b maps' g' ha hb ea eb hm' hg' => ?_)
      · exfalso
        rcases z with z | z
        · exact pt_yes c1 (by omega) z
        · exact pt_yes hx (by omega) z
      · rw [z_sh1 _ (by omega), z_or]
        have := pc_more S hS x (by omega)
        exact hK _ _ _ _ _ c1 ⟨nI_1 i, S ||| 2 ^ x, nd d, uf f a b, nD d D f, rfl, or_lt256 hS (pow_lt256 (by omega)), by omega, rfl, uf_ok ho ha hb, hg', OkD_nD hD ho, hm'⟩
    refine LP1_ix (fun k a => a = nI ((j + k) % n)) (v + n - j) ?_ 0 _ (Nat.zero_le _) (by rw [Nat.add_zero, Nat.mod_eq_of_lt hj])
    rintro K2 k a hk rfl hK2
    have hx : (j + k) % n < n := Nat.mod_lt _ (by omega)
    have eb : (nI S >>> (nI ((j + k) % n) &&& 31)) &&& (1 : Int32) = nI (if S.testBit ((j + k) % n) then 1 else 0) := z_bit _ hS _ (by omega)
    refine br_c (fun _ => key _ hx) (fun _ => br_c (fun _ => key _ hx) (fun c2 => And.intro (nI_ne0 (by omega) (by omega)) ?_))
    rw [eb] at c2
    have hke : k < v + n - j := by
      rcases Nat.lt_or_ge k (v + n - j) with q | q
      · exact q
      · exfalso
        apply c2
        rw [show j + k = v + n by omega, Nat.add_mod_right, Nat.mod_eq_of_lt hv, hvS]
        rfl
    refine hK2 _ hke ?_
    rw [show nI ((j + k) % n) + (1 : Int32) = nI ((j + k) % n + 1) from nI_1 _, pk_rem (by omega) (by omega) (by omega), Nat.mod_add_mod, Nat.add_assoc]
theorem B_main {tS : tsT} {g maps : Nat → Int32} (hL : tS.1 ≤ 260) : M_L_build tS 3 g 0 0 maps PB := by
  refine sc_at 0 hL rfl (by omega) (fun r => ?_)
  obtain ⟨n, n2, n8, e⟩ := sc_n r
  rw [e]
  rintro y rfl
  refine s_X8_points (fun c => ?_) (fun k g' q2 q8 ek hg' => ?_)
  · exfalso
    rcases c with c | c
    · rw [show (2 : Int32) = nI 2 from rfl, nI_ltI (by omega) (by omega)] at c; omega
    · rw [show (8 : Int32) = nI 8 from rfl, nI_ltI (by omega) (by omega)] at c; omega
  · refine sc_at 0 hL rfl (by omega) (fun r4 => ?_)
    obtain ⟨w, hw, ew⟩ := sc_1 (r4 >>> ((3 : Int32) &&& 31))
    rw [ew]
    refine s_X8_way (fun c0 c1 => ?_) (fun _ => ?_)
    · exfalso
      rcases (show w = 0 ∨ w = 1 by omega) with rfl | rfl
      · exact c0 rfl
      · exact c1 rfl
    · refine sc_at 0 hL rfl (by omega) (fun r6 => ?_)
      exact br_c (fun _ => B_loop hL n2 n8 (by omega) hg') (fun _ => B_loop hL n2 n8 (by omega) hg')
