/-! p30: the law's picture, its loop over the rings, its start. -/
/-- where the text so far leads: the points of these bits as f does, the others to themselves -/
def fS (f : Nat → Nat) (S : Nat) : Nat → Nat := fun v => if S.testBit v then f v else v
theorem fS_or {f : Nat → Nat} {S a : Nat} : uf (fS f S) a (f a) = fS f (S ||| 2 ^ a) := by
  funext v
  unfold uf fS
  by_cases e : v = a
  · subst e
    rw [if_pos rfl, if_pos]
    rw [Nat.testBit_or, tb_pow, decide_eq_true rfl, Bool.or_true]
  · rw [if_neg e, Nat.testBit_or, tb_pow, decide_eq_false (fun q => e q.symm), Bool.or_false]
theorem fS_0 (f : Nat → Nat) : fS f 0 = id := by
  funext v
  unfold fS
  rw [Nat.zero_testBit]
  exact if_neg (by decide)
section LY
variable {tS : tsT} {n w : Nat} {f : Nat → Nat} {kg : Nat → Int32}
/-- one ring is fed -/
theorem L_ring {d i j t0 ri : Nat} {e1 e2 e3 e4 e5 e6 hr x7 l5 sv : Int32} {z3 maps g tb tl : Nat → Int32} {rs' : Nat → Int64} {la fi : Nat} {K : Int32 → Int32 → Int32 → (Nat → Int32) → Prop} (ho : OkF n f) (hg : Has8 f g) (hi : i ≤ j) (hj : j < n) (hl : isL n f j = true) (hno : ∀ k, i ≤ k → k < j → isL n f k = false) (ht0 : t0 < 30) (hs : TS n t0 tb (if ri = 0 then 0 else 3) (uL n f i) ri (fS f (uL n f i)) la fi)
    (hK : ∀ b' la fi, TS n (t0 + 2 * pc (rs n f j) + 1) b' 3 (uL n f i ||| rs n f j) (ri + 1) (fS f (uL n f i ||| rs n f j)) la fi → K (nI (uL n f i ||| rs n f j)) (x7 + 1) (nI (t0 + 2 * pc (rs n f j) + 1)) b') :
    M_L_law_b177 tS 1123 K P1 (nI n) (a_map f n) (nI n) l5 (nI (uL n f i)) x7 (nI j) (nI (pc (rs n f j))) sv sv (nI n) (nI w) kg 1 e1 e2 e3 e4 z3 e5 e6 (nI t0) maps (nI d) g hr rs' tb tl (nI w) (nI n) := by
  have h8 := ho.2.1
  have hRd : Rd n f j := ((isL_low h8 ho.2.2.1 hj).mp hl).1
  obtain ⟨p1, p8, pe, pa, pf⟩ := pr_ring ho.L hj hRd
  have hap : ∀ v, (rs n f j).testBit v = true → (uL n f i).testBit v = false := fun v hv => pr_apart ho.L hi hj hl hno hv
  have hin : ∀ k, (rs n f j).testBit (it f k j) = true := fun k => (rs_of_Rd ho.2.2.1 hj hRd _).mpr ⟨k, rfl⟩
  have hu := uL_lt ho.L i (by omega)
  generalize hp : pc (rs n f j) = p at *
  generalize hS : uL n f i = S at *
  refine br_t rfl (fd_open hs (by split <;> omega) (by omega) rfl (fun b1 hs1 => ?_))
  refine LP5_ix (fun k a1 a2 a3 a4 b => a1 = nI (S ||| oA f j k) ∧ a2 = nI (it f k j) ∧ a3 = nI k ∧ ∃ t la fi, a4 = nI t ∧ ((k = 0 ∧ t = t0 + 1 ∧ TS n t b 1 (S ||| oA f j k) ri (fS f S) la 0) ∨ (k ≠ 0 ∧ t = t0 + 2 * k ∧ la = it f (k - 1) j ∧ fi = j + 1 ∧ TS n t b 2 (S ||| oA f j k) ri (fS f (S ||| oA f j (k - 1))) la fi))) p ?_ 0 _ _ _ _ _ (Nat.zero_le _) ⟨by show nI S = nI (S ||| 0); rw [Nat.or_zero], rfl, rfl, t0 + 1, _, 0, rfl, Or.inl ⟨rfl, rfl, by show TS n (t0 + 1) b1 1 (S ||| 0) ri (fS f S) _ 0; rw [Nat.or_zero]; exact hs1⟩⟩
  rintro K2 k a1 a2 a3 a4 b hkp ⟨rfl, rfl, rfl, t, la, fi, rfl, hc⟩ hK2
  have hlt : it f k j < n := it_lt ho.2.2.1 k hj
  have key : ∀ (t : Nat) (b : Nat → Int32) (le : Nat → Nat) (la fi : Nat), k < p → t + 1 = t0 + 2 * (k + 1) → TS n t b 1 (S ||| oA f j k) ri le la fi → (if fi = 0 then le else uf le la (it f k j)) = fS f (S ||| oA f j k) → (if fi = 0 then it f k j + 1 else fi) = j + 1 → M_L_law_b215 tS 1123 K K2 P1 (nI n) (a_map f n) (nI n) l5 (nI (S ||| oA f j k)) x7 (nI j) (nI p) (nI (it f k j)) (nI k) (nI n) (nI w) kg 1 e1 e2 e3 e4 z3 e5 e6 (nI t) maps (nI d) g hr rs' b tl (nI w) (nI n) := by
    intro t b le la fi hkp ht hs hle hfi
    have hfree : (S ||| oA f j k).testBit (it f k j) = false := by
      rw [Nat.testBit_or, hap _ (hin k), pf k hkp]; rfl
    refine fd_fig hs h8 (p := it f k j) hlt hfree (by omega) (by rw [show (48 : Int32) = nI 48 from rfl, nI_add]) (fun b' hs' => ?_)
    rw [hle, hfi] at hs'
    refine s_X8_of ho.L (hg.L h8) ?_
    rw [a_of, if_neg (pt_yes hlt (by omega)), nI_clamp (by omega), a_of1, if_pos rfl, z_sh1 _ (by omega), z_or]
    have e2 : S ||| oA f j k ||| 2 ^ it f k j = S ||| oA f j (k + 1) := by rw [oA, Nat.or_assoc]
    rw [e2] at hs' ⊢
    exact hK2 _ _ _ _ _ hkp ⟨rfl, rfl, nI_1 k, t + 1, _, _, rfl, Or.inr ⟨by omega, by omega, rfl, rfl, hs'⟩⟩
  have hup : ∀ m, m + 1 = k → uf (fS f (S ||| oA f j m)) (it f m j) (it f k j) = fS f (S ||| oA f j k) := by
    intro m hm
    subst hm
    show uf (fS f (S ||| oA f j m)) (it f m j) (f (it f m j)) = fS f (S ||| oA f j (m + 1))
    rw [fS_or, Nat.or_assoc]; rfl
  refine pk_le p k (fun c1 => ?_) (fun c1 => ?_)
  · obtain rfl : k = p := by omega
    rcases hc with ⟨z, -, -⟩ | ⟨-, rfl, rfl, rfl, hs2⟩
    · omega
    · refine fd_close hs2 (by omega) rfl (fun b' hs3 => ?_)
      refine br_t (by rw [pe]) ?_
      have e3 : uf (fS f (S ||| oA f j (k - 1))) (it f (k - 1) j) (j + 1 - 1) = fS f (S ||| rs n f j) := by
        rw [← pa, ← hup (k - 1) (by omega), pe]; rfl
      rw [e3, pa] at hs3
      rw [pa]
      exact hK b' _ _ hs3
  · refine pk_le k 0 (fun c2 => ?_) (fun c2 => ?_)
    · rcases hc with ⟨z, z1, hs2⟩ | ⟨z, -, -⟩
      · refine key t b _ la 0 c1 (by omega) hs2 ?_ ?_
        · rw [if_pos rfl, z]
          show fS f S = fS f (S ||| 0)
          rw [Nat.or_zero]
        · rw [if_pos rfl, z]; rfl
      · omega
    · rcases hc with ⟨z, -, -⟩ | ⟨z, rfl, rfl, rfl, hs2⟩
      · omega
      · refine fd_blank hs2 (by omega) rfl (fun b' hs3 => ?_)
        exact key _ b' _ _ _ c1 (by omega) hs3 (by rw [if_neg (by omega)]; exact hup (k - 1) (by omega)) (if_neg (by omega))
theorem L_main {d : Nat} {D : Nat → Nat → Nat} {ks kw ik e1 e2 e3 e4 e5 e6 hr : Int32} {kg z3 maps g tb tl : Nat → Int32} {rs' : Nat → Int64} (hL : tS.1 ≤ 260) (ho : OkF n f) (hw : w ≤ 1) (hg : Has8 f g) (hD : OkD n d D) (hm : HasD d D maps) : M_L_law tS (nI n) (nI w) (nI d) (nI 0) 1123 g ks kw kg ik e1 e2 e3 e4 z3 tb e5 e6 maps hr rs' tl P1 := by
  have h2 := ho.1
  have h8 := ho.2.1
  refine s_X8_count (n := n) (w := w) (by omega) hw ?_
  rw [ac0]
  refine s_X8_map h8 (hg.L h8) ?_
  refine s_X8_image hg (fun kg hkg => ?_)
  refine s_X8_rings ho.L (hg.L h8) ?_
  rw [ar0]
  have hcn := ctL_le n f n
  refine LP4_ix (fun r a1 a2 a3 b => ∃ i t la fi, i ≤ n ∧ r = ctL n f i ∧ a1 = nI (uL n f i) ∧ a2 = nI r ∧ a3 = nI t ∧ t = 2 * pc (uL n f i) + r ∧ TS n t b (if r = 0 then 0 else 3) (uL n f i) r (fS f (uL n f i)) la fi) (ctL n f n) ?_ 0 _ _ _ _ (Nat.zero_le _) ⟨0, 0, 0, 0, Nat.zero_le _, rfl, rfl, rfl, rfl, by show 0 = 2 * pc 0 + 0; decide +kernel, by show TS n 0 tb 0 0 0 (fS f 0) 0 0; rw [fS_0]; exact TS_0 n tb⟩
  rintro K r a1 a2 a3 b hre ⟨i, t, la, fi, hi, hri, rfl, rfl, rfl, ht, hs⟩ hK
  have hup := uL_pc ho.L hi
  have hci := ctL_le n f i
  refine pk_le (ctL n f n) r (fun c1 => ?_) (fun c1 => ?_)
  · have hall : uL n f i = uA n f n := by
      rcases lk_next (f := f) h8 hi with ⟨-, q2⟩ | ⟨j, j1, j2, -, j4, -⟩
      · rw [← uL_uA ho.L]
        exact (rl_skip (uL n f) (fun k => uL_no) n hi q2).symm
      · exfalso
        have q1 : ctL n f i ≤ ctL n f j := fb_ct_mono _ j1
        have q2 : ctL n f (j + 1) ≤ ctL n f n := fb_ct_mono _ j2
        rw [ctL_yes j4] at q2
        omega
    have hr1 : r = ctL n f n := by omega
    have hp1 := ct_pos ho.L
    rw [if_neg (by omega), hr1, hall] at hs
    rw [hall]
    exact L_271 hL ho hw hkg hg hD hm hs
  · rcases lk_next (f := f) h8 hi with ⟨-, q2⟩ | ⟨j, j1, j2, j3, j4, j5⟩
    · exfalso
      have : ctL n f n = ctL n f i := rl_skip (ctL n f) (fun k => ctL_no) n hi q2
      omega
    · rw [← hri] at j3
      have hrs := rs_lt ho.2.2.1 h8 j2
      have hRd : Rd n f j := ((isL_low h8 ho.2.2.1 j2).mp j4).1
      obtain ⟨p1, p8, -, -, -⟩ := pr_ring ho.L j2 hRd
      obtain ⟨t1, t2, t3, t4⟩ := tk_k (pc (rs n f j)) (by omega) p1
      have tk_e : ∀ x2, a_taken n f (nI r) x2 = tk (pc (rs n f j)) x2 := fun x2 => tk_of j3 j2
      have a2 : a_ring n f (nI r) 2 = nI j := by
        unfold a_ring
        rw [j3, if_pos j2, if_neg (by decide), if_neg (by decide), if_pos rfl]
      have a1 : a_ring n f (nI r) 1 = nI (pc (rs n f j)) := by
        unfold a_ring
        rw [j3, if_pos j2, if_neg (by decide), if_pos rfl]
      have a0 : a_ring n f (nI r) 0 = kd (nI (pc (rs n f j))) := by
        unfold a_ring
        rw [j3, if_pos j2, if_pos rfl]
      have hor : uL n f i ||| rs n f j = uL n f (j + 1) := by
        rw [uL_yes j4, rl_skip (uL n f) (fun k => uL_no) j j1 j5]
      have hcj : ctL n f (j + 1) = r + 1 := by
        rw [ctL_yes j4, rl_skip (ctL n f) (fun k => ctL_no) j j1 j5, hri]
      have hpo : pc (uL n f (j + 1)) = pc (uL n f i) + pc (rs n f j) := by
        rw [← hor]
        refine pc_or (uL_lt ho.L i hi) hrs ?_
        rintro v _ ⟨v1, v2⟩
        rw [pr_apart ho.L j1 j2 j4 j5 v2] at v1
        cases v1
      have b177 : ∀ s, M_L_law_b177 tS 1123 K P1 (nI n) (a_map f n) (nI n) (nI (ctL n f n)) (nI (uL n f i)) (nI r) (nI j) (nI (pc (rs n f j))) s s (nI n) (nI w) kg 1 e1 e2 e3 e4 z3 e5 e6 (nI t) maps (nI d) g hr rs' b tl (nI w) (nI n) := by
        intro s
        refine L_ring (ri := r) ho hg j1 j2 j4 j5 (by omega) hs (fun b' la fi hs' => ?_)
        rw [hor] at hs' ⊢
        refine hK _ _ _ _ c1 ⟨j + 1, t + 2 * pc (rs n f j) + 1, la, fi, by omega, hcj.symm, rfl, nI_1 r, rfl, by rw [hpo]; omega, ?_⟩
        rw [if_neg (by omega)]
        exact hs'
      have b153 : ∀ s, M_L_law_b153 tS 1123 K P1 (nI n) (a_map f n) (nI n) (nI (ctL n f n)) (nI (uL n f i)) (nI r) (nI j) (nI (pc (rs n f j))) s s (nI n) (nI w) kg 1 e1 e2 e3 e4 z3 e5 e6 (nI t) maps (nI d) g hr rs' b tl (nI w) (nI n) := by
        intro s
        refine br_t rfl (s_X8_taken ho.L (hg.L h8) ?_)
        rw [tk_e, t4]
        refine br_c (fun c => ?_) (fun c => ?_)
        · rw [if_pos c]; exact b177 _
        · rw [if_neg c]; exact b177 _
      have b103 : ∀ s, kd (nI (pc (rs n f j))) = s → M_L_law_b103 tS 1123 K P1 (nI n) (a_map f n) (nI n) (nI (ctL n f n)) (nI (uL n f i)) (nI r) (nI j) (nI (pc (rs n f j))) (kd (nI (pc (rs n f j)))) (kd (nI (pc (rs n f j)))) s (nI n) (nI w) kg 1 e1 e2 e3 e4 z3 e5 e6 (nI t) maps (nI d) g hr rs' b tl (nI w) (nI n) := by
        intro s es
        refine br_t es (s_X8_taken ho.L (hg.L h8) ?_)
        rw [tk_e, t1]
        refine br_t rfl (s_X8_taken ho.L (hg.L h8) ?_)
        rw [tk_e, t2]
        refine br_t rfl (s_X8_taken ho.L (hg.L h8) ?_)
        rw [tk_e, t3]
        refine br_c (fun c => ?_) (fun c => ?_)
        · rw [if_pos c]; exact b153 _
        · rw [if_neg c]; exact b153 _
      refine s_X8_ring ho.L (hg.L h8) ?_
      rw [a2]
      refine s_X8_ring ho.L (hg.L h8) ?_
      rw [a1]
      refine s_X8_ring ho.L (hg.L h8) ?_
      rw [a0]
      refine br_c (fun c => b103 _ ?_) (fun c => br_c (fun c2 => b103 _ ?_) (fun c2 => br_c (fun c3 => b103 _ ?_) (fun c3 => b103 _ ?_)))
      · unfold kd; rw [if_pos c]
      · unfold kd; rw [if_neg c, if_pos c2]
      · unfold kd; rw [if_neg c, if_neg c2, if_pos c3]
      · unfold kd; rw [if_neg c, if_neg c2, if_neg c3]
end LY
