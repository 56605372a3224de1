/-! p30: the law's picture, from its end to its start. -/
def P1 : Int32 → Prop := fun r => r = 1
theorem lgc_self (x : Int64) : lg_cmp x x = 0 := by simp [lg_cmp]
theorem ac0 {n w : Nat} {am tl : Int32} : a_count n w am tl 0 = nI n := if_pos rfl
theorem ac1 {n w : Nat} {am tl : Int32} : a_count n w am tl 1 = nI w := by
  unfold a_count
  rw [if_neg (by decide), if_pos rfl]
theorem ac3 {n w : Nat} {am tl : Int32} : a_count n w am tl 3 = am := by
  unfold a_count
  rw [if_neg (by decide), if_neg (by decide), if_neg (by decide), if_pos rfl]
theorem ac4 {n w : Nat} {am tl : Int32} : a_count n w am tl 4 = tl := by
  unfold a_count
  rw [if_neg (by decide), if_neg (by decide), if_neg (by decide), if_neg (by decide), if_pos rfl]
theorem ar0 {n : Nat} {f : Nat → Nat} : a_rings n f 0 = nI (ctL n f n) := if_pos rfl
theorem ar1 {n : Nat} {f : Nat → Nat} : a_rings n f 1 = nI (pc (uA n f n)) := by
  unfold a_rings
  rw [if_neg (by decide), if_pos rfl]
theorem ar3 {n : Nat} {f : Nat → Nat} (h : pc (uA n f n) = n) : a_rings n f 3 = 1 := by
  unfold a_rings
  rw [if_neg (by decide), if_neg (by decide), if_neg (by decide), if_pos rfl, h, if_pos rfl]
theorem aw_k {R : Nat → Nat} : ∀ k, k < 3 → a_why true R (nI k) = (nI (R k)).toInt64 := by
  intro k hk
  unfold a_why
  rw [if_pos, nI_clamp (by omega)]
  refine ⟨rfl, ?_⟩
  rintro (c | c)
  · exact nI_pos (by omega) c
  · rw [show (2 : Int32) = nI 2 from rfl, nI_ltI (by omega) (by omega)] at c; omega
theorem aw_3 {R : Nat → Nat} : a_why true R 3 = -9223372036854775808 := by
  unfold a_why
  rw [if_neg]
  rintro ⟨-, c⟩
  exact c (Or.inr (by decide))
/-- the reasons as they are kept -/
def R3 (ri to pl : Nat) : Nat → Nat := fun k => if k = 0 then ri else if k = 1 then pc to else pl
theorem R3_of {ri to pl : Nat} {rs : Nat → Int64} (h0 : rs 0 = (nI ri).toInt64) (h1 : rs 1 = (nI (pc to)).toInt64) (h2 : rs 2 = (nI pl).toInt64) : true = true → ∀ k, k < 3 → rs k = (nI (R3 ri to pl k)).toInt64 := by
  intro _ k hk
  rcases (show k = 0 ∨ k = 1 ∨ k = 2 by omega) with rfl | rfl | rfl
  · exact h0
  · exact h1
  · exact h2
theorem turn_any {n d : Nat} {f : Nat → Nat} {g tl maps : Nat → Int32} {D : Nat → Nat → Nat} {x1 x2 x3 : Int32} {P : Int32 → (Nat → Int32) → Int32 → (Nat → Int32) → (Nat → Int32) → Prop} (ho : OkF n f) (hg : Has8 f g) (hD : OkD n d D) (hm : HasD d D maps) (h : ∀ r d' D' f' maps' tl' g', OkF n f' → Has8 f' g' → OkD n d' D' → HasD d' D' maps' → P r maps' (nI d') tl' g') : M_X8_turn x1 x2 x3 g (nI d) maps (nI n) tl P :=
  s_X8_turn ho hg hD.1 hm (fun _ => h _ d D f maps tl g ho hg hD hm) (fun m v c maps' tl' g' _ _ _ _ _ _ _ hm' hg' => h _ _ _ _ _ _ _ (trS_ok ho m).1 hg' (OkD_nD hD ho) hm')
section LW
variable {tS : tsT} {n w : Nat} {f : Nat → Nat} {kg : Nat → Int32}
theorem L_816 {e1 e2 e3 e4 e5 e6 tn am hr wy sz : Int32} {z3 maps g tb tl : Nat → Int32} {rs : Nat → Int64} (ho : OkF n f) (hw : w ≤ 1) (hk : Has8 f kg) : M_L_law_c816 tS 1123 P1 (nI n) (a_map f n) (nI n) (nI (ctL n f n)) (nI n) (nI w) kg 1 e1 e2 e3 e4 z3 e5 e6 tn maps am g hr rs tb tl wy sz := by
  have h2 := ho.1
  have h8 := ho.2.1
  refine br_t rfl (s_X8_undo (f := f) (fun c => absurd c (by decide)) (fun _ => hk) (fun g' _ hg' => ?_))
  refine br_t rfl (s_X8_map h8 (hg'.L h8) (br_t rfl ?_))
  refine s_X8_count (n := n) (w := w) (by omega) hw (br_t ac3 ?_)
  refine s_X8_rings ho.L (hg'.L h8) (br_t ar0 ?_)
  exact s_X8_lead (d := 0) (D := fun _ _ => 0) ho hg' (Nat.zero_le _) (fun k hk => absurd hk (Nat.not_lt_zero k)) (fun _ => br_t rfl rfl) (fun i j _ _ hi _ e _ _ _ => absurd ((nI_eq (by omega) (by omega)).mp e) (by omega))
theorem L_777 {w2 : Nat} {e1 e2 e3 e4 e5 e6 tn am hr : Int32} {z3 maps g tb tl : Nat → Int32} {rs : Nat → Int64} (hL : tS.1 ≤ 260) (ho : OkF n f) (hw : w ≤ 1) (hk : Has8 f kg) (hw2 : w2 ≤ 1) : M_L_law_c777 tS 1123 P1 (nI n) (a_map f n) (nI n) (nI (ctL n f n)) (nI n) (nI w) kg 1 e1 e2 e3 e4 z3 e5 e6 tn maps am g hr rs tb tl (nI w2) (nI n) := by
  refine sc_at 2 hL rfl (by omega) (fun r => ?_)
  obtain ⟨k, k2, k8, e⟩ := sc_n (r >>> ((7 : Int32) &&& 31))
  rw [e]
  refine s_X8_points (fun c => ?_) (fun k' g' q2 q8 ek hg' => ?_)
  · exfalso
    rcases c with c | c
    · rw [show (2 : Int32) = nI 2 from rfl, nI_ltI (by omega) (by omega)] at c; omega
    · rw [show (8 : Int32) = nI 8 from rfl, nI_ltI (by omega) (by omega)] at c; omega
  · refine br_t rfl ?_
    refine s_X8_rings (n := k) (f := id) ⟨k2, k8, fun i h => h⟩ (hg'.L k8) ?_
    refine s_X8_count (n := k) (w := w2) (by omega) hw2 ?_
    refine br_t ?_ (L_816 ho hw hk)
    rw [ar0, ac0, ct_id k (by omega) k2]
theorem L_717 {d : Nat} {D : Nat → Nat → Nat} {e1 e2 e3 e4 e5 e6 tn hr : Int32} {z3 maps g tb tl : Nat → Int32} {rs : Nat → Int64} (hL : tS.1 ≤ 260) (ho : OkF n f) (hw : w ≤ 1) (hk : Has8 f kg) (hg : Has8 f g) (hD : OkD n d D) (hm : HasD d D maps) : M_L_law_c717 tS 1123 P1 (nI n) (a_map f n) (nI n) (nI (ctL n f n)) (nI n) (nI w) kg 1 e1 e2 e3 e4 z3 e5 e6 tn maps (nI d) g hr rs tb tl (nI w) (nI n) := by
  have h2 := ho.1
  refine turn_any ho hg hD hm (fun r d1 D1 f1 maps1 tl1 g1 ho1 hg1 hD1 hm1 => ?_)
  refine turn_any ho1 hg1 hD1 hm1 (fun r2 d2 D2 f2 maps2 tl2 g2 ho2 hg2 hD2 hm2 => ?_)
  refine s_X8_count (n := n) (w := w) (by omega) hw ?_
  rw [ac1, show (1 : Int32) - nI w = nI (1 - w) from pk_sub (a := 1) hw]
  refine s_X8_way (fun c0 c1 => ?_) (fun _ => ?_)
  · exfalso
    rcases (show w = 0 ∨ w = 1 by omega) with rfl | rfl
    · exact c1 rfl
    · exact c0 rfl
  · refine s_X8_count (n := n) (w := 1 - w) (by omega) (by omega) (br_t ac3 ?_)
    refine s_X8_back (n := n) (d := 0) (D := D2) ⟨Nat.zero_le _, fun k hk => absurd hk (Nat.not_lt_zero k)⟩ (fun k hk => absurd hk (Nat.not_lt_zero k)) (fun _ => br_t rfl ?_) (fun e g' h => absurd h (by omega))
    refine s_X8_points (fun _ => br_t rfl (L_777 hL ho hw hk (by omega))) (fun k g' q2 q8 e => ?_)
    exfalso
    rw [show (9 : Int32) = nI 9 from rfl, nI_eq (by omega) (by omega)] at e
    omega
theorem L_684 {d : Nat} {D : Nat → Nat → Nat} {e1 e2 e3 e4 e5 e6 hr : Int32} {z3 maps g tb tl : Nat → Int32} {rs : Nat → Int64} (hL : tS.1 ≤ 260) (ho : OkF n f) (hw : w ≤ 1) (hk : Has8 f kg) (hg : Has8 f g) (hD : OkD n d D) (hm : HasD d D maps) : M_L_law_c684 tS 1123 P1 (nI n) (a_map f n) (nI n) (nI (ctL n f n)) (nI n) (nI w) kg 1 e1 e2 e3 e4 z3 e5 e6 (nI 0) maps (nI d) g hr rs tb tl (nI w) (nI n) := by
  refine rx_bad ho hg hD.1 hm (TB_0 n tb) (fun a b c e g' i j rs' r0 r1 r2 => br_t (by decide) ?_)
  have hR := R3_of r0 r1 r2
  refine s_X8_why (hr := true) hR ?_
  rw [show (1 : Int32) = nI 1 from rfl, aw_k 1 (by omega)]
  refine br_t (by decide +kernel) ?_
  refine s_X8_why (hr := true) hR ?_
  rw [aw_3]
  refine br_t (lgc_self _) ?_
  exact L_717 hL ho hw hk hg hD hm
theorem pc_ones : ∀ k, k < 9 → pc (2 ^ k - 1) = k := by decide +kernel
theorem L_644 {m pl ri d : Nat} {D : Nat → Nat → Nat} {e1 e2 e3 e4 e5 e6 : Int32} {s0 : Int64} {z3 maps g tb tl : Nat → Int32} {rs : Nat → Int64} (hL : tS.1 ≤ 260) (ho : OkF n f) (hw : w ≤ 1) (hk : Has8 f kg) (hg : Has8 f g) (hD : OkD n d D) (hm : HasD d D maps) (hmn : m < n) (hR : true = true → ∀ k, k < 3 → rs k = (nI (R3 ri (2 ^ (m + 1) - 1) pl k)).toInt64) : M_L_law_b644 tS 1123 P1 (nI n) (a_map f n) (nI n) (nI (ctL n f n)) (nI m) (nI pl) s0 s0 (nI n) (nI w) kg 1 e1 e2 e3 e4 z3 e5 e6 (nI 0) maps (nI d) g 1 rs tb tl (nI w) (nI n) := by
  have h8 := ho.2.1
  refine br_t (lgc_self _) ?_
  refine s_X8_why (hr := true) hR ?_
  rw [show (1 : Int32) = nI 1 from rfl, aw_k 1 (by omega), nI_add, show R3 ri (2 ^ (m + 1) - 1) pl 1 = pc (2 ^ (m + 1) - 1) from rfl, pc_ones _ (by omega)]
  refine br_t (lgc_self _) ?_
  refine s_X8_why (hr := true) hR ?_
  rw [show (2 : Int32) = nI 2 from rfl, aw_k 2 (by omega), show R3 ri (2 ^ (m + 1) - 1) pl 2 = pl from rfl]
  refine br_t (lgc_self _) ?_
  refine s_X8_map h8 (hg.L h8) (br_t rfl ?_)
  exact L_684 hL ho hw hk hg hD hm
def cV (cl : Bool) : Nat := if cl then 1 else 0
theorem L_614 {m pl d t : Nat} {cl : Bool} {D : Nat → Nat → Nat} {e1 e2 e3 e4 e5 e6 s0 s1 hr : Int32} {z3 maps g tb tl : Nat → Int32} {rs : Nat → Int64} (hL : tS.1 ≤ 260) (ho : OkF n f) (hw : w ≤ 1) (hk : Has8 f kg) (hg : Has8 f g) (hD : OkD n d D) (hm : HasD d D maps) (hmn : m < n) (hs : s0 + s1 = nI pl) (hb : TB n t tb pl (2 ^ (m + 1) - 1) (cV cl)) : M_L_law_b614 tS 1123 P1 (nI n) (a_map f n) (nI n) (nI (ctL n f n)) (nI m) (nI (cV cl)) s0 s1 (nI n) (nI w) kg 1 e1 e2 e3 e4 z3 e5 e6 (nI t) maps (nI d) g hr rs tb tl (nI w) (nI n) := by
  refine rx_bad ho hg hD.1 hm hb (fun a b c e g' i j rs' r0 r1 r2 => ?_)
  rw [hs]
  refine br_t rfl ?_
  have hR := R3_of r0 r1 r2
  refine s_X8_why (hr := true) hR ?_
  rw [show (0 : Int32) = nI 0 from rfl, aw_k 0 (by omega), show R3 (cV cl) (2 ^ (m + 1) - 1) pl 0 = cV cl from rfl]
  cases cl with
  | false => exact br_t rfl (L_644 hL ho hw hk hg hD hm hmn hR)
  | true => exact br_f (by decide) (L_644 hL ho hw hk hg hD hm hmn hR)
theorem L_577 {m d t : Nat} {cl : Bool} {D : Nat → Nat → Nat} {e1 e2 e3 e4 e5 e6 hr : Int32} {z3 maps g tb tl : Nat → Int32} {rs : Nat → Int64} {le : Nat → Nat} {la fi : Nat} (hL : tS.1 ≤ 260) (ho : OkF n f) (hw : w ≤ 1) (hk : Has8 f kg) (hg : Has8 f g) (hD : OkD n d D) (hm : HasD d D maps) (hmn : m < n) (ht : t = 2 * m + 3 + cV cl) (hs : TS n t tb 1 (2 ^ (m + 1) - 1) (cV cl) le la fi) : M_L_law_c577 tS 1123 P1 (nI n) (a_map f n) (nI n) (nI (ctL n f n)) (nI m) (nI (cV cl)) (nI n) (nI w) kg 1 e1 e2 e3 e4 z3 e5 e6 (nI t) maps (nI d) g hr rs tb tl (nI w) (nI n) := by
  have h8 := ho.2.1
  have hc : cV cl ≤ 1 := by cases cl <;> decide
  refine sc_at 2 hL rfl (by omega) (fun r => ?_)
  rw [show nI m + (1 : Int32) = nI (m + 1) from nI_1 m]
  refine And.intro (nI_ne0 (by omega) (by omega)) ?_
  obtain ⟨p, hp, e⟩ := sc_r (r >>> ((4 : Int32) &&& 31)) (n := m + 1) (by omega) (by omega)
  rw [e, show (48 : Int32) = nI 48 from rfl, nI_add]
  refine fd_bad hs (p := p) (by omega) (by rw [Nat.testBit_two_pow_sub_one]; exact decide_eq_true hp) (by omega) rfl (fun b' hb' => ?_)
  have e2 : (2 : Int32) * nI m = nI (2 * m) := pk_mul 2 m
  rw [e2]
  cases cl with
  | false => exact br_t rfl (L_614 hL ho hw hk hg hD hm hmn (by rw [show (3 : Int32) = nI 3 from rfl, nI_add, ht]; rfl) hb')
  | true => exact br_f (by decide) (L_614 hL ho hw hk hg hD hm hmn (by rw [show (4 : Int32) = nI 4 from rfl, nI_add, ht]; rfl) hb')
theorem L_528 {m d : Nat} {D : Nat → Nat → Nat} {e1 e2 e3 e4 e5 e6 hr : Int32} {z3 maps g tb tl : Nat → Int32} {rs : Nat → Int64} {le : Nat → Nat} {la fi : Nat} (hL : tS.1 ≤ 260) (ho : OkF n f) (hw : w ≤ 1) (hk : Has8 f kg) (hg : Has8 f g) (hD : OkD n d D) (hm : HasD d D maps) (hmn : m < n) (hs : TS n (2 * (m + 1)) tb 2 (2 ^ (m + 1) - 1) 0 le la fi) : M_L_law_c528 tS 1123 P1 (nI n) (a_map f n) (nI n) (nI (ctL n f n)) (nI m) (nI n) (nI w) kg 1 e1 e2 e3 e4 z3 e5 e6 (nI (2 * (m + 1))) maps (nI d) g hr rs tb tl (nI w) (nI n) := by
  have h8 := ho.2.1
  refine sc_at 2 hL rfl (by omega) (fun r => br_c (fun _ => ?_) (fun _ => ?_))
  · refine br_f (by decide) ?_
    refine fd_close hs (by omega) rfl (fun b1 hs1 => ?_)
    refine fd_open hs1 (Or.inr rfl) (by omega) rfl (fun b2 hs2 => ?_)
    exact L_577 (cl := true) hL ho hw hk hg hD hm hmn (by show 2 * (m + 1) + 1 + 1 = 2 * m + 3 + 1; omega) hs2
  · refine br_t rfl ?_
    refine fd_blank hs (by omega) rfl (fun b1 hs1 => ?_)
    exact L_577 (cl := false) hL ho hw hk hg hD hm hmn (by show 2 * (m + 1) + 1 = 2 * m + 3 + 0; omega) hs1
theorem L_471 {d : Nat} {D : Nat → Nat → Nat} {e1 e2 e3 e4 e5 e6 hr : Int32} {z3 maps g tb tl : Nat → Int32} {rs : Nat → Int64} (hL : tS.1 ≤ 260) (ho : OkF n f) (hw : w ≤ 1) (hk : Has8 f kg) (hg : Has8 f g) (hD : OkD n d D) (hm : HasD d D maps) : M_L_law_c471 tS 1123 P1 (nI n) (a_map f n) (nI n) (nI (ctL n f n)) (nI n) (nI w) kg 1 e1 e2 e3 e4 z3 e5 e6 (nI 0) maps (nI d) g hr rs tb tl (nI w) (nI n) := by
  have h2 := ho.1
  have h8 := ho.2.1
  refine sc_at 2 hL rfl (by omega) (fun r => ?_)
  obtain ⟨m, hmn, e⟩ := sc_r r (n := n) (by omega) (by omega)
  rw [e]
  refine And.intro (nI_ne0 (by omega) (by omega)) (fd_open (TS_0 n tb) (Or.inl rfl) (by omega) rfl (fun b1 hs1 => ?_))
  refine LP3_ix (fun k a b c => a = nI k ∧ ∃ t le la fi, b = nI t ∧ ((k = 0 ∧ t = 1 ∧ TS n t c 1 (2 ^ k - 1) 0 le la fi) ∨ (k ≠ 0 ∧ t = 2 * k ∧ TS n t c 2 (2 ^ k - 1) 0 le la fi))) (m + 1) ?_ 0 _ _ _ (Nat.zero_le _) ⟨rfl, 1, _, _, _, rfl, Or.inl ⟨rfl, rfl, hs1⟩⟩
  rintro K k a b c hkm ⟨rfl, t, le, la, fi, rfl, hc⟩ hK
  have key : ∀ (t : Nat) (c : Nat → Int32) (le : Nat → Nat) (la fi : Nat), k ≤ m → t = 2 * k + 1 → TS n t c 1 (2 ^ k - 1) 0 le la fi → M_L_law_b512 tS 1123 K P1 (nI n) (a_map f n) (nI n) (nI (ctL n f n)) (nI m) (nI k) (nI n) (nI w) kg 1 e1 e2 e3 e4 z3 e5 e6 (nI t) maps (nI d) g hr rs c tl (nI w) (nI n) := by
    intro t c le la fi hkm ht hs
    refine fd_fig hs h8 (p := k) (by omega) (by rw [Nat.testBit_two_pow_sub_one]; exact decide_eq_false (by omega)) (by omega) (by rw [show (48 : Int32) = nI 48 from rfl, nI_add]) (fun b' hs' => ?_)
    have e2 : 2 ^ k - 1 ||| 2 ^ k = 2 ^ (k + 1) - 1 := by
      have h3 : k < 8 := by omega
      have : ∀ k, k < 8 → 2 ^ k - 1 ||| 2 ^ k = 2 ^ (k + 1) - 1 := by decide +kernel
      exact this k h3
    rw [e2] at hs'
    exact hK _ _ _ (by omega) ⟨nI_1 k, t + 1, _, _, _, rfl, Or.inr ⟨by omega, by omega, hs'⟩⟩
  refine pk_lt m k (fun c1 => ?_) (fun c1 => ?_)
  · have e3 : k = m + 1 := by omega
    subst e3
    rcases hc with ⟨z, -, -⟩ | ⟨-, rfl, hs⟩
    · omega
    · exact L_528 hL ho hw hk hg hD hm hmn hs
  · refine pk_le k 0 (fun c2 => ?_) (fun c2 => ?_)
    · rcases hc with ⟨z, z1, hs⟩ | ⟨z, -, -⟩
      · exact key t c le la fi c1 (by omega) hs
      · omega
    · rcases hc with ⟨z, -, -⟩ | ⟨-, rfl, hs⟩
      · omega
      · exact fd_blank hs (by omega) rfl (fun b' hs' => key _ b' le la fi c1 rfl hs')
end LW
