/-! p30: the law's picture, its first half. -/
/-- deeds, one more; two taken back -/
theorem dd_two (d : Nat) (hd : d ≤ 10) (D : Nat → Nat → Nat) (f f' : Nat → Nat) : ∃ k, nd (nd d) = k + 2 ∧ k + 2 ≤ 10 ∧ nD (nd d) (nD d D f) f' (k + 1) = f' ∧ nD (nd d) (nD d D f) f' k = f ∧ nI (nd (nd d)) = (if nI (nd d) + (1 : Int32) < (10 : Int32) then nI (nd d) + (1 : Int32) else (10 : Int32)) ∧ nI (k + 1) = (if nI (nd d) < (9 : Int32) then nI (nd d) else (9 : Int32)) := by
  have h9 : (9 : Int32) = nI 9 := rfl
  have h10 : (10 : Int32) = nI 10 := rfl
  rcases (show d = 10 ∨ d = 9 ∨ d < 9 by omega) with rfl | rfl | h
  · refine ⟨8, rfl, by omega, rfl, rfl, by decide, by decide⟩
  · refine ⟨8, rfl, by omega, rfl, rfl, by decide, by decide⟩
  · have e1 : nd d = d + 1 := if_neg (by omega)
    have e2 : nd (d + 1) = d + 2 := if_neg (by omega)
    rw [e1, e2]
    refine ⟨d, rfl, by omega, ?_, ?_, ?_, ?_⟩
    · unfold nD
      funext v
      rw [if_neg (by omega), if_pos rfl]
    · have ne : ¬ d + 1 = 10 := by omega
      have n2 : ¬ d = d + 1 := by omega
      have n3 : ¬ d = 10 := by omega
      show (if d + 1 = 10 then _ else (if d = d + 1 then f' else nD d D f d)) = f
      rw [if_neg ne, if_neg n2]
      show (if d = 10 then _ else (if d = d then f else D d)) = f
      rw [if_neg n3, if_pos rfl]
    · rw [nI_1, h10]
      by_cases q : d + 1 + 1 < 10
      · rw [if_pos ((nI_ltI (by omega) (by omega)).mpr q)]
      · rw [if_neg (fun z => q ((nI_ltI (by omega) (by omega)).mp z)), show d + 2 = 10 by omega]
    · rw [h9]
      by_cases q : d + 1 < 9
      · rw [if_pos ((nI_ltI (by omega) (by omega)).mpr q)]
      · rw [if_neg (fun z => q ((nI_ltI (by omega) (by omega)).mp z)), show d + 1 = 9 by omega]
section LX
variable {tS : tsT} {n w : Nat} {f : Nat → Nat} {kg : Nat → Int32}
theorem L_445 {k : Nat} {D : Nat → Nat → Nat} {e1 e2 e3 e4 e5 e6 hr c : Int32} {z3 maps g tb tl : Nat → Int32} {rs : Nat → Int64} (hL : tS.1 ≤ 260) (ho : OkF n f) (hw : w ≤ 1) (hk : Has8 f kg) (hD : OkD n (k + 1) D) (hm : HasD (k + 1) D maps) (hf : D k = f) (hc : nI (k + 1) = (if c < (9 : Int32) then c else (9 : Int32))) : M_L_law_c445 tS 1123 P1 (nI n) (a_map f n) (nI n) (nI (ctL n f n)) c (nI n) (nI w) kg 1 e1 e2 e3 e4 z3 e5 e6 (nI 0) maps (nI (k + 1)) g hr rs tb tl (nI w) (nI n) := by
  have h8 := ho.2.1
  refine s_X8_back hD hm (fun z => absurd z (by omega)) (fun e g' he hg' => ?_)
  obtain rfl : e = k := by omega
  rw [hf] at hg'
  refine br_t (by rw [← hc, nI_pred]) ?_
  refine s_X8_map h8 (hg'.L h8) (br_t rfl ?_)
  exact L_471 hL ho hw hk hg' (hD.le (by omega)) (hm.le (by omega))
theorem L_387 {d : Nat} {D : Nat → Nat → Nat} {e1 e2 e3 e4 e5 e6 hr : Int32} {z3 maps g tb tl : Nat → Int32} {rs : Nat → Int64} (hL : tS.1 ≤ 260) (ho : OkF n f) (hw : w ≤ 1) (hk : Has8 f kg) (hg : Has8 (fR n f) g) (hD : OkD n d D) (hm : HasD (nd d) (nD d D f) maps) : M_L_law_c387 tS 1123 P1 (nI n) (a_map f n) (nI n) (nI (ctL n f n)) (a_map (fR n f) n) (nI n) (nI w) kg 1 e1 e2 e3 e4 z3 e5 e6 (nI 0) maps (nI (nd d)) g hr rs tb tl (nI w) (nI n) := by
  have h2 := ho.1
  have h8 := ho.2.1
  have hfr := fR_ok ho
  obtain ⟨k, k1, k2, k3, k4, k5, k6⟩ := dd_two d hD.1 D f (fR n f)
  have hD1 := OkD_nD hD ho
  have hD2 := OkD_nD hD1 hfr
  refine s_X8_count (n := n) (w := w) (by omega) hw ?_
  rw [ac3]
  refine s_X8_lead hfr hg hD1.1 hm (fun c => ?_) (fun i j maps2 g2 hi hj ei ej hm2 hg2 => ?_)
  · exfalso
    rcases c with c | c
    · exact pt_yes (n := n) (j := 0) (by omega) (by omega) c
    · exact pt_yes (n := n) (j := 1) (by omega) (by omega) c
  · have hfi := hfr.2.2.1 i hi
    refine br_f (nI_pos (by omega)) ?_
    refine s_X8_count (n := n) (w := w) (by omega) hw ?_
    rw [ac3]
    refine br_t k5 ?_
    refine s_X8_back hD2 hm2 (fun z => absurd z (by omega)) (fun e g3 he hg3 => ?_)
    obtain rfl : e = k + 1 := by omega
    rw [k3] at hg3
    refine br_t k6 ?_
    refine s_X8_map h8 (hg3.L h8) (br_t rfl ?_)
    exact L_445 hL ho hw hk (hD2.le (by omega)) (hm2.le (by omega)) k4 k6
theorem L_376 {d : Nat} {D : Nat → Nat → Nat} {e1 e2 e3 e4 e5 e6 hr : Int32} {z3 maps g tb tl : Nat → Int32} {rs : Nat → Int64} (hL : tS.1 ≤ 260) (ho : OkF n f) (hw : w ≤ 1) (hk : Has8 f kg) (hg : Has8 (fR n f) g) (hD : OkD n d D) (hm : HasD (nd d) (nD d D f) maps) : M_L_law_c376 tS 1123 P1 (nI n) (a_map f n) (nI n) (nI (ctL n f n)) (a_map (fR n f) n) (nI n) (nI w) kg 1 e1 e2 e3 e4 z3 e5 e6 (nI 0) maps (nI (nd d)) g hr rs tb tl (nI w) (nI n) := by
  have h8 := ho.2.1
  refine s_X8_rings (fR_ok ho).L (hg.L h8) ?_
  rw [ar3 (fR_all ho)]
  exact br_t rfl (L_387 hL ho hw hk hg hD hm)
theorem L_303 {d : Nat} {D : Nat → Nat → Nat} {e1 e2 e3 e4 e5 e6 hr : Int32} {z3 maps g tb tl : Nat → Int32} {rs : Nat → Int64} (hL : tS.1 ≤ 260) (ho : OkF n f) (hw : w ≤ 1) (hk : Has8 f kg) (hg : Has8 (fR n f) g) (hD : OkD n d D) (hm : HasD (nd d) (nD d D f) maps) : M_L_law_c303 tS 1123 P1 (nI n) (a_map f n) (nI n) (nI (ctL n f n)) (nI (uA n f n)) (nI n) (nI w) kg 1 e1 e2 e3 e4 z3 e5 e6 (nI 0) maps (nI (nd d)) g hr rs tb tl (nI w) (nI n) := by
  have h2 := ho.1
  have h8 := ho.2.1
  have hS := uA_lt ho.L n (Nat.le_refl n)
  have hfr := fR_ok ho
  have l1 : ∀ i, i < 8 → f i < 8 := fun i hi => ho.lt hi
  have l2 : ∀ i, i < 8 → fR n f i < 8 := fun i hi => hfr.lt hi
  refine s_X8_map h8 (hg.L h8) ?_
  refine LP3_ix (fun t a b c => a = nI (dm f (n - t)) ∧ b = nI (dm (fR n f) (n - t)) ∧ c = nI (n - t) + (-1)) n ?_ 0 _ _ _ (Nat.zero_le _) ⟨a_map_dm n, a_map_dm n, ?_⟩
  · rintro K t a b c ht ⟨rfl, rfl, rfl⟩ hK
    rcases Nat.lt_or_ge t n with q | q
    · have e0 : n - t = (n - 1 - t) + 1 := by omega
      have e1 : nI (n - t) + (-1) = nI (n - 1 - t) := by rw [e0, pk_m1]
      have e2 : n - (t + 1) = n - 1 - t := by omega
      have b1 := dm_31 l1 (show n - t ≤ 8 by omega)
      have b2 := dm_31 l2 (show n - t ≤ 8 by omega)
      have f1 := l1 (n - 1 - t) (by omega)
      have f2 := l2 (n - 1 - t) (by omega)
      have s1 : dm f (n - t) = dm f (n - 1 - t) * 10 + f (n - 1 - t) := by rw [e0]; rfl
      have s2 : dm (fR n f) (n - t) = dm (fR n f) (n - 1 - t) * 10 + fR n f (n - 1 - t) := by rw [e0]; rfl
      have r1 : nI (dm f (n - t)) - nI (dm f (n - t)) / (10 : Int32) * (10 : Int32) = nI (f (n - 1 - t)) := by
        rw [show (10 : Int32) = nI 10 from rfl, pk_rem b1 (by omega) (by omega), s1]; congr 1; omega
      have r2 : nI (dm (fR n f) (n - t)) - nI (dm (fR n f) (n - t)) / (10 : Int32) * (10 : Int32) = nI (fR n f (n - 1 - t)) := by
        rw [show (10 : Int32) = nI 10 from rfl, pk_rem b2 (by omega) (by omega), s2]; congr 1; omega
      have q1 : nI (dm f (n - t)) / (10 : Int32) = nI (dm f (n - 1 - t)) := by
        rw [show (10 : Int32) = nI 10 from rfl, pk_div b1 (by omega) (by omega), s1]; congr 1; omega
      have q2 : nI (dm (fR n f) (n - t)) / (10 : Int32) = nI (dm (fR n f) (n - 1 - t)) := by
        rw [show (10 : Int32) = nI 10 from rfl, pk_div b2 (by omega) (by omega), s2]; congr 1; omega
      have hn : K (nI (dm f (n - t)) / (10 : Int32)) (nI (dm (fR n f) (n - t)) / (10 : Int32)) (nI (n - 1 - t) + (-1)) := hK _ _ _ q ⟨by rw [q1, e2], by rw [q2, e2], by rw [e2]⟩
      have eb : (nI (uA n f n) >>> (nI (n - 1 - t) &&& 31)) &&& (1 : Int32) = nI (if (uA n f n).testBit (n - 1 - t) then 1 else 0) := z_bit _ hS _ (by omega)
      rw [e1]
      refine br_f (nI_pos (by omega)) (br_c (fun c => ?_) (fun c => ?_))
      · rw [eb] at c
        have hb : (uA n f n).testBit (n - 1 - t) = false := by
          cases hb : (uA n f n).testBit (n - 1 - t) with
          | false => rfl
          | true => rw [hb] at c; exact absurd c (by decide)
        have ef : fR n f (n - 1 - t) = n - 1 - t := by
          unfold fR; rw [if_neg (by rw [hb]; decide)]
        exact br_t (by rw [r2, ef]) hn
      · rw [eb] at c
        have hb : (uA n f n).testBit (n - 1 - t) = true := by
          cases hb : (uA n f n).testBit (n - 1 - t) with
          | true => rfl
          | false => rw [hb] at c; exact absurd rfl c
        have ef : fR n f (n - 1 - t) = f (n - 1 - t) := by
          unfold fR; rw [if_pos hb]
        exact br_t (by rw [r2, r1, ef]) hn
    · obtain rfl : t = n := by omega
      rw [Nat.sub_self]
      refine br_t (by decide) ?_
      exact L_376 hL ho hw hk hg hD hm
  · show nI n - (1 : Int32) = nI (n - 0) + (-1)
    rw [Nat.sub_zero, show n = (n - 1) + 1 by omega, pk_m1, nI_pred]
theorem L_271 {d t : Nat} {D : Nat → Nat → Nat} {e1 e2 e3 e4 e5 e6 hr : Int32} {z3 maps g tb tl : Nat → Int32} {rs : Nat → Int64} {la fi : Nat} (hL : tS.1 ≤ 260) (ho : OkF n f) (hw : w ≤ 1) (hk : Has8 f kg) (hg : Has8 f g) (hD : OkD n d D) (hm : HasD d D maps) (hs : TS n t tb 3 (uA n f n) (ctL n f n) (fR n f) la fi) : M_L_law_c271 tS 1123 P1 (nI n) (a_map f n) (nI n) (nI (ctL n f n)) (nI (uA n f n)) (nI n) (nI w) kg 1 e1 e2 e3 e4 z3 e5 e6 (nI t) maps (nI d) g hr rs tb tl (nI w) (nI n) := by
  have h2 := ho.1
  have h8 := ho.2.1
  refine s_bitCount (uA_lt ho.L n (Nat.le_refl n)) ?_
  refine s_X8_rings ho.L (hg.L h8) ?_
  rw [ar1]
  refine br_t rfl ?_
  refine rx_ok ho hg hD.1 hm hs (fun a b c e g' i j maps' g2 hm' hg' => br_t rfl ?_)
  refine s_X8_count (n := n) (w := w) (by omega) hw ?_
  rw [ac4]
  exact br_t rfl (L_303 hL ho hw hk hg' hD hm')
end LX
