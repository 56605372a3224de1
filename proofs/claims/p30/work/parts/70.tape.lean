/-! p30: the tape as it is fed, byte by byte: where the reading stands then. -/
theorem rd_cong {n : Nat} {T U : Nat → Nat} : ∀ i, (∀ k, k < i → T k = U k) → rdS n T i = rdS n U i
  | 0, _ => rfl
  | i + 1, h => by
    have e := rd_cong (n := n) i (fun k hk => h k (by omega))
    have ei := h i (by omega)
    simp only [rdS, e, ei]
theorem ok_cong {n : Nat} {T U : Nat → Nat} {i : Nat} (h : ∀ k, k < i + 1 → T k = U k) : okB n T i = okB n U i := by
  have e := rd_cong (n := n) i (fun k hk => h k (by omega))
  have ei := h i (by omega)
  unfold okB rS rT
  rw [e, ei]
theorem uf_below {T : Nat → Nat} {t v : Nat} : ∀ k, k < t → uf T t v k = T k := fun k hk => if_neg (by omega)
theorem uf_here {T : Nat → Nat} {t v : Nat} : uf T t v t = v := if_pos rfl
/-- t bytes are fed, none of them a fault; where the reading stands behind them -/
def PS (n t : Nat) (T : Nat → Nat) (st to ri : Nat) (le : Nat → Nat) (la fi : Nat) : Prop := (∀ j, j < t → okB n T j = true) ∧ rdS n T t = (st, to, ri, le, la, fi)
def TS (n t : Nat) (b : Nat → Int32) (st to ri : Nat) (le : Nat → Nat) (la fi : Nat) : Prop := ∃ T, OkT t T ∧ HasT t T b ∧ PS n t T st to ri le la fi
/-- a fault stands at the place pl; what was told ahead of it -/
def TB (n t : Nat) (b : Nat → Int32) (pl to ri : Nat) : Prop := ∃ T, OkT t T ∧ HasT t T b ∧ rdG n t T = false ∧ rdF n t T = pl ∧ rT n T pl = to ∧ rR n T pl = ri
theorem TS_0 (n : Nat) (b : Nat → Int32) : TS n 0 b 0 0 0 id 0 0 :=
  ⟨fun _ => 0, ⟨Nat.zero_le _, fun k hk => absurd hk (Nat.not_lt_zero k)⟩, fun k hk => absurd hk (Nat.not_lt_zero k), fun j hj => absurd hj (Nat.not_lt_zero j), rfl⟩
theorem TB_0 (n : Nat) (b : Nat → Int32) : TB n 0 b 0 0 0 :=
  ⟨fun _ => 0, ⟨Nat.zero_le _, fun k hk => absurd hk (Nat.not_lt_zero k)⟩, fun k hk => absurd hk (Nat.not_lt_zero k), rfl, rfl, rfl, rfl⟩
theorem fd_any {t v : Nat} {T : Nat → Nat} {b : Nat → Int32} {x : Int32} {P : Int32 → (Nat → Int32) → Int32 → Prop} (ht : OkT t T) (hb : HasT t T b) (h60 : t < 60) (hv : v < 128) (hx : x = nI v) (h : ∀ b', OkT (t + 1) (uf T t v) → HasT (t + 1) (uf T t v) b' → P (nI (t + 1)) b' (nI (t + 1))) : M_X8_feed x (nI t) b P := by
  refine s_X8_feed ht hb (fun c => ?_) (fun _ e => absurd e (by omega)) (fun u b' _ hu e hb' => ?_)
  · exfalso
    rw [hx] at c
    rcases c with c | c
    · exact nI_pos (by omega) c
    · rw [show (127 : Int32) = nI 127 from rfl, nI_ltI (by omega) (by omega)] at c; omega
  · have e2 : u = v := by
      rw [hx] at e
      exact ((nI_eq (by omega) (by omega)).mp e).symm
    subst e2
    exact h b' (uf_okT ht h60 hv) hb'
theorem PS_next {n t v : Nat} {T : Nat → Nat} {st to ri : Nat} {le : Nat → Nat} {la fi : Nat} (hp : PS n t T st to ri le la fi) : (∀ j, j < t → okB n (uf T t v) j = true) ∧ rS n (uf T t v) t = st ∧ rT n (uf T t v) t = to ∧ rR n (uf T t v) t = ri ∧ rL n (uf T t v) t = le ∧ rA n (uf T t v) t = la ∧ rF n (uf T t v) t = fi := by
  obtain ⟨h1, h2⟩ := hp
  have e : rdS n (uf T t v) t = (st, to, ri, le, la, fi) := (rd_cong t uf_below).trans h2
  refine ⟨fun j hj => ?_, ?_, ?_, ?_, ?_, ?_, ?_⟩
  · rw [ok_cong (U := T) (fun k hk => uf_below k (by omega))]; exact h1 j hj
  · unfold rS; rw [e]
  · unfold rT; rw [e]
  · unfold rR; rw [e]
  · unfold rL; rw [e]
  · unfold rA; rw [e]
  · unfold rF; rw [e]
theorem rdS_is {n i : Nat} {T : Nat → Nat} : rdS n T i = (rS n T i, rT n T i, rR n T i, rL n T i, rA n T i, rF n T i) := rfl
theorem PS_of {n t v : Nat} {T : Nat → Nat} {st to ri : Nat} {le : Nat → Nat} {la fi : Nat} (h1 : ∀ j, j < t → okB n (uf T t v) j = true) (h2 : okB n (uf T t v) t = true) (e1 : rS n (uf T t v) (t + 1) = st) (e2 : rT n (uf T t v) (t + 1) = to) (e3 : rR n (uf T t v) (t + 1) = ri) (e4 : rL n (uf T t v) (t + 1) = le) (e5 : rA n (uf T t v) (t + 1) = la) (e6 : rF n (uf T t v) (t + 1) = fi) : PS n (t + 1) (uf T t v) st to ri le la fi := by
  refine ⟨fun j hj => ?_, ?_⟩
  · rcases Nat.lt_or_ge j t with q | q
    · exact h1 j q
    · rw [show j = t by omega]; exact h2
  · rw [rdS_is, e1, e2, e3, e4, e5, e6]
section FD
variable {n t : Nat} {b : Nat → Int32} {st to ri : Nat} {le : Nat → Nat} {la fi : Nat} {x : Int32} {P : Int32 → (Nat → Int32) → Int32 → Prop}
theorem fd_open (hs : TS n t b st to ri le la fi) (hst : st = 0 ∨ st = 3) (h60 : t < 60) (hx : x = nI 40) (h : ∀ b', TS n (t + 1) b' 1 to ri le la 0 → P (nI (t + 1)) b' (nI (t + 1))) : M_X8_feed x (nI t) b P := by
  obtain ⟨T, ht, hb, hp⟩ := hs
  refine fd_any ht hb h60 (by omega) hx (fun b' ht' hb' => h b' ⟨_, ht', hb', ?_⟩)
  obtain ⟨k, k1, k2, k3, k4, k5, k6⟩ := PS_next (v := 40) hp
  have q1 : ¬ rS n (uf T t 40) t = 1 := by omega
  have q2 : ¬ rS n (uf T t 40) t = 2 := by omega
  obtain ⟨e1, e2, e3, e4, e5, e6⟩ := rd_0 (n := n) (T := uf T t 40) q1 q2
  exact PS_of k ((okB_0 q1 q2).mpr uf_here) e1 (e2.trans k2) (e3.trans k3) (e4.trans k4) (e5.trans k5) e6
theorem fd_fig {p : Nat} (hs : TS n t b 1 to ri le la fi) (hn : n ≤ 8) (hpn : p < n) (hto : to.testBit p = false) (h60 : t < 60) (hx : x = nI (48 + p)) (h : ∀ b', TS n (t + 1) b' 2 (to ||| 2 ^ p) ri (if fi = 0 then le else uf le la p) p (if fi = 0 then p + 1 else fi) → P (nI (t + 1)) b' (nI (t + 1))) : M_X8_feed x (nI t) b P := by
  obtain ⟨T, ht, hb, hp⟩ := hs
  refine fd_any ht hb h60 (by omega) hx (fun b' ht' hb' => h b' ⟨_, ht', hb', ?_⟩)
  obtain ⟨k, k1, k2, k3, k4, k5, k6⟩ := PS_next (v := 48 + p) hp
  have hv : uf T t (48 + p) t - 48 = p := by rw [uf_here]; omega
  obtain ⟨e1, e2, e3, e4, e5, e6⟩ := rd_1 (n := n) (T := uf T t (48 + p)) k1
  rw [hv, k2] at e2
  rw [hv, k4, k5, k6] at e4
  rw [hv] at e5
  rw [hv, k6] at e6
  exact PS_of k ((okB_1 k1).mpr ⟨by rw [uf_here]; omega, by rw [hv]; exact hpn, by rw [hv, k2]; exact hto⟩) e1 e2 (e3.trans k3) e4 e5 e6
theorem fd_blank (hs : TS n t b 2 to ri le la fi) (h60 : t < 60) (hx : x = nI 32) (h : ∀ b', TS n (t + 1) b' 1 to ri le la fi → P (nI (t + 1)) b' (nI (t + 1))) : M_X8_feed x (nI t) b P := by
  obtain ⟨T, ht, hb, hp⟩ := hs
  refine fd_any ht hb h60 (by omega) hx (fun b' ht' hb' => h b' ⟨_, ht', hb', ?_⟩)
  obtain ⟨k, k1, k2, k3, k4, k5, k6⟩ := PS_next (v := 32) hp
  obtain ⟨e1, e2, e3, e4, e5, e6⟩ := rd_2b (n := n) (T := uf T t 32) k1 uf_here
  exact PS_of k ((okB_2 k1).mpr (Or.inl uf_here)) e1 (e2.trans k2) (e3.trans k3) (e4.trans k4) (e5.trans k5) (e6.trans k6)
theorem fd_close (hs : TS n t b 2 to ri le la fi) (h60 : t < 60) (hx : x = nI 41) (h : ∀ b', TS n (t + 1) b' 3 to (ri + 1) (uf le la (fi - 1)) la fi → P (nI (t + 1)) b' (nI (t + 1))) : M_X8_feed x (nI t) b P := by
  obtain ⟨T, ht, hb, hp⟩ := hs
  refine fd_any ht hb h60 (by omega) hx (fun b' ht' hb' => h b' ⟨_, ht', hb', ?_⟩)
  obtain ⟨k, k1, k2, k3, k4, k5, k6⟩ := PS_next (v := 41) hp
  obtain ⟨e1, e2, e3, e4, e5, e6⟩ := rd_2e (n := n) (T := uf T t 41) k1 (by rw [uf_here]; decide)
  rw [k4, k5, k6] at e4
  rw [k3] at e3
  exact PS_of k ((okB_2 k1).mpr (Or.inr uf_here)) e1 (e2.trans k2) e3 e4 (e5.trans k5) (e6.trans k6)
/-- a point that is told already -/
theorem fd_bad {p : Nat} (hs : TS n t b 1 to ri le la fi) (hp8 : p < 8) (hto : to.testBit p = true) (h60 : t < 60) (hx : x = nI (48 + p)) (h : ∀ b', TB n (t + 1) b' t to ri → P (nI (t + 1)) b' (nI (t + 1))) : M_X8_feed x (nI t) b P := by
  obtain ⟨T, ht, hb, hp⟩ := hs
  refine fd_any ht hb h60 (by omega) hx (fun b' ht' hb' => h b' ⟨_, ht', hb', ?_⟩)
  obtain ⟨k, k1, k2, k3, k4, k5, k6⟩ := PS_next (v := 48 + p) hp
  have hv : uf T t (48 + p) t - 48 = p := by rw [uf_here]; omega
  have hbad : okB n (uf T t (48 + p)) t = false := Bool.eq_false_iff.mpr (fun z => by
    have := ((okB_1 k1).mp z).2.2
    rw [hv, k2, hto] at this
    cases this)
  have hF : rdF n (t + 1) (uf T t (48 + p)) = t := fa_first_is (p := fun i => !okB n (uf T t (48 + p)) i) (by omega) (by show (!okB n (uf T t (48 + p)) t) = true; rw [hbad]; rfl) (fun j hj => by show (!okB n (uf T t (48 + p)) j) = false; rw [k j hj]; rfl)
  exact ⟨by rw [rdG, hF, decide_eq_false (by omega)]; rfl, hF, k2, k3⟩
end FD
/-! what read() answers of these -/
section RX
variable {n t d : Nat} {D : Nat → Nat → Nat} {f : Nat → Nat} {y1 y2 y3 y4 fi0 la0 hr : Int32} {g tg b maps : Nat → Int32} {rs : Nat → Int64} {P : Int32 → Int32 → Int32 → Int32 → Int32 → (Nat → Int32) → Int32 → Int32 → Int32 → (Nat → Int32) → Int32 → (Nat → Int32) → Int32 → (Nat → Int64) → Prop}
theorem rx_ok {to ri : Nat} {le : Nat → Nat} {la fi : Nat} (ho : OkF n f) (hg : Has8 f g) (hd : d ≤ 10) (hm : HasD d D maps) (hs : TS n t b 3 to ri le la fi)
    (h : ∀ a b c e g' i j maps' g2, HasD (nd d) (nD d D f) maps' → Has8 le g2 → P (nI ri) a b c e g' i j 0 maps' (nI (nd d)) g2 hr rs) : M_X8_read (nI n) y1 y2 y3 y4 tg (nI t) b fi0 la0 g (nI d) maps hr rs P := by
  obtain ⟨T, ht, hb, h1, h2⟩ := hs
  have hF : rdF n t T = t := fa_first_end (p := fun i => !okB n T i) (fun j hj => by show (!okB n T j) = false; rw [h1 j hj]; rfl)
  have hG : rdG n t T = true := by
    rw [rdG, decide_eq_true hF, decide_eq_true (show rS n T t = 3 by unfold rS; rw [h2])]; rfl
  have e3 : rR n T t = ri := by unfold rR; rw [h2]
  have e4 : rL n T t = le := by unfold rL; rw [h2]
  refine s_X8_read ho hg hd hm ht hb (fun hG' => absurd (hG.symm.trans hG') (by decide)) (fun _ => ?_)
  rw [e3, e4]
  exact h
theorem rx_bad {pl to ri : Nat} (ho : OkF n f) (hg : Has8 f g) (hd : d ≤ 10) (hm : HasD d D maps) (hs : TB n t b pl to ri)
    (h : ∀ a b c e g' i j rs', rs' 0 = (nI ri).toInt64 → rs' 1 = (nI (pc to)).toInt64 → rs' 2 = (nI pl).toInt64 → P ((-100) - nI pl) a b c e g' i j 0 maps (nI d) g 1 rs') : M_X8_read (nI n) y1 y2 y3 y4 tg (nI t) b fi0 la0 g (nI d) maps hr rs P := by
  obtain ⟨T, ht, hb, hG, hF, e2, e3⟩ := hs
  refine s_X8_read ho hg hd hm ht hb (fun _ => ?_) (fun hG' => absurd (hG.symm.trans hG') (by decide))
  intro a b c e g' i j rs' hrs
  rw [hF]
  refine h a b c e g' i j rs' ?_ ?_ ?_
  · rw [hrs 0 (by omega), rdR, if_pos rfl, hF, e3]
  · rw [hrs 1 (by omega), rdR, if_neg (by omega), if_pos rfl, hF, e2]
  · rw [hrs 2 (by omega), rdR, if_neg (by omega), if_neg (by omega), hF]
end RX
