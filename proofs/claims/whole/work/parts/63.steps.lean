/-! One step of the law: what both sides answer, and the state they come to. -/
theorem OkD.le {n d d' : Nat} {D : Nat → Nat → Nat} (h : OkD n d D) (hd : d' ≤ d) : OkD n d' D := ⟨Nat.le_trans hd h.1, fun k hk => h.2 k (Nat.lt_of_lt_of_le hk hd)⟩
theorem OkD.nil {n d d' : Nat} {D : Nat → Nat → Nat} (h : OkD n d D) {n' : Nat} (hd : d' = 0) : OkD n' d' D := ⟨by omega, fun k hk => by omega⟩
theorem HasD.le {d d' : Nat} {D : Nat → Nat → Nat} {m : Nat → Int32} (h : HasD d D m) (hd : d' ≤ d) : HasD d' D m := fun k hk => h k (Nat.lt_of_lt_of_le hk hd)
theorem HasW.le {d d' : Nat} {D : Nat → Nat → Nat} {m : Nat → Int32} (h : HasW d D m) (hd : d' ≤ d) : HasW d' D m := fun k hk => h k (Nat.lt_of_lt_of_le hk hd)
theorem OkF_id2 {n : Nat} (h2 : 2 ≤ n) (h8 : n ≤ 8) : OkF n id := ⟨h2, h8, fun _ h => h, fun _ _ => rfl⟩
theorem nI_inj2 {a b : Nat} (ha : a < 2 ^ 31) (hb : b < 2 ^ 31) (h : nI a = nI b) : a = b := by
  have h1 := congrArg Int32.toNatClampNeg h
  rwa [nI_clamp ha, nI_clamp hb] at h1
theorem L_points {n d : Nat} {f : Nat → Nat} {D : Nat → Nat → Nat} {g g9 : Nat → Int32} (x : Int32) (ho : OkF n f) (hd : OkD n d D) (hg : Has8 f g) (hg9 : Has8 f g9) :
    ∃ (r : Int32) (n' d' : Nat) (f' : Nat → Nat), OkF n' f' ∧ d' ≤ d ∧ OkD n' d' D ∧ M_X8_points x (nI n) g (nI d) (fun r' s' g' a' => r' = r ∧ s' = nI n' ∧ Has8 f' g' ∧ a' = nI d') ∧ M_X9_points x (nI n) (nI d) g9 (fun r' s' a' g' => r' = r ∧ s' = nI n' ∧ a' = nI d' ∧ Has8 f' g') := by
  by_cases hb : x < 2 ∨ 8 < x
  · have no : ∀ k, 2 ≤ k → k ≤ 8 → x = nI k → False := fun k h2 h8 e => by
      subst e
      rcases hb with h | h
      · rw [show (2 : Int32) = nI 2 from rfl] at h
        exact absurd h (Int32.not_lt.mpr ((nI_leI (by omega) (by omega)).mpr h2))
      · rw [show (8 : Int32) = nI 8 from rfl] at h
        exact absurd h (Int32.not_lt.mpr ((nI_leI (by omega) (by omega)).mpr h8))
    exact ⟨-2, n, d, f, ho, Nat.le_refl _, hd, s_X8_points (fun _ => ⟨rfl, rfl, hg, rfl⟩) (fun k g' h2 h8 e _ => absurd (no k h2 h8 e) id), s_X9_points (fun _ => ⟨rfl, rfl, rfl, hg9⟩) (fun k g' h2 h8 e _ => absurd (no k h2 h8 e) id)⟩
  · obtain ⟨k, k2, k8, e⟩ : ∃ k, 2 ≤ k ∧ k ≤ 8 ∧ x = nI k := by
      have q1 : ¬ x < 2 := fun h => hb (Or.inl h)
      have q2 : ¬ 8 < x := fun h => hb (Or.inr h)
      exact in_rng 2 8 q1 q2
    refine ⟨nI n, k, 0, id, OkF_id2 k2 k8, Nat.zero_le _, hd.nil rfl, s_X8_points (fun h => absurd h hb) (fun j g' h2 h8 e' hg' => ?_), s_X9_points (fun h => absurd h hb) (fun j g' h2 h8 e' hg' => ?_)⟩
    · exact ⟨rfl, e, hg', rfl⟩
    · exact ⟨rfl, e, rfl, hg'⟩
theorem L_way {w d : Nat} (x : Int32) (hw : w ≤ 1) : ∃ (r : Int32) (w' d' : Nat), w' ≤ 1 ∧ d' ≤ d ∧ M_X8_way x (nI w) (nI d) (fun r' a c => r' = r ∧ a = nI w' ∧ c = nI d') ∧ M_X9_way x (nI w) (nI d) (fun r' a c => r' = r ∧ a = nI w' ∧ c = nI d') := by
  by_cases h0 : x = 0
  · exact ⟨nI w, 0, 0, by omega, Nat.zero_le _, s_X8_way (fun h _ => absurd h0 h) (fun _ => ⟨rfl, h0, rfl⟩), s_X9_way (fun h _ => absurd h0 h) (fun _ => ⟨rfl, h0, rfl⟩)⟩
  · by_cases h1 : x = 1
    · exact ⟨nI w, 1, 0, by omega, Nat.zero_le _, s_X8_way (fun _ h => absurd h1 h) (fun _ => ⟨rfl, h1, rfl⟩), s_X9_way (fun _ h => absurd h1 h) (fun _ => ⟨rfl, h1, rfl⟩)⟩
    · exact ⟨-2, w, d, hw, Nat.le_refl _, s_X8_way (fun _ _ => ⟨rfl, rfl, rfl⟩) (fun h => (h.elim h0 h1).elim), s_X9_way (fun _ _ => ⟨rfl, rfl, rfl⟩) (fun h => (h.elim h0 h1).elim)⟩
theorem L_lead {n d : Nat} {f : Nat → Nat} {D : Nat → Nat → Nat} {g g9 maps were : Nat → Int32} (x1 x2 : Int32) (ho : OkF n f) (hd : OkD n d D) (hg : Has8 f g) (hg9 : Has8 f g9) (hm : HasD d D maps) (hm9 : HasW d D were) :
    ∃ (r : Int32) (d' : Nat) (D' : Nat → Nat → Nat) (f' : Nat → Nat), OkF n f' ∧ OkD n d' D' ∧ M_X8_lead x1 x2 (nI n) g (nI d) maps (fun r' m a g' => r' = r ∧ HasD d' D' m ∧ a = nI d' ∧ Has8 f' g') ∧ M_X9_lead x1 x2 (nI n) (nI d) g9 were (fun r' a m g' => r' = r ∧ a = nI d' ∧ HasW d' D' m ∧ Has8 f' g') := by
  have h8 := ho.2.1
  by_cases hb : (x1 < 0 ∨ nI n ≤ x1) ∨ (x2 < 0 ∨ nI n ≤ x2)
  · have no1 : ∀ i, i < n → ¬ (nI i < 0 ∨ nI n ≤ nI i) := fun i hi h => by
      rcases h with h | h
      · exact absurd h (nI_pos (by omega))
      · exact absurd ((nI_leI (by omega) (by omega)).mp h) (by omega)
    have no : ∀ i j, i < n → j < n → x1 = nI i → x2 = nI j → False := fun i j hi hj e1 e2 => by
      subst e1; subst e2
      exact hb.elim (no1 i hi) (no1 j hj)
    exact ⟨-2, d, D, f, ho, hd, s_X8_lead ho hg hd.1 hm (fun _ => ⟨rfl, hm, rfl, hg⟩) (fun i j m' g' hi hj e1 e2 _ _ => absurd (no i j hi hj e1 e2) id), s_X9_lead ho hg9 hd.1 hm9 (fun _ => ⟨rfl, rfl, hm9, hg9⟩) (fun i j m' g' hi hj e1 e2 _ _ => absurd (no i j hi hj e1 e2) id)⟩
  · have get : ∀ x : Int32, ¬ (x < 0 ∨ nI n ≤ x) → ∃ i, i < n ∧ x = nI i := fun x h => by
      obtain ⟨i, hi, e, -⟩ := pk_mu (fun q => h (Or.inl q)) (fun q => h (Or.inr q)) (show n < 2 ^ 31 by omega)
      exact ⟨i, hi, e⟩
    obtain ⟨i, hi, e1⟩ := get x1 (fun h => hb (Or.inl h))
    obtain ⟨j, hj, e2⟩ := get x2 (fun h => hb (Or.inr h))
    have same : ∀ a b, a < n → b < n → x1 = nI a → x2 = nI b → a = i ∧ b = j := fun a b ha hb' q1 q2 => ⟨nI_inj2 (by omega) (by omega) (q1.symm.trans e1), nI_inj2 (by omega) (by omega) (q2.symm.trans e2)⟩
    refine ⟨nI (f i), nd d, nD d D f, uf f i j, uf_ok ho hi hj, OkD_nD hd ho, s_X8_lead ho hg hd.1 hm (fun h => absurd h hb) (fun a b m' g' ha hb' q1 q2 hm' hg' => ?_), s_X9_lead ho hg9 hd.1 hm9 (fun h => absurd h hb) (fun a b m' g' ha hb' q1 q2 hm' hg' => ?_)⟩
    · obtain ⟨rfl, rfl⟩ := same a b ha hb' q1 q2
      exact ⟨rfl, hm', rfl, hg'⟩
    · obtain ⟨rfl, rfl⟩ := same a b ha hb' q1 q2
      exact ⟨rfl, rfl, hm', hg'⟩
theorem L_turn {n d : Nat} {f : Nat → Nat} {D : Nat → Nat → Nat} {g g9 maps were tl tl9 : Nat → Int32} (x1 x2 x3 : Int32) (ho : OkF n f) (hd : OkD n d D) (hg : Has8 f g) (hg9 : Has8 f g9) (hm : HasD d D maps) (hm9 : HasW d D were) :
    ∃ (r : Int32) (d' : Nat) (D' : Nat → Nat → Nat) (f' : Nat → Nat), OkF n f' ∧ OkD n d' D' ∧ M_X8_turn x1 x2 x3 g (nI d) maps (nI n) tl (fun r' m a _ g' => r' = r ∧ HasD d' D' m ∧ a = nI d' ∧ Has8 f' g') ∧ M_X9_turn x1 x2 x3 (nI d) g9 were (nI n) tl9 (fun r' a m g' _ => r' = r ∧ a = nI d' ∧ HasW d' D' m ∧ Has8 f' g') := by
  by_cases hb : trBad x1 x2 x3
  · exact ⟨-2, d, D, f, ho, hd, s_X8_turn ho hg hd.1 hm (fun _ => ⟨rfl, hm, rfl, hg⟩) (fun m v c m' t' g' h => absurd hb h), s_X9_turn ho hg9 hd.1 hm9 (fun _ => ⟨rfl, rfl, hm9, hg9⟩) (fun m v c m' t' g' h => absurd hb h)⟩
  · refine ⟨nI (trS n x1.toNatClampNeg x2.toNatClampNeg x3.toNatClampNeg f x1.toNatClampNeg).2, nd d, nD d D f, (trS n x1.toNatClampNeg x2.toNatClampNeg x3.toNatClampNeg f x1.toNatClampNeg).1, (trS_ok ho _).1, OkD_nD hd ho, s_X8_turn ho hg hd.1 hm (fun h => absurd h hb) (fun m v c m' t' g' _ e1 e2 e3 hm6 hv hc hm' hg' => ?_), s_X9_turn ho hg9 hd.1 hm9 (fun h => absurd h hb) (fun m v c m' t' g' _ e1 e2 e3 hm6 hv hc hm' hg' => ?_)⟩
    · have q1 : x1.toNatClampNeg = m := by rw [e1]; exact nI_clamp (by omega)
      have q2 : x2.toNatClampNeg = v := by rw [e2]; exact nI_clamp (by omega)
      have q3 : x3.toNatClampNeg = c := by rw [e3]; exact nI_clamp (by omega)
      rw [q1, q2, q3]
      exact ⟨rfl, hm', rfl, hg'⟩
    · have q1 : x1.toNatClampNeg = m := by rw [e1]; exact nI_clamp (by omega)
      have q2 : x2.toNatClampNeg = v := by rw [e2]; exact nI_clamp (by omega)
      have q3 : x3.toNatClampNeg = c := by rw [e3]; exact nI_clamp (by omega)
      rw [q1, q2, q3]
      exact ⟨rfl, rfl, hm', hg'⟩
theorem L_feed {t : Nat} {T : Nat → Nat} {b b9 : Nat → Int32} (x : Int32) (ht : OkT t T) (hb : HasT t T b) (hb9 : HasT t T b9) :
    ∃ (r : Int32) (t' : Nat) (T' : Nat → Nat), OkT t' T' ∧ M_X8_feed x (nI t) b (fun r' b' l => r' = r ∧ HasT t' T' b' ∧ l = nI t') ∧ M_X9_feed x (nI t) b9 (fun r' b' l => r' = r ∧ HasT t' T' b' ∧ l = nI t') := by
  by_cases hq : x < 0 ∨ 127 < x
  · have no : ∀ v, v < 128 → x = nI v → False := fun v hv e => by
      subst e
      rcases hq with h | h
      · exact absurd h (nI_pos (by omega))
      · rw [show (127 : Int32) = nI 127 from rfl] at h
        exact absurd h (Int32.not_lt.mpr ((nI_leI (by omega) (by omega)).mpr (by omega)))
    exact ⟨-2, t, T, ht, s_X8_feed ht hb (fun _ => ⟨rfl, hb, rfl⟩) (fun h => absurd hq h) (fun v b' _ hv e => absurd (no v hv e) id), s_X9_feed ht hb9 (fun _ => ⟨rfl, hb9, rfl⟩) (fun h => absurd hq h) (fun v b' _ hv e => absurd (no v hv e) id)⟩
  · by_cases h60 : t = 60
    · exact ⟨-4, t, T, ht, s_X8_feed ht hb (fun h => absurd h hq) (fun _ _ => ⟨rfl, hb, rfl⟩) (fun v b' h => absurd h (by omega)), s_X9_feed ht hb9 (fun h => absurd h hq) (fun _ _ => ⟨rfl, hb9, rfl⟩) (fun v b' h => absurd h (by omega))⟩
    · have h59 : t < 60 := by have := ht.1; omega
      obtain ⟨v, -, v2, e⟩ : ∃ v, 0 ≤ v ∧ v ≤ 127 ∧ x = nI v := in_rng 0 127 (fun h => hq (Or.inl h)) (fun h => hq (Or.inr h))
      refine ⟨nI (t + 1), t + 1, uf T t v, uf_okT ht h59 (by omega), s_X8_feed ht hb (fun h => absurd h hq) (fun _ h => absurd h h60) (fun u b' _ hu e' hb' => ?_), s_X9_feed ht hb9 (fun h => absurd h hq) (fun _ h => absurd h h60) (fun u b' _ hu e' hb' => ?_)⟩
      · obtain rfl : u = v := nI_inj2 (by omega) (by omega) (e'.symm.trans e)
        exact ⟨rfl, hb', rfl⟩
      · obtain rfl : u = v := nI_inj2 (by omega) (by omega) (e'.symm.trans e)
        exact ⟨rfl, hb', rfl⟩
theorem L_back {n d : Nat} {f : Nat → Nat} {D : Nat → Nat → Nat} {g g9 maps were : Nat → Int32} (ho : OkF n f) (hd : OkD n d D) (hg : Has8 f g) (hg9 : Has8 f g9) (hm : HasD d D maps) (hm9 : HasW d D were) :
    ∃ (r : Int32) (d' : Nat) (f' : Nat → Nat), OkF n f' ∧ d' ≤ d ∧ M_X8_back (nI d) maps g (fun r' a g' => r' = r ∧ a = nI d' ∧ Has8 f' g') ∧ M_X9_back (nI d) were g9 (fun r' a g' => r' = r ∧ a = nI d' ∧ Has8 f' g') := by
  cases d with
  | zero => exact ⟨-3, 0, f, ho, Nat.le_refl _, s_X8_back hd hm (fun _ => ⟨rfl, rfl, hg⟩) (fun e g' h => absurd h (by omega)), s_X9_back hd hm9 (fun _ => ⟨rfl, rfl, hg9⟩) (fun e g' h => absurd h (by omega))⟩
  | succ k =>
    refine ⟨nI k, k, D k, hd.2 k (Nat.lt_succ_self k), Nat.le_succ k, s_X8_back hd hm (fun h => absurd h (by omega)) (fun e g' h hg' => ?_), s_X9_back hd hm9 (fun h => absurd h (by omega)) (fun e g' h hg' => ?_)⟩
    · obtain rfl : k = e := by omega
      exact ⟨rfl, rfl, hg'⟩
    · obtain rfl : k = e := by omega
      exact ⟨rfl, rfl, hg'⟩
theorem L_undo {n w d kn kw : Nat} {f kf : Nat → Nat} {D : Nat → Nat → Nat} {im : Bool} {ks kv in9 iw9 : Int32} {g g9 kg ig : Nat → Int32} (ho : OkF n f) (hw : w ≤ 1) (hd : OkD n d D) (hg : Has8 f g) (hg9 : Has8 f g9) (hk : im = true → OkF kn kf ∧ kw ≤ 1 ∧ ks = nI kn ∧ kv = nI kw ∧ Has8 kf kg ∧ in9 = nI kn ∧ iw9 = nI kw ∧ Has8 kf ig) :
    ∃ (r : Int32) (n' w' d' : Nat) (f' : Nat → Nat), OkF n' f' ∧ w' ≤ 1 ∧ d' ≤ d ∧ OkD n' d' D ∧ M_X8_undo (if im then 1 else 0) ks (nI n) kv (nI w) kg g (nI d) (fun r' s' v' g' a' => r' = r ∧ s' = nI n' ∧ v' = nI w' ∧ Has8 f' g' ∧ a' = nI d') ∧ M_X9_undo (if im then 1 else 0) in9 (nI n) iw9 (nI w) (nI d) ig g9 (fun r' s' v' a' g' => r' = r ∧ s' = nI n' ∧ v' = nI w' ∧ a' = nI d' ∧ Has8 f' g') := by
  cases im with
  | false => exact ⟨-3, n, w, d, f, ho, hw, Nat.le_refl _, hd, s_X8_undo (f := f) (fun _ => ⟨rfl, rfl, rfl, hg, rfl⟩) (fun h => absurd rfl h) (fun g' h => absurd rfl h), s_X9_undo (f := f) (fun _ => ⟨rfl, rfl, rfl, rfl, hg9⟩) (fun h => absurd rfl h) (fun g' h => absurd rfl h)⟩
  | true =>
    obtain ⟨k1, k2, rfl, rfl, k3, rfl, rfl, k4⟩ := hk rfl
    have e1 : ¬ ((if true = true then (1 : Int32) else 0) = 0) := by decide
    exact ⟨nI kn, kn, kw, 0, kf, k1, k2, Nat.zero_le _, hd.nil rfl, s_X8_undo (f := kf) (fun h => absurd h e1) (fun _ => k3) (fun g' _ hg' => ⟨rfl, rfl, rfl, hg', rfl⟩), s_X9_undo (f := kf) (fun h => absurd h e1) (fun _ => k4) (fun g' _ hg' => ⟨rfl, rfl, rfl, rfl, hg'⟩)⟩
theorem L_read {n t d : Nat} {f T R : Nat → Nat} {D : Nat → Nat → Nat} {hr : Bool} {y1 y2 y3 y4 fi0 la0 : Int32} {g g9 tg tg9 b b9 maps were rs9 : Nat → Int32} {rs : Nat → Int64} (ho : OkF n f) (hd : OkD n d D) (hg : Has8 f g) (hg9 : Has8 f g9) (hm : HasD d D maps) (hm9 : HasW d D were) (ht : OkT t T) (hb : HasT t T b) (hb9 : HasT t T b9) (hs : hr = true → ∀ k, k < 3 → rs k = (nI (R k)).toInt64) (hs9 : hr = true → ∀ k, k < 3 → rs9 k = nI (R k)) :
    ∃ (r : Int32) (d' : Nat) (D' : Nat → Nat → Nat) (f' R' : Nat → Nat) (hr' : Bool), OkF n f' ∧ OkD n d' D' ∧
      M_X8_read (nI n) y1 y2 y3 y4 tg (nI t) b fi0 la0 g (nI d) maps (if hr then 1 else 0) rs (fun r' _ _ _ _ _ _ _ l m a g' h rs' => r' = r ∧ l = nI 0 ∧ HasD d' D' m ∧ a = nI d' ∧ Has8 f' g' ∧ h = (if hr' then 1 else 0) ∧ (hr' = true → ∀ k, k < 3 → rs' k = (nI (R' k)).toInt64)) ∧
      M_X9_read (nI t) (nI d) g9 were (nI n) tg9 (if hr then 1 else 0) rs9 b9 (fun r' l a m g' h rs' _ => r' = r ∧ l = nI 0 ∧ a = nI d' ∧ HasW d' D' m ∧ Has8 f' g' ∧ h = (if hr' then 1 else 0) ∧ (hr' = true → ∀ k, k < 3 → rs' k = nI (R' k))) := by
  cases hG : rdG n t T with
  | false =>
    refine ⟨(-100) - nI (rdF n t T), d, D, f, rdR n t T, true, ho, hd, s_X8_read ho hg hd.1 hm ht hb (fun _ => ?_) (fun h => absurd (hG.symm.trans h) (by decide)), s_X9_read ho hg9 hd.1 hm9 ht hb9 (fun _ => ?_) (fun h => absurd (hG.symm.trans h) (by decide))⟩
    · intro a b' c e g' i j rs' hrs
      exact ⟨rfl, rfl, hm, rfl, hg, rfl, fun _ => hrs⟩
    · intro rs' tg' hrs
      exact ⟨rfl, rfl, rfl, hm9, hg9, rfl, fun _ => hrs⟩
  | true =>
    have hF : rdF n t T = t := by
      unfold rdG at hG
      simp only [Bool.and_eq_true, decide_eq_true_eq] at hG
      exact hG.1
    have hV : rdV n T t := by
      have h1 := rdF_V (n := n) (T := T) (Nat.le_refl (rdF n t T))
      rwa [hF] at h1
    refine ⟨nI (rR n T t), nd d, nD d D f, rL n T t, R, hr, rL_ok ho.1 ho.2.1 hV, OkD_nD hd ho, s_X8_read ho hg hd.1 hm ht hb (fun h => absurd (hG.symm.trans h) (by decide)) (fun _ => ?_), s_X9_read ho hg9 hd.1 hm9 ht hb9 (fun h => absurd (hG.symm.trans h) (by decide)) (fun _ => ?_)⟩
    · intro a b' c e g' i j maps' g2 hm' hg'
      exact ⟨rfl, rfl, hm', rfl, hg', rfl, hs⟩
    · intro were' g2 tg' hm' hg'
      exact ⟨rfl, rfl, rfl, hm', hg', rfl, hs9⟩
