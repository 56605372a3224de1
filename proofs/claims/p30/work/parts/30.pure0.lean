/-! Pure rows: loops told with a count, numbers, bits -/
theorem LP1_ix {A1 : Type} {F : (A1 → Prop) → A1 → Prop} (I : Nat → A1 → Prop) (e : Nat) (hs : ∀ (K : A1 → Prop) (i : Nat) (a1 : A1), i ≤ e → I i a1 → (∀ (b1 : A1), i < e → I (i + 1) b1 → K b1) → F K a1) (i : Nat) (a1 : A1) (hi : i ≤ e) (h : I i a1) : ∃ n, LP1 F n a1 := by
  have key : ∀ (n i : Nat) (a1 : A1), i ≤ e → e - i < n → I i a1 → LP1 F n a1 := by
    intro n
    induction n with
    | zero => intro i a1 h1 h2; omega
    | succ n ih =>
      intro i a1 h1 h2 h3
      exact hs (LP1 F n) i a1 h1 h3 (fun b1 h4 h5 => ih (i + 1) b1 (by omega) (by omega) h5)
  exact ⟨e - i + 1, key _ i a1 hi (by omega) h⟩
theorem LP2_ix {A1 A2 : Type} {F : (A1 → A2 → Prop) → A1 → A2 → Prop} (I : Nat → A1 → A2 → Prop) (e : Nat) (hs : ∀ (K : A1 → A2 → Prop) (i : Nat) (a1 : A1) (a2 : A2), i ≤ e → I i a1 a2 → (∀ (b1 : A1) (b2 : A2), i < e → I (i + 1) b1 b2 → K b1 b2) → F K a1 a2) (i : Nat) (a1 : A1) (a2 : A2) (hi : i ≤ e) (h : I i a1 a2) : ∃ n, LP2 F n a1 a2 := by
  have key : ∀ (n i : Nat) (a1 : A1) (a2 : A2), i ≤ e → e - i < n → I i a1 a2 → LP2 F n a1 a2 := by
    intro n
    induction n with
    | zero => intro i a1 a2 h1 h2; omega
    | succ n ih =>
      intro i a1 a2 h1 h2 h3
      exact hs (LP2 F n) i a1 a2 h1 h3 (fun b1 b2 h4 h5 => ih (i + 1) b1 b2 (by omega) (by omega) h5)
  exact ⟨e - i + 1, key _ i a1 a2 hi (by omega) h⟩
theorem LP3_ix {A1 A2 A3 : Type} {F : (A1 → A2 → A3 → Prop) → A1 → A2 → A3 → Prop} (I : Nat → A1 → A2 → A3 → Prop) (e : Nat) (hs : ∀ (K : A1 → A2 → A3 → Prop) (i : Nat) (a1 : A1) (a2 : A2) (a3 : A3), i ≤ e → I i a1 a2 a3 → (∀ (b1 : A1) (b2 : A2) (b3 : A3), i < e → I (i + 1) b1 b2 b3 → K b1 b2 b3) → F K a1 a2 a3) (i : Nat) (a1 : A1) (a2 : A2) (a3 : A3) (hi : i ≤ e) (h : I i a1 a2 a3) : ∃ n, LP3 F n a1 a2 a3 := by
  have key : ∀ (n i : Nat) (a1 : A1) (a2 : A2) (a3 : A3), i ≤ e → e - i < n → I i a1 a2 a3 → LP3 F n a1 a2 a3 := by
    intro n
    induction n with
    | zero => intro i a1 a2 a3 h1 h2; omega
    | succ n ih =>
      intro i a1 a2 a3 h1 h2 h3
      exact hs (LP3 F n) i a1 a2 a3 h1 h3 (fun b1 b2 b3 h4 h5 => ih (i + 1) b1 b2 b3 (by omega) (by omega) h5)
  exact ⟨e - i + 1, key _ i a1 a2 a3 hi (by omega) h⟩
theorem LP4_ix {A1 A2 A3 A4 : Type} {F : (A1 → A2 → A3 → A4 → Prop) → A1 → A2 → A3 → A4 → Prop} (I : Nat → A1 → A2 → A3 → A4 → Prop) (e : Nat) (hs : ∀ (K : A1 → A2 → A3 → A4 → Prop) (i : Nat) (a1 : A1) (a2 : A2) (a3 : A3) (a4 : A4), i ≤ e → I i a1 a2 a3 a4 → (∀ (b1 : A1) (b2 : A2) (b3 : A3) (b4 : A4), i < e → I (i + 1) b1 b2 b3 b4 → K b1 b2 b3 b4) → F K a1 a2 a3 a4) (i : Nat) (a1 : A1) (a2 : A2) (a3 : A3) (a4 : A4) (hi : i ≤ e) (h : I i a1 a2 a3 a4) : ∃ n, LP4 F n a1 a2 a3 a4 := by
  have key : ∀ (n i : Nat) (a1 : A1) (a2 : A2) (a3 : A3) (a4 : A4), i ≤ e → e - i < n → I i a1 a2 a3 a4 → LP4 F n a1 a2 a3 a4 := by
    intro n
    induction n with
    | zero => intro i a1 a2 a3 a4 h1 h2; omega
    | succ n ih =>
      intro i a1 a2 a3 a4 h1 h2 h3
      exact hs (LP4 F n) i a1 a2 a3 a4 h1 h3 (fun b1 b2 b3 b4 h4 h5 => ih (i + 1) b1 b2 b3 b4 (by omega) (by omega) h5)
  exact ⟨e - i + 1, key _ i a1 a2 a3 a4 hi (by omega) h⟩
theorem LP5_ix {A1 A2 A3 A4 A5 : Type} {F : (A1 → A2 → A3 → A4 → A5 → Prop) → A1 → A2 → A3 → A4 → A5 → Prop} (I : Nat → A1 → A2 → A3 → A4 → A5 → Prop) (e : Nat) (hs : ∀ (K : A1 → A2 → A3 → A4 → A5 → Prop) (i : Nat) (a1 : A1) (a2 : A2) (a3 : A3) (a4 : A4) (a5 : A5), i ≤ e → I i a1 a2 a3 a4 a5 → (∀ (b1 : A1) (b2 : A2) (b3 : A3) (b4 : A4) (b5 : A5), i < e → I (i + 1) b1 b2 b3 b4 b5 → K b1 b2 b3 b4 b5) → F K a1 a2 a3 a4 a5) (i : Nat) (a1 : A1) (a2 : A2) (a3 : A3) (a4 : A4) (a5 : A5) (hi : i ≤ e) (h : I i a1 a2 a3 a4 a5) : ∃ n, LP5 F n a1 a2 a3 a4 a5 := by
  have key : ∀ (n i : Nat) (a1 : A1) (a2 : A2) (a3 : A3) (a4 : A4) (a5 : A5), i ≤ e → e - i < n → I i a1 a2 a3 a4 a5 → LP5 F n a1 a2 a3 a4 a5 := by
    intro n
    induction n with
    | zero => intro i a1 a2 a3 a4 a5 h1 h2; omega
    | succ n ih =>
      intro i a1 a2 a3 a4 a5 h1 h2 h3
      exact hs (LP5 F n) i a1 a2 a3 a4 a5 h1 h3 (fun b1 b2 b3 b4 b5 h4 h5 => ih (i + 1) b1 b2 b3 b4 b5 (by omega) (by omega) h5)
  exact ⟨e - i + 1, key _ i a1 a2 a3 a4 a5 hi (by omega) h⟩
theorem LP6_ix {A1 A2 A3 A4 A5 A6 : Type} {F : (A1 → A2 → A3 → A4 → A5 → A6 → Prop) → A1 → A2 → A3 → A4 → A5 → A6 → Prop} (I : Nat → A1 → A2 → A3 → A4 → A5 → A6 → Prop) (e : Nat) (hs : ∀ (K : A1 → A2 → A3 → A4 → A5 → A6 → Prop) (i : Nat) (a1 : A1) (a2 : A2) (a3 : A3) (a4 : A4) (a5 : A5) (a6 : A6), i ≤ e → I i a1 a2 a3 a4 a5 a6 → (∀ (b1 : A1) (b2 : A2) (b3 : A3) (b4 : A4) (b5 : A5) (b6 : A6), i < e → I (i + 1) b1 b2 b3 b4 b5 b6 → K b1 b2 b3 b4 b5 b6) → F K a1 a2 a3 a4 a5 a6) (i : Nat) (a1 : A1) (a2 : A2) (a3 : A3) (a4 : A4) (a5 : A5) (a6 : A6) (hi : i ≤ e) (h : I i a1 a2 a3 a4 a5 a6) : ∃ n, LP6 F n a1 a2 a3 a4 a5 a6 := by
  have key : ∀ (n i : Nat) (a1 : A1) (a2 : A2) (a3 : A3) (a4 : A4) (a5 : A5) (a6 : A6), i ≤ e → e - i < n → I i a1 a2 a3 a4 a5 a6 → LP6 F n a1 a2 a3 a4 a5 a6 := by
    intro n
    induction n with
    | zero => intro i a1 a2 a3 a4 a5 a6 h1 h2; omega
    | succ n ih =>
      intro i a1 a2 a3 a4 a5 a6 h1 h2 h3
      exact hs (LP6 F n) i a1 a2 a3 a4 a5 a6 h1 h3 (fun b1 b2 b3 b4 b5 b6 h4 h5 => ih (i + 1) b1 b2 b3 b4 b5 b6 (by omega) (by omega) h5)
  exact ⟨e - i + 1, key _ i a1 a2 a3 a4 a5 a6 hi (by omega) h⟩
theorem LP7_ix {A1 A2 A3 A4 A5 A6 A7 : Type} {F : (A1 → A2 → A3 → A4 → A5 → A6 → A7 → Prop) → A1 → A2 → A3 → A4 → A5 → A6 → A7 → Prop} (I : Nat → A1 → A2 → A3 → A4 → A5 → A6 → A7 → Prop) (e : Nat) (hs : ∀ (K : A1 → A2 → A3 → A4 → A5 → A6 → A7 → Prop) (i : Nat) (a1 : A1) (a2 : A2) (a3 : A3) (a4 : A4) (a5 : A5) (a6 : A6) (a7 : A7), i ≤ e → I i a1 a2 a3 a4 a5 a6 a7 → (∀ (b1 : A1) (b2 : A2) (b3 : A3) (b4 : A4) (b5 : A5) (b6 : A6) (b7 : A7), i < e → I (i + 1) b1 b2 b3 b4 b5 b6 b7 → K b1 b2 b3 b4 b5 b6 b7) → F K a1 a2 a3 a4 a5 a6 a7) (i : Nat) (a1 : A1) (a2 : A2) (a3 : A3) (a4 : A4) (a5 : A5) (a6 : A6) (a7 : A7) (hi : i ≤ e) (h : I i a1 a2 a3 a4 a5 a6 a7) : ∃ n, LP7 F n a1 a2 a3 a4 a5 a6 a7 := by
  have key : ∀ (n i : Nat) (a1 : A1) (a2 : A2) (a3 : A3) (a4 : A4) (a5 : A5) (a6 : A6) (a7 : A7), i ≤ e → e - i < n → I i a1 a2 a3 a4 a5 a6 a7 → LP7 F n a1 a2 a3 a4 a5 a6 a7 := by
    intro n
    induction n with
    | zero => intro i a1 a2 a3 a4 a5 a6 a7 h1 h2; omega
    | succ n ih =>
      intro i a1 a2 a3 a4 a5 a6 a7 h1 h2 h3
      exact hs (LP7 F n) i a1 a2 a3 a4 a5 a6 a7 h1 h3 (fun b1 b2 b3 b4 b5 b6 b7 h4 h5 => ih (i + 1) b1 b2 b3 b4 b5 b6 b7 (by omega) (by omega) h5)
  exact ⟨e - i + 1, key _ i a1 a2 a3 a4 a5 a6 a7 hi (by omega) h⟩
theorem LP8_ix {A1 A2 A3 A4 A5 A6 A7 A8 : Type} {F : (A1 → A2 → A3 → A4 → A5 → A6 → A7 → A8 → Prop) → A1 → A2 → A3 → A4 → A5 → A6 → A7 → A8 → Prop} (I : Nat → A1 → A2 → A3 → A4 → A5 → A6 → A7 → A8 → Prop) (e : Nat) (hs : ∀ (K : A1 → A2 → A3 → A4 → A5 → A6 → A7 → A8 → Prop) (i : Nat) (a1 : A1) (a2 : A2) (a3 : A3) (a4 : A4) (a5 : A5) (a6 : A6) (a7 : A7) (a8 : A8), i ≤ e → I i a1 a2 a3 a4 a5 a6 a7 a8 → (∀ (b1 : A1) (b2 : A2) (b3 : A3) (b4 : A4) (b5 : A5) (b6 : A6) (b7 : A7) (b8 : A8), i < e → I (i + 1) b1 b2 b3 b4 b5 b6 b7 b8 → K b1 b2 b3 b4 b5 b6 b7 b8) → F K a1 a2 a3 a4 a5 a6 a7 a8) (i : Nat) (a1 : A1) (a2 : A2) (a3 : A3) (a4 : A4) (a5 : A5) (a6 : A6) (a7 : A7) (a8 : A8) (hi : i ≤ e) (h : I i a1 a2 a3 a4 a5 a6 a7 a8) : ∃ n, LP8 F n a1 a2 a3 a4 a5 a6 a7 a8 := by
  have key : ∀ (n i : Nat) (a1 : A1) (a2 : A2) (a3 : A3) (a4 : A4) (a5 : A5) (a6 : A6) (a7 : A7) (a8 : A8), i ≤ e → e - i < n → I i a1 a2 a3 a4 a5 a6 a7 a8 → LP8 F n a1 a2 a3 a4 a5 a6 a7 a8 := by
    intro n
    induction n with
    | zero => intro i a1 a2 a3 a4 a5 a6 a7 a8 h1 h2; omega
    | succ n ih =>
      intro i a1 a2 a3 a4 a5 a6 a7 a8 h1 h2 h3
      exact hs (LP8 F n) i a1 a2 a3 a4 a5 a6 a7 a8 h1 h3 (fun b1 b2 b3 b4 b5 b6 b7 b8 h4 h5 => ih (i + 1) b1 b2 b3 b4 b5 b6 b7 b8 (by omega) (by omega) h5)
  exact ⟨e - i + 1, key _ i a1 a2 a3 a4 a5 a6 a7 a8 hi (by omega) h⟩
theorem LP9_ix {A1 A2 A3 A4 A5 A6 A7 A8 A9 : Type} {F : (A1 → A2 → A3 → A4 → A5 → A6 → A7 → A8 → A9 → Prop) → A1 → A2 → A3 → A4 → A5 → A6 → A7 → A8 → A9 → Prop} (I : Nat → A1 → A2 → A3 → A4 → A5 → A6 → A7 → A8 → A9 → Prop) (e : Nat) (hs : ∀ (K : A1 → A2 → A3 → A4 → A5 → A6 → A7 → A8 → A9 → Prop) (i : Nat) (a1 : A1) (a2 : A2) (a3 : A3) (a4 : A4) (a5 : A5) (a6 : A6) (a7 : A7) (a8 : A8) (a9 : A9), i ≤ e → I i a1 a2 a3 a4 a5 a6 a7 a8 a9 → (∀ (b1 : A1) (b2 : A2) (b3 : A3) (b4 : A4) (b5 : A5) (b6 : A6) (b7 : A7) (b8 : A8) (b9 : A9), i < e → I (i + 1) b1 b2 b3 b4 b5 b6 b7 b8 b9 → K b1 b2 b3 b4 b5 b6 b7 b8 b9) → F K a1 a2 a3 a4 a5 a6 a7 a8 a9) (i : Nat) (a1 : A1) (a2 : A2) (a3 : A3) (a4 : A4) (a5 : A5) (a6 : A6) (a7 : A7) (a8 : A8) (a9 : A9) (hi : i ≤ e) (h : I i a1 a2 a3 a4 a5 a6 a7 a8 a9) : ∃ n, LP9 F n a1 a2 a3 a4 a5 a6 a7 a8 a9 := by
  have key : ∀ (n i : Nat) (a1 : A1) (a2 : A2) (a3 : A3) (a4 : A4) (a5 : A5) (a6 : A6) (a7 : A7) (a8 : A8) (a9 : A9), i ≤ e → e - i < n → I i a1 a2 a3 a4 a5 a6 a7 a8 a9 → LP9 F n a1 a2 a3 a4 a5 a6 a7 a8 a9 := by
    intro n
    induction n with
    | zero => intro i a1 a2 a3 a4 a5 a6 a7 a8 a9 h1 h2; omega
    | succ n ih =>
      intro i a1 a2 a3 a4 a5 a6 a7 a8 a9 h1 h2 h3
      exact hs (LP9 F n) i a1 a2 a3 a4 a5 a6 a7 a8 a9 h1 h3 (fun b1 b2 b3 b4 b5 b6 b7 b8 b9 h4 h5 => ih (i + 1) b1 b2 b3 b4 b5 b6 b7 b8 b9 (by omega) (by omega) h5)
  exact ⟨e - i + 1, key _ i a1 a2 a3 a4 a5 a6 a7 a8 a9 hi (by omega) h⟩
theorem LP10_ix {A1 A2 A3 A4 A5 A6 A7 A8 A9 A10 : Type} {F : (A1 → A2 → A3 → A4 → A5 → A6 → A7 → A8 → A9 → A10 → Prop) → A1 → A2 → A3 → A4 → A5 → A6 → A7 → A8 → A9 → A10 → Prop} (I : Nat → A1 → A2 → A3 → A4 → A5 → A6 → A7 → A8 → A9 → A10 → Prop) (e : Nat) (hs : ∀ (K : A1 → A2 → A3 → A4 → A5 → A6 → A7 → A8 → A9 → A10 → Prop) (i : Nat) (a1 : A1) (a2 : A2) (a3 : A3) (a4 : A4) (a5 : A5) (a6 : A6) (a7 : A7) (a8 : A8) (a9 : A9) (a10 : A10), i ≤ e → I i a1 a2 a3 a4 a5 a6 a7 a8 a9 a10 → (∀ (b1 : A1) (b2 : A2) (b3 : A3) (b4 : A4) (b5 : A5) (b6 : A6) (b7 : A7) (b8 : A8) (b9 : A9) (b10 : A10), i < e → I (i + 1) b1 b2 b3 b4 b5 b6 b7 b8 b9 b10 → K b1 b2 b3 b4 b5 b6 b7 b8 b9 b10) → F K a1 a2 a3 a4 a5 a6 a7 a8 a9 a10) (i : Nat) (a1 : A1) (a2 : A2) (a3 : A3) (a4 : A4) (a5 : A5) (a6 : A6) (a7 : A7) (a8 : A8) (a9 : A9) (a10 : A10) (hi : i ≤ e) (h : I i a1 a2 a3 a4 a5 a6 a7 a8 a9 a10) : ∃ n, LP10 F n a1 a2 a3 a4 a5 a6 a7 a8 a9 a10 := by
  have key : ∀ (n i : Nat) (a1 : A1) (a2 : A2) (a3 : A3) (a4 : A4) (a5 : A5) (a6 : A6) (a7 : A7) (a8 : A8) (a9 : A9) (a10 : A10), i ≤ e → e - i < n → I i a1 a2 a3 a4 a5 a6 a7 a8 a9 a10 → LP10 F n a1 a2 a3 a4 a5 a6 a7 a8 a9 a10 := by
    intro n
    induction n with
    | zero => intro i a1 a2 a3 a4 a5 a6 a7 a8 a9 a10 h1 h2; omega
    | succ n ih =>
      intro i a1 a2 a3 a4 a5 a6 a7 a8 a9 a10 h1 h2 h3
      exact hs (LP10 F n) i a1 a2 a3 a4 a5 a6 a7 a8 a9 a10 h1 h3 (fun b1 b2 b3 b4 b5 b6 b7 b8 b9 b10 h4 h5 => ih (i + 1) b1 b2 b3 b4 b5 b6 b7 b8 b9 b10 (by omega) (by omega) h5)
  exact ⟨e - i + 1, key _ i a1 a2 a3 a4 a5 a6 a7 a8 a9 a10 hi (by omega) h⟩
theorem LP11_ix {A1 A2 A3 A4 A5 A6 A7 A8 A9 A10 A11 : Type} {F : (A1 → A2 → A3 → A4 → A5 → A6 → A7 → A8 → A9 → A10 → A11 → Prop) → A1 → A2 → A3 → A4 → A5 → A6 → A7 → A8 → A9 → A10 → A11 → Prop} (I : Nat → A1 → A2 → A3 → A4 → A5 → A6 → A7 → A8 → A9 → A10 → A11 → Prop) (e : Nat) (hs : ∀ (K : A1 → A2 → A3 → A4 → A5 → A6 → A7 → A8 → A9 → A10 → A11 → Prop) (i : Nat) (a1 : A1) (a2 : A2) (a3 : A3) (a4 : A4) (a5 : A5) (a6 : A6) (a7 : A7) (a8 : A8) (a9 : A9) (a10 : A10) (a11 : A11), i ≤ e → I i a1 a2 a3 a4 a5 a6 a7 a8 a9 a10 a11 → (∀ (b1 : A1) (b2 : A2) (b3 : A3) (b4 : A4) (b5 : A5) (b6 : A6) (b7 : A7) (b8 : A8) (b9 : A9) (b10 : A10) (b11 : A11), i < e → I (i + 1) b1 b2 b3 b4 b5 b6 b7 b8 b9 b10 b11 → K b1 b2 b3 b4 b5 b6 b7 b8 b9 b10 b11) → F K a1 a2 a3 a4 a5 a6 a7 a8 a9 a10 a11) (i : Nat) (a1 : A1) (a2 : A2) (a3 : A3) (a4 : A4) (a5 : A5) (a6 : A6) (a7 : A7) (a8 : A8) (a9 : A9) (a10 : A10) (a11 : A11) (hi : i ≤ e) (h : I i a1 a2 a3 a4 a5 a6 a7 a8 a9 a10 a11) : ∃ n, LP11 F n a1 a2 a3 a4 a5 a6 a7 a8 a9 a10 a11 := by
  have key : ∀ (n i : Nat) (a1 : A1) (a2 : A2) (a3 : A3) (a4 : A4) (a5 : A5) (a6 : A6) (a7 : A7) (a8 : A8) (a9 : A9) (a10 : A10) (a11 : A11), i ≤ e → e - i < n → I i a1 a2 a3 a4 a5 a6 a7 a8 a9 a10 a11 → LP11 F n a1 a2 a3 a4 a5 a6 a7 a8 a9 a10 a11 := by
    intro n
    induction n with
    | zero => intro i a1 a2 a3 a4 a5 a6 a7 a8 a9 a10 a11 h1 h2; omega
    | succ n ih =>
      intro i a1 a2 a3 a4 a5 a6 a7 a8 a9 a10 a11 h1 h2 h3
      exact hs (LP11 F n) i a1 a2 a3 a4 a5 a6 a7 a8 a9 a10 a11 h1 h3 (fun b1 b2 b3 b4 b5 b6 b7 b8 b9 b10 b11 h4 h5 => ih (i + 1) b1 b2 b3 b4 b5 b6 b7 b8 b9 b10 b11 (by omega) (by omega) h5)
  exact ⟨e - i + 1, key _ i a1 a2 a3 a4 a5 a6 a7 a8 a9 a10 a11 hi (by omega) h⟩
theorem LP12_ix {A1 A2 A3 A4 A5 A6 A7 A8 A9 A10 A11 A12 : Type} {F : (A1 → A2 → A3 → A4 → A5 → A6 → A7 → A8 → A9 → A10 → A11 → A12 → Prop) → A1 → A2 → A3 → A4 → A5 → A6 → A7 → A8 → A9 → A10 → A11 → A12 → Prop} (I : Nat → A1 → A2 → A3 → A4 → A5 → A6 → A7 → A8 → A9 → A10 → A11 → A12 → Prop) (e : Nat) (hs : ∀ (K : A1 → A2 → A3 → A4 → A5 → A6 → A7 → A8 → A9 → A10 → A11 → A12 → Prop) (i : Nat) (a1 : A1) (a2 : A2) (a3 : A3) (a4 : A4) (a5 : A5) (a6 : A6) (a7 : A7) (a8 : A8) (a9 : A9) (a10 : A10) (a11 : A11) (a12 : A12), i ≤ e → I i a1 a2 a3 a4 a5 a6 a7 a8 a9 a10 a11 a12 → (∀ (b1 : A1) (b2 : A2) (b3 : A3) (b4 : A4) (b5 : A5) (b6 : A6) (b7 : A7) (b8 : A8) (b9 : A9) (b10 : A10) (b11 : A11) (b12 : A12), i < e → I (i + 1) b1 b2 b3 b4 b5 b6 b7 b8 b9 b10 b11 b12 → K b1 b2 b3 b4 b5 b6 b7 b8 b9 b10 b11 b12) → F K a1 a2 a3 a4 a5 a6 a7 a8 a9 a10 a11 a12) (i : Nat) (a1 : A1) (a2 : A2) (a3 : A3) (a4 : A4) (a5 : A5) (a6 : A6) (a7 : A7) (a8 : A8) (a9 : A9) (a10 : A10) (a11 : A11) (a12 : A12) (hi : i ≤ e) (h : I i a1 a2 a3 a4 a5 a6 a7 a8 a9 a10 a11 a12) : ∃ n, LP12 F n a1 a2 a3 a4 a5 a6 a7 a8 a9 a10 a11 a12 := by
  have key : ∀ (n i : Nat) (a1 : A1) (a2 : A2) (a3 : A3) (a4 : A4) (a5 : A5) (a6 : A6) (a7 : A7) (a8 : A8) (a9 : A9) (a10 : A10) (a11 : A11) (a12 : A12), i ≤ e → e - i < n → I i a1 a2 a3 a4 a5 a6 a7 a8 a9 a10 a11 a12 → LP12 F n a1 a2 a3 a4 a5 a6 a7 a8 a9 a10 a11 a12 := by
    intro n
    induction n with
    | zero => intro i a1 a2 a3 a4 a5 a6 a7 a8 a9 a10 a11 a12 h1 h2; omega
    | succ n ih =>
      intro i a1 a2 a3 a4 a5 a6 a7 a8 a9 a10 a11 a12 h1 h2 h3
      exact hs (LP12 F n) i a1 a2 a3 a4 a5 a6 a7 a8 a9 a10 a11 a12 h1 h3 (fun b1 b2 b3 b4 b5 b6 b7 b8 b9 b10 b11 b12 h4 h5 => ih (i + 1) b1 b2 b3 b4 b5 b6 b7 b8 b9 b10 b11 b12 (by omega) (by omega) h5)
  exact ⟨e - i + 1, key _ i a1 a2 a3 a4 a5 a6 a7 a8 a9 a10 a11 a12 hi (by omega) h⟩
theorem LP13_ix {A1 A2 A3 A4 A5 A6 A7 A8 A9 A10 A11 A12 A13 : Type} {F : (A1 → A2 → A3 → A4 → A5 → A6 → A7 → A8 → A9 → A10 → A11 → A12 → A13 → Prop) → A1 → A2 → A3 → A4 → A5 → A6 → A7 → A8 → A9 → A10 → A11 → A12 → A13 → Prop} (I : Nat → A1 → A2 → A3 → A4 → A5 → A6 → A7 → A8 → A9 → A10 → A11 → A12 → A13 → Prop) (e : Nat) (hs : ∀ (K : A1 → A2 → A3 → A4 → A5 → A6 → A7 → A8 → A9 → A10 → A11 → A12 → A13 → Prop) (i : Nat) (a1 : A1) (a2 : A2) (a3 : A3) (a4 : A4) (a5 : A5) (a6 : A6) (a7 : A7) (a8 : A8) (a9 : A9) (a10 : A10) (a11 : A11) (a12 : A12) (a13 : A13), i ≤ e → I i a1 a2 a3 a4 a5 a6 a7 a8 a9 a10 a11 a12 a13 → (∀ (b1 : A1) (b2 : A2) (b3 : A3) (b4 : A4) (b5 : A5) (b6 : A6) (b7 : A7) (b8 : A8) (b9 : A9) (b10 : A10) (b11 : A11) (b12 : A12) (b13 : A13), i < e → I (i + 1) b1 b2 b3 b4 b5 b6 b7 b8 b9 b10 b11 b12 b13 → K b1 b2 b3 b4 b5 b6 b7 b8 b9 b10 b11 b12 b13) → F K a1 a2 a3 a4 a5 a6 a7 a8 a9 a10 a11 a12 a13) (i : Nat) (a1 : A1) (a2 : A2) (a3 : A3) (a4 : A4) (a5 : A5) (a6 : A6) (a7 : A7) (a8 : A8) (a9 : A9) (a10 : A10) (a11 : A11) (a12 : A12) (a13 : A13) (hi : i ≤ e) (h : I i a1 a2 a3 a4 a5 a6 a7 a8 a9 a10 a11 a12 a13) : ∃ n, LP13 F n a1 a2 a3 a4 a5 a6 a7 a8 a9 a10 a11 a12 a13 := by
  have key : ∀ (n i : Nat) (a1 : A1) (a2 : A2) (a3 : A3) (a4 : A4) (a5 : A5) (a6 : A6) (a7 : A7) (a8 : A8) (a9 : A9) (a10 : A10) (a11 : A11) (a12 : A12) (a13 : A13), i ≤ e → e - i < n → I i a1 a2 a3 a4 a5 a6 a7 a8 a9 a10 a11 a12 a13 → LP13 F n a1 a2 a3 a4 a5 a6 a7 a8 a9 a10 a11 a12 a13 := by
    intro n
    induction n with
    | zero => intro i a1 a2 a3 a4 a5 a6 a7 a8 a9 a10 a11 a12 a13 h1 h2; omega
    | succ n ih =>
      intro i a1 a2 a3 a4 a5 a6 a7 a8 a9 a10 a11 a12 a13 h1 h2 h3
      exact hs (LP13 F n) i a1 a2 a3 a4 a5 a6 a7 a8 a9 a10 a11 a12 a13 h1 h3 (fun b1 b2 b3 b4 b5 b6 b7 b8 b9 b10 b11 b12 b13 h4 h5 => ih (i + 1) b1 b2 b3 b4 b5 b6 b7 b8 b9 b10 b11 b12 b13 (by omega) (by omega) h5)
  exact ⟨e - i + 1, key _ i a1 a2 a3 a4 a5 a6 a7 a8 a9 a10 a11 a12 a13 hi (by omega) h⟩
theorem LP14_ix {A1 A2 A3 A4 A5 A6 A7 A8 A9 A10 A11 A12 A13 A14 : Type} {F : (A1 → A2 → A3 → A4 → A5 → A6 → A7 → A8 → A9 → A10 → A11 → A12 → A13 → A14 → Prop) → A1 → A2 → A3 → A4 → A5 → A6 → A7 → A8 → A9 → A10 → A11 → A12 → A13 → A14 → Prop} (I : Nat → A1 → A2 → A3 → A4 → A5 → A6 → A7 → A8 → A9 → A10 → A11 → A12 → A13 → A14 → Prop) (e : Nat) (hs : ∀ (K : A1 → A2 → A3 → A4 → A5 → A6 → A7 → A8 → A9 → A10 → A11 → A12 → A13 → A14 → Prop) (i : Nat) (a1 : A1) (a2 : A2) (a3 : A3) (a4 : A4) (a5 : A5) (a6 : A6) (a7 : A7) (a8 : A8) (a9 : A9) (a10 : A10) (a11 : A11) (a12 : A12) (a13 : A13) (a14 : A14), i ≤ e → I i a1 a2 a3 a4 a5 a6 a7 a8 a9 a10 a11 a12 a13 a14 → (∀ (b1 : A1) (b2 : A2) (b3 : A3) (b4 : A4) (b5 : A5) (b6 : A6) (b7 : A7) (b8 : A8) (b9 : A9) (b10 : A10) (b11 : A11) (b12 : A12) (b13 : A13) (b14 : A14), i < e → I (i + 1) b1 b2 b3 b4 b5 b6 b7 b8 b9 b10 b11 b12 b13 b14 → K b1 b2 b3 b4 b5 b6 b7 b8 b9 b10 b11 b12 b13 b14) → F K a1 a2 a3 a4 a5 a6 a7 a8 a9 a10 a11 a12 a13 a14) (i : Nat) (a1 : A1) (a2 : A2) (a3 : A3) (a4 : A4) (a5 : A5) (a6 : A6) (a7 : A7) (a8 : A8) (a9 : A9) (a10 : A10) (a11 : A11) (a12 : A12) (a13 : A13) (a14 : A14) (hi : i ≤ e) (h : I i a1 a2 a3 a4 a5 a6 a7 a8 a9 a10 a11 a12 a13 a14) : ∃ n, LP14 F n a1 a2 a3 a4 a5 a6 a7 a8 a9 a10 a11 a12 a13 a14 := by
  have key : ∀ (n i : Nat) (a1 : A1) (a2 : A2) (a3 : A3) (a4 : A4) (a5 : A5) (a6 : A6) (a7 : A7) (a8 : A8) (a9 : A9) (a10 : A10) (a11 : A11) (a12 : A12) (a13 : A13) (a14 : A14), i ≤ e → e - i < n → I i a1 a2 a3 a4 a5 a6 a7 a8 a9 a10 a11 a12 a13 a14 → LP14 F n a1 a2 a3 a4 a5 a6 a7 a8 a9 a10 a11 a12 a13 a14 := by
    intro n
    induction n with
    | zero => intro i a1 a2 a3 a4 a5 a6 a7 a8 a9 a10 a11 a12 a13 a14 h1 h2; omega
    | succ n ih =>
      intro i a1 a2 a3 a4 a5 a6 a7 a8 a9 a10 a11 a12 a13 a14 h1 h2 h3
      exact hs (LP14 F n) i a1 a2 a3 a4 a5 a6 a7 a8 a9 a10 a11 a12 a13 a14 h1 h3 (fun b1 b2 b3 b4 b5 b6 b7 b8 b9 b10 b11 b12 b13 b14 h4 h5 => ih (i + 1) b1 b2 b3 b4 b5 b6 b7 b8 b9 b10 b11 b12 b13 b14 (by omega) (by omega) h5)
  exact ⟨e - i + 1, key _ i a1 a2 a3 a4 a5 a6 a7 a8 a9 a10 a11 a12 a13 a14 hi (by omega) h⟩
theorem z_idx {i n : Nat} (h : i < n) (hn : n < 2 ^ 31) : vp_in (nI i) n := vp_in_nI h hn
theorem z_cl {i : Nat} (h : i < 2 ^ 31) : (nI i).toNatClampNeg = i := nI_clamp h
theorem z_lt_t {a b : Nat} (ha : a < 2 ^ 31) (hb : b < 2 ^ 31) : nI a ≤ nI b ↔ a ≤ b := nI_leI ha hb
theorem z_sh1 : ∀ k, k < 31 → (1 : Int32) <<< (nI k &&& 31) = nI (2 ^ k) := by decide +kernel
theorem z_or (a b : Nat) : nI a ||| nI b = nI (a ||| b) := by
  apply Int32.toBitVec_inj.1
  show BitVec.ofNat 32 a ||| BitVec.ofNat 32 b = BitVec.ofNat 32 (a ||| b)
  apply BitVec.eq_of_getLsbD_eq
  intro i hi
  simp [hi]
theorem z_and (a b : Nat) : nI a &&& nI b = nI (a &&& b) := by
  apply Int32.toBitVec_inj.1
  show BitVec.ofNat 32 a &&& BitVec.ofNat 32 b = BitVec.ofNat 32 (a &&& b)
  apply BitVec.eq_of_getLsbD_eq
  intro i hi
  simp [hi]
theorem z_bit : ∀ S, S < 256 → ∀ k, k < 9 → (nI S >>> (nI k &&& 31)) &&& 1 = nI (if S.testBit k then 1 else 0) := by decide +kernel
/-! drawers -/
/-! led on, k times -/
def it (f : Nat → Nat) : Nat → Nat → Nat
  | 0, x => x
  | k + 1, x => f (it f k x)
theorem it_add (f : Nat → Nat) (a b x : Nat) : it f (a + b) x = it f a (it f b x) := by
  induction a with
  | zero => rw [Nat.zero_add]; rfl
  | succ a ih =>
    rw [Nat.succ_add]
    show f (it f (a + b) x) = f (it f a (it f b x))
    rw [ih]
theorem it_lt {f : Nat → Nat} {n : Nat} (hf : ∀ i, i < n → f i < n) (k : Nat) {x : Nat} (hx : x < n) : it f k x < n := by
  induction k with
  | zero => exact hx
  | succ k ih => exact hf _ ih
theorem it_mul {f : Nat → Nat} {p a : Nat} (h : it f p a = a) (k : Nat) : it f (p * k) a = a := by
  induction k with
  | zero => rfl
  | succ k ih => rw [Nat.mul_succ, it_add, h, ih]
theorem it_mod {f : Nat → Nat} {p a : Nat} (h : it f p a = a) (k : Nat) : it f k a = it f (k % p) a := by
  conv => lhs; rw [← Nat.mod_add_div k p]
  rw [it_add, it_mul h]
/-- on a ring -/
def Rd (n : Nat) (f : Nat → Nat) (a : Nat) : Prop := ∃ p, 1 ≤ p ∧ p ≤ n ∧ it f p a = a
theorem Rd_behind {f : Nat → Nat} {n : Nat} (hf : ∀ i, i < n → f i < n) {x : Nat} (hx : x < n) : Rd n f (it f n x) := by
  obtain ⟨i, j, h1, h2, h3⟩ := fb_twice (m := n) (n := n + 1) (f := fun k => it f k x) (fun i _ => it_lt hf i hx) (by omega)
  have h3 : it f i x = it f j x := h3
  refine ⟨j - i, by omega, by omega, ?_⟩
  have e1 : it f n x = it f (n - i) (it f i x) := by rw [← it_add]; congr 1; omega
  rw [e1, ← it_add, Nat.add_comm, it_add, ← it_add (a := j - i)]
  rw [show j - i + i = j by omega, ← h3]
theorem Rd_next {f : Nat → Nat} {n a : Nat} (h : Rd n f a) (k : Nat) : Rd n f (it f k a) := by
  obtain ⟨p, h1, h2, h3⟩ := h
  refine ⟨p, h1, h2, ?_⟩
  rw [← it_add, Nat.add_comm, it_add, h3]
/-- what is come to from a point on a ring -/
theorem Ob_n {f : Nat → Nat} {n a : Nat} (h : Rd n f a) (k : Nat) : ∃ s, s < n ∧ it f s a = it f k a := by
  obtain ⟨p, h1, h2, h3⟩ := h
  exact ⟨k % p, Nat.lt_of_lt_of_le (Nat.mod_lt _ h1) h2, (it_mod h3 k).symm⟩
theorem Ob_back {f : Nat → Nat} {n a : Nat} (h : Rd n f a) (k : Nat) : ∃ s, it f s (it f k a) = a := by
  obtain ⟨p, h1, h2, h3⟩ := h
  refine ⟨p * k - k, ?_⟩
  have hk : k ≤ p * k := Nat.le_mul_of_pos_left k h1
  rw [← it_add, Nat.sub_add_cancel hk, it_mul h3]
/-- the points that are come to behind n steps, as bits -/
def rsA (n : Nat) (f : Nat → Nat) (x : Nat) : Nat → Nat
  | 0 => 0
  | k + 1 => rsA n f x k ||| 2 ^ it f (n + k) x
def rs (n : Nat) (f : Nat → Nat) (x : Nat) : Nat := rsA n f x n
theorem tb_pow (j i : Nat) : (2 ^ j).testBit i = decide (j = i) := by
  rw [Nat.testBit_two_pow]
theorem rsA_bit (n : Nat) (f : Nat → Nat) (x j : Nat) : ∀ k, (rsA n f x k).testBit j = true ↔ ∃ s, s < k ∧ it f (n + s) x = j
  | 0 => by
    constructor
    · intro h; simp [rsA] at h
    · rintro ⟨s, h, -⟩; omega
  | k + 1 => by
    rw [rsA, Nat.testBit_or, Bool.or_eq_true, rsA_bit n f x j k, tb_pow, decide_eq_true_iff]
    constructor
    · rintro (⟨s, h1, h2⟩ | h)
      · exact ⟨s, by omega, h2⟩
      · exact ⟨k, by omega, h⟩
    · rintro ⟨s, h1, h2⟩
      rcases Nat.lt_or_ge s k with q | q
      · exact Or.inl ⟨s, q, h2⟩
      · exact Or.inr (by rw [show k = s by omega]; exact h2)
theorem rs_bit {n : Nat} {f : Nat → Nat} (hf : ∀ i, i < n → f i < n) {x : Nat} (hx : x < n) (j : Nat) : (rs n f x).testBit j = true ↔ ∃ k, it f k (it f n x) = j := by
  rw [rs, rsA_bit]
  constructor
  · rintro ⟨s, h1, h2⟩
    exact ⟨s, by rw [← it_add, Nat.add_comm]; exact h2⟩
  · rintro ⟨k, h⟩
    obtain ⟨s, h1, h2⟩ := Ob_n (Rd_behind hf hx) k
    exact ⟨s, h1, by rw [Nat.add_comm, it_add, h2]; exact h⟩
theorem or_lt256 {a b : Nat} (ha : a < 256) (hb : b < 256) : a ||| b < 256 := Nat.or_lt_two_pow (n := 8) ha hb
theorem pow_lt256 {k : Nat} (h : k < 8) : 2 ^ k < 256 := Nat.pow_lt_pow_of_lt (a := 2) (n := k) (m := 8) (by omega) h
theorem rsA_lt {n : Nat} {f : Nat → Nat} (hf : ∀ i, i < n → f i < n) (hn : n ≤ 8) {x : Nat} (hx : x < n) : ∀ k, rsA n f x k < 256
  | 0 => by show 0 < 256; omega
  | k + 1 => or_lt256 (rsA_lt hf hn hx k) (pow_lt256 (Nat.lt_of_lt_of_le (it_lt hf _ hx) hn))
theorem rs_lt {n : Nat} {f : Nat → Nat} (hf : ∀ i, i < n → f i < n) (hn : n ≤ 8) {x : Nat} (hx : x < n) : rs n f x < 256 := rsA_lt hf hn hx n
/-- what both sides know of where the points are led -/
def OkL (n : Nat) (f : Nat → Nat) : Prop := 2 ≤ n ∧ n ≤ 8 ∧ ∀ i, i < n → f i < n
def HasL (n : Nat) (f : Nat → Nat) (g : Nat → Int32) : Prop := ∀ i, i < n → g i = nI (f i)
theorem s_X0_ringBits {n x : Nat} {f : Nat → Nat} {g : Nat → Int32} {P : Int32 → Prop} (ho : OkL n f) (hg : HasL n f g) (hx : x < n) (h : P (nI (rs n f x))) : M_X0_ringBits (nI x) (nI n) g P := by
  obtain ⟨h2, h8, hf⟩ := ho
  refine LP2_ix (fun i a b => a = nI (it f i x) ∧ b = nI i) n ?_ 0 _ _ (Nat.zero_le _) ⟨rfl, rfl⟩
  rintro K i a b hi ⟨rfl, rfl⟩ hK
  have hl : it f i x < n := it_lt hf i hx
  refine And.intro (fun c => ?_) (fun c => ?_)
  · rw [nI_leI (by omega) (by omega)] at c
    have e : i = n := by omega
    subst e
    refine LP3_ix (fun k a b c => a = nI (it f (i + k) x) ∧ b = nI (rsA i f x k) ∧ c = nI k) i ?_ 0 _ _ _ (Nat.zero_le _) ⟨rfl, rfl, rfl⟩
    rintro K k a b c hi ⟨rfl, rfl, rfl⟩ hK
    have hl : it f (i + k) x < i := it_lt hf _ hx
    refine And.intro (fun c => ?_) (fun c => ?_)
    · rw [nI_leI (by omega) (by omega)] at c
      have e : k = i := by omega
      subst e
      exact h
    · rw [nI_leI (by omega) (by omega)] at c
      refine And.intro (vp_in_nI (by omega) (by omega)) (hK _ _ _ (by omega) ⟨?_, ?_, nI_1 k⟩)
      · rw [nI_clamp (by omega), hg _ hl]; rfl
      · rw [z_sh1 _ (by omega), z_or]; rfl
  · rw [nI_leI (by omega) (by omega)] at c
    refine And.intro (vp_in_nI (by omega) (by omega)) (hK _ _ (by omega) ⟨?_, nI_1 i⟩)
    rw [nI_clamp (by omega), hg _ hl]; rfl

