/-! The pictures of the methods, by program out of their bytecode: the rest is told as an argument. -/
def M_X0_startWith_l7 (x1 : Int32) (P : Int32 → (Nat → Int32) → Prop) (v_p0_size : Int32) (K7 : Int32 → (Nat → Int32) → Prop) (l2 : Int32) (f_p0_led : (Nat → Int32)) : Prop :=
(((8 : Int32) ≤ l2) → (
P v_p0_size f_p0_led)) ∧ (¬ ((8 : Int32) ≤ l2) → (
vp_in l2 8 ∧ (
K7 (l2 + 1) (upd f_p0_led l2.toNatClampNeg l2))))
def M_X0_startWith (x1 : Int32) (v_p0_size : Int32) (f_p0_led : (Nat → Int32)) (P : Int32 → (Nat → Int32) → Prop) : Prop :=
∃ n : Nat, LP2 (M_X0_startWith_l7 x1 P x1) n (0 : Int32) f_p0_led
def M_X0_leadAll (f_p1 : (Nat → Int32)) (f_p0_led : (Nat → Int32)) (P : (Nat → Int32) → Prop) : Prop :=
(¬ (0 : Int32) < 0 ∧ ¬ (0 : Int32) < 0 ∧ ¬ (8 : Int32) < 0 ∧ (0 : Int32).toNatClampNeg + (8 : Int32).toNatClampNeg ≤ 8 ∧ (0 : Int32).toNatClampNeg + (8 : Int32).toNatClampNeg ≤ 8) ∧ (
P (va_cpy f_p1 f_p0_led (0 : Int32).toNatClampNeg (0 : Int32).toNatClampNeg (8 : Int32).toNatClampNeg))
def M_X0_become (v_p1_size : Int32) (v_p0_size : Int32) (v_p1_way : Int32) (v_p0_way : Int32) (f_p1_led : (Nat → Int32)) (f_p0_led : (Nat → Int32)) (P : Int32 → Int32 → (Nat → Int32) → Prop) : Prop :=
M_X0_leadAll f_p1_led f_p0_led (fun (m1_0 : (Nat → Int32)) =>
P v_p1_size v_p1_way m1_0)
def M_X0_holds (x1 : Int32) (v_p0_size : Int32) (P : Int32 → Prop) : Prop :=
((x1 < 0) → (
P (0 : Int32))) ∧ (¬ (x1 < 0) → (
((v_p0_size ≤ x1) → (
P (0 : Int32))) ∧ (¬ (v_p0_size ≤ x1) → (
P (1 : Int32)))))
def M_X0_pieceNumber (v_p0_way : Int32) (v_p0_size : Int32) (P : Int32 → Prop) : Prop :=
((v_p0_way = (1 : Int32)) → (
P v_p0_size)) ∧ (¬ (v_p0_way = (1 : Int32)) → (
P (v_p0_size - (1 : Int32))))
def M_X0_figures_l4 (v_p0_size : Int32) (f_p0_led : (Nat → Int32)) (P : Int32 → Prop)  (K4 : Int32 → Int32 → Prop) (l1 : Int32) (l2 : Int32) : Prop :=
((v_p0_size ≤ l2) → (
P l1)) ∧ (¬ (v_p0_size ≤ l2) → (
vp_in l2 8 ∧ (
K4 ((l1 * (10 : Int32)) + (f_p0_led l2.toNatClampNeg)) (l2 + 1))))
def M_X0_figures (v_p0_size : Int32) (f_p0_led : (Nat → Int32)) (P : Int32 → Prop) : Prop :=
∃ n : Nat, LP2 (M_X0_figures_l4 v_p0_size f_p0_led P ) n (0 : Int32) (0 : Int32)
def M_X0_packed_l5 (f_p0_led : (Nat → Int32)) (P : Int32 → Prop)  (K5 : Int32 → Int32 → Prop) (l1 : Int32) (l2 : Int32) : Prop :=
((l2 < 0) → (
P l1)) ∧ (¬ (l2 < 0) → (
vp_in l2 8 ∧ (
∀ y3 : Int32, y3 = ((l1 <<< ((3 : Int32) &&& 31)) ||| (f_p0_led l2.toNatClampNeg)) →
K5 y3 (l2 + (-1)))))
def M_X0_packed (f_p0_led : (Nat → Int32)) (P : Int32 → Prop) : Prop :=
∃ n : Nat, LP2 (M_X0_packed_l5 f_p0_led P ) n (0 : Int32) (7 : Int32)
def M_X0_unpack_l2 (x1 : Int32) (P : (Nat → Int32) → Prop)  (K2 : Int32 → (Nat → Int32) → Prop) (l2 : Int32) (f_p0_led : (Nat → Int32)) : Prop :=
(((8 : Int32) ≤ l2) → (
P f_p0_led)) ∧ (¬ ((8 : Int32) ≤ l2) → (
vp_in l2 8 ∧ (
K2 (l2 + 1) (upd f_p0_led l2.toNatClampNeg ((x1 >>> ((l2 * (3 : Int32)) &&& 31)) &&& (7 : Int32))))))
def M_X0_unpack (x1 : Int32) (f_p0_led : (Nat → Int32)) (P : (Nat → Int32) → Prop) : Prop :=
∃ n : Nat, LP2 (M_X0_unpack_l2 x1 P ) n (0 : Int32) f_p0_led
def M_X0_ringBits_l30 (x1 : Int32) (v_p0_size : Int32) (f_p0_led : (Nat → Int32)) (P : Int32 → Prop)  (K30 : Int32 → Int32 → Int32 → Prop) (l2 : Int32) (l3 : Int32) (l4 : Int32) : Prop :=
((v_p0_size ≤ l4) → (
P l3)) ∧ (¬ (v_p0_size ≤ l4) → (
vp_in l2 8 ∧ (
K30 (f_p0_led l2.toNatClampNeg) (l3 ||| ((1 : Int32) <<< (l2 &&& 31))) (l4 + 1))))
def M_X0_ringBits_l4 (x1 : Int32) (v_p0_size : Int32) (f_p0_led : (Nat → Int32)) (P : Int32 → Prop)  (K4 : Int32 → Int32 → Prop) (l2 : Int32) (l3 : Int32) : Prop :=
((v_p0_size ≤ l3) → (
∃ n : Nat, LP3 (M_X0_ringBits_l30 x1 v_p0_size f_p0_led P ) n l2 (0 : Int32) (0 : Int32))) ∧ (¬ (v_p0_size ≤ l3) → (
vp_in l2 8 ∧ (
K4 (f_p0_led l2.toNatClampNeg) (l3 + 1))))
def M_X0_ringBits (x1 : Int32) (v_p0_size : Int32) (f_p0_led : (Nat → Int32)) (P : Int32 → Prop) : Prop :=
∃ n : Nat, LP2 (M_X0_ringBits_l4 x1 v_p0_size f_p0_led P ) n x1 (0 : Int32)
def M_X0_tailOf_l11 (x1 : Int32) (v_p0_size : Int32) (f_p0_led : (Nat → Int32)) (P : Int32 → Prop) (l2 : Int32) (K11 : Int32 → Int32 → Prop) (l3 : Int32) (l4 : Int32) : Prop :=
((v_p0_size ≤ l4) → (
P l4)) ∧ (¬ (v_p0_size ≤ l4) → (
((((l2 >>> (l3 &&& 31)) &&& (1 : Int32)) = 0) → (
vp_in l3 8 ∧ (
K11 (f_p0_led l3.toNatClampNeg) (l4 + 1)))) ∧ (¬ (((l2 >>> (l3 &&& 31)) &&& (1 : Int32)) = 0) → (
P l4))))
def M_X0_tailOf (x1 : Int32) (v_p0_size : Int32) (f_p0_led : (Nat → Int32)) (P : Int32 → Prop) : Prop :=
M_X0_ringBits x1 v_p0_size f_p0_led (fun (r1 : Int32) =>
∃ n : Nat, LP2 (M_X0_tailOf_l11 x1 v_p0_size f_p0_led P r1) n x1 (0 : Int32))
def M_X0_isLeastOfRing (x1 : Int32) (v_p0_size : Int32) (f_p0_led : (Nat → Int32)) (P : Int32 → Prop) : Prop :=
M_X0_ringBits x1 v_p0_size f_p0_led (fun (r1 : Int32) =>
((((r1 >>> (x1 &&& 31)) &&& (1 : Int32)) = (1 : Int32)) → (
(((r1 &&& (((1 : Int32) <<< (x1 &&& 31)) - (1 : Int32))) = 0) → (
P (1 : Int32))) ∧ (¬ ((r1 &&& (((1 : Int32) <<< (x1 &&& 31)) - (1 : Int32))) = 0) → (
P (0 : Int32))))) ∧ (¬ (((r1 >>> (x1 &&& 31)) &&& (1 : Int32)) = (1 : Int32)) → (
P (0 : Int32))))
def M_X0_leastOfRing_l4 (x1 : Int32) (v_p0_size : Int32) (f_p0_led : (Nat → Int32)) (P : Int32 → Prop)  (K4 : Int32 → Int32 → Prop) (l2 : Int32) (l3 : Int32) : Prop :=
((v_p0_size ≤ l3) → (
P (-1 : Int32))) ∧ (¬ (v_p0_size ≤ l3) → (
M_X0_isLeastOfRing l3 v_p0_size f_p0_led (fun (r2 : Int32) =>
((r2 = 0) → (
K4 l2 (l3 + 1))) ∧ (¬ (r2 = 0) → (
((l2 = x1) → (
P l3)) ∧ (¬ (l2 = x1) → (
K4 (l2 + 1) (l3 + 1))))))))
def M_X0_leastOfRing (x1 : Int32) (v_p0_size : Int32) (f_p0_led : (Nat → Int32)) (P : Int32 → Prop) : Prop :=
∃ n : Nat, LP2 (M_X0_leastOfRing_l4 x1 v_p0_size f_p0_led P ) n (0 : Int32) (0 : Int32)
def M_X0_ringNumber_l4 (v_p0_size : Int32) (f_p0_led : (Nat → Int32)) (P : Int32 → Prop)  (K4 : Int32 → Int32 → Prop) (l1 : Int32) (l2 : Int32) : Prop :=
((v_p0_size ≤ l2) → (
P l1)) ∧ (¬ (v_p0_size ≤ l2) → (
M_X0_isLeastOfRing l2 v_p0_size f_p0_led (fun (r2 : Int32) =>
((r2 = 0) → (
K4 l1 (l2 + 1))) ∧ (¬ (r2 = 0) → (
K4 (l1 + 1) (l2 + 1))))))
def M_X0_ringNumber (v_p0_size : Int32) (f_p0_led : (Nat → Int32)) (P : Int32 → Prop) : Prop :=
∃ n : Nat, LP2 (M_X0_ringNumber_l4 v_p0_size f_p0_led P ) n (0 : Int32) (0 : Int32)
def M_J6_bitCount_0f7a4 (x0 : Int32) (P : Int32 → Prop) : Prop :=
∀ y1 : Int32, y1 = (x0 - ((x0.toUInt32 >>> ((1 : Int32).toUInt32 &&& Int32.toUInt32 31)).toInt32 &&& (1431655765 : Int32))) →
∀ y2 : Int32, y2 = ((y1 &&& (858993459 : Int32)) + ((y1.toUInt32 >>> ((2 : Int32).toUInt32 &&& Int32.toUInt32 31)).toInt32 &&& (858993459 : Int32))) →
∀ y3 : Int32, y3 = ((y2 + (y2.toUInt32 >>> ((4 : Int32).toUInt32 &&& Int32.toUInt32 31)).toInt32) &&& (252645135 : Int32)) →
∀ y4 : Int32, y4 = (y3 + (y3.toUInt32 >>> ((8 : Int32).toUInt32 &&& Int32.toUInt32 31)).toInt32) →
∀ y5 : Int32, y5 = (y4 + (y4.toUInt32 >>> ((16 : Int32).toUInt32 &&& Int32.toUInt32 31)).toInt32) →
P (y5 &&& (63 : Int32))
def M_X0_pointsOnRings_l4 (v_p0_size : Int32) (f_p0_led : (Nat → Int32)) (P : Int32 → Prop)  (K4 : Int32 → Int32 → Prop) (l1 : Int32) (l2 : Int32) : Prop :=
((v_p0_size ≤ l2) → (
M_J6_bitCount_0f7a4 l1 (fun (r2 : Int32) =>
P r2))) ∧ (¬ (v_p0_size ≤ l2) → (
M_X0_ringBits l2 v_p0_size f_p0_led (fun (r3 : Int32) =>
K4 (l1 ||| r3) (l2 + 1))))
def M_X0_pointsOnRings (v_p0_size : Int32) (f_p0_led : (Nat → Int32)) (P : Int32 → Prop) : Prop :=
∃ n : Nat, LP2 (M_X0_pointsOnRings_l4 v_p0_size f_p0_led P ) n (0 : Int32) (0 : Int32)
def M_X0_greatestRing_l4 (v_p0_size : Int32) (f_p0_led : (Nat → Int32)) (P : Int32 → Prop)  (K4 : Int32 → Int32 → Prop) (l1 : Int32) (l2 : Int32) : Prop :=
((v_p0_size ≤ l2) → (
P l1)) ∧ (¬ (v_p0_size ≤ l2) → (
M_X0_ringBits l2 v_p0_size f_p0_led (fun (r2 : Int32) =>
M_J6_bitCount_0f7a4 r2 (fun (r3 : Int32) =>
K4 (if l1 < r3 then r3 else l1) (l2 + 1)))))
def M_X0_greatestRing (v_p0_size : Int32) (f_p0_led : (Nat → Int32)) (P : Int32 → Prop) : Prop :=
∃ n : Nat, LP2 (M_X0_greatestRing_l4 v_p0_size f_p0_led P ) n (0 : Int32) (0 : Int32)
def M_X0_ringSizes_l4 (v_p0_size : Int32) (f_p0_led : (Nat → Int32)) (P : Int32 → Prop)  (K4 : Int32 → Int32 → Prop) (l1 : Int32) (l2 : Int32) : Prop :=
((v_p0_size ≤ l2) → (
P l1)) ∧ (¬ (v_p0_size ≤ l2) → (
M_X0_ringBits l2 v_p0_size f_p0_led (fun (r2 : Int32) =>
M_J6_bitCount_0f7a4 r2 (fun (r3 : Int32) =>
K4 (l1 ||| ((1 : Int32) <<< (r3 &&& 31))) (l2 + 1)))))
def M_X0_ringSizes (v_p0_size : Int32) (f_p0_led : (Nat → Int32)) (P : Int32 → Prop) : Prop :=
∃ n : Nat, LP2 (M_X0_ringSizes_l4 v_p0_size f_p0_led P ) n (0 : Int32) (0 : Int32)
def M_X0_mirror_l2 (v_p0_size : Int32) (f_p0_led : (Nat → Int32)) (P : (Nat → Int32) → Prop)  (K2 : Int32 → (Nat → Int32) → Prop) (l1 : Int32) (f_p0_turnedLed : (Nat → Int32)) : Prop :=
((v_p0_size ≤ l1) → (
P f_p0_turnedLed)) ∧ (¬ (v_p0_size ≤ l1) → (
vp_in l1 8 ∧ (
vp_in ((v_p0_size - (1 : Int32)) - l1) 8 ∧ (
K2 (l1 + 1) (upd f_p0_turnedLed ((v_p0_size - (1 : Int32)) - l1).toNatClampNeg ((v_p0_size - (1 : Int32)) - (f_p0_led l1.toNatClampNeg)))))))
def M_X0_mirror (v_p0_size : Int32) (f_p0_led : (Nat → Int32)) (f_p0_turnedLed : (Nat → Int32)) (P : (Nat → Int32) → Prop) : Prop :=
∃ n : Nat, LP2 (M_X0_mirror_l2 v_p0_size f_p0_led P ) n (0 : Int32) f_p0_turnedLed
def M_X0_leadTwice_l2 (v_p0_size : Int32) (f_p0_led : (Nat → Int32)) (P : (Nat → Int32) → Prop)  (K2 : Int32 → (Nat → Int32) → Prop) (l1 : Int32) (f_p0_turnedLed : (Nat → Int32)) : Prop :=
((v_p0_size ≤ l1) → (
P f_p0_turnedLed)) ∧ (¬ (v_p0_size ≤ l1) → (
vp_in l1 8 ∧ (
vp_in (f_p0_led l1.toNatClampNeg) 8 ∧ (
vp_in l1 8 ∧ (
K2 (l1 + 1) (upd f_p0_turnedLed l1.toNatClampNeg (f_p0_led (f_p0_led l1.toNatClampNeg).toNatClampNeg)))))))
def M_X0_leadTwice (v_p0_size : Int32) (f_p0_led : (Nat → Int32)) (f_p0_turnedLed : (Nat → Int32)) (P : (Nat → Int32) → Prop) : Prop :=
∃ n : Nat, LP2 (M_X0_leadTwice_l2 v_p0_size f_p0_led P ) n (0 : Int32) f_p0_turnedLed
def M_X0_round (x1 : Int32) (v_p0_size : Int32) (P : Int32 → Prop) : Prop :=
((v_p0_size ≤ 0) → (
P (0 : Int32))) ∧ (¬ (v_p0_size ≤ 0) → (
¬ v_p0_size = 0 ∧ (
P (x1 - x1 / v_p0_size * v_p0_size))))
def M_X0_move_l2 (v_p0_size : Int32) (f_p0_led : (Nat → Int32)) (P : (Nat → Int32) → Prop)  (K2 : Int32 → (Nat → Int32) → Prop) (l1 : Int32) (f_p0_turnedLed : (Nat → Int32)) : Prop :=
((v_p0_size ≤ l1) → (
P f_p0_turnedLed)) ∧ (¬ (v_p0_size ≤ l1) → (
M_X0_round (l1 + (1 : Int32)) v_p0_size (fun (r2 : Int32) =>
vp_in l1 8 ∧ (
M_X0_round ((f_p0_led l1.toNatClampNeg) + (1 : Int32)) v_p0_size (fun (r4 : Int32) =>
vp_in r2 8 ∧ (
K2 (l1 + 1) (upd f_p0_turnedLed r2.toNatClampNeg r4)))))))
def M_X0_move (v_p0_size : Int32) (f_p0_led : (Nat → Int32)) (f_p0_turnedLed : (Nat → Int32)) (P : (Nat → Int32) → Prop) : Prop :=
∃ n : Nat, LP2 (M_X0_move_l2 v_p0_size f_p0_led P ) n (0 : Int32) f_p0_turnedLed
def M_X0_turnRound_l4 (v_p0_size : Int32) (f_p0_led : (Nat → Int32)) (P : Int32 → (Nat → Int32) → Prop)  (K4 : Int32 → Int32 → (Nat → Int32) → Prop) (l1 : Int32) (l2 : Int32) (f_p0_turnedLed : (Nat → Int32)) : Prop :=
((v_p0_size ≤ l2) → (
M_J6_bitCount_0f7a4 l1 (fun (r2 : Int32) =>
((r2 = v_p0_size) → (
P (1 : Int32) f_p0_turnedLed)) ∧ (¬ (r2 = v_p0_size) → (
P (0 : Int32) f_p0_turnedLed))))) ∧ (¬ (v_p0_size ≤ l2) → (
vp_in l2 8 ∧ (
∀ y5 : Int32, y5 = (l1 ||| ((1 : Int32) <<< ((f_p0_led l2.toNatClampNeg) &&& 31))) →
vp_in l2 8 ∧ (
vp_in (f_p0_led l2.toNatClampNeg) 8 ∧ (
K4 y5 (l2 + 1) (upd f_p0_turnedLed (f_p0_led l2.toNatClampNeg).toNatClampNeg l2))))))
def M_X0_turnRound (v_p0_size : Int32) (f_p0_led : (Nat → Int32)) (f_p0_turnedLed : (Nat → Int32)) (P : Int32 → (Nat → Int32) → Prop) : Prop :=
∃ n : Nat, LP3 (M_X0_turnRound_l4 v_p0_size f_p0_led P ) n (0 : Int32) (0 : Int32) f_p0_turnedLed
def M_X0_leadFurther_l2 (x1 : Int32) (v_p0_size : Int32) (f_p0_led : (Nat → Int32)) (P : (Nat → Int32) → Prop)  (K2 : Int32 → (Nat → Int32) → Prop) (l2 : Int32) (f_p0_turnedLed : (Nat → Int32)) : Prop :=
((v_p0_size ≤ l2) → (
P f_p0_turnedLed)) ∧ (¬ (v_p0_size ≤ l2) → (
vp_in l2 8 ∧ (
M_X0_round ((f_p0_led l2.toNatClampNeg) + x1) v_p0_size (fun (r3 : Int32) =>
vp_in l2 8 ∧ (
K2 (l2 + 1) (upd f_p0_turnedLed l2.toNatClampNeg r3))))))
def M_X0_leadFurther (x1 : Int32) (v_p0_size : Int32) (f_p0_led : (Nat → Int32)) (f_p0_turnedLed : (Nat → Int32)) (P : (Nat → Int32) → Prop) : Prop :=
∃ n : Nat, LP2 (M_X0_leadFurther_l2 x1 v_p0_size f_p0_led P ) n (0 : Int32) f_p0_turnedLed
def M_X0_turned_b76 (x1 : Int32) (x2 : Int32) (v_p0_size : Int32) (P : Int32 → (Nat → Int32) → (Nat → Int32) → Prop) (f_p0_turnedLed : (Nat → Int32)) (f_p0_led : (Nat → Int32)) : Prop :=
(¬ (0 : Int32) < 0 ∧ ¬ (0 : Int32) < 0 ∧ ¬ v_p0_size < 0 ∧ (0 : Int32).toNatClampNeg + v_p0_size.toNatClampNeg ≤ 8 ∧ (0 : Int32).toNatClampNeg + v_p0_size.toNatClampNeg ≤ 8) ∧ (
P (1 : Int32) f_p0_turnedLed (va_cpy f_p0_turnedLed f_p0_led (0 : Int32).toNatClampNeg (0 : Int32).toNatClampNeg v_p0_size.toNatClampNeg))
def M_X0_turned (x1 : Int32) (x2 : Int32) (v_p0_size : Int32) (f_p0_led : (Nat → Int32)) (f_p0_turnedLed : (Nat → Int32)) (P : Int32 → (Nat → Int32) → (Nat → Int32) → Prop) : Prop :=
(x1 = (0 : Int32) → (
M_X0_mirror v_p0_size f_p0_led f_p0_turnedLed (fun (m3_0 : (Nat → Int32)) =>
M_X0_turned_b76 x1 x2 v_p0_size P m3_0 f_p0_led))) ∧ (¬ (x1 = (0 : Int32)) → (
(x1 = (1 : Int32) → (
M_X0_leadTwice v_p0_size f_p0_led f_p0_turnedLed (fun (m4_0 : (Nat → Int32)) =>
M_X0_turned_b76 x1 x2 v_p0_size P m4_0 f_p0_led))) ∧ (¬ (x1 = (1 : Int32)) → (
(x1 = (2 : Int32) → (
M_X0_move v_p0_size f_p0_led f_p0_turnedLed (fun (m5_0 : (Nat → Int32)) =>
M_X0_turned_b76 x1 x2 v_p0_size P m5_0 f_p0_led))) ∧ (¬ (x1 = (2 : Int32)) → (
(x1 = (3 : Int32) → (
M_X0_turnRound v_p0_size f_p0_led f_p0_turnedLed (fun (r6 : Int32) (m6_0 : (Nat → Int32)) =>
((r6 = 0) → (
P (0 : Int32) m6_0 f_p0_led)) ∧ (¬ (r6 = 0) → (
M_X0_turned_b76 x1 x2 v_p0_size P m6_0 f_p0_led))))) ∧ (¬ (x1 = (3 : Int32)) → (
(x1 = (4 : Int32) → (
M_X0_leadFurther x2 v_p0_size f_p0_led f_p0_turnedLed (fun (m8_0 : (Nat → Int32)) =>
M_X0_turned_b76 x1 x2 v_p0_size P m8_0 f_p0_led))) ∧ (¬ (x1 = (4 : Int32)) → (
P (0 : Int32) f_p0_turnedLed f_p0_led))))))))))
def M_X1_forget (v_p0_amount : Int32) (P : Int32 → Prop) : Prop :=
P (0 : Int32)
def M_X1_forgetOldest_l2 (P : Int32 → (Nat → Int32) → Prop) (v_p0_amount : Int32) (K2 : Int32 → (Nat → Int32) → Prop) (l1 : Int32) (f_p0_maps : (Nat → Int32)) : Prop :=
(((10 : Int32) ≤ l1) → (
P (v_p0_amount - (1 : Int32)) f_p0_maps)) ∧ (¬ ((10 : Int32) ≤ l1) → (
vp_in l1 10 ∧ (
vp_in (l1 - (1 : Int32)) 10 ∧ (
K2 (l1 + 1) (upd f_p0_maps (l1 - (1 : Int32)).toNatClampNeg (f_p0_maps l1.toNatClampNeg))))))
def M_X1_forgetOldest (v_p0_amount : Int32) (f_p0_maps : (Nat → Int32)) (P : Int32 → (Nat → Int32) → Prop) : Prop :=
∃ n : Nat, LP2 (M_X1_forgetOldest_l2 P v_p0_amount) n (1 : Int32) f_p0_maps
def M_X1_keep (x1 : Int32) (v_p0_amount : Int32) (f_p0_maps : (Nat → Int32)) (P : (Nat → Int32) → Int32 → Prop) : Prop :=
((v_p0_amount = (10 : Int32)) → (
M_X1_forgetOldest v_p0_amount f_p0_maps (fun (m3_0 : Int32) (m3_1 : (Nat → Int32)) =>
vp_in m3_0 10 ∧ (
P (upd m3_1 m3_0.toNatClampNeg x1) (m3_0 + (1 : Int32)))))) ∧ (¬ (v_p0_amount = (10 : Int32)) → (
vp_in v_p0_amount 10 ∧ (
P (upd f_p0_maps v_p0_amount.toNatClampNeg x1) (v_p0_amount + (1 : Int32)))))
def M_X1_takeLatest (v_p0_amount : Int32) (f_p0_maps : (Nat → Int32)) (P : Int32 → Int32 → Prop) : Prop :=
((v_p0_amount ≤ 0) → (
vp_in v_p0_amount 10 ∧ (
P (f_p0_maps v_p0_amount.toNatClampNeg) v_p0_amount))) ∧ (¬ (v_p0_amount ≤ 0) → (
vp_in (v_p0_amount - (1 : Int32)) 10 ∧ (
P (f_p0_maps (v_p0_amount - (1 : Int32)).toNatClampNeg) (v_p0_amount - (1 : Int32)))))
def M_X2_ofRing (x0 : Int32) (P : Int32 → Prop) : Prop :=
((x0 = (1 : Int32)) → (
P (3 : Int32))) ∧ (¬ (x0 = (1 : Int32)) → (
((x0 = (2 : Int32)) → (
P (4 : Int32))) ∧ (¬ (x0 = (2 : Int32)) → (
(((x0 - x0 / (2 : Int32) * (2 : Int32)) = 0) → (
P (1 : Int32))) ∧ (¬ ((x0 - x0 / (2 : Int32) * (2 : Int32)) = 0) → (
P (2 : Int32)))))))
def M_X2_isUnder_l4 (x0 : Int32) (x1 : Int32) (P : Int32 → Prop)  (K4 : Int32 → Int32 → Prop) (l2 : Int32) (l3 : Int32) : Prop :=
(((4 : Int32) < l3) → (
P (0 : Int32))) ∧ (¬ ((4 : Int32) < l3) → (
((l2 < 0) → (
P (0 : Int32))) ∧ (¬ (l2 < 0) → (
(((4 : Int32) < l2) → (
P (0 : Int32))) ∧ (¬ ((4 : Int32) < l2) → (
((l2 = x1) → (
P (1 : Int32))) ∧ (¬ (l2 = x1) → (
vp_in l2 5 ∧ (
K4 (kU l2.toNatClampNeg) (l3 + 1))))))))))
def M_X2_isUnder (x0 : Int32) (x1 : Int32) (P : Int32 → Prop) : Prop :=
∃ n : Nat, LP2 (M_X2_isUnder_l4 x0 x1 P ) n x0 (0 : Int32)
def M_X3_powerIn_l2 (x0 : Int32) (P : Int32 → Prop)  (K2 : Int32 → Prop) (l1 : Int32) : Prop :=
(((31 : Int32) ≤ l1) → (
P l1)) ∧ (¬ ((31 : Int32) ≤ l1) → (
((((x0 >>> (l1 &&& 31)) &&& (1 : Int32)) = 0) → (
K2 (l1 + 1))) ∧ (¬ (((x0 >>> (l1 &&& 31)) &&& (1 : Int32)) = 0) → (
P l1))))
def M_X3_powerIn (x0 : Int32) (P : Int32 → Prop) : Prop :=
∃ n : Nat, LP1 (M_X3_powerIn_l2 x0 P ) n (0 : Int32)
def M_X3_isAhead_b32 (x0 : Int32) (x1 : Int32) (P : Int32 → Prop) (l2 : Int32) (l3 : Int32) (l4 : Int32) (l5 : Int32) : Prop :=
((l4 = (1 : Int32)) → (
((l5 = (1 : Int32)) → (
((l2 ≤ l3) → (
P (0 : Int32))) ∧ (¬ (l2 ≤ l3) → (
P (1 : Int32))))) ∧ (¬ (l5 = (1 : Int32)) → (
P (0 : Int32))))) ∧ (¬ (l4 = (1 : Int32)) → (
P (1 : Int32)))
def M_X3_isAhead (x0 : Int32) (x1 : Int32) (P : Int32 → Prop) : Prop :=
M_X3_powerIn x0 (fun (r1 : Int32) =>
M_X3_powerIn x1 (fun (r2 : Int32) =>
(((x0 >>> (r1 &&& 31)) = (1 : Int32)) → (
M_X3_isAhead_b32 x0 x1 P r1 r2 (x0 >>> (r1 &&& 31)) (x1 >>> (r2 &&& 31)))) ∧ (¬ ((x0 >>> (r1 &&& 31)) = (1 : Int32)) → (
(((x1 >>> (r2 &&& 31)) = (1 : Int32)) → (
M_X3_isAhead_b32 x0 x1 P r1 r2 (x0 >>> (r1 &&& 31)) (x1 >>> (r2 &&& 31)))) ∧ (¬ ((x1 >>> (r2 &&& 31)) = (1 : Int32)) → (
((r1 < r2) → (
P (1 : Int32))) ∧ (¬ (r1 < r2) → (
((r1 = r2) → (
(((x1 >>> (r2 &&& 31)) ≤ (x0 >>> (r1 &&& 31))) → (
P (0 : Int32))) ∧ (¬ ((x1 >>> (r2 &&& 31)) ≤ (x0 >>> (r1 &&& 31))) → (
P (1 : Int32))))) ∧ (¬ (r1 = r2) → (
P (0 : Int32)))))))))))
def M_X3_placeOf_l4 (x0 : Int32) (x1 : Int32) (P : Int32 → Prop)  (K4 : Int32 → Int32 → Prop) (l2 : Int32) (l3 : Int32) : Prop :=
((x1 < l3) → (
P l2)) ∧ (¬ (x1 < l3) → (
M_X3_isAhead l3 x0 (fun (r2 : Int32) =>
((r2 = 0) → (
K4 l2 (l3 + 1))) ∧ (¬ (r2 = 0) → (
K4 (l2 + 1) (l3 + 1))))))
def M_X3_placeOf (x0 : Int32) (x1 : Int32) (P : Int32 → Prop) : Prop :=
∃ n : Nat, LP2 (M_X3_placeOf_l4 x0 x1 P ) n (0 : Int32) (1 : Int32)
def M_X3_numberAt_l2 (x0 : Int32) (x1 : Int32) (P : Int32 → Prop)  (K2 : Int32 → Prop) (l2 : Int32) : Prop :=
((x1 < l2) → (
P (-1 : Int32))) ∧ (¬ (x1 < l2) → (
M_X3_placeOf l2 x1 (fun (r2 : Int32) =>
((r2 = x0) → (
P l2)) ∧ (¬ (r2 = x0) → (
K2 (l2 + 1))))))
def M_X3_numberAt (x0 : Int32) (x1 : Int32) (P : Int32 → Prop) : Prop :=
∃ n : Nat, LP1 (M_X3_numberAt_l2 x0 x1 P ) n (1 : Int32)
def M_X4_canBeOf (x0 : Int32) (P : Int32 → Prop) : Prop :=
((x0 < (2 : Int32)) → (
P (0 : Int32))) ∧ (¬ (x0 < (2 : Int32)) → (
(((6 : Int32) < x0) → (
P (0 : Int32))) ∧ (¬ ((6 : Int32) < x0) → (
P (1 : Int32)))))
def M_X4_at (x1 : Int32) (x2 : Int32) (f_p0_found : (Nat → Int32)) (P : Int32 → Prop) : Prop :=
vp_in x1 7 ∧ (
vp_in ((kS x1.toNatClampNeg) + x2) 153 ∧ (
P (f_p0_found ((kS x1.toNatClampNeg) + x2).toNatClampNeg)))
def M_X4_placeFor_l13 (x1 : Int32) (x2 : Int32) (f_p0_amount : (Nat → Int32)) (f_p0_found : (Nat → Int32)) (P : Int32 → Prop)  (K13 : Int32 → Int32 → Int32 → Prop) (l3 : Int32) (l4 : Int32) (l5 : Int32) : Prop :=
(((32 : Int32) ≤ l5) → (
P l3)) ∧ (¬ ((32 : Int32) ≤ l5) → (
((l4 ≤ l3) → (
P l3)) ∧ (¬ (l4 ≤ l3) → (
M_X4_at x1 ((l3 + l4) / (2 : Int32)) f_p0_found (fun (r4 : Int32) =>
((x2 ≤ r4) → (
K13 l3 ((l3 + l4) / (2 : Int32)) (l5 + 1))) ∧ (¬ (x2 ≤ r4) → (
K13 (((l3 + l4) / (2 : Int32)) + (1 : Int32)) l4 (l5 + 1))))))))
def M_X4_placeFor (x1 : Int32) (x2 : Int32) (f_p0_amount : (Nat → Int32)) (f_p0_found : (Nat → Int32)) (P : Int32 → Prop) : Prop :=
vp_in x1 7 ∧ (
∃ n : Nat, LP3 (M_X4_placeFor_l13 x1 x2 f_p0_amount f_p0_found P ) n (0 : Int32) (f_p0_amount x1.toNatClampNeg) (0 : Int32))
def M_X4_isFound (x1 : Int32) (x2 : Int32) (f_p0_amount : (Nat → Int32)) (f_p0_found : (Nat → Int32)) (P : Int32 → Prop) : Prop :=
M_X4_placeFor x1 x2 f_p0_amount f_p0_found (fun (r1 : Int32) =>
vp_in x1 7 ∧ (
(((f_p0_amount x1.toNatClampNeg) ≤ r1) → (
P (0 : Int32))) ∧ (¬ ((f_p0_amount x1.toNatClampNeg) ≤ r1) → (
M_X4_at x1 r1 f_p0_found (fun (r4 : Int32) =>
((r4 = x2) → (
P (1 : Int32))) ∧ (¬ (r4 = x2) → (
P (0 : Int32))))))))
def M_X5_between (x0 : Int32) (x1 : Int32) (P : Int32 → Prop) : Prop :=
P (((1 : Int32) <<< (x1 &&& 31)) - ((1 : Int32) <<< (x0 &&& 31)))
def M_X5_forward (x0 : Int32) (x1 : Int32) (x2 : Int32) (P : Int32 → Prop) : Prop :=
((x1 < x0) → (
M_X5_between x0 x2 (fun (r2 : Int32) =>
M_X5_between (0 : Int32) x1 (fun (r3 : Int32) =>
P (r2 ||| r3))))) ∧ (¬ (x1 < x0) → (
M_X5_between x0 x1 (fun (r4 : Int32) =>
P r4)))
def M_X5_learn_b51 (v_p1_way : Int32) (v_p1_size : Int32) (f_p1_led : (Nat → Int32)) (K15 : Int32 → Int32 → (Nat → Int32) → Prop) (P : Int32 → Int32 → (Nat → Int32) → Prop) (l2 : Int32) (l3 : Int32) (s1 : Int32) (v_p0_number : Int32) (v_p0_falling : Int32) (f_p0_covered : (Nat → Int32)) : Prop :=
vp_in s1 8 ∧ (
((v_p1_way = (1 : Int32)) → (
M_X5_forward l3 (f_p1_led s1.toNatClampNeg) v_p1_size (fun (r9 : Int32) =>
vp_in l2 8 ∧ (
K15 (l2 + 1) v_p0_falling (upd f_p0_covered l2.toNatClampNeg r9))))) ∧ (¬ (v_p1_way = (1 : Int32)) → (
M_X5_between (if (f_p1_led s1.toNatClampNeg) < l3 then (f_p1_led s1.toNatClampNeg) else l3) (if l3 < (f_p1_led s1.toNatClampNeg) then (f_p1_led s1.toNatClampNeg) else l3) (fun (r6 : Int32) =>
vp_in l2 8 ∧ (
((l3 ≤ (f_p1_led s1.toNatClampNeg)) → (
K15 (l2 + 1) (v_p0_falling ||| (0 : Int32)) (upd f_p0_covered l2.toNatClampNeg r6))) ∧ (¬ (l3 ≤ (f_p1_led s1.toNatClampNeg)) → (
K15 (l2 + 1) (v_p0_falling ||| ((1 : Int32) <<< (l2 &&& 31))) (upd f_p0_covered l2.toNatClampNeg r6))))))))
def M_X5_learn_l15 (v_p1_way : Int32) (v_p1_size : Int32) (f_p1_led : (Nat → Int32)) (P : Int32 → Int32 → (Nat → Int32) → Prop) (v_p0_number : Int32) (K15 : Int32 → Int32 → (Nat → Int32) → Prop) (l2 : Int32) (v_p0_falling : Int32) (f_p0_covered : (Nat → Int32)) : Prop :=
((v_p0_number ≤ l2) → (
P v_p0_number v_p0_falling f_p0_covered)) ∧ (¬ (v_p0_number ≤ l2) → (
vp_in l2 8 ∧ (
((v_p1_size ≤ (l2 + (1 : Int32))) → (
M_X5_learn_b51 v_p1_way v_p1_size f_p1_led K15 P l2 (f_p1_led l2.toNatClampNeg) (0 : Int32) v_p0_number v_p0_falling f_p0_covered)) ∧ (¬ (v_p1_size ≤ (l2 + (1 : Int32))) → (
M_X5_learn_b51 v_p1_way v_p1_size f_p1_led K15 P l2 (f_p1_led l2.toNatClampNeg) (l2 + (1 : Int32)) v_p0_number v_p0_falling f_p0_covered)))))
def M_X5_learn (v_p1_way : Int32) (v_p1_size : Int32) (v_p0_number : Int32) (v_p0_falling : Int32) (f_p1_led : (Nat → Int32)) (f_p0_covered : (Nat → Int32)) (P : Int32 → Int32 → (Nat → Int32) → Prop) : Prop :=
M_X0_pieceNumber v_p1_way v_p1_size (fun (r1 : Int32) =>
∃ n : Nat, LP3 (M_X5_learn_l15 v_p1_way v_p1_size f_p1_led P r1) n (0 : Int32) (0 : Int32) f_p0_covered)
def M_X4_startWith_l26 (v_p1_size : Int32) (f_p1_led : (Nat → Int32)) (v_p1_way : Int32) (P : Int32 → Int32 → Int32 → Int32 → (Nat → Int32) → (Nat → Int32) → Prop) (v_p0_soughtSize : Int32) (v_p0_soughtMap : Int32) (v_p0_pieces_number : Int32) (v_p0_pieces_falling : Int32) (f_p0_pieces_covered : (Nat → Int32)) (K26 : Int32 → (Nat → Int32) → Prop) (l2 : Int32) (f_p0_amount : (Nat → Int32)) : Prop :=
(((6 : Int32) < l2) → (
P v_p0_soughtSize v_p0_soughtMap v_p0_pieces_number v_p0_pieces_falling f_p0_pieces_covered f_p0_amount)) ∧ (¬ ((6 : Int32) < l2) → (
vp_in l2 7 ∧ (
K26 (l2 + 1) (upd f_p0_amount l2.toNatClampNeg (-1 : Int32)))))
def M_X4_startWith (v_p1_size : Int32) (v_p0_soughtSize : Int32) (f_p1_led : (Nat → Int32)) (v_p0_soughtMap : Int32) (v_p1_way : Int32) (v_p0_pieces_number : Int32) (v_p0_pieces_falling : Int32) (f_p0_pieces_covered : (Nat → Int32)) (f_p0_amount : (Nat → Int32)) (P : Int32 → Int32 → Int32 → Int32 → (Nat → Int32) → (Nat → Int32) → Prop) : Prop :=
M_X0_packed f_p1_led (fun (r1 : Int32) =>
M_X5_learn v_p1_way v_p1_size v_p0_pieces_number v_p0_pieces_falling f_p1_led f_p0_pieces_covered (fun (m2_0 : Int32) (m2_1 : Int32) (m2_2 : (Nat → Int32)) =>
∃ n : Nat, LP2 (M_X4_startWith_l26 v_p1_size f_p1_led v_p1_way P v_p1_size r1 m2_0 m2_1 m2_2) n (0 : Int32) f_p0_amount))
def M_X4_ringFigures_l4 (x0 : Int32) (v_p1_size : Int32) (f_p1_led : (Nat → Int32)) (P : Int32 → Prop)  (K4 : Int32 → Int32 → Prop) (l2 : Int32) (l3 : Int32) : Prop :=
((v_p1_size ≤ l3) → (
P l2)) ∧ (¬ (v_p1_size ≤ l3) → (
((((x0 >>> (l3 &&& 31)) &&& (1 : Int32)) = (1 : Int32)) → (
vp_in l3 8 ∧ (
∀ y4 : Int32, y4 = (x0 &&& (((1 : Int32) <<< ((f_p1_led l3.toNatClampNeg) &&& 31)) - (1 : Int32))) →
M_J6_bitCount_0f7a4 y4 (fun (r5 : Int32) =>
K4 ((l2 * (10 : Int32)) + r5) (l3 + 1))))) ∧ (¬ (((x0 >>> (l3 &&& 31)) &&& (1 : Int32)) = (1 : Int32)) → (
K4 l2 (l3 + 1)))))
def M_X4_ringFigures (x0 : Int32) (v_p1_size : Int32) (f_p1_led : (Nat → Int32)) (P : Int32 → Prop) : Prop :=
∃ n : Nat, LP2 (M_X4_ringFigures_l4 x0 v_p1_size f_p1_led P ) n (0 : Int32) (0 : Int32)
def M_X4_add_l56 (x1 : Int32) (x2 : Int32) (P : (Nat → Int32) → (Nat → Int32) → Prop) (l3 : Int32) (f_p0_amount : (Nat → Int32)) (K56 : Int32 → (Nat → Int32) → Prop) (l4 : Int32) (f_p0_found : (Nat → Int32)) : Prop :=
vp_in x1 7 ∧ (
((l4 ≤ ((kS x1.toNatClampNeg) + l3)) → (
vp_in x1 7 ∧ (
vp_in ((kS x1.toNatClampNeg) + l3) 153 ∧ (
vp_in x1 7 ∧ (
vp_in x1 7 ∧ (
P (upd f_p0_found ((kS x1.toNatClampNeg) + l3).toNatClampNeg x2) (upd f_p0_amount x1.toNatClampNeg ((f_p0_amount x1.toNatClampNeg) + (1 : Int32))))))))) ∧ (¬ (l4 ≤ ((kS x1.toNatClampNeg) + l3)) → (
vp_in (l4 - (1 : Int32)) 153 ∧ (
vp_in l4 153 ∧ (
K56 (l4 + (-1)) (upd f_p0_found l4.toNatClampNeg (f_p0_found (l4 - (1 : Int32)).toNatClampNeg)))))))
def M_X4_add_b56 (x1 : Int32) (x2 : Int32) (P : (Nat → Int32) → (Nat → Int32) → Prop) (l3 : Int32) (l4 : Int32) (f_p0_found : (Nat → Int32)) (f_p0_amount : (Nat → Int32)) : Prop :=
∃ n : Nat, LP2 (M_X4_add_l56 x1 x2 P l3 f_p0_amount) n l4 f_p0_found
def M_X4_add (x1 : Int32) (x2 : Int32) (f_p0_amount : (Nat → Int32)) (f_p0_found : (Nat → Int32)) (P : (Nat → Int32) → (Nat → Int32) → Prop) : Prop :=
M_X4_placeFor x1 x2 f_p0_amount f_p0_found (fun (r1 : Int32) =>
vp_in x1 7 ∧ (
vp_in x1 7 ∧ (
(((kM x1.toNatClampNeg) ≤ (f_p0_amount x1.toNatClampNeg)) → (
P f_p0_found f_p0_amount)) ∧ (¬ ((kM x1.toNatClampNeg) ≤ (f_p0_amount x1.toNatClampNeg)) → (
vp_in x1 7 ∧ (
(((f_p0_amount x1.toNatClampNeg) ≤ r1) → (
vp_in x1 7 ∧ (
vp_in x1 7 ∧ (
M_X4_add_b56 x1 x2 P r1 ((kS x1.toNatClampNeg) + (f_p0_amount x1.toNatClampNeg)) f_p0_found f_p0_amount)))) ∧ (¬ ((f_p0_amount x1.toNatClampNeg) ≤ r1) → (
M_X4_at x1 r1 f_p0_found (fun (r17 : Int32) =>
((r17 = x2) → (
P f_p0_found f_p0_amount)) ∧ (¬ (r17 = x2) → (
vp_in x1 7 ∧ (
vp_in x1 7 ∧ (
M_X4_add_b56 x1 x2 P r1 ((kS x1.toNatClampNeg) + (f_p0_amount x1.toNatClampNeg)) f_p0_found f_p0_amount)))))))))))))
def M_X4_addRings_l2 (x1 : Int32) (v_p2_size : Int32) (f_p2_led : (Nat → Int32)) (P : (Nat → Int32) → (Nat → Int32) → Prop)  (K2 : Int32 → (Nat → Int32) → (Nat → Int32) → Prop) (l3 : Int32) (f_p0_found : (Nat → Int32)) (f_p0_amount : (Nat → Int32)) : Prop :=
((v_p2_size ≤ l3) → (
P f_p0_found f_p0_amount)) ∧ (¬ (v_p2_size ≤ l3) → (
M_X0_ringBits l3 v_p2_size f_p2_led (fun (r2 : Int32) =>
M_X0_isLeastOfRing l3 v_p2_size f_p2_led (fun (r3 : Int32) =>
((r3 = 0) → (
K2 (l3 + 1) f_p0_found f_p0_amount)) ∧ (¬ (r3 = 0) → (
M_J6_bitCount_0f7a4 r2 (fun (r5 : Int32) =>
((r5 = x1) → (
M_X4_ringFigures r2 v_p2_size f_p2_led (fun (r7 : Int32) =>
M_X4_add x1 r7 f_p0_amount f_p0_found (fun (m8_0 : (Nat → Int32)) (m8_1 : (Nat → Int32)) =>
K2 (l3 + 1) m8_0 m8_1)))) ∧ (¬ (r5 = x1) → (
K2 (l3 + 1) f_p0_found f_p0_amount)))))))))
def M_X4_addRings (x1 : Int32) (v_p2_size : Int32) (f_p2_led : (Nat → Int32)) (f_p0_amount : (Nat → Int32)) (f_p0_found : (Nat → Int32)) (P : (Nat → Int32) → (Nat → Int32) → Prop) : Prop :=
∃ n : Nat, LP3 (M_X4_addRings_l2 x1 v_p2_size f_p2_led P ) n (0 : Int32) f_p0_found f_p0_amount
def M_X5_isCovered (x1 : Int32) (x2 : Int32) (f_p0_covered : (Nat → Int32)) (P : Int32 → Prop) : Prop :=
vp_in x2 8 ∧ (
(((((f_p0_covered x2.toNatClampNeg) >>> (x1 &&& 31)) &&& (1 : Int32)) = (1 : Int32)) → (
P (1 : Int32))) ∧ (¬ ((((f_p0_covered x2.toNatClampNeg) >>> (x1 &&& 31)) &&& (1 : Int32)) = (1 : Int32)) → (
P (0 : Int32))))
def M_X4_firstOther_l3 (x1 : Int32) (x2 : Int32) (x3 : Int32) (f_p0_loop : (Nat → Int32)) (P : Int32 → Prop)  (K3 : Int32 → Prop) (l4 : Int32) : Prop :=
((x1 ≤ l4) → (
P l4)) ∧ (¬ (x1 ≤ l4) → (
vp_in (x2 + l4) 12 ∧ (
vp_in (x3 + l4) 12 ∧ (
(((f_p0_loop (x2 + l4).toNatClampNeg) = (f_p0_loop (x3 + l4).toNatClampNeg)) → (
K3 (l4 + 1))) ∧ (¬ ((f_p0_loop (x2 + l4).toNatClampNeg) = (f_p0_loop (x3 + l4).toNatClampNeg)) → (
P l4))))))
def M_X4_firstOther (x1 : Int32) (x2 : Int32) (x3 : Int32) (f_p0_loop : (Nat → Int32)) (P : Int32 → Prop) : Prop :=
∃ n : Nat, LP1 (M_X4_firstOther_l3 x1 x2 x3 f_p0_loop P ) n (0 : Int32)
def M_X5_falls (x1 : Int32) (v_p0_falling : Int32) (P : Int32 → Prop) : Prop :=
((((v_p0_falling >>> (x1 &&& 31)) &&& (1 : Int32)) = (1 : Int32)) → (
P (1 : Int32))) ∧ (¬ (((v_p0_falling >>> (x1 &&& 31)) &&& (1 : Int32)) = (1 : Int32)) → (
P (0 : Int32)))
def M_X4_isLess_b75 (x1 : Int32) (x2 : Int32) (x3 : Int32) (f_p0_loop : (Nat → Int32)) (v_p0_pieces_falling : Int32) (P : Int32 → Prop) (s0 : Int32) (s1 : Int32) : Prop :=
((s0 = s1) → (
P (1 : Int32))) ∧ (¬ (s0 = s1) → (
P (0 : Int32)))
def M_X4_isLess_l6 (x1 : Int32) (x2 : Int32) (x3 : Int32) (f_p0_loop : (Nat → Int32)) (v_p0_pieces_falling : Int32) (P : Int32 → Prop)  (K6 : Int32 → Int32 → Prop) (l4 : Int32) (l5 : Int32) : Prop :=
((x3 ≤ l5) → (
vp_in (x1 + x3) 12 ∧ (
vp_in (x2 + x3) 12 ∧ (
(((f_p0_loop (x2 + x3).toNatClampNeg) ≤ (f_p0_loop (x1 + x3).toNatClampNeg)) → (
M_X4_isLess_b75 x1 x2 x3 f_p0_loop v_p0_pieces_falling P l4 (0 : Int32))) ∧ (¬ ((f_p0_loop (x2 + x3).toNatClampNeg) ≤ (f_p0_loop (x1 + x3).toNatClampNeg)) → (
M_X4_isLess_b75 x1 x2 x3 f_p0_loop v_p0_pieces_falling P l4 (1 : Int32))))))) ∧ (¬ (x3 ≤ l5) → (
vp_in (x1 + l5) 12 ∧ (
M_X5_falls (f_p0_loop (x1 + l5).toNatClampNeg) v_p0_pieces_falling (fun (r7 : Int32) =>
((r7 = 0) → (
K6 l4 (l5 + 1))) ∧ (¬ (r7 = 0) → (
((l4 = 0) → (
K6 (1 : Int32) (l5 + 1))) ∧ (¬ (l4 = 0) → (
K6 (0 : Int32) (l5 + 1)))))))))
def M_X4_isLess (x1 : Int32) (x2 : Int32) (x3 : Int32) (f_p0_loop : (Nat → Int32)) (v_p0_pieces_falling : Int32) (P : Int32 → Prop) : Prop :=
∃ n : Nat, LP2 (M_X4_isLess_l6 x1 x2 x3 f_p0_loop v_p0_pieces_falling P ) n (1 : Int32) (0 : Int32)
def M_X4_numberRows_l31 (x1 : Int32) (f_p0_loop : (Nat → Int32)) (v_p0_pieces_falling : Int32) (K22 : Int32 → (Nat → Int32) → Prop) (P : Int32 → (Nat → Int32) → Prop) (l2 : Int32) (K31 : Int32 → (Nat → Int32) → Prop) (l3 : Int32) (f_p0_lessRows : (Nat → Int32)) : Prop :=
((x1 ≤ l3) → (
K22 (l2 + 1) f_p0_lessRows)) ∧ (¬ (x1 ≤ l3) → (
M_X4_firstOther x1 l2 l3 f_p0_loop (fun (r4 : Int32) =>
((r4 = x1) → (
P (0 : Int32) f_p0_lessRows)) ∧ (¬ (r4 = x1) → (
M_X4_isLess l2 l3 r4 f_p0_loop v_p0_pieces_falling (fun (r6 : Int32) =>
((r6 = 0) → (
vp_in l2 6 ∧ (
vp_in l2 6 ∧ (
K31 (l3 + 1) (upd f_p0_lessRows l2.toNatClampNeg ((f_p0_lessRows l2.toNatClampNeg) + (1 : Int32))))))) ∧ (¬ (r6 = 0) → (
vp_in l3 6 ∧ (
vp_in l3 6 ∧ (
K31 (l3 + 1) (upd f_p0_lessRows l3.toNatClampNeg ((f_p0_lessRows l3.toNatClampNeg) + (1 : Int32)))))))))))))
def M_X4_numberRows_l22 (x1 : Int32) (f_p0_loop : (Nat → Int32)) (v_p0_pieces_falling : Int32) (P : Int32 → (Nat → Int32) → Prop)  (K22 : Int32 → (Nat → Int32) → Prop) (l2 : Int32) (f_p0_lessRows : (Nat → Int32)) : Prop :=
((x1 ≤ l2) → (
P (1 : Int32) f_p0_lessRows)) ∧ (¬ (x1 ≤ l2) → (
∃ n : Nat, LP2 (M_X4_numberRows_l31 x1 f_p0_loop v_p0_pieces_falling K22 P l2) n (l2 + (1 : Int32)) f_p0_lessRows))
def M_X4_numberRows_l2 (x1 : Int32) (f_p0_loop : (Nat → Int32)) (v_p0_pieces_falling : Int32) (P : Int32 → (Nat → Int32) → Prop)  (K2 : Int32 → (Nat → Int32) → Prop) (l2 : Int32) (f_p0_lessRows : (Nat → Int32)) : Prop :=
((x1 ≤ l2) → (
∃ n : Nat, LP2 (M_X4_numberRows_l22 x1 f_p0_loop v_p0_pieces_falling P ) n (0 : Int32) f_p0_lessRows)) ∧ (¬ (x1 ≤ l2) → (
vp_in l2 6 ∧ (
K2 (l2 + 1) (upd f_p0_lessRows l2.toNatClampNeg (0 : Int32)))))
def M_X4_numberRows (x1 : Int32) (f_p0_loop : (Nat → Int32)) (v_p0_pieces_falling : Int32) (f_p0_lessRows : (Nat → Int32)) (P : Int32 → (Nat → Int32) → Prop) : Prop :=
∃ n : Nat, LP2 (M_X4_numberRows_l2 x1 f_p0_loop v_p0_pieces_falling P ) n (0 : Int32) f_p0_lessRows
def M_X4_loopFigures_l47 (x1 : Int32) (f_p0_lessRows : (Nat → Int32)) (P : Int32 → (Nat → Int32) → Prop) (f_p0_leads : (Nat → Int32)) (K47 : Int32 → Int32 → Prop) (l2 : Int32) (l3 : Int32) : Prop :=
((x1 ≤ l3) → (
P l2 f_p0_leads)) ∧ (¬ (x1 ≤ l3) → (
vp_in l3 6 ∧ (
K47 ((l2 * (10 : Int32)) + (f_p0_leads l3.toNatClampNeg)) (l3 + 1))))
def M_X4_loopFigures_l2 (x1 : Int32) (f_p0_lessRows : (Nat → Int32)) (P : Int32 → (Nat → Int32) → Prop)  (K2 : Int32 → (Nat → Int32) → Prop) (l2 : Int32) (f_p0_leads : (Nat → Int32)) : Prop :=
((x1 ≤ l2) → (
∃ n : Nat, LP2 (M_X4_loopFigures_l47 x1 f_p0_lessRows P f_p0_leads) n (0 : Int32) (0 : Int32))) ∧ (¬ (x1 ≤ l2) → (
vp_in l2 6 ∧ (
((x1 ≤ (l2 + (1 : Int32))) → (
vp_in (0 : Int32) 6 ∧ (
vp_in (f_p0_lessRows l2.toNatClampNeg) 6 ∧ (
K2 (l2 + 1) (upd f_p0_leads (f_p0_lessRows l2.toNatClampNeg).toNatClampNeg (f_p0_lessRows (0 : Int32).toNatClampNeg)))))) ∧ (¬ (x1 ≤ (l2 + (1 : Int32))) → (
vp_in (l2 + (1 : Int32)) 6 ∧ (
vp_in (f_p0_lessRows l2.toNatClampNeg) 6 ∧ (
K2 (l2 + 1) (upd f_p0_leads (f_p0_lessRows l2.toNatClampNeg).toNatClampNeg (f_p0_lessRows (l2 + (1 : Int32)).toNatClampNeg)))))))))
def M_X4_loopFigures (x1 : Int32) (f_p0_leads : (Nat → Int32)) (f_p0_lessRows : (Nat → Int32)) (P : Int32 → (Nat → Int32) → Prop) : Prop :=
∃ n : Nat, LP2 (M_X4_loopFigures_l2 x1 f_p0_lessRows P ) n (0 : Int32) f_p0_leads
def M_X4_takeLoop (x1 : Int32) (f_p0_loop : (Nat → Int32)) (f_p0_pieces_covered : (Nat → Int32)) (v_p0_pieces_falling : Int32) (f_p0_lessRows : (Nat → Int32)) (f_p0_leads : (Nat → Int32)) (f_p0_amount : (Nat → Int32)) (f_p0_found : (Nat → Int32)) (P : (Nat → Int32) → (Nat → Int32) → (Nat → Int32) → (Nat → Int32) → (Nat → Int32) → Prop) : Prop :=
vp_in (0 : Int32) 12 ∧ (
vp_in (x1 - (1 : Int32)) 12 ∧ (
M_X5_isCovered (f_p0_loop (0 : Int32).toNatClampNeg) (f_p0_loop (x1 - (1 : Int32)).toNatClampNeg) f_p0_pieces_covered (fun (r3 : Int32) =>
((r3 = 0) → (
P f_p0_loop f_p0_lessRows f_p0_leads f_p0_found f_p0_amount)) ∧ (¬ (r3 = 0) → (
(¬ (0 : Int32) < 0 ∧ ¬ x1 < 0 ∧ ¬ x1 < 0 ∧ (0 : Int32).toNatClampNeg + x1.toNatClampNeg ≤ 12 ∧ x1.toNatClampNeg + x1.toNatClampNeg ≤ 12) ∧ (
M_X4_numberRows x1 (va_cpy f_p0_loop f_p0_loop (0 : Int32).toNatClampNeg x1.toNatClampNeg x1.toNatClampNeg) v_p0_pieces_falling f_p0_lessRows (fun (r6 : Int32) (m6_0 : (Nat → Int32)) =>
((r6 = 0) → (
P (va_cpy f_p0_loop f_p0_loop (0 : Int32).toNatClampNeg x1.toNatClampNeg x1.toNatClampNeg) m6_0 f_p0_leads f_p0_found f_p0_amount)) ∧ (¬ (r6 = 0) → (
M_X4_loopFigures x1 f_p0_leads m6_0 (fun (r8 : Int32) (m8_0 : (Nat → Int32)) =>
M_X4_add x1 r8 f_p0_amount f_p0_found (fun (m9_0 : (Nat → Int32)) (m9_1 : (Nat → Int32)) =>
P (va_cpy f_p0_loop f_p0_loop (0 : Int32).toNatClampNeg x1.toNatClampNeg x1.toNatClampNeg) m6_0 m8_0 m9_0 m9_1)))))))))))
def M_X4_extend_l46 (Rec : Int32 → Int32 → (Nat → Int32) → (Nat → Int32) → Int32 → (Nat → Int32) → Int32 → (Nat → Int32) → (Nat → Int32) → (Nat → Int32) → ((Nat → Int32) → (Nat → Int32) → (Nat → Int32) → (Nat → Int32) → (Nat → Int32) → Prop) → Prop) (x1 : Int32) (x2 : Int32) (v_p0_pieces_number : Int32) (f_p0_pieces_covered : (Nat → Int32)) (v_p0_pieces_falling : Int32) (P : (Nat → Int32) → (Nat → Int32) → (Nat → Int32) → (Nat → Int32) → (Nat → Int32) → Prop)  (K46 : Int32 → (Nat → Int32) → (Nat → Int32) → (Nat → Int32) → (Nat → Int32) → (Nat → Int32) → Prop) (l4 : Int32) (f_p0_loop : (Nat → Int32)) (f_p0_lessRows : (Nat → Int32)) (f_p0_leads : (Nat → Int32)) (f_p0_found : (Nat → Int32)) (f_p0_amount : (Nat → Int32)) : Prop :=
((v_p0_pieces_number ≤ l4) → (
P f_p0_loop f_p0_lessRows f_p0_leads f_p0_found f_p0_amount)) ∧ (¬ (v_p0_pieces_number ≤ l4) → (
vp_in (x2 - (1 : Int32)) 12 ∧ (
M_X5_isCovered l4 (f_p0_loop (x2 - (1 : Int32)).toNatClampNeg) f_p0_pieces_covered (fun (r10 : Int32) =>
((r10 = 0) → (
K46 (l4 + 1) f_p0_loop f_p0_lessRows f_p0_leads f_p0_found f_p0_amount)) ∧ (¬ (r10 = 0) → (
vp_in x2 12 ∧ (
Rec x1 (x2 + (1 : Int32)) f_p0_amount (upd f_p0_loop x2.toNatClampNeg l4) v_p0_pieces_number f_p0_pieces_covered v_p0_pieces_falling f_p0_lessRows f_p0_leads f_p0_found (fun (m13_0 : (Nat → Int32)) (m13_1 : (Nat → Int32)) (m13_2 : (Nat → Int32)) (m13_3 : (Nat → Int32)) (m13_4 : (Nat → Int32)) =>
K46 (l4 + 1) m13_0 m13_1 m13_2 m13_3 m13_4))))))))
def Mb_X4_extend (Rec : Int32 → Int32 → (Nat → Int32) → (Nat → Int32) → Int32 → (Nat → Int32) → Int32 → (Nat → Int32) → (Nat → Int32) → (Nat → Int32) → ((Nat → Int32) → (Nat → Int32) → (Nat → Int32) → (Nat → Int32) → (Nat → Int32) → Prop) → Prop) (x1 : Int32) (x2 : Int32) (f_p0_amount : (Nat → Int32)) (f_p0_loop : (Nat → Int32)) (v_p0_pieces_number : Int32) (f_p0_pieces_covered : (Nat → Int32)) (v_p0_pieces_falling : Int32) (f_p0_lessRows : (Nat → Int32)) (f_p0_leads : (Nat → Int32)) (f_p0_found : (Nat → Int32)) (P : (Nat → Int32) → (Nat → Int32) → (Nat → Int32) → (Nat → Int32) → (Nat → Int32) → Prop) : Prop :=
((x2 < (1 : Int32)) → (
P f_p0_loop f_p0_lessRows f_p0_leads f_p0_found f_p0_amount)) ∧ (¬ (x2 < (1 : Int32)) → (
((x1 < x2) → (
P f_p0_loop f_p0_lessRows f_p0_leads f_p0_found f_p0_amount)) ∧ (¬ (x1 < x2) → (
vp_in x1 7 ∧ (
vp_in x1 7 ∧ (
(((f_p0_amount x1.toNatClampNeg) < (kM x1.toNatClampNeg)) → (
((x2 = x1) → (
M_X4_takeLoop x1 f_p0_loop f_p0_pieces_covered v_p0_pieces_falling f_p0_lessRows f_p0_leads f_p0_amount f_p0_found (fun (m14_0 : (Nat → Int32)) (m14_1 : (Nat → Int32)) (m14_2 : (Nat → Int32)) (m14_3 : (Nat → Int32)) (m14_4 : (Nat → Int32)) =>
P m14_0 m14_1 m14_2 m14_3 m14_4))) ∧ (¬ (x2 = x1) → (
vp_in (0 : Int32) 12 ∧ (
∃ n : Nat, LP6 (M_X4_extend_l46 Rec x1 x2 v_p0_pieces_number f_p0_pieces_covered v_p0_pieces_falling P ) n (f_p0_loop (0 : Int32).toNatClampNeg) f_p0_loop f_p0_lessRows f_p0_leads f_p0_found f_p0_amount))))) ∧ (¬ ((f_p0_amount x1.toNatClampNeg) < (kM x1.toNatClampNeg)) → (
P f_p0_loop f_p0_lessRows f_p0_leads f_p0_found f_p0_amount))))))))
def M_X4_extend : Nat → Int32 → Int32 → (Nat → Int32) → (Nat → Int32) → Int32 → (Nat → Int32) → Int32 → (Nat → Int32) → (Nat → Int32) → (Nat → Int32) → ((Nat → Int32) → (Nat → Int32) → (Nat → Int32) → (Nat → Int32) → (Nat → Int32) → Prop) → Prop
  | 0 => fun _ _ _ _ _ _ _ _ _ _ _ => False
  | d + 1 => Mb_X4_extend (M_X4_extend d)
def M_X4_seek_l53 (x1 : Int32) (v_p2_size : Int32) (f_p2_led : (Nat → Int32)) (v_p2_way : Int32) (P : Int32 → Int32 → Int32 → Int32 → (Nat → Int32) → (Nat → Int32) → (Nat → Int32) → (Nat → Int32) → (Nat → Int32) → (Nat → Int32) → Prop) (v_p0_soughtSize : Int32) (v_p0_soughtMap : Int32) (v_p0_pieces_number : Int32) (v_p0_pieces_falling : Int32) (f_p0_pieces_covered : (Nat → Int32)) (K53 : Int32 → (Nat → Int32) → (Nat → Int32) → (Nat → Int32) → (Nat → Int32) → (Nat → Int32) → Prop) (l3 : Int32) (f_p0_amount : (Nat → Int32)) (f_p0_found : (Nat → Int32)) (f_p0_loop : (Nat → Int32)) (f_p0_lessRows : (Nat → Int32)) (f_p0_leads : (Nat → Int32)) : Prop :=
((v_p0_pieces_number ≤ l3) → (
P v_p0_soughtSize v_p0_soughtMap v_p0_pieces_number v_p0_pieces_falling f_p0_pieces_covered f_p0_amount f_p0_found f_p0_loop f_p0_lessRows f_p0_leads)) ∧ (¬ (v_p0_pieces_number ≤ l3) → (
vp_in (0 : Int32) 12 ∧ (
M_X4_extend 8 x1 (1 : Int32) f_p0_amount (upd f_p0_loop (0 : Int32).toNatClampNeg l3) v_p0_pieces_number f_p0_pieces_covered v_p0_pieces_falling f_p0_lessRows f_p0_leads f_p0_found (fun (m7_0 : (Nat → Int32)) (m7_1 : (Nat → Int32)) (m7_2 : (Nat → Int32)) (m7_3 : (Nat → Int32)) (m7_4 : (Nat → Int32)) =>
K53 (l3 + 1) m7_4 m7_3 m7_0 m7_1 m7_2))))
def M_X4_seek_b27 (x1 : Int32) (v_p2_size : Int32) (f_p2_led : (Nat → Int32)) (v_p2_way : Int32) (P : Int32 → Int32 → Int32 → Int32 → (Nat → Int32) → (Nat → Int32) → (Nat → Int32) → (Nat → Int32) → (Nat → Int32) → (Nat → Int32) → Prop) (v_p0_soughtSize : Int32) (v_p0_soughtMap : Int32) (v_p0_pieces_number : Int32) (v_p0_pieces_falling : Int32) (f_p0_pieces_covered : (Nat → Int32)) (f_p0_amount : (Nat → Int32)) (f_p0_found : (Nat → Int32)) (f_p0_loop : (Nat → Int32)) (f_p0_lessRows : (Nat → Int32)) (f_p0_leads : (Nat → Int32)) : Prop :=
vp_in x1 7 ∧ (
(((f_p0_amount x1.toNatClampNeg) = (-1 : Int32)) → (
vp_in x1 7 ∧ (
M_X4_addRings x1 v_p2_size f_p2_led (upd f_p0_amount x1.toNatClampNeg (0 : Int32)) f_p0_found (fun (m4_0 : (Nat → Int32)) (m4_1 : (Nat → Int32)) =>
∃ n : Nat, LP6 (M_X4_seek_l53 x1 v_p2_size f_p2_led v_p2_way P v_p0_soughtSize v_p0_soughtMap v_p0_pieces_number v_p0_pieces_falling f_p0_pieces_covered) n (0 : Int32) m4_1 m4_0 f_p0_loop f_p0_lessRows f_p0_leads)))) ∧ (¬ ((f_p0_amount x1.toNatClampNeg) = (-1 : Int32)) → (
P v_p0_soughtSize v_p0_soughtMap v_p0_pieces_number v_p0_pieces_falling f_p0_pieces_covered f_p0_amount f_p0_found f_p0_loop f_p0_lessRows f_p0_leads)))
def M_X4_seek_b22 (x1 : Int32) (v_p2_size : Int32) (f_p2_led : (Nat → Int32)) (v_p2_way : Int32) (P : Int32 → Int32 → Int32 → Int32 → (Nat → Int32) → (Nat → Int32) → (Nat → Int32) → (Nat → Int32) → (Nat → Int32) → (Nat → Int32) → Prop) (v_p0_soughtSize : Int32) (v_p0_soughtMap : Int32) (v_p0_pieces_number : Int32) (v_p0_pieces_falling : Int32) (f_p0_pieces_covered : (Nat → Int32)) (f_p0_amount : (Nat → Int32)) (f_p0_found : (Nat → Int32)) (f_p0_loop : (Nat → Int32)) (f_p0_lessRows : (Nat → Int32)) (f_p0_leads : (Nat → Int32)) : Prop :=
M_X4_startWith v_p2_size v_p0_soughtSize f_p2_led v_p0_soughtMap v_p2_way v_p0_pieces_number v_p0_pieces_falling f_p0_pieces_covered f_p0_amount (fun (m8_0 : Int32) (m8_1 : Int32) (m8_2 : Int32) (m8_3 : Int32) (m8_4 : (Nat → Int32)) (m8_5 : (Nat → Int32)) =>
M_X4_seek_b27 x1 v_p2_size f_p2_led v_p2_way P m8_0 m8_1 m8_2 m8_3 m8_4 m8_5 f_p0_found f_p0_loop f_p0_lessRows f_p0_leads)
def M_X4_seek (x1 : Int32) (v_p0_soughtSize : Int32) (v_p2_size : Int32) (f_p2_led : (Nat → Int32)) (v_p0_soughtMap : Int32) (v_p2_way : Int32) (v_p0_pieces_number : Int32) (v_p0_pieces_falling : Int32) (f_p0_pieces_covered : (Nat → Int32)) (f_p0_amount : (Nat → Int32)) (f_p0_found : (Nat → Int32)) (f_p0_loop : (Nat → Int32)) (f_p0_lessRows : (Nat → Int32)) (f_p0_leads : (Nat → Int32)) (P : Int32 → Int32 → Int32 → Int32 → (Nat → Int32) → (Nat → Int32) → (Nat → Int32) → (Nat → Int32) → (Nat → Int32) → (Nat → Int32) → Prop) : Prop :=
((v_p0_soughtSize = v_p2_size) → (
M_X0_packed f_p2_led (fun (r10 : Int32) =>
((v_p0_soughtMap = r10) → (
M_X4_seek_b27 x1 v_p2_size f_p2_led v_p2_way P v_p0_soughtSize v_p0_soughtMap v_p0_pieces_number v_p0_pieces_falling f_p0_pieces_covered f_p0_amount f_p0_found f_p0_loop f_p0_lessRows f_p0_leads)) ∧ (¬ (v_p0_soughtMap = r10) → (
M_X4_seek_b22 x1 v_p2_size f_p2_led v_p2_way P v_p0_soughtSize v_p0_soughtMap v_p0_pieces_number v_p0_pieces_falling f_p0_pieces_covered f_p0_amount f_p0_found f_p0_loop f_p0_lessRows f_p0_leads))))) ∧ (¬ (v_p0_soughtSize = v_p2_size) → (
M_X4_seek_b22 x1 v_p2_size f_p2_led v_p2_way P v_p0_soughtSize v_p0_soughtMap v_p0_pieces_number v_p0_pieces_falling f_p0_pieces_covered f_p0_amount f_p0_found f_p0_loop f_p0_lessRows f_p0_leads))
def M_X5_holds (x1 : Int32) (v_p0_number : Int32) (P : Int32 → Prop) : Prop :=
((x1 < 0) → (
P (0 : Int32))) ∧ (¬ (x1 < 0) → (
((v_p0_number ≤ x1) → (
P (0 : Int32))) ∧ (¬ (v_p0_number ≤ x1) → (
P (1 : Int32)))))
def M_X5_reachedFrom_l20 (x1 : Int32) (f_p0_covered : (Nat → Int32)) (v_p0_number : Int32) (K9 : Int32 → Int32 → Prop) (P : Int32 → Prop) (l3 : Int32) (K20 : Int32 → Int32 → Prop) (l2 : Int32) (l4 : Int32) : Prop :=
((v_p0_number ≤ l4) → (
K9 l2 (l3 + 1))) ∧ (¬ (v_p0_number ≤ l4) → (
((((l2 >>> (l4 &&& 31)) &&& (1 : Int32)) = (1 : Int32)) → (
vp_in l4 8 ∧ (
K20 (l2 ||| (f_p0_covered l4.toNatClampNeg)) (l4 + 1)))) ∧ (¬ (((l2 >>> (l4 &&& 31)) &&& (1 : Int32)) = (1 : Int32)) → (
K20 (l2 ||| (0 : Int32)) (l4 + 1)))))
def M_X5_reachedFrom_l9 (x1 : Int32) (f_p0_covered : (Nat → Int32)) (v_p0_number : Int32) (P : Int32 → Prop)  (K9 : Int32 → Int32 → Prop) (l2 : Int32) (l3 : Int32) : Prop :=
((v_p0_number ≤ l3) → (
P l2)) ∧ (¬ (v_p0_number ≤ l3) → (
∃ n : Nat, LP2 (M_X5_reachedFrom_l20 x1 f_p0_covered v_p0_number K9 P l3) n l2 (0 : Int32)))
def M_X5_reachedFrom (x1 : Int32) (f_p0_covered : (Nat → Int32)) (v_p0_number : Int32) (P : Int32 → Prop) : Prop :=
vp_in x1 8 ∧ (
∃ n : Nat, LP2 (M_X5_reachedFrom_l9 x1 f_p0_covered v_p0_number P ) n (f_p0_covered x1.toNatClampNeg) (0 : Int32))
def M_X5_countOn_l30 (v_p0_number : Int32) (f_p0_covered : (Nat → Int32)) (K17 : Int32 → (Nat → Int64) → Prop) (P : (Nat → Int64) → (Nat → Int64) → Prop) (l1 : Int32) (f_p0_earlier : (Nat → Int64)) (f_p0_counts : (Nat → Int64)) (K30 : Int64 → Int32 → Prop) (l2 : Int64) (l4 : Int32) : Prop :=
((v_p0_number ≤ l4) → (
vp_in l1 8 ∧ (
K17 (l1 + 1) (vp_updL f_p0_counts l1.toNatClampNeg l2)))) ∧ (¬ (v_p0_number ≤ l4) → (
M_X5_isCovered l4 l1 f_p0_covered (fun (r5 : Int32) =>
((r5 = 0) → (
K30 (l2 + (0 : Int64)) (l4 + 1))) ∧ (¬ (r5 = 0) → (
vp_in l4 8 ∧ (
K30 (l2 + (f_p0_earlier l4.toNatClampNeg)) (l4 + 1)))))))
def M_X5_countOn_l17 (v_p0_number : Int32) (f_p0_covered : (Nat → Int32)) (P : (Nat → Int64) → (Nat → Int64) → Prop) (f_p0_earlier : (Nat → Int64)) (K17 : Int32 → (Nat → Int64) → Prop) (l1 : Int32) (f_p0_counts : (Nat → Int64)) : Prop :=
((v_p0_number ≤ l1) → (
P f_p0_earlier f_p0_counts)) ∧ (¬ (v_p0_number ≤ l1) → (
∃ n : Nat, LP2 (M_X5_countOn_l30 v_p0_number f_p0_covered K17 P l1 f_p0_earlier f_p0_counts) n (0 : Int64) (0 : Int32)))
def M_X5_countOn (f_p0_counts : (Nat → Int64)) (f_p0_earlier : (Nat → Int64)) (v_p0_number : Int32) (f_p0_covered : (Nat → Int32)) (P : (Nat → Int64) → (Nat → Int64) → Prop) : Prop :=
(¬ (0 : Int32) < 0 ∧ ¬ (0 : Int32) < 0 ∧ ¬ (8 : Int32) < 0 ∧ (0 : Int32).toNatClampNeg + (8 : Int32).toNatClampNeg ≤ 8 ∧ (0 : Int32).toNatClampNeg + (8 : Int32).toNatClampNeg ≤ 8) ∧ (
∃ n : Nat, LP2 (M_X5_countOn_l17 v_p0_number f_p0_covered P (va_cpy f_p0_counts f_p0_earlier (0 : Int32).toNatClampNeg (0 : Int32).toNatClampNeg (8 : Int32).toNatClampNeg)) n (0 : Int32) f_p0_counts)
def M_X5_startAt_l2 (x1 : Int32) (P : (Nat → Int64) → Prop)  (K2 : Int32 → (Nat → Int64) → Prop) (l2 : Int32) (f_p0_counts : (Nat → Int64)) : Prop :=
(((8 : Int32) ≤ l2) → (
P f_p0_counts)) ∧ (¬ ((8 : Int32) ≤ l2) → (
((l2 = x1) → (
vp_in l2 8 ∧ (
K2 (l2 + 1) (vp_updL f_p0_counts l2.toNatClampNeg (1 : Int64))))) ∧ (¬ (l2 = x1) → (
vp_in l2 8 ∧ (
K2 (l2 + 1) (vp_updL f_p0_counts l2.toNatClampNeg (0 : Int64)))))))
def M_X5_startAt (x1 : Int32) (f_p0_counts : (Nat → Int64)) (P : (Nat → Int64) → Prop) : Prop :=
∃ n : Nat, LP2 (M_X5_startAt_l2 x1 P ) n (0 : Int32) f_p0_counts
def M_X5_pathNumber_l8 (x1 : Int32) (x2 : Int32) (x3 : Int32) (v_p0_number : Int32) (f_p0_covered : (Nat → Int32)) (P : Int64 → (Nat → Int64) → (Nat → Int64) → Prop)  (K8 : Int32 → (Nat → Int64) → (Nat → Int64) → Prop) (l4 : Int32) (f_p0_counts : (Nat → Int64)) (f_p0_earlier : (Nat → Int64)) : Prop :=
((x3 ≤ l4) → (
vp_in x1 8 ∧ (
P (f_p0_counts x1.toNatClampNeg) f_p0_counts f_p0_earlier))) ∧ (¬ (x3 ≤ l4) → (
M_X5_countOn f_p0_counts f_p0_earlier v_p0_number f_p0_covered (fun (m4_0 : (Nat → Int64)) (m4_1 : (Nat → Int64)) =>
K8 (l4 + 1) m4_1 m4_0)))
def M_X5_pathNumber (x1 : Int32) (x2 : Int32) (x3 : Int32) (f_p0_counts : (Nat → Int64)) (f_p0_earlier : (Nat → Int64)) (v_p0_number : Int32) (f_p0_covered : (Nat → Int32)) (P : Int64 → (Nat → Int64) → (Nat → Int64) → Prop) : Prop :=
M_X5_startAt x2 f_p0_counts (fun (m1_0 : (Nat → Int64)) =>
∃ n : Nat, LP3 (M_X5_pathNumber_l8 x1 x2 x3 v_p0_number f_p0_covered P ) n (0 : Int32) m1_0 f_p0_earlier)
def M_X5_repeatedLoops_l5 (x1 : Int32) (f_p0_simple : (Nat → Int64)) (P : Int64 → Prop)  (K5 : Int64 → Int32 → Prop) (l2 : Int64) (l4 : Int32) : Prop :=
((x1 ≤ l4) → (
P l2)) ∧ (¬ (x1 ≤ l4) → (
¬ l4 = 0 ∧ (
(((x1 - x1 / l4 * l4) = 0) → (
vp_in l4 31 ∧ (
K5 (l2 + (f_p0_simple l4.toNatClampNeg)) (l4 + 1)))) ∧ (¬ ((x1 - x1 / l4 * l4) = 0) → (
K5 (l2 + (0 : Int64)) (l4 + 1))))))
def M_X5_repeatedLoops (x1 : Int32) (f_p0_simple : (Nat → Int64)) (P : Int64 → Prop) : Prop :=
∃ n : Nat, LP2 (M_X5_repeatedLoops_l5 x1 f_p0_simple P ) n (0 : Int64) (1 : Int32)
def M_X5_measureLoops_l75 (x1 : Int32) (v_p0_number : Int32) (f_p0_covered : (Nat → Int32)) (P : (Nat → Int64) → (Nat → Int64) → (Nat → Int64) → (Nat → Int64) → Prop) (f_p0_counts : (Nat → Int64)) (f_p0_earlier : (Nat → Int64)) (f_p0_closed : (Nat → Int64)) (K75 : Int32 → (Nat → Int64) → Prop) (l2 : Int32) (f_p0_simple : (Nat → Int64)) : Prop :=
((x1 < l2) → (
P f_p0_simple f_p0_counts f_p0_earlier f_p0_closed)) ∧ (¬ (x1 < l2) → (
vp_in l2 31 ∧ (
M_X5_repeatedLoops l2 f_p0_simple (fun (r5 : Int64) =>
vp_in l2 31 ∧ (
K75 (l2 + 1) (vp_updL f_p0_simple l2.toNatClampNeg ((f_p0_closed l2.toNatClampNeg) - r5)))))))
def M_X5_measureLoops_l37 (x1 : Int32) (v_p0_number : Int32) (f_p0_covered : (Nat → Int32)) (K22 : Int32 → (Nat → Int64) → (Nat → Int64) → (Nat → Int64) → Prop) (P : (Nat → Int64) → (Nat → Int64) → (Nat → Int64) → (Nat → Int64) → Prop) (l2 : Int32) (f_p0_simple : (Nat → Int64)) (K37 : Int32 → (Nat → Int64) → (Nat → Int64) → (Nat → Int64) → Prop) (l3 : Int32) (f_p0_counts : (Nat → Int64)) (f_p0_earlier : (Nat → Int64)) (f_p0_closed : (Nat → Int64)) : Prop :=
((x1 < l3) → (
K22 (l2 + 1) f_p0_counts f_p0_earlier f_p0_closed)) ∧ (¬ (x1 < l3) → (
M_X5_countOn f_p0_counts f_p0_earlier v_p0_number f_p0_covered (fun (m9_0 : (Nat → Int64)) (m9_1 : (Nat → Int64)) =>
vp_in l3 31 ∧ (
vp_in l2 8 ∧ (
vp_in l3 31 ∧ (
K37 (l3 + 1) m9_1 m9_0 (vp_updL f_p0_closed l3.toNatClampNeg ((f_p0_closed l3.toNatClampNeg) + (m9_1 l2.toNatClampNeg)))))))))
def M_X5_measureLoops_l22 (x1 : Int32) (v_p0_number : Int32) (f_p0_covered : (Nat → Int32)) (P : (Nat → Int64) → (Nat → Int64) → (Nat → Int64) → (Nat → Int64) → Prop) (f_p0_simple : (Nat → Int64)) (K22 : Int32 → (Nat → Int64) → (Nat → Int64) → (Nat → Int64) → Prop) (l2 : Int32) (f_p0_counts : (Nat → Int64)) (f_p0_earlier : (Nat → Int64)) (f_p0_closed : (Nat → Int64)) : Prop :=
((v_p0_number ≤ l2) → (
∃ n : Nat, LP2 (M_X5_measureLoops_l75 x1 v_p0_number f_p0_covered P f_p0_counts f_p0_earlier f_p0_closed) n (1 : Int32) f_p0_simple)) ∧ (¬ (v_p0_number ≤ l2) → (
M_X5_startAt l2 f_p0_counts (fun (m7_0 : (Nat → Int64)) =>
∃ n : Nat, LP4 (M_X5_measureLoops_l37 x1 v_p0_number f_p0_covered K22 P l2 f_p0_simple) n (1 : Int32) m7_0 f_p0_earlier f_p0_closed)))
def M_X5_measureLoops_l2 (x1 : Int32) (v_p0_number : Int32) (f_p0_covered : (Nat → Int32)) (P : (Nat → Int64) → (Nat → Int64) → (Nat → Int64) → (Nat → Int64) → Prop) (f_p0_simple : (Nat → Int64)) (f_p0_counts : (Nat → Int64)) (f_p0_earlier : (Nat → Int64)) (K2 : Int32 → (Nat → Int64) → Prop) (l2 : Int32) (f_p0_closed : (Nat → Int64)) : Prop :=
((x1 < l2) → (
∃ n : Nat, LP4 (M_X5_measureLoops_l22 x1 v_p0_number f_p0_covered P f_p0_simple) n (0 : Int32) f_p0_counts f_p0_earlier f_p0_closed)) ∧ (¬ (x1 < l2) → (
vp_in l2 31 ∧ (
K2 (l2 + 1) (vp_updL f_p0_closed l2.toNatClampNeg (0 : Int64)))))
def M_X5_measureLoops (x1 : Int32) (v_p0_number : Int32) (f_p0_closed : (Nat → Int64)) (f_p0_simple : (Nat → Int64)) (f_p0_counts : (Nat → Int64)) (f_p0_earlier : (Nat → Int64)) (f_p0_covered : (Nat → Int32)) (P : (Nat → Int64) → (Nat → Int64) → (Nat → Int64) → (Nat → Int64) → Prop) : Prop :=
∃ n : Nat, LP2 (M_X5_measureLoops_l2 x1 v_p0_number f_p0_covered P f_p0_simple f_p0_counts f_p0_earlier) n (1 : Int32) f_p0_closed
def M_X5_countTwice_l23 (x1 : Int32) (v_p0_number : Int32) (f_p0_covered : (Nat → Int32)) (P : (Nat → Int64) → (Nat → Int64) → Prop)  (K23 : Int32 → (Nat → Int64) → (Nat → Int64) → Prop) (l2 : Int32) (f_p0_earlier : (Nat → Int64)) (f_p0_counts : (Nat → Int64)) : Prop :=
((x1 < l2) → (
P f_p0_earlier f_p0_counts)) ∧ (¬ (x1 < l2) → (
M_X5_countOn f_p0_counts f_p0_earlier v_p0_number f_p0_covered (fun (m3_0 : (Nat → Int64)) (m3_1 : (Nat → Int64)) =>
K23 (l2 + 1) m3_0 m3_1)))
def M_X5_countTwice_l2 (x1 : Int32) (v_p0_number : Int32) (f_p0_covered : (Nat → Int32)) (P : (Nat → Int64) → (Nat → Int64) → Prop) (f_p0_earlier : (Nat → Int64)) (K2 : Int32 → (Nat → Int64) → Prop) (l2 : Int32) (f_p0_counts : (Nat → Int64)) : Prop :=
(((8 : Int32) ≤ l2) → (
∃ n : Nat, LP3 (M_X5_countTwice_l23 x1 v_p0_number f_p0_covered P ) n (0 : Int32) f_p0_earlier f_p0_counts)) ∧ (¬ ((8 : Int32) ≤ l2) → (
vp_in l2 8 ∧ (
K2 (l2 + 1) (vp_updL f_p0_counts l2.toNatClampNeg (1 : Int64)))))
def M_X5_countTwice (x1 : Int32) (f_p0_counts : (Nat → Int64)) (f_p0_earlier : (Nat → Int64)) (v_p0_number : Int32) (f_p0_covered : (Nat → Int32)) (P : (Nat → Int64) → (Nat → Int64) → Prop) : Prop :=
∃ n : Nat, LP2 (M_X5_countTwice_l2 x1 v_p0_number f_p0_covered P f_p0_earlier) n (0 : Int32) f_p0_counts
def M_X5_isBeyond (x1 : Int32) (x2 : Int32) (x3 : Int32) (f_p0_counts : (Nat → Int64)) (f_p0_earlier : (Nat → Int64)) (P : Int32 → Prop) : Prop :=
vp_in x1 8 ∧ (
vp_in x2 8 ∧ (
∀ y3 : Int64, y3 = ((f_p0_counts x1.toNatClampNeg) * (f_p0_earlier x2.toNatClampNeg)) →
vp_in x2 8 ∧ (
vp_in x1 8 ∧ (
∀ y6 : Int64, y6 = ((f_p0_counts x2.toNatClampNeg) * (f_p0_earlier x1.toNatClampNeg)) →
((x3 = 0) → (
((0 ≤ (lg_cmp y3 y6)) → (
P (0 : Int32))) ∧ (¬ (0 ≤ (lg_cmp y3 y6)) → (
P (1 : Int32))))) ∧ (¬ (x3 = 0) → (
(((lg_cmp y3 y6) ≤ 0) → (
P (0 : Int32))) ∧ (¬ ((lg_cmp y3 y6) ≤ 0) → (
P (1 : Int32)))))))))
def M_X5_steepest_l4 (x1 : Int32) (v_p0_number : Int32) (f_p0_earlier : (Nat → Int64)) (f_p0_counts : (Nat → Int64)) (P : Int32 → Prop)  (K4 : Int32 → Int32 → Prop) (l2 : Int32) (l3 : Int32) : Prop :=
((v_p0_number ≤ l3) → (
P l2)) ∧ (¬ (v_p0_number ≤ l3) → (
vp_in l3 8 ∧ (
(((lg_cmp (f_p0_earlier l3.toNatClampNeg) (0 : Int64)) ≤ 0) → (
K4 l2 (l3 + 1))) ∧ (¬ ((lg_cmp (f_p0_earlier l3.toNatClampNeg) (0 : Int64)) ≤ 0) → (
((l2 < 0) → (
K4 l3 (l3 + 1))) ∧ (¬ (l2 < 0) → (
M_X5_isBeyond l3 l2 x1 f_p0_counts f_p0_earlier (fun (r5 : Int32) =>
((r5 = 0) → (
K4 l2 (l3 + 1))) ∧ (¬ (r5 = 0) → (
K4 l3 (l3 + 1)))))))))))
def M_X5_steepest (x1 : Int32) (v_p0_number : Int32) (f_p0_earlier : (Nat → Int64)) (f_p0_counts : (Nat → Int64)) (P : Int32 → Prop) : Prop :=
∃ n : Nat, LP2 (M_X5_steepest_l4 x1 v_p0_number f_p0_earlier f_p0_counts P ) n (-1 : Int32) (0 : Int32)
def M_X5_commonDivisor_l9 (x0 : Int64) (x1 : Int64) (P : Int64 → Prop)  (K9 : Int64 → Int64 → Int32 → Prop) (l4 : Int64) (l6 : Int64) (l8 : Int32) : Prop :=
(((200 : Int32) ≤ l8) → (
P l4)) ∧ (¬ ((200 : Int32) ≤ l8) → (
(((lg_cmp l6 (0 : Int64)) = 0) → (
P l4)) ∧ (¬ ((lg_cmp l6 (0 : Int64)) = 0) → (
¬ l6 = 0 ∧ (
K9 l6 (l4 - l4 / l6 * l6) (l8 + 1))))))
def M_X5_commonDivisor (x0 : Int64) (x1 : Int64) (P : Int64 → Prop) : Prop :=
∃ n : Nat, LP3 (M_X5_commonDivisor_l9 x0 x1 P ) n x0 x1 (0 : Int32)
def M_X5_fractionPart_b19 (x1 : Int32) (x2 : Int32) (f_p0_earlier : (Nat → Int64)) (f_p0_counts : (Nat → Int64)) (P : Int64 → Prop) (s0 : Int64) : Prop :=
vp_in x1 8 ∧ (
vp_in x1 8 ∧ (
M_X5_commonDivisor (f_p0_counts x1.toNatClampNeg) (f_p0_earlier x1.toNatClampNeg) (fun (r3 : Int64) =>
(((lg_cmp r3 (0 : Int64)) ≤ 0) → (
P s0)) ∧ (¬ ((lg_cmp r3 (0 : Int64)) ≤ 0) → (
¬ r3 = 0 ∧ (
P (s0 / r3)))))))
def M_X5_fractionPart (x1 : Int32) (x2 : Int32) (f_p0_earlier : (Nat → Int64)) (f_p0_counts : (Nat → Int64)) (P : Int64 → Prop) : Prop :=
((x2 = 0) → (
vp_in x1 8 ∧ (
M_X5_fractionPart_b19 x1 x2 f_p0_earlier f_p0_counts P (f_p0_counts x1.toNatClampNeg)))) ∧ (¬ (x2 = 0) → (
vp_in x1 8 ∧ (
M_X5_fractionPart_b19 x1 x2 f_p0_earlier f_p0_counts P (f_p0_earlier x1.toNatClampNeg))))
def M_X5_coefficient_l30 (x1 : Int32) (v_p0_number : Int32) (f_p0_covered : (Nat → Int32)) (K17 : Int32 → (Nat → Int64) → Prop) (P : Int64 → (Nat → Int64) → (Nat → Int64) → (Nat → Int64) → (Nat → Int64) → (Nat → Int64) → Prop) (l2 : Int32) (f_p0_simple : (Nat → Int64)) (f_p0_counts : (Nat → Int64)) (f_p0_earlier : (Nat → Int64)) (f_p0_closed : (Nat → Int64)) (f_p0_coefficients : (Nat → Int64)) (K30 : Int64 → Int32 → Prop) (l3 : Int64) (l5 : Int32) : Prop :=
((l2 < l5) → (
¬ l2.toInt64 = 0 ∧ (
vp_in l2 9 ∧ (
K17 (l2 + 1) (vp_updL f_p0_coefficients l2.toNatClampNeg ((-l3) / l2.toInt64)))))) ∧ (¬ (l2 < l5) → (
vp_in (l2 - l5) 9 ∧ (
vp_in l5 31 ∧ (
∀ y10 : Int64, y10 = (l3 + ((f_p0_coefficients (l2 - l5).toNatClampNeg) * (f_p0_closed l5.toNatClampNeg))) →
K30 y10 (l5 + 1)))))
def M_X5_coefficient_l17 (x1 : Int32) (v_p0_number : Int32) (f_p0_covered : (Nat → Int32)) (P : Int64 → (Nat → Int64) → (Nat → Int64) → (Nat → Int64) → (Nat → Int64) → (Nat → Int64) → Prop) (f_p0_simple : (Nat → Int64)) (f_p0_counts : (Nat → Int64)) (f_p0_earlier : (Nat → Int64)) (f_p0_closed : (Nat → Int64)) (K17 : Int32 → (Nat → Int64) → Prop) (l2 : Int32) (f_p0_coefficients : (Nat → Int64)) : Prop :=
((v_p0_number < l2) → (
vp_in (v_p0_number - x1) 9 ∧ (
P (f_p0_coefficients (v_p0_number - x1).toNatClampNeg) f_p0_simple f_p0_counts f_p0_earlier f_p0_closed f_p0_coefficients))) ∧ (¬ (v_p0_number < l2) → (
∃ n : Nat, LP2 (M_X5_coefficient_l30 x1 v_p0_number f_p0_covered K17 P l2 f_p0_simple f_p0_counts f_p0_earlier f_p0_closed f_p0_coefficients) n (0 : Int64) (1 : Int32)))
def M_X5_coefficient (x1 : Int32) (v_p0_number : Int32) (f_p0_closed : (Nat → Int64)) (f_p0_simple : (Nat → Int64)) (f_p0_counts : (Nat → Int64)) (f_p0_earlier : (Nat → Int64)) (f_p0_covered : (Nat → Int32)) (f_p0_coefficients : (Nat → Int64)) (P : Int64 → (Nat → Int64) → (Nat → Int64) → (Nat → Int64) → (Nat → Int64) → (Nat → Int64) → Prop) : Prop :=
M_X5_measureLoops v_p0_number v_p0_number f_p0_closed f_p0_simple f_p0_counts f_p0_earlier f_p0_covered (fun (m1_0 : (Nat → Int64)) (m1_1 : (Nat → Int64)) (m1_2 : (Nat → Int64)) (m1_3 : (Nat → Int64)) =>
vp_in (0 : Int32) 9 ∧ (
∃ n : Nat, LP2 (M_X5_coefficient_l17 x1 v_p0_number f_p0_covered P m1_0 m1_1 m1_2 m1_3) n (1 : Int32) (vp_updL f_p0_coefficients (0 : Int32).toNatClampNeg (1 : Int64))))
def M_X6_put (x1 : Int32) (v_p0_length : Int32) (f_p0_bytes : (Nat → Int32)) (P : (Nat → Int32) → Int32 → Prop) : Prop :=
(((60 : Int32) ≤ v_p0_length) → (
P f_p0_bytes v_p0_length)) ∧ (¬ ((60 : Int32) ≤ v_p0_length) → (
vp_in v_p0_length 60 ∧ (
P (upd f_p0_bytes v_p0_length.toNatClampNeg (vp_nar .byte x1.toInt8.toInt32)) (v_p0_length + (1 : Int32)))))
def M_X7_begin_l22 (x1 : Int32) (P : Int32 → Int32 → Int32 → Int32 → (Nat → Int32) → Prop) (v_p0_stage : Int32) (v_p0_size : Int32) (v_p0_told : Int32) (v_p0_ringsWhole : Int32) (K22 : Int32 → (Nat → Int32) → Prop) (l2 : Int32) (f_p0_led : (Nat → Int32)) : Prop :=
(((8 : Int32) ≤ l2) → (
P v_p0_stage v_p0_size v_p0_told v_p0_ringsWhole f_p0_led)) ∧ (¬ ((8 : Int32) ≤ l2) → (
vp_in l2 8 ∧ (
K22 (l2 + 1) (upd f_p0_led l2.toNatClampNeg l2))))
def M_X7_begin (x1 : Int32) (v_p0_stage : Int32) (v_p0_size : Int32) (v_p0_told : Int32) (v_p0_ringsWhole : Int32) (f_p0_led : (Nat → Int32)) (P : Int32 → Int32 → Int32 → Int32 → (Nat → Int32) → Prop) : Prop :=
∃ n : Nat, LP2 (M_X7_begin_l22 x1 P (0 : Int32) x1 (0 : Int32) (0 : Int32)) n (0 : Int32) f_p0_led
def M_X7_tellPoint_b51 (x1 : Int32) (v_p0_size : Int32) (P : Int32 → (Nat → Int32) → Int32 → Int32 → Int32 → Int32 → Prop) (f_p0_led : (Nat → Int32)) (v_p0_told : Int32) (v_p0_latest : Int32) (v_p0_stage : Int32) (v_p0_first : Int32) : Prop :=
P (1 : Int32) f_p0_led (v_p0_told ||| ((1 : Int32) <<< (x1 &&& 31))) x1 (2 : Int32) v_p0_first
def M_X7_tellPoint (x1 : Int32) (v_p0_size : Int32) (v_p0_told : Int32) (v_p0_first : Int32) (v_p0_latest : Int32) (f_p0_led : (Nat → Int32)) (v_p0_stage : Int32) (P : Int32 → (Nat → Int32) → Int32 → Int32 → Int32 → Int32 → Prop) : Prop :=
((x1 < 0) → (
P (0 : Int32) f_p0_led v_p0_told v_p0_latest v_p0_stage v_p0_first)) ∧ (¬ (x1 < 0) → (
((v_p0_size ≤ x1) → (
P (0 : Int32) f_p0_led v_p0_told v_p0_latest v_p0_stage v_p0_first)) ∧ (¬ (v_p0_size ≤ x1) → (
((((v_p0_told >>> (x1 &&& 31)) &&& (1 : Int32)) = (1 : Int32)) → (
P (0 : Int32) f_p0_led v_p0_told v_p0_latest v_p0_stage v_p0_first)) ∧ (¬ (((v_p0_told >>> (x1 &&& 31)) &&& (1 : Int32)) = (1 : Int32)) → (
((0 ≤ v_p0_first) → (
vp_in v_p0_latest 8 ∧ (
M_X7_tellPoint_b51 x1 v_p0_size P (upd f_p0_led v_p0_latest.toNatClampNeg x1) v_p0_told v_p0_latest v_p0_stage v_p0_first))) ∧ (¬ (0 ≤ v_p0_first) → (
M_X7_tellPoint_b51 x1 v_p0_size P f_p0_led v_p0_told v_p0_latest v_p0_stage x1))))))))
def M_X7_goOnBehindPoint (x1 : Int32) (v_p0_latest : Int32) (v_p0_first : Int32) (f_p0_led : (Nat → Int32)) (v_p0_ringsWhole : Int32) (v_p0_stage : Int32) (P : Int32 → (Nat → Int32) → Int32 → Int32 → Prop) : Prop :=
((x1 = (32 : Int32)) → (
P (1 : Int32) f_p0_led v_p0_ringsWhole (1 : Int32))) ∧ (¬ (x1 = (32 : Int32)) → (
((x1 = (41 : Int32)) → (
vp_in v_p0_latest 8 ∧ (
P (1 : Int32) (upd f_p0_led v_p0_latest.toNatClampNeg v_p0_first) (v_p0_ringsWhole + (1 : Int32)) (3 : Int32)))) ∧ (¬ (x1 = (41 : Int32)) → (
P (0 : Int32) f_p0_led v_p0_ringsWhole v_p0_stage))))
def M_X7_openRing (x1 : Int32) (v_p0_first : Int32) (v_p0_stage : Int32) (P : Int32 → Int32 → Int32 → Prop) : Prop :=
((x1 = (40 : Int32)) → (
P (1 : Int32) (-1 : Int32) (1 : Int32))) ∧ (¬ (x1 = (40 : Int32)) → (
P (0 : Int32) v_p0_first v_p0_stage))
def M_X7_canTake (x1 : Int32) (v_p0_stage : Int32) (v_p0_size : Int32) (v_p0_told : Int32) (v_p0_first : Int32) (v_p0_latest : Int32) (f_p0_led : (Nat → Int32)) (v_p0_ringsWhole : Int32) (P : Int32 → (Nat → Int32) → Int32 → Int32 → Int32 → Int32 → Int32 → Prop) : Prop :=
(v_p0_stage = (1 : Int32) → (
M_X7_tellPoint (x1 - (48 : Int32)) v_p0_size v_p0_told v_p0_first v_p0_latest f_p0_led v_p0_stage (fun (r2 : Int32) (m2_0 : (Nat → Int32)) (m2_1 : Int32) (m2_2 : Int32) (m2_3 : Int32) (m2_4 : Int32) =>
narrow .boolean (.int r2) = .int r2 ∧ (P r2 m2_0 m2_1 m2_2 m2_3 m2_4 v_p0_ringsWhole)))) ∧ (¬ (v_p0_stage = (1 : Int32)) → (
(v_p0_stage = (2 : Int32) → (
M_X7_goOnBehindPoint x1 v_p0_latest v_p0_first f_p0_led v_p0_ringsWhole v_p0_stage (fun (r3 : Int32) (m3_0 : (Nat → Int32)) (m3_1 : Int32) (m3_2 : Int32) =>
narrow .boolean (.int r3) = .int r3 ∧ (P r3 m3_0 v_p0_told v_p0_latest m3_2 v_p0_first m3_1)))) ∧ (¬ (v_p0_stage = (2 : Int32)) → (
M_X7_openRing x1 v_p0_first v_p0_stage (fun (r4 : Int32) (m4_0 : Int32) (m4_1 : Int32) =>
narrow .boolean (.int r4) = .int r4 ∧ (P r4 f_p0_led v_p0_told v_p0_latest m4_1 m4_0 v_p0_ringsWhole))))))
def M_X7_faultIn_l7 (x2 : Int32) (v_p1_length : Int32) (f_p1_bytes : (Nat → Int32)) (P : Int32 → Int32 → Int32 → Int32 → Int32 → (Nat → Int32) → Int32 → Int32 → Prop) (v_p0_size : Int32) (K7 : Int32 → Int32 → Int32 → Int32 → (Nat → Int32) → Int32 → Int32 → Prop) (l3 : Int32) (v_p0_stage : Int32) (v_p0_told : Int32) (v_p0_ringsWhole : Int32) (f_p0_led : (Nat → Int32)) (v_p0_latest : Int32) (v_p0_first : Int32) : Prop :=
((v_p1_length ≤ l3) → (
((v_p0_stage = (3 : Int32)) → (
P (-1 : Int32) v_p0_stage v_p0_size v_p0_told v_p0_ringsWhole f_p0_led v_p0_latest v_p0_first)) ∧ (¬ (v_p0_stage = (3 : Int32)) → (
P v_p1_length v_p0_stage v_p0_size v_p0_told v_p0_ringsWhole f_p0_led v_p0_latest v_p0_first)))) ∧ (¬ (v_p1_length ≤ l3) → (
vp_in l3 60 ∧ (
M_X7_canTake (f_p1_bytes l3.toNatClampNeg) v_p0_stage v_p0_size v_p0_told v_p0_first v_p0_latest f_p0_led v_p0_ringsWhole (fun (r5 : Int32) (m5_0 : (Nat → Int32)) (m5_1 : Int32) (m5_2 : Int32) (m5_3 : Int32) (m5_4 : Int32) (m5_5 : Int32) =>
((r5 = 0) → (
P l3 m5_3 v_p0_size m5_1 m5_5 m5_0 m5_2 m5_4)) ∧ (¬ (r5 = 0) → (
K7 (l3 + 1) m5_3 m5_1 m5_5 m5_0 m5_2 m5_4))))))
def M_X7_faultIn (x2 : Int32) (v_p0_stage : Int32) (v_p0_size : Int32) (v_p0_told : Int32) (v_p0_ringsWhole : Int32) (f_p0_led : (Nat → Int32)) (v_p1_length : Int32) (f_p1_bytes : (Nat → Int32)) (v_p0_first : Int32) (v_p0_latest : Int32) (P : Int32 → Int32 → Int32 → Int32 → Int32 → (Nat → Int32) → Int32 → Int32 → Prop) : Prop :=
M_X7_begin x2 v_p0_stage v_p0_size v_p0_told v_p0_ringsWhole f_p0_led (fun (m1_0 : Int32) (m1_1 : Int32) (m1_2 : Int32) (m1_3 : Int32) (m1_4 : (Nat → Int32)) =>
∃ n : Nat, LP7 (M_X7_faultIn_l7 x2 v_p1_length f_p1_bytes P m1_1) n (0 : Int32) m1_0 m1_2 m1_3 m1_4 v_p0_latest v_p0_first)
def M_X7_keepReasons (x1 : Int32) (v_p0_hasReasons : Int32) (v_p0_ringsWhole : Int32) (f_p0_reasons : (Nat → Int64)) (v_p0_told : Int32) (P : Int32 → (Nat → Int64) → Prop) : Prop :=
vp_in (0 : Int32) 3 ∧ (
M_J6_bitCount_0f7a4 v_p0_told (fun (r2 : Int32) =>
vp_in (1 : Int32) 3 ∧ (
vp_in (2 : Int32) 3 ∧ (
P (1 : Int32) (vp_updL (vp_updL (vp_updL f_p0_reasons (0 : Int32).toNatClampNeg v_p0_ringsWhole.toInt64) (1 : Int32).toNatClampNeg r2.toInt64) (2 : Int32).toNatClampNeg x1.toInt64)))))
def M_X8_points (x1 : Int32) (v_p0_chart_size : Int32) (f_p0_chart_led : (Nat → Int32)) (v_p0_deeds_amount : Int32) (P : Int32 → Int32 → (Nat → Int32) → Int32 → Prop) : Prop :=
((x1 < (2 : Int32)) → (
P (-2 : Int32) v_p0_chart_size f_p0_chart_led v_p0_deeds_amount)) ∧ (¬ (x1 < (2 : Int32)) → (
((x1 ≤ (8 : Int32)) → (
M_X0_startWith x1 v_p0_chart_size f_p0_chart_led (fun (m3_0 : Int32) (m3_1 : (Nat → Int32)) =>
M_X1_forget v_p0_deeds_amount (fun (m4_0 : Int32) =>
P v_p0_chart_size m3_0 m3_1 m4_0)))) ∧ (¬ (x1 ≤ (8 : Int32)) → (
P (-2 : Int32) v_p0_chart_size f_p0_chart_led v_p0_deeds_amount))))
def M_X8_way_b12 (x1 : Int32) (P : Int32 → Int32 → Int32 → Prop) (v_p0_chart_way : Int32) (v_p0_deeds_amount : Int32) : Prop :=
M_X1_forget v_p0_deeds_amount (fun (m1_0 : Int32) =>
P v_p0_chart_way x1 m1_0)
def M_X8_way (x1 : Int32) (v_p0_chart_way : Int32) (v_p0_deeds_amount : Int32) (P : Int32 → Int32 → Int32 → Prop) : Prop :=
((x1 = 0) → (
M_X8_way_b12 x1 P v_p0_chart_way v_p0_deeds_amount)) ∧ (¬ (x1 = 0) → (
((x1 = (1 : Int32)) → (
M_X8_way_b12 x1 P v_p0_chart_way v_p0_deeds_amount)) ∧ (¬ (x1 = (1 : Int32)) → (
P (-2 : Int32) v_p0_chart_way v_p0_deeds_amount))))
def M_X8_lead (x1 : Int32) (x2 : Int32) (v_p0_chart_size : Int32) (f_p0_chart_led : (Nat → Int32)) (v_p0_deeds_amount : Int32) (f_p0_deeds_maps : (Nat → Int32)) (P : Int32 → (Nat → Int32) → Int32 → (Nat → Int32) → Prop) : Prop :=
M_X0_holds x1 v_p0_chart_size (fun (r1 : Int32) =>
((r1 = 0) → (
P (-2 : Int32) f_p0_deeds_maps v_p0_deeds_amount f_p0_chart_led)) ∧ (¬ (r1 = 0) → (
M_X0_holds x2 v_p0_chart_size (fun (r3 : Int32) =>
((r3 = 0) → (
P (-2 : Int32) f_p0_deeds_maps v_p0_deeds_amount f_p0_chart_led)) ∧ (¬ (r3 = 0) → (
M_X0_packed f_p0_chart_led (fun (r5 : Int32) =>
M_X1_keep r5 v_p0_deeds_amount f_p0_deeds_maps (fun (m6_0 : (Nat → Int32)) (m6_1 : Int32) =>
vp_in x1 8 ∧ (
vp_in x1 8 ∧ (
P (f_p0_chart_led x1.toNatClampNeg) m6_0 m6_1 (upd f_p0_chart_led x1.toNatClampNeg x2)))))))))))
def M_X8_of (x1 : Int32) (x2 : Int32) (v_p0_chart_size : Int32) (f_p0_chart_led : (Nat → Int32)) (P : Int32 → Prop) : Prop :=
M_X0_holds x1 v_p0_chart_size (fun (r1 : Int32) =>
((r1 = 0) → (
P (-2 : Int32))) ∧ (¬ (r1 = 0) → (
(x2 = (0 : Int32) → (
vp_in x1 8 ∧ (
P (f_p0_chart_led x1.toNatClampNeg)))) ∧ (¬ (x2 = (0 : Int32)) → (
(x2 = (1 : Int32) → (
M_X0_tailOf x1 v_p0_chart_size f_p0_chart_led (fun (r5 : Int32) =>
P r5))) ∧ (¬ (x2 = (1 : Int32)) → (
(x2 = (2 : Int32) → (
M_X0_ringBits x1 v_p0_chart_size f_p0_chart_led (fun (r6 : Int32) =>
P r6))) ∧ (¬ (x2 = (2 : Int32)) → (
(x2 = (3 : Int32) → (
M_X0_ringBits x1 v_p0_chart_size f_p0_chart_led (fun (r7 : Int32) =>
M_J6_bitCount_0f7a4 r7 (fun (r8 : Int32) =>
P r8)))) ∧ (¬ (x2 = (3 : Int32)) → (
P (-2 : Int32))))))))))))
def M_X8_map (v_p0_chart_size : Int32) (f_p0_chart_led : (Nat → Int32)) (P : Int32 → Prop) : Prop :=
M_X0_figures v_p0_chart_size f_p0_chart_led (fun (r1 : Int32) =>
P r1)
def M_X8_rings (x1 : Int32) (v_p0_chart_size : Int32) (f_p0_chart_led : (Nat → Int32)) (P : Int32 → Prop) : Prop :=
(x1 = (0 : Int32) → (
M_X0_ringNumber v_p0_chart_size f_p0_chart_led (fun (r2 : Int32) =>
P r2))) ∧ (¬ (x1 = (0 : Int32)) → (
(x1 = (1 : Int32) → (
M_X0_pointsOnRings v_p0_chart_size f_p0_chart_led (fun (r3 : Int32) =>
P r3))) ∧ (¬ (x1 = (1 : Int32)) → (
(x1 = (2 : Int32) → (
M_X0_greatestRing v_p0_chart_size f_p0_chart_led (fun (r4 : Int32) =>
P r4))) ∧ (¬ (x1 = (2 : Int32)) → (
(x1 = (3 : Int32) → (
M_X0_pointsOnRings v_p0_chart_size f_p0_chart_led (fun (r5 : Int32) =>
((r5 = v_p0_chart_size) → (
P (1 : Int32))) ∧ (¬ (r5 = v_p0_chart_size) → (
P (0 : Int32)))))) ∧ (¬ (x1 = (3 : Int32)) → (
P (-2 : Int32)))))))))
def M_X8_ring (x1 : Int32) (x2 : Int32) (v_p0_chart_size : Int32) (f_p0_chart_led : (Nat → Int32)) (P : Int32 → Prop) : Prop :=
M_X0_leastOfRing x1 v_p0_chart_size f_p0_chart_led (fun (r1 : Int32) =>
((0 ≤ r1) → (
M_X0_ringBits r1 v_p0_chart_size f_p0_chart_led (fun (r3 : Int32) =>
M_J6_bitCount_0f7a4 r3 (fun (r4 : Int32) =>
(x2 = (0 : Int32) → (
M_X2_ofRing r4 (fun (r6 : Int32) =>
P r6))) ∧ (¬ (x2 = (0 : Int32)) → (
(x2 = (1 : Int32) → (
P r4)) ∧ (¬ (x2 = (1 : Int32)) → (
(x2 = (2 : Int32) → (
P r1)) ∧ (¬ (x2 = (2 : Int32)) → (
P (-2 : Int32))))))))))) ∧ (¬ (0 ≤ r1) → (
P (-2 : Int32))))
def M_X8_taken (x1 : Int32) (x2 : Int32) (v_p0_chart_size : Int32) (f_p0_chart_led : (Nat → Int32)) (P : Int32 → Prop) : Prop :=
M_X0_leastOfRing x1 v_p0_chart_size f_p0_chart_led (fun (r1 : Int32) =>
((r1 < 0) → (
P (-2 : Int32))) ∧ (¬ (r1 < 0) → (
((x2 < 0) → (
P (-2 : Int32))) ∧ (¬ (x2 < 0) → (
((x2 ≤ (4 : Int32)) → (
M_X0_ringBits r1 v_p0_chart_size f_p0_chart_led (fun (r5 : Int32) =>
M_J6_bitCount_0f7a4 r5 (fun (r6 : Int32) =>
M_X2_ofRing r6 (fun (r7 : Int32) =>
M_X2_isUnder r7 x2 (fun (r8 : Int32) =>
((r8 = 0) → (
P (-13 : Int32))) ∧ (¬ (r8 = 0) → (
P r6)))))))) ∧ (¬ (x2 ≤ (4 : Int32)) → (
P (-2 : Int32))))))))
def M_X8_covers (x1 : Int32) (x2 : Int32) (v_p0_chart_way : Int32) (v_p0_chart_size : Int32) (v_p0_pieces_number : Int32) (v_p0_pieces_falling : Int32) (f_p0_chart_led : (Nat → Int32)) (f_p0_pieces_covered : (Nat → Int32)) (P : Int32 → Int32 → Int32 → (Nat → Int32) → Prop) : Prop :=
M_X5_learn v_p0_chart_way v_p0_chart_size v_p0_pieces_number v_p0_pieces_falling f_p0_chart_led f_p0_pieces_covered (fun (m1_0 : Int32) (m1_1 : Int32) (m1_2 : (Nat → Int32)) =>
M_X5_holds x1 m1_0 (fun (r2 : Int32) =>
((r2 = 0) → (
P (-2 : Int32) m1_0 m1_1 m1_2)) ∧ (¬ (r2 = 0) → (
(x2 = (0 : Int32) → (
vp_in x1 8 ∧ (
P (m1_2 x1.toNatClampNeg) m1_0 m1_1 m1_2))) ∧ (¬ (x2 = (0 : Int32)) → (
(x2 = (1 : Int32) → (
M_X5_falls x1 m1_1 (fun (r6 : Int32) =>
((r6 = 0) → (
P (0 : Int32) m1_0 m1_1 m1_2)) ∧ (¬ (r6 = 0) → (
P (1 : Int32) m1_0 m1_1 m1_2))))) ∧ (¬ (x2 = (1 : Int32)) → (
(x2 = (2 : Int32) → (
M_X5_reachedFrom x1 m1_2 m1_0 (fun (r8 : Int32) =>
P r8 m1_0 m1_1 m1_2))) ∧ (¬ (x2 = (2 : Int32)) → (
P (-2 : Int32) m1_0 m1_1 m1_2))))))))))
def M_X8_paths (x1 : Int32) (x2 : Int32) (x3 : Int32) (v_p0_chart_way : Int32) (v_p0_chart_size : Int32) (v_p0_pieces_number : Int32) (v_p0_pieces_falling : Int32) (f_p0_chart_led : (Nat → Int32)) (f_p0_pieces_covered : (Nat → Int32)) (f_p0_pieces_counts : (Nat → Int64)) (f_p0_pieces_earlier : (Nat → Int64)) (P : Int64 → Int32 → Int32 → (Nat → Int32) → (Nat → Int64) → (Nat → Int64) → Prop) : Prop :=
M_X5_learn v_p0_chart_way v_p0_chart_size v_p0_pieces_number v_p0_pieces_falling f_p0_chart_led f_p0_pieces_covered (fun (m1_0 : Int32) (m1_1 : Int32) (m1_2 : (Nat → Int32)) =>
M_X5_holds x1 m1_0 (fun (r2 : Int32) =>
((r2 = 0) → (
P (-9223372036854775808 : Int64) m1_0 m1_1 m1_2 f_p0_pieces_counts f_p0_pieces_earlier)) ∧ (¬ (r2 = 0) → (
M_X5_holds x2 m1_0 (fun (r4 : Int32) =>
((r4 = 0) → (
P (-9223372036854775808 : Int64) m1_0 m1_1 m1_2 f_p0_pieces_counts f_p0_pieces_earlier)) ∧ (¬ (r4 = 0) → (
((x3 < 0) → (
P (-9223372036854775808 : Int64) m1_0 m1_1 m1_2 f_p0_pieces_counts f_p0_pieces_earlier)) ∧ (¬ (x3 < 0) → (
((x3 ≤ (30 : Int32)) → (
M_X5_pathNumber x1 x2 x3 f_p0_pieces_counts f_p0_pieces_earlier m1_0 m1_2 (fun (r8 : Int64) (m8_0 : (Nat → Int64)) (m8_1 : (Nat → Int64)) =>
P r8 m1_0 m1_1 m1_2 m8_0 m8_1))) ∧ (¬ (x3 ≤ (30 : Int32)) → (
P (-9223372036854775808 : Int64) m1_0 m1_1 m1_2 f_p0_pieces_counts f_p0_pieces_earlier)))))))))))
def M_X8_loops (x1 : Int32) (x2 : Int32) (v_p0_chart_way : Int32) (v_p0_chart_size : Int32) (v_p0_pieces_number : Int32) (v_p0_pieces_falling : Int32) (f_p0_chart_led : (Nat → Int32)) (f_p0_pieces_covered : (Nat → Int32)) (f_p0_pieces_closed : (Nat → Int64)) (f_p0_pieces_simple : (Nat → Int64)) (f_p0_pieces_counts : (Nat → Int64)) (f_p0_pieces_earlier : (Nat → Int64)) (P : Int64 → Int32 → Int32 → (Nat → Int32) → (Nat → Int64) → (Nat → Int64) → (Nat → Int64) → (Nat → Int64) → Prop) : Prop :=
((x1 < (1 : Int32)) → (
P (-9223372036854775808 : Int64) v_p0_pieces_number v_p0_pieces_falling f_p0_pieces_covered f_p0_pieces_simple f_p0_pieces_counts f_p0_pieces_earlier f_p0_pieces_closed)) ∧ (¬ (x1 < (1 : Int32)) → (
(((30 : Int32) < x1) → (
P (-9223372036854775808 : Int64) v_p0_pieces_number v_p0_pieces_falling f_p0_pieces_covered f_p0_pieces_simple f_p0_pieces_counts f_p0_pieces_earlier f_p0_pieces_closed)) ∧ (¬ ((30 : Int32) < x1) → (
((x2 < 0) → (
P (-9223372036854775808 : Int64) v_p0_pieces_number v_p0_pieces_falling f_p0_pieces_covered f_p0_pieces_simple f_p0_pieces_counts f_p0_pieces_earlier f_p0_pieces_closed)) ∧ (¬ (x2 < 0) → (
((x2 ≤ (1 : Int32)) → (
M_X5_learn v_p0_chart_way v_p0_chart_size v_p0_pieces_number v_p0_pieces_falling f_p0_chart_led f_p0_pieces_covered (fun (m5_0 : Int32) (m5_1 : Int32) (m5_2 : (Nat → Int32)) =>
M_X5_measureLoops x1 m5_0 f_p0_pieces_closed f_p0_pieces_simple f_p0_pieces_counts f_p0_pieces_earlier m5_2 (fun (m6_0 : (Nat → Int64)) (m6_1 : (Nat → Int64)) (m6_2 : (Nat → Int64)) (m6_3 : (Nat → Int64)) =>
((x2 = 0) → (
vp_in x1 31 ∧ (
P (m6_3 x1.toNatClampNeg) m5_0 m5_1 m5_2 m6_0 m6_1 m6_2 m6_3))) ∧ (¬ (x2 = 0) → (
vp_in x1 31 ∧ (
P (m6_0 x1.toNatClampNeg) m5_0 m5_1 m5_2 m6_0 m6_1 m6_2 m6_3))))))) ∧ (¬ (x2 ≤ (1 : Int32)) → (
P (-9223372036854775808 : Int64) v_p0_pieces_number v_p0_pieces_falling f_p0_pieces_covered f_p0_pieces_simple f_p0_pieces_counts f_p0_pieces_earlier f_p0_pieces_closed))))))))
def M_X8_forcedBits_l30 (v_p0_chart_way : Int32) (v_p0_chart_size : Int32) (f_p0_chart_led : (Nat → Int32)) (P : Int32 → Int32 → Int32 → (Nat → Int32) → (Nat → Int64) → (Nat → Int64) → (Nat → Int64) → (Nat → Int64) → Prop) (v_p0_pieces_number : Int32) (v_p0_pieces_falling : Int32) (f_p0_pieces_covered : (Nat → Int32)) (f_p0_pieces_simple : (Nat → Int64)) (f_p0_pieces_counts : (Nat → Int64)) (f_p0_pieces_earlier : (Nat → Int64)) (f_p0_pieces_closed : (Nat → Int64)) (K30 : Int32 → Int32 → Prop) (l1 : Int32) (l2 : Int32) : Prop :=
(((12 : Int32) < l2) → (
P l1 v_p0_pieces_number v_p0_pieces_falling f_p0_pieces_covered f_p0_pieces_simple f_p0_pieces_counts f_p0_pieces_earlier f_p0_pieces_closed)) ∧ (¬ ((12 : Int32) < l2) → (
vp_in l2 31 ∧ (
(((lg_cmp (f_p0_pieces_simple l2.toNatClampNeg) (0 : Int64)) = 0) → (
K30 l1 (l2 + 1))) ∧ (¬ ((lg_cmp (f_p0_pieces_simple l2.toNatClampNeg) (0 : Int64)) = 0) → (
K30 (l1 ||| ((1 : Int32) <<< (l2 &&& 31))) (l2 + 1))))))
def M_X8_forcedBits (v_p0_chart_way : Int32) (v_p0_chart_size : Int32) (v_p0_pieces_number : Int32) (v_p0_pieces_falling : Int32) (f_p0_chart_led : (Nat → Int32)) (f_p0_pieces_covered : (Nat → Int32)) (f_p0_pieces_closed : (Nat → Int64)) (f_p0_pieces_simple : (Nat → Int64)) (f_p0_pieces_counts : (Nat → Int64)) (f_p0_pieces_earlier : (Nat → Int64)) (P : Int32 → Int32 → Int32 → (Nat → Int32) → (Nat → Int64) → (Nat → Int64) → (Nat → Int64) → (Nat → Int64) → Prop) : Prop :=
M_X5_learn v_p0_chart_way v_p0_chart_size v_p0_pieces_number v_p0_pieces_falling f_p0_chart_led f_p0_pieces_covered (fun (m1_0 : Int32) (m1_1 : Int32) (m1_2 : (Nat → Int32)) =>
M_X5_measureLoops (12 : Int32) m1_0 f_p0_pieces_closed f_p0_pieces_simple f_p0_pieces_counts f_p0_pieces_earlier m1_2 (fun (m2_0 : (Nat → Int64)) (m2_1 : (Nat → Int64)) (m2_2 : (Nat → Int64)) (m2_3 : (Nat → Int64)) =>
M_X0_ringSizes v_p0_chart_size f_p0_chart_led (fun (r3 : Int32) =>
∃ n : Nat, LP2 (M_X8_forcedBits_l30 v_p0_chart_way v_p0_chart_size f_p0_chart_led P m1_0 m1_1 m1_2 m2_0 m2_1 m2_2 m2_3) n r3 (1 : Int32))))
def M_X8_forced (x1 : Int32) (v_p0_chart_way : Int32) (v_p0_chart_size : Int32) (v_p0_pieces_number : Int32) (v_p0_pieces_falling : Int32) (f_p0_chart_led : (Nat → Int32)) (f_p0_pieces_covered : (Nat → Int32)) (f_p0_pieces_closed : (Nat → Int64)) (f_p0_pieces_simple : (Nat → Int64)) (f_p0_pieces_counts : (Nat → Int64)) (f_p0_pieces_earlier : (Nat → Int64)) (P : Int32 → Int32 → Int32 → (Nat → Int32) → (Nat → Int64) → (Nat → Int64) → (Nat → Int64) → (Nat → Int64) → Prop) : Prop :=
((x1 < (1 : Int32)) → (
P (-2 : Int32) v_p0_pieces_number v_p0_pieces_falling f_p0_pieces_covered f_p0_pieces_simple f_p0_pieces_counts f_p0_pieces_earlier f_p0_pieces_closed)) ∧ (¬ (x1 < (1 : Int32)) → (
((x1 ≤ (12 : Int32)) → (
M_X8_forcedBits v_p0_chart_way v_p0_chart_size v_p0_pieces_number v_p0_pieces_falling f_p0_chart_led f_p0_pieces_covered f_p0_pieces_closed f_p0_pieces_simple f_p0_pieces_counts f_p0_pieces_earlier (fun (r3 : Int32) (m3_0 : Int32) (m3_1 : Int32) (m3_2 : (Nat → Int32)) (m3_3 : (Nat → Int64)) (m3_4 : (Nat → Int64)) (m3_5 : (Nat → Int64)) (m3_6 : (Nat → Int64)) =>
P ((r3 >>> (x1 &&& 31)) &&& (1 : Int32)) m3_0 m3_1 m3_2 m3_3 m3_4 m3_5 m3_6))) ∧ (¬ (x1 ≤ (12 : Int32)) → (
P (-2 : Int32) v_p0_pieces_number v_p0_pieces_falling f_p0_pieces_covered f_p0_pieces_simple f_p0_pieces_counts f_p0_pieces_earlier f_p0_pieces_closed))))
def M_X8_allForced (v_p0_chart_way : Int32) (v_p0_chart_size : Int32) (v_p0_pieces_number : Int32) (v_p0_pieces_falling : Int32) (f_p0_chart_led : (Nat → Int32)) (f_p0_pieces_covered : (Nat → Int32)) (f_p0_pieces_closed : (Nat → Int64)) (f_p0_pieces_simple : (Nat → Int64)) (f_p0_pieces_counts : (Nat → Int64)) (f_p0_pieces_earlier : (Nat → Int64)) (P : Int32 → Int32 → Int32 → (Nat → Int32) → (Nat → Int64) → (Nat → Int64) → (Nat → Int64) → (Nat → Int64) → Prop) : Prop :=
M_X8_forcedBits v_p0_chart_way v_p0_chart_size v_p0_pieces_number v_p0_pieces_falling f_p0_chart_led f_p0_pieces_covered f_p0_pieces_closed f_p0_pieces_simple f_p0_pieces_counts f_p0_pieces_earlier (fun (r1 : Int32) (m1_0 : Int32) (m1_1 : Int32) (m1_2 : (Nat → Int32)) (m1_3 : (Nat → Int64)) (m1_4 : (Nat → Int64)) (m1_5 : (Nat → Int64)) (m1_6 : (Nat → Int64)) =>
P r1 m1_0 m1_1 m1_2 m1_3 m1_4 m1_5 m1_6)
def M_X8_ahead (x1 : Int32) (x2 : Int32) (P : Int32 → Prop) : Prop :=
((x1 < (1 : Int32)) → (
P (-2 : Int32))) ∧ (¬ (x1 < (1 : Int32)) → (
(((99 : Int32) < x1) → (
P (-2 : Int32))) ∧ (¬ ((99 : Int32) < x1) → (
((x2 < (1 : Int32)) → (
P (-2 : Int32))) ∧ (¬ (x2 < (1 : Int32)) → (
((x2 ≤ (99 : Int32)) → (
M_X3_isAhead x1 x2 (fun (r5 : Int32) =>
((r5 = 0) → (
P (0 : Int32))) ∧ (¬ (r5 = 0) → (
P (1 : Int32)))))) ∧ (¬ (x2 ≤ (99 : Int32)) → (
P (-2 : Int32)))))))))
def M_X8_order_b21 (x1 : Int32) (x2 : Int32) (P : Int32 → Prop)  : Prop :=
((x2 = (1 : Int32)) → (
((x1 < (1 : Int32)) → (
P (-2 : Int32))) ∧ (¬ (x1 < (1 : Int32)) → (
(((12 : Int32) < x1) → (
P (-2 : Int32))) ∧ (¬ ((12 : Int32) < x1) → (
M_X3_placeOf x1 (12 : Int32) (fun (r4 : Int32) =>
P r4))))))) ∧ (¬ (x2 = (1 : Int32)) → (
P (-2 : Int32)))
def M_X8_order (x1 : Int32) (x2 : Int32) (P : Int32 → Prop) : Prop :=
((x2 = 0) → (
((x1 < 0) → (
M_X8_order_b21 x1 x2 P )) ∧ (¬ (x1 < 0) → (
(((12 : Int32) ≤ x1) → (
M_X8_order_b21 x1 x2 P )) ∧ (¬ ((12 : Int32) ≤ x1) → (
M_X3_numberAt x1 (12 : Int32) (fun (r8 : Int32) =>
P r8))))))) ∧ (¬ (x2 = 0) → (
M_X8_order_b21 x1 x2 P ))
def M_X8_pattern (x1 : Int32) (x2 : Int32) (v_p0_chart_way : Int32) (v_p0_patterns_soughtSize : Int32) (v_p0_chart_size : Int32) (f_p0_chart_led : (Nat → Int32)) (v_p0_patterns_soughtMap : Int32) (v_p0_patterns_pieces_number : Int32) (v_p0_patterns_pieces_falling : Int32) (f_p0_patterns_pieces_covered : (Nat → Int32)) (f_p0_patterns_amount : (Nat → Int32)) (f_p0_patterns_found : (Nat → Int32)) (f_p0_patterns_loop : (Nat → Int32)) (f_p0_patterns_lessRows : (Nat → Int32)) (f_p0_patterns_leads : (Nat → Int32)) (P : Int32 → Int32 → Int32 → Int32 → Int32 → (Nat → Int32) → (Nat → Int32) → (Nat → Int32) → (Nat → Int32) → (Nat → Int32) → (Nat → Int32) → Prop) : Prop :=
M_X4_canBeOf x1 (fun (r1 : Int32) =>
((r1 = 0) → (
P (-2 : Int32) v_p0_patterns_soughtSize v_p0_patterns_soughtMap v_p0_patterns_pieces_number v_p0_patterns_pieces_falling f_p0_patterns_pieces_covered f_p0_patterns_amount f_p0_patterns_found f_p0_patterns_loop f_p0_patterns_lessRows f_p0_patterns_leads)) ∧ (¬ (r1 = 0) → (
(((-1 : Int32) ≤ x2) → (
((v_p0_chart_way = (1 : Int32)) → (
P (-3 : Int32) v_p0_patterns_soughtSize v_p0_patterns_soughtMap v_p0_patterns_pieces_number v_p0_patterns_pieces_falling f_p0_patterns_pieces_covered f_p0_patterns_amount f_p0_patterns_found f_p0_patterns_loop f_p0_patterns_lessRows f_p0_patterns_leads)) ∧ (¬ (v_p0_chart_way = (1 : Int32)) → (
M_X4_seek x1 v_p0_patterns_soughtSize v_p0_chart_size f_p0_chart_led v_p0_patterns_soughtMap v_p0_chart_way v_p0_patterns_pieces_number v_p0_patterns_pieces_falling f_p0_patterns_pieces_covered f_p0_patterns_amount f_p0_patterns_found f_p0_patterns_loop f_p0_patterns_lessRows f_p0_patterns_leads (fun (m5_0 : Int32) (m5_1 : Int32) (m5_2 : Int32) (m5_3 : Int32) (m5_4 : (Nat → Int32)) (m5_5 : (Nat → Int32)) (m5_6 : (Nat → Int32)) (m5_7 : (Nat → Int32)) (m5_8 : (Nat → Int32)) (m5_9 : (Nat → Int32)) =>
vp_in x1 7 ∧ (
((x2 = (-1 : Int32)) → (
P (m5_5 x1.toNatClampNeg) m5_0 m5_1 m5_2 m5_3 m5_4 m5_5 m5_6 m5_7 m5_8 m5_9)) ∧ (¬ (x2 = (-1 : Int32)) → (
(((m5_5 x1.toNatClampNeg) ≤ x2) → (
P (-1 : Int32) m5_0 m5_1 m5_2 m5_3 m5_4 m5_5 m5_6 m5_7 m5_8 m5_9)) ∧ (¬ ((m5_5 x1.toNatClampNeg) ≤ x2) → (
M_X4_at x1 x2 m5_6 (fun (r9 : Int32) =>
P r9 m5_0 m5_1 m5_2 m5_3 m5_4 m5_5 m5_6 m5_7 m5_8 m5_9))))))))))) ∧ (¬ ((-1 : Int32) ≤ x2) → (
P (-2 : Int32) v_p0_patterns_soughtSize v_p0_patterns_soughtMap v_p0_patterns_pieces_number v_p0_patterns_pieces_falling f_p0_patterns_pieces_covered f_p0_patterns_amount f_p0_patterns_found f_p0_patterns_loop f_p0_patterns_lessRows f_p0_patterns_leads)))))
def M_X8_has (x1 : Int32) (x2 : Int32) (v_p0_chart_way : Int32) (v_p0_patterns_soughtSize : Int32) (v_p0_chart_size : Int32) (f_p0_chart_led : (Nat → Int32)) (v_p0_patterns_soughtMap : Int32) (v_p0_patterns_pieces_number : Int32) (v_p0_patterns_pieces_falling : Int32) (f_p0_patterns_pieces_covered : (Nat → Int32)) (f_p0_patterns_amount : (Nat → Int32)) (f_p0_patterns_found : (Nat → Int32)) (f_p0_patterns_loop : (Nat → Int32)) (f_p0_patterns_lessRows : (Nat → Int32)) (f_p0_patterns_leads : (Nat → Int32)) (P : Int32 → Int32 → Int32 → Int32 → Int32 → (Nat → Int32) → (Nat → Int32) → (Nat → Int32) → (Nat → Int32) → (Nat → Int32) → (Nat → Int32) → Prop) : Prop :=
M_X4_canBeOf x1 (fun (r1 : Int32) =>
((r1 = 0) → (
P (-2 : Int32) v_p0_patterns_soughtSize v_p0_patterns_soughtMap v_p0_patterns_pieces_number v_p0_patterns_pieces_falling f_p0_patterns_pieces_covered f_p0_patterns_amount f_p0_patterns_found f_p0_patterns_loop f_p0_patterns_lessRows f_p0_patterns_leads)) ∧ (¬ (r1 = 0) → (
((v_p0_chart_way = (1 : Int32)) → (
P (-3 : Int32) v_p0_patterns_soughtSize v_p0_patterns_soughtMap v_p0_patterns_pieces_number v_p0_patterns_pieces_falling f_p0_patterns_pieces_covered f_p0_patterns_amount f_p0_patterns_found f_p0_patterns_loop f_p0_patterns_lessRows f_p0_patterns_leads)) ∧ (¬ (v_p0_chart_way = (1 : Int32)) → (
M_X4_seek x1 v_p0_patterns_soughtSize v_p0_chart_size f_p0_chart_led v_p0_patterns_soughtMap v_p0_chart_way v_p0_patterns_pieces_number v_p0_patterns_pieces_falling f_p0_patterns_pieces_covered f_p0_patterns_amount f_p0_patterns_found f_p0_patterns_loop f_p0_patterns_lessRows f_p0_patterns_leads (fun (m4_0 : Int32) (m4_1 : Int32) (m4_2 : Int32) (m4_3 : Int32) (m4_4 : (Nat → Int32)) (m4_5 : (Nat → Int32)) (m4_6 : (Nat → Int32)) (m4_7 : (Nat → Int32)) (m4_8 : (Nat → Int32)) (m4_9 : (Nat → Int32)) =>
M_X4_isFound x1 x2 m4_5 m4_6 (fun (r5 : Int32) =>
((r5 = 0) → (
P (0 : Int32) m4_0 m4_1 m4_2 m4_3 m4_4 m4_5 m4_6 m4_7 m4_8 m4_9)) ∧ (¬ (r5 = 0) → (
P (1 : Int32) m4_0 m4_1 m4_2 m4_3 m4_4 m4_5 m4_6 m4_7 m4_8 m4_9)))))))))
def M_X8_growth_b65 (x1 : Int32) (x2 : Int32) (x3 : Int32) (v_p0_chart_way : Int32) (v_p0_chart_size : Int32) (f_p0_chart_led : (Nat → Int32)) (P : Int64 → Int32 → Int32 → (Nat → Int32) → (Nat → Int64) → (Nat → Int64) → Prop) (s1 : Int32) (v_p0_pieces_number : Int32) (v_p0_pieces_falling : Int32) (f_p0_pieces_covered : (Nat → Int32)) (f_p0_pieces_earlier : (Nat → Int64)) (f_p0_pieces_counts : (Nat → Int64)) : Prop :=
M_X5_steepest s1 v_p0_pieces_number f_p0_pieces_earlier f_p0_pieces_counts (fun (r9 : Int32) =>
((0 ≤ r9) → (
M_X5_fractionPart r9 x3 f_p0_pieces_earlier f_p0_pieces_counts (fun (r11 : Int64) =>
P r11 v_p0_pieces_number v_p0_pieces_falling f_p0_pieces_covered f_p0_pieces_earlier f_p0_pieces_counts))) ∧ (¬ (0 ≤ r9) → (
P (-9223372036854775808 : Int64) v_p0_pieces_number v_p0_pieces_falling f_p0_pieces_covered f_p0_pieces_earlier f_p0_pieces_counts)))
def M_X8_growth (x1 : Int32) (x2 : Int32) (x3 : Int32) (v_p0_chart_way : Int32) (v_p0_chart_size : Int32) (v_p0_pieces_number : Int32) (v_p0_pieces_falling : Int32) (f_p0_chart_led : (Nat → Int32)) (f_p0_pieces_covered : (Nat → Int32)) (f_p0_pieces_counts : (Nat → Int64)) (f_p0_pieces_earlier : (Nat → Int64)) (P : Int64 → Int32 → Int32 → (Nat → Int32) → (Nat → Int64) → (Nat → Int64) → Prop) : Prop :=
((x1 < 0) → (
P (-9223372036854775808 : Int64) v_p0_pieces_number v_p0_pieces_falling f_p0_pieces_covered f_p0_pieces_earlier f_p0_pieces_counts)) ∧ (¬ (x1 < 0) → (
(((10 : Int32) < x1) → (
P (-9223372036854775808 : Int64) v_p0_pieces_number v_p0_pieces_falling f_p0_pieces_covered f_p0_pieces_earlier f_p0_pieces_counts)) ∧ (¬ ((10 : Int32) < x1) → (
((x2 < 0) → (
P (-9223372036854775808 : Int64) v_p0_pieces_number v_p0_pieces_falling f_p0_pieces_covered f_p0_pieces_earlier f_p0_pieces_counts)) ∧ (¬ (x2 < 0) → (
(((1 : Int32) < x2) → (
P (-9223372036854775808 : Int64) v_p0_pieces_number v_p0_pieces_falling f_p0_pieces_covered f_p0_pieces_earlier f_p0_pieces_counts)) ∧ (¬ ((1 : Int32) < x2) → (
((x3 < 0) → (
P (-9223372036854775808 : Int64) v_p0_pieces_number v_p0_pieces_falling f_p0_pieces_covered f_p0_pieces_earlier f_p0_pieces_counts)) ∧ (¬ (x3 < 0) → (
((x3 ≤ (1 : Int32)) → (
M_X5_learn v_p0_chart_way v_p0_chart_size v_p0_pieces_number v_p0_pieces_falling f_p0_chart_led f_p0_pieces_covered (fun (m7_0 : Int32) (m7_1 : Int32) (m7_2 : (Nat → Int32)) =>
M_X5_countTwice x1 f_p0_pieces_counts f_p0_pieces_earlier m7_0 m7_2 (fun (m8_0 : (Nat → Int64)) (m8_1 : (Nat → Int64)) =>
((x2 = (1 : Int32)) → (
M_X8_growth_b65 x1 x2 x3 v_p0_chart_way v_p0_chart_size f_p0_chart_led P (1 : Int32) m7_0 m7_1 m7_2 m8_0 m8_1)) ∧ (¬ (x2 = (1 : Int32)) → (
M_X8_growth_b65 x1 x2 x3 v_p0_chart_way v_p0_chart_size f_p0_chart_led P (0 : Int32) m7_0 m7_1 m7_2 m8_0 m8_1)))))) ∧ (¬ (x3 ≤ (1 : Int32)) → (
P (-9223372036854775808 : Int64) v_p0_pieces_number v_p0_pieces_falling f_p0_pieces_covered f_p0_pieces_earlier f_p0_pieces_counts))))))))))))
def M_X8_polynomial (x1 : Int32) (v_p0_chart_way : Int32) (v_p0_chart_size : Int32) (v_p0_pieces_number : Int32) (v_p0_pieces_falling : Int32) (f_p0_chart_led : (Nat → Int32)) (f_p0_pieces_covered : (Nat → Int32)) (f_p0_pieces_closed : (Nat → Int64)) (f_p0_pieces_simple : (Nat → Int64)) (f_p0_pieces_counts : (Nat → Int64)) (f_p0_pieces_earlier : (Nat → Int64)) (f_p0_pieces_coefficients : (Nat → Int64)) (P : Int64 → Int32 → Int32 → (Nat → Int32) → (Nat → Int64) → (Nat → Int64) → (Nat → Int64) → (Nat → Int64) → (Nat → Int64) → Prop) : Prop :=
M_X5_learn v_p0_chart_way v_p0_chart_size v_p0_pieces_number v_p0_pieces_falling f_p0_chart_led f_p0_pieces_covered (fun (m1_0 : Int32) (m1_1 : Int32) (m1_2 : (Nat → Int32)) =>
((x1 < 0) → (
P (-9223372036854775808 : Int64) m1_0 m1_1 m1_2 f_p0_pieces_simple f_p0_pieces_counts f_p0_pieces_earlier f_p0_pieces_closed f_p0_pieces_coefficients)) ∧ (¬ (x1 < 0) → (
((x1 ≤ m1_0) → (
M_X5_coefficient x1 m1_0 f_p0_pieces_closed f_p0_pieces_simple f_p0_pieces_counts f_p0_pieces_earlier m1_2 f_p0_pieces_coefficients (fun (r4 : Int64) (m4_0 : (Nat → Int64)) (m4_1 : (Nat → Int64)) (m4_2 : (Nat → Int64)) (m4_3 : (Nat → Int64)) (m4_4 : (Nat → Int64)) =>
P r4 m1_0 m1_1 m1_2 m4_0 m4_1 m4_2 m4_3 m4_4))) ∧ (¬ (x1 ≤ m1_0) → (
P (-9223372036854775808 : Int64) m1_0 m1_1 m1_2 f_p0_pieces_simple f_p0_pieces_counts f_p0_pieces_earlier f_p0_pieces_closed f_p0_pieces_coefficients)))))
def M_X8_withoutLast_l4 (x0 : Int32) (x1 : Int32) (P : Int32 → Prop)  (K4 : Int32 → Int32 → Prop) (l2 : Int32) (l3 : Int32) : Prop :=
((x1 ≤ l3) → (
P l2)) ∧ (¬ (x1 ≤ l3) → (
K4 (l2 / (10 : Int32)) (l3 + 1)))
def M_X8_withoutLast (x0 : Int32) (x1 : Int32) (P : Int32 → Prop) : Prop :=
∃ n : Nat, LP2 (M_X8_withoutLast_l4 x0 x1 P ) n x0 (0 : Int32)
def M_X8_areTurnings_l16 (x0 : Int32) (x1 : Int32) (P : Int32 → Prop)  (K16 : Int32 → Prop) (l2 : Int32) : Prop :=
((x0 ≤ l2) → (
P (1 : Int32))) ∧ (¬ (x0 ≤ l2) → (
M_X8_withoutLast x1 l2 (fun (r5 : Int32) =>
(((r5 - r5 / (10 : Int32) * (10 : Int32)) ≤ (4 : Int32)) → (
K16 (l2 + 1))) ∧ (¬ ((r5 - r5 / (10 : Int32) * (10 : Int32)) ≤ (4 : Int32)) → (
P (0 : Int32))))))
def M_X8_areTurnings (x0 : Int32) (x1 : Int32) (P : Int32 → Prop) : Prop :=
((x1 < 0) → (
P (0 : Int32))) ∧ (¬ (x1 < 0) → (
M_X8_withoutLast x1 x0 (fun (r2 : Int32) =>
((r2 = 0) → (
∃ n : Nat, LP1 (M_X8_areTurnings_l16 x0 x1 P ) n (0 : Int32))) ∧ (¬ (r2 = 0) → (
P (0 : Int32))))))
def M_X8_turn_l54 (x1 : Int32) (x2 : Int32) (x3 : Int32) (v_p0_chart_size : Int32) (P : Int32 → (Nat → Int32) → Int32 → (Nat → Int32) → (Nat → Int32) → Prop) (f_p0_deeds_maps : (Nat → Int32)) (v_p0_deeds_amount : Int32) (K54 : Int32 → Int32 → (Nat → Int32) → (Nat → Int32) → Prop) (l4 : Int32) (l5 : Int32) (f_p0_chart_turnedLed : (Nat → Int32)) (f_p0_chart_led : (Nat → Int32)) : Prop :=
((l5 < 0) → (
P l4 f_p0_deeds_maps v_p0_deeds_amount f_p0_chart_turnedLed f_p0_chart_led)) ∧ (¬ (l5 < 0) → (
M_X8_withoutLast x2 l5 (fun (r10 : Int32) =>
M_X0_turned (r10 - r10 / (10 : Int32) * (10 : Int32)) x3 v_p0_chart_size f_p0_chart_led f_p0_chart_turnedLed (fun (r11 : Int32) (m11_0 : (Nat → Int32)) (m11_1 : (Nat → Int32)) =>
((r11 = 0) → (
K54 l4 (l5 + (-1)) m11_0 m11_1)) ∧ (¬ (r11 = 0) → (
K54 (l4 + 1) (l5 + (-1)) m11_0 m11_1))))))
def M_X8_turn (x1 : Int32) (x2 : Int32) (x3 : Int32) (f_p0_chart_led : (Nat → Int32)) (v_p0_deeds_amount : Int32) (f_p0_deeds_maps : (Nat → Int32)) (v_p0_chart_size : Int32) (f_p0_chart_turnedLed : (Nat → Int32)) (P : Int32 → (Nat → Int32) → Int32 → (Nat → Int32) → (Nat → Int32) → Prop) : Prop :=
((x1 < (1 : Int32)) → (
P (-2 : Int32) f_p0_deeds_maps v_p0_deeds_amount f_p0_chart_turnedLed f_p0_chart_led)) ∧ (¬ (x1 < (1 : Int32)) → (
(((6 : Int32) < x1) → (
P (-2 : Int32) f_p0_deeds_maps v_p0_deeds_amount f_p0_chart_turnedLed f_p0_chart_led)) ∧ (¬ ((6 : Int32) < x1) → (
M_X8_areTurnings x1 x2 (fun (r3 : Int32) =>
((r3 = 0) → (
P (-2 : Int32) f_p0_deeds_maps v_p0_deeds_amount f_p0_chart_turnedLed f_p0_chart_led)) ∧ (¬ (r3 = 0) → (
((x3 < 0) → (
P (-2 : Int32) f_p0_deeds_maps v_p0_deeds_amount f_p0_chart_turnedLed f_p0_chart_led)) ∧ (¬ (x3 < 0) → (
((x3 < (8 : Int32)) → (
M_X0_packed f_p0_chart_led (fun (r7 : Int32) =>
M_X1_keep r7 v_p0_deeds_amount f_p0_deeds_maps (fun (m8_0 : (Nat → Int32)) (m8_1 : Int32) =>
∃ n : Nat, LP4 (M_X8_turn_l54 x1 x2 x3 v_p0_chart_size P m8_0 m8_1) n (0 : Int32) (x1 - (1 : Int32)) f_p0_chart_turnedLed f_p0_chart_led)))) ∧ (¬ (x3 < (8 : Int32)) → (
P (-2 : Int32) f_p0_deeds_maps v_p0_deeds_amount f_p0_chart_turnedLed f_p0_chart_led)))))))))))
def M_X8_feed (x1 : Int32) (v_p0_tape_length : Int32) (f_p0_tape_bytes : (Nat → Int32)) (P : Int32 → (Nat → Int32) → Int32 → Prop) : Prop :=
((x1 < 0) → (
P (-2 : Int32) f_p0_tape_bytes v_p0_tape_length)) ∧ (¬ (x1 < 0) → (
((x1 ≤ (127 : Int32)) → (
((v_p0_tape_length < (60 : Int32)) → (
M_X6_put x1 v_p0_tape_length f_p0_tape_bytes (fun (m4_0 : (Nat → Int32)) (m4_1 : Int32) =>
P m4_1 m4_0 m4_1))) ∧ (¬ (v_p0_tape_length < (60 : Int32)) → (
P (-4 : Int32) f_p0_tape_bytes v_p0_tape_length)))) ∧ (¬ (x1 ≤ (127 : Int32)) → (
P (-2 : Int32) f_p0_tape_bytes v_p0_tape_length))))
def M_X8_read (v_p0_chart_size : Int32) (v_p0_text_stage : Int32) (v_p0_text_size : Int32) (v_p0_text_told : Int32) (v_p0_text_ringsWhole : Int32) (f_p0_text_led : (Nat → Int32)) (v_p0_tape_length : Int32) (f_p0_tape_bytes : (Nat → Int32)) (v_p0_text_first : Int32) (v_p0_text_latest : Int32) (f_p0_chart_led : (Nat → Int32)) (v_p0_deeds_amount : Int32) (f_p0_deeds_maps : (Nat → Int32)) (v_p0_text_hasReasons : Int32) (f_p0_text_reasons : (Nat → Int64)) (P : Int32 → Int32 → Int32 → Int32 → Int32 → (Nat → Int32) → Int32 → Int32 → Int32 → (Nat → Int32) → Int32 → (Nat → Int32) → Int32 → (Nat → Int64) → Prop) : Prop :=
M_X7_faultIn v_p0_chart_size v_p0_text_stage v_p0_text_size v_p0_text_told v_p0_text_ringsWhole f_p0_text_led v_p0_tape_length f_p0_tape_bytes v_p0_text_first v_p0_text_latest (fun (r1 : Int32) (m1_0 : Int32) (m1_1 : Int32) (m1_2 : Int32) (m1_3 : Int32) (m1_4 : (Nat → Int32)) (m1_5 : Int32) (m1_6 : Int32) =>
((r1 < 0) → (
M_X0_packed f_p0_chart_led (fun (r3 : Int32) =>
M_X1_keep r3 v_p0_deeds_amount f_p0_deeds_maps (fun (m4_0 : (Nat → Int32)) (m4_1 : Int32) =>
M_X0_leadAll m1_4 f_p0_chart_led (fun (m5_0 : (Nat → Int32)) =>
P m1_3 m1_0 m1_1 m1_2 m1_3 m1_4 m1_5 m1_6 (0 : Int32) m4_0 m4_1 m5_0 v_p0_text_hasReasons f_p0_text_reasons))))) ∧ (¬ (r1 < 0) → (
M_X7_keepReasons r1 v_p0_text_hasReasons m1_3 f_p0_text_reasons m1_2 (fun (m6_0 : Int32) (m6_1 : (Nat → Int64)) =>
P ((-100 : Int32) - r1) m1_0 m1_1 m1_2 m1_3 m1_4 m1_5 m1_6 (0 : Int32) f_p0_deeds_maps v_p0_deeds_amount f_p0_chart_led m6_0 m6_1))))
def M_X8_why (x1 : Int32) (v_p0_text_hasReasons : Int32) (f_p0_text_reasons : (Nat → Int64)) (P : Int64 → Prop) : Prop :=
((x1 < 0) → (
P (-9223372036854775808 : Int64))) ∧ (¬ (x1 < 0) → (
(((3 : Int32) ≤ x1) → (
P (-9223372036854775808 : Int64))) ∧ (¬ ((3 : Int32) ≤ x1) → (
((v_p0_text_hasReasons = 0) → (
P (-9223372036854775808 : Int64))) ∧ (¬ (v_p0_text_hasReasons = 0) → (
vp_in x1 3 ∧ (
P (f_p0_text_reasons x1.toNatClampNeg))))))))
def M_X8_back (v_p0_deeds_amount : Int32) (f_p0_deeds_maps : (Nat → Int32)) (f_p0_chart_led : (Nat → Int32)) (P : Int32 → Int32 → (Nat → Int32) → Prop) : Prop :=
((v_p0_deeds_amount = 0) → (
P (-3 : Int32) v_p0_deeds_amount f_p0_chart_led)) ∧ (¬ (v_p0_deeds_amount = 0) → (
M_X1_takeLatest v_p0_deeds_amount f_p0_deeds_maps (fun (r2 : Int32) (m2_0 : Int32) =>
M_X0_unpack r2 f_p0_chart_led (fun (m3_0 : (Nat → Int32)) =>
P m2_0 m2_0 m3_0))))
def M_X8_image (v_p0_chart_size : Int32) (v_p0_kept_size : Int32) (v_p0_chart_way : Int32) (v_p0_kept_way : Int32) (f_p0_chart_led : (Nat → Int32)) (f_p0_kept_led : (Nat → Int32)) (v_p0_imageKept : Int32) (P : Int32 → Int32 → Int32 → (Nat → Int32) → Int32 → Prop) : Prop :=
M_X0_become v_p0_chart_size v_p0_kept_size v_p0_chart_way v_p0_kept_way f_p0_chart_led f_p0_kept_led (fun (m1_0 : Int32) (m1_1 : Int32) (m1_2 : (Nat → Int32)) =>
P v_p0_chart_size m1_0 m1_1 m1_2 (1 : Int32))
def M_X8_undo (v_p0_imageKept : Int32) (v_p0_kept_size : Int32) (v_p0_chart_size : Int32) (v_p0_kept_way : Int32) (v_p0_chart_way : Int32) (f_p0_kept_led : (Nat → Int32)) (f_p0_chart_led : (Nat → Int32)) (v_p0_deeds_amount : Int32) (P : Int32 → Int32 → Int32 → (Nat → Int32) → Int32 → Prop) : Prop :=
((v_p0_imageKept = 0) → (
P (-3 : Int32) v_p0_chart_size v_p0_chart_way f_p0_chart_led v_p0_deeds_amount)) ∧ (¬ (v_p0_imageKept = 0) → (
M_X0_become v_p0_kept_size v_p0_chart_size v_p0_kept_way v_p0_chart_way f_p0_kept_led f_p0_chart_led (fun (m2_0 : Int32) (m2_1 : Int32) (m2_2 : (Nat → Int32)) =>
M_X1_forget v_p0_deeds_amount (fun (m3_0 : Int32) =>
P m2_0 m2_0 m2_1 m2_2 m3_0))))
def M_X8_count (x1 : Int32) (v_p0_chart_size : Int32) (v_p0_chart_way : Int32) (v_p0_deeds_amount : Int32) (v_p0_tape_length : Int32) (v_p0_born : Int32) (P : Int32 → Prop) : Prop :=
(x1 = (0 : Int32) → (
P v_p0_chart_size)) ∧ (¬ (x1 = (0 : Int32)) → (
(x1 = (1 : Int32) → (
P v_p0_chart_way)) ∧ (¬ (x1 = (1 : Int32)) → (
(x1 = (2 : Int32) → (
M_X0_pieceNumber v_p0_chart_way v_p0_chart_size (fun (r2 : Int32) =>
P r2))) ∧ (¬ (x1 = (2 : Int32)) → (
(x1 = (3 : Int32) → (
P v_p0_deeds_amount)) ∧ (¬ (x1 = (3 : Int32)) → (
(x1 = (4 : Int32) → (
P v_p0_tape_length)) ∧ (¬ (x1 = (4 : Int32)) → (
(x1 = (5 : Int32) → (
P v_p0_born)) ∧ (¬ (x1 = (5 : Int32)) → (
P (-2 : Int32)))))))))))))
def M_X9_in (x0 : Int64) (x1 : Int64) (x2 : Int64) (P : Int32 → Prop) : Prop :=
(((lg_cmp x0 x1) < 0) → (
P (0 : Int32))) ∧ (¬ ((lg_cmp x0 x1) < 0) → (
((0 < (lg_cmp x0 x2)) → (
P (0 : Int32))) ∧ (¬ (0 < (lg_cmp x0 x2)) → (
P (1 : Int32)))))
def M_X9_isPoint (x1 : Int32) (v_p0_n : Int32) (P : Int32 → Prop) : Prop :=
M_X9_in x1.toInt64 (0 : Int64) ((v_p0_n - (1 : Int32)).toInt64) (fun (r1 : Int32) =>
narrow .boolean (.int r1) = .int r1 ∧ (P r1))
def M_X9_remembers_l51 (f_p0_led : (Nat → Int32)) (P : Int32 → (Nat → Int32) → Prop) (v_p0_deeds : Int32) (K51 : Int32 → (Nat → Int32) → Prop) (l1 : Int32) (f_p0_were : (Nat → Int32)) : Prop :=
(((8 : Int32) ≤ l1) → (
P (v_p0_deeds + (1 : Int32)) f_p0_were)) ∧ (¬ ((8 : Int32) ≤ l1) → (
vp_in l1 8 ∧ (
vp_in (((8 : Int32) * v_p0_deeds) + l1) 80 ∧ (
K51 (l1 + 1) (upd f_p0_were (((8 : Int32) * v_p0_deeds) + l1).toNatClampNeg (f_p0_led l1.toNatClampNeg))))))
def M_X9_remembers_b51 (f_p0_led : (Nat → Int32)) (P : Int32 → (Nat → Int32) → Prop) (l1 : Int32) (v_p0_deeds : Int32) (f_p0_were : (Nat → Int32)) : Prop :=
∃ n : Nat, LP2 (M_X9_remembers_l51 f_p0_led P v_p0_deeds) n l1 f_p0_were
def M_X9_remembers_l12 (f_p0_led : (Nat → Int32)) (P : Int32 → (Nat → Int32) → Prop) (v_p0_deeds : Int32) (K12 : Int32 → (Nat → Int32) → Prop) (l1 : Int32) (f_p0_were : (Nat → Int32)) : Prop :=
(((80 : Int32) ≤ l1) → (
M_X9_remembers_b51 f_p0_led P (0 : Int32) (v_p0_deeds - (1 : Int32)) f_p0_were)) ∧ (¬ ((80 : Int32) ≤ l1) → (
vp_in l1 80 ∧ (
vp_in (l1 - (8 : Int32)) 80 ∧ (
K12 (l1 + 1) (upd f_p0_were (l1 - (8 : Int32)).toNatClampNeg (f_p0_were l1.toNatClampNeg))))))
def M_X9_remembers (v_p0_deeds : Int32) (f_p0_led : (Nat → Int32)) (f_p0_were : (Nat → Int32)) (P : Int32 → (Nat → Int32) → Prop) : Prop :=
((v_p0_deeds = (10 : Int32)) → (
∃ n : Nat, LP2 (M_X9_remembers_l12 f_p0_led P v_p0_deeds) n (8 : Int32) f_p0_were)) ∧ (¬ (v_p0_deeds = (10 : Int32)) → (
M_X9_remembers_b51 f_p0_led P (0 : Int32) v_p0_deeds f_p0_were))
def M_X9_back_l22 (f_p0_were : (Nat → Int32)) (P : Int32 → Int32 → (Nat → Int32) → Prop) (v_p0_deeds : Int32) (K22 : Int32 → (Nat → Int32) → Prop) (l1 : Int32) (f_p0_led : (Nat → Int32)) : Prop :=
(((8 : Int32) ≤ l1) → (
P v_p0_deeds v_p0_deeds f_p0_led)) ∧ (¬ ((8 : Int32) ≤ l1) → (
vp_in (((8 : Int32) * v_p0_deeds) + l1) 80 ∧ (
vp_in l1 8 ∧ (
K22 (l1 + 1) (upd f_p0_led l1.toNatClampNeg (f_p0_were (((8 : Int32) * v_p0_deeds) + l1).toNatClampNeg))))))
def M_X9_back (v_p0_deeds : Int32) (f_p0_were : (Nat → Int32)) (f_p0_led : (Nat → Int32)) (P : Int32 → Int32 → (Nat → Int32) → Prop) : Prop :=
((v_p0_deeds = 0) → (
P (-3 : Int32) v_p0_deeds f_p0_led)) ∧ (¬ (v_p0_deeds = 0) → (
∃ n : Nat, LP2 (M_X9_back_l22 f_p0_were P (v_p0_deeds - (1 : Int32))) n (0 : Int32) f_p0_led))
def M_X9_points_l29 (x1 : Int32) (P : Int32 → Int32 → Int32 → (Nat → Int32) → Prop) (l2 : Int32) (v_p0_n : Int32) (v_p0_deeds : Int32) (K29 : Int32 → (Nat → Int32) → Prop) (l3 : Int32) (f_p0_led : (Nat → Int32)) : Prop :=
(((8 : Int32) ≤ l3) → (
P l2 v_p0_n (0 : Int32) f_p0_led)) ∧ (¬ ((8 : Int32) ≤ l3) → (
vp_in l3 8 ∧ (
K29 (l3 + 1) (upd f_p0_led l3.toNatClampNeg l3))))
def M_X9_points (x1 : Int32) (v_p0_n : Int32) (v_p0_deeds : Int32) (f_p0_led : (Nat → Int32)) (P : Int32 → Int32 → Int32 → (Nat → Int32) → Prop) : Prop :=
M_X9_in x1.toInt64 (2 : Int64) (8 : Int64) (fun (r1 : Int32) =>
((r1 = 0) → (
P (-2 : Int32) v_p0_n v_p0_deeds f_p0_led)) ∧ (¬ (r1 = 0) → (
∃ n : Nat, LP2 (M_X9_points_l29 x1 P v_p0_n x1 v_p0_deeds) n (0 : Int32) f_p0_led)))
def M_X9_way (x1 : Int32) (v_p0_way : Int32) (v_p0_deeds : Int32) (P : Int32 → Int32 → Int32 → Prop) : Prop :=
M_X9_in x1.toInt64 (0 : Int64) (1 : Int64) (fun (r1 : Int32) =>
((r1 = 0) → (
P (-2 : Int32) v_p0_way v_p0_deeds)) ∧ (¬ (r1 = 0) → (
P v_p0_way x1 (0 : Int32))))
def M_X9_lead (x1 : Int32) (x2 : Int32) (v_p0_n : Int32) (v_p0_deeds : Int32) (f_p0_led : (Nat → Int32)) (f_p0_were : (Nat → Int32)) (P : Int32 → Int32 → (Nat → Int32) → (Nat → Int32) → Prop) : Prop :=
M_X9_isPoint x1 v_p0_n (fun (r1 : Int32) =>
((r1 = 0) → (
P (-2 : Int32) v_p0_deeds f_p0_were f_p0_led)) ∧ (¬ (r1 = 0) → (
M_X9_isPoint x2 v_p0_n (fun (r3 : Int32) =>
((r3 = 0) → (
P (-2 : Int32) v_p0_deeds f_p0_were f_p0_led)) ∧ (¬ (r3 = 0) → (
M_X9_remembers v_p0_deeds f_p0_led f_p0_were (fun (m5_0 : Int32) (m5_1 : (Nat → Int32)) =>
vp_in x1 8 ∧ (
vp_in x1 8 ∧ (
P (f_p0_led x1.toNatClampNeg) m5_0 m5_1 (upd f_p0_led x1.toNatClampNeg x2))))))))))
def M_X9_isRound_b35 (x1 : Int32) (f_p0_led : (Nat → Int32)) (v_p0_n : Int32) (P : Int32 → Prop) (l2 : Int32) : Prop :=
((l2 = x1) → (
P (1 : Int32))) ∧ (¬ (l2 = x1) → (
P (0 : Int32)))
def M_X9_isRound_l9 (x1 : Int32) (f_p0_led : (Nat → Int32)) (v_p0_n : Int32) (P : Int32 → Prop)  (K9 : Int32 → Int32 → Prop) (l2 : Int32) (l3 : Int32) : Prop :=
((v_p0_n ≤ l3) → (
M_X9_isRound_b35 x1 f_p0_led v_p0_n P l2)) ∧ (¬ (v_p0_n ≤ l3) → (
((l2 = x1) → (
M_X9_isRound_b35 x1 f_p0_led v_p0_n P l2)) ∧ (¬ (l2 = x1) → (
vp_in l2 8 ∧ (
K9 (f_p0_led l2.toNatClampNeg) (l3 + 1))))))
def M_X9_isRound (x1 : Int32) (f_p0_led : (Nat → Int32)) (v_p0_n : Int32) (P : Int32 → Prop) : Prop :=
vp_in x1 8 ∧ (
∃ n : Nat, LP2 (M_X9_isRound_l9 x1 f_p0_led v_p0_n P ) n (f_p0_led x1.toNatClampNeg) (1 : Int32))
def M_X9_tail_l4 (x1 : Int32) (f_p0_led : (Nat → Int32)) (v_p0_n : Int32) (P : Int32 → Prop)  (K4 : Int32 → Int32 → Prop) (l2 : Int32) (l3 : Int32) : Prop :=
M_X9_isRound l2 f_p0_led v_p0_n (fun (r1 : Int32) =>
((r1 = 0) → (
vp_in l2 8 ∧ (
K4 (f_p0_led l2.toNatClampNeg) (l3 + 1)))) ∧ (¬ (r1 = 0) → (
P l3)))
def M_X9_tail (x1 : Int32) (f_p0_led : (Nat → Int32)) (v_p0_n : Int32) (P : Int32 → Prop) : Prop :=
∃ n : Nat, LP2 (M_X9_tail_l4 x1 f_p0_led v_p0_n P ) n x1 (0 : Int32)
def M_X9_ringTo_l22 (x1 : Int32) (f_p0_led : (Nat → Int32)) (v_p0_n : Int32) (P : Int32 → Prop)  (K22 : Int32 → Int32 → Prop) (l2 : Int32) (l3 : Int32) : Prop :=
((((l3 >>> (l2 &&& 31)) &&& (1 : Int32)) = 0) → (
vp_in l2 8 ∧ (
K22 (f_p0_led l2.toNatClampNeg) (l3 ||| ((1 : Int32) <<< (l2 &&& 31)))))) ∧ (¬ (((l3 >>> (l2 &&& 31)) &&& (1 : Int32)) = 0) → (
P l3))
def M_X9_ringTo_l2 (x1 : Int32) (f_p0_led : (Nat → Int32)) (v_p0_n : Int32) (P : Int32 → Prop)  (K2 : Int32 → Prop) (l2 : Int32) : Prop :=
M_X9_isRound l2 f_p0_led v_p0_n (fun (r1 : Int32) =>
((r1 = 0) → (
vp_in l2 8 ∧ (
K2 (f_p0_led l2.toNatClampNeg)))) ∧ (¬ (r1 = 0) → (
∃ n : Nat, LP2 (M_X9_ringTo_l22 x1 f_p0_led v_p0_n P ) n l2 (0 : Int32))))
def M_X9_ringTo (x1 : Int32) (f_p0_led : (Nat → Int32)) (v_p0_n : Int32) (P : Int32 → Prop) : Prop :=
∃ n : Nat, LP1 (M_X9_ringTo_l2 x1 f_p0_led v_p0_n P ) n x1
def M_X9_of (x1 : Int32) (x2 : Int32) (v_p0_n : Int32) (f_p0_led : (Nat → Int32)) (P : Int32 → Prop) : Prop :=
M_X9_isPoint x1 v_p0_n (fun (r1 : Int32) =>
((r1 = 0) → (
P (-2 : Int32))) ∧ (¬ (r1 = 0) → (
M_X9_in x2.toInt64 (0 : Int64) (3 : Int64) (fun (r3 : Int32) =>
((r3 = 0) → (
P (-2 : Int32))) ∧ (¬ (r3 = 0) → (
((x2 = 0) → (
vp_in x1 8 ∧ (
P (f_p0_led x1.toNatClampNeg)))) ∧ (¬ (x2 = 0) → (
((x2 = (1 : Int32)) → (
M_X9_tail x1 f_p0_led v_p0_n (fun (r11 : Int32) =>
P r11))) ∧ (¬ (x2 = (1 : Int32)) → (
((x2 = (2 : Int32)) → (
M_X9_ringTo x1 f_p0_led v_p0_n (fun (r10 : Int32) =>
P r10))) ∧ (¬ (x2 = (2 : Int32)) → (
M_X9_ringTo x1 f_p0_led v_p0_n (fun (r8 : Int32) =>
M_J6_bitCount_0f7a4 r8 (fun (r9 : Int32) =>
P r9))))))))))))))
def M_X9_map_l4 (v_p0_n : Int32) (f_p0_led : (Nat → Int32)) (P : Int32 → Prop)  (K4 : Int32 → Int32 → Prop) (l1 : Int32) (l2 : Int32) : Prop :=
((v_p0_n ≤ l2) → (
P l1)) ∧ (¬ (v_p0_n ≤ l2) → (
vp_in l2 8 ∧ (
K4 (((10 : Int32) * l1) + (f_p0_led l2.toNatClampNeg)) (l2 + 1))))
def M_X9_map (v_p0_n : Int32) (f_p0_led : (Nat → Int32)) (P : Int32 → Prop) : Prop :=
∃ n : Nat, LP2 (M_X9_map_l4 v_p0_n f_p0_led P ) n (0 : Int32) (0 : Int32)
def M_J6_numberOfTrailingZeros_0f7a4_b62 (P : Int32 → Prop) (l0 : Int32) (l1 : Int32) : Prop :=
((l0 ≤ (4 : Int32)) → (
P (l1 + (l0.toUInt32 >>> ((1 : Int32).toUInt32 &&& Int32.toUInt32 31)).toInt32))) ∧ (¬ (l0 ≤ (4 : Int32)) → (
∀ y3 : Int32, y3 = (l0.toUInt32 >>> ((2 : Int32).toUInt32 &&& Int32.toUInt32 31)).toInt32 →
P ((l1 + 2) + (y3.toUInt32 >>> ((1 : Int32).toUInt32 &&& Int32.toUInt32 31)).toInt32)))
def M_J6_numberOfTrailingZeros_0f7a4_b49 (P : Int32 → Prop) (l0 : Int32) (l1 : Int32) : Prop :=
((l0 ≤ (16 : Int32)) → (
M_J6_numberOfTrailingZeros_0f7a4_b62 P l0 l1)) ∧ (¬ (l0 ≤ (16 : Int32)) → (
∀ y5 : Int32, y5 = (l0.toUInt32 >>> ((4 : Int32).toUInt32 &&& Int32.toUInt32 31)).toInt32 →
M_J6_numberOfTrailingZeros_0f7a4_b62 P y5 (l1 + 4)))
def M_J6_numberOfTrailingZeros_0f7a4_b34 (P : Int32 → Prop) (l0 : Int32) (l1 : Int32) : Prop :=
((l0 ≤ (256 : Int32)) → (
M_J6_numberOfTrailingZeros_0f7a4_b49 P l0 l1)) ∧ (¬ (l0 ≤ (256 : Int32)) → (
∀ y7 : Int32, y7 = (l0.toUInt32 >>> ((8 : Int32).toUInt32 &&& Int32.toUInt32 31)).toInt32 →
M_J6_numberOfTrailingZeros_0f7a4_b49 P y7 (l1 + 8)))
def M_J6_numberOfTrailingZeros_0f7a4 (x0 : Int32) (P : Int32 → Prop) : Prop :=
((0 < ((x0 ^^^ (-1 : Int32)) &&& (x0 - (1 : Int32)))) → (
((((x0 ^^^ (-1 : Int32)) &&& (x0 - (1 : Int32))) ≤ (65536 : Int32)) → (
M_J6_numberOfTrailingZeros_0f7a4_b34 P ((x0 ^^^ (-1 : Int32)) &&& (x0 - (1 : Int32))) (1 : Int32))) ∧ (¬ (((x0 ^^^ (-1 : Int32)) &&& (x0 - (1 : Int32))) ≤ (65536 : Int32)) → (
∀ y9 : Int32, y9 = (((x0 ^^^ (-1 : Int32)) &&& (x0 - (1 : Int32))).toUInt32 >>> ((16 : Int32).toUInt32 &&& Int32.toUInt32 31)).toInt32 →
M_J6_numberOfTrailingZeros_0f7a4_b34 P y9 ((1 : Int32) + 16))))) ∧ (¬ (0 < ((x0 ^^^ (-1 : Int32)) &&& (x0 - (1 : Int32)))) → (
P (((x0 ^^^ (-1 : Int32)) &&& (x0 - (1 : Int32))) &&& (32 : Int32))))
def M_X9_ringAt_l4 (x1 : Int32) (v_p0_n : Int32) (f_p0_led : (Nat → Int32)) (P : Int32 → Prop)  (K4 : Int32 → Int32 → Prop) (l2 : Int32) (l3 : Int32) : Prop :=
((v_p0_n ≤ l3) → (
P (0 : Int32))) ∧ (¬ (v_p0_n ≤ l3) → (
M_X9_isRound l3 f_p0_led v_p0_n (fun (r2 : Int32) =>
((r2 = 0) → (
K4 l2 (l3 + 1))) ∧ (¬ (r2 = 0) → (
M_X9_ringTo l3 f_p0_led v_p0_n (fun (r4 : Int32) =>
M_J6_numberOfTrailingZeros_0f7a4 r4 (fun (r5 : Int32) =>
((r5 = l3) → (
((l2 = x1) → (
M_X9_ringTo l3 f_p0_led v_p0_n (fun (r8 : Int32) =>
P r8))) ∧ (¬ (l2 = x1) → (
K4 (l2 + 1) (l3 + 1))))) ∧ (¬ (r5 = l3) → (
K4 l2 (l3 + 1))))))))))
def M_X9_ringAt (x1 : Int32) (v_p0_n : Int32) (f_p0_led : (Nat → Int32)) (P : Int32 → Prop) : Prop :=
∃ n : Nat, LP2 (M_X9_ringAt_l4 x1 v_p0_n f_p0_led P ) n (0 : Int32) (0 : Int32)
def M_X9_rings_l29 (x1 : Int32) (v_p0_n : Int32) (f_p0_led : (Nat → Int32)) (P : Int32 → Prop)  (K29 : Int32 → Int32 → Int32 → Int32 → Prop) (l2 : Int32) (l3 : Int32) (l4 : Int32) (l5 : Int32) : Prop :=
((l5 = 0) → (
((x1 = 0) → (
P l2)) ∧ (¬ (x1 = 0) → (
((x1 = (1 : Int32)) → (
P l3)) ∧ (¬ (x1 = (1 : Int32)) → (
((x1 = (2 : Int32)) → (
P l4)) ∧ (¬ (x1 = (2 : Int32)) → (
((l3 = v_p0_n) → (
P (1 : Int32))) ∧ (¬ (l3 = v_p0_n) → (
P (0 : Int32))))))))))) ∧ (¬ (l5 = 0) → (
M_J6_bitCount_0f7a4 l5 (fun (r9 : Int32) =>
M_J6_bitCount_0f7a4 l5 (fun (r10 : Int32) =>
M_X9_ringAt (l2 + 1) v_p0_n f_p0_led (fun (r11 : Int32) =>
K29 (l2 + 1) (l3 + r9) (if l4 < r10 then r10 else l4) r11)))))
def M_X9_rings (x1 : Int32) (v_p0_n : Int32) (f_p0_led : (Nat → Int32)) (P : Int32 → Prop) : Prop :=
M_X9_in x1.toInt64 (0 : Int64) (3 : Int64) (fun (r1 : Int32) =>
((r1 = 0) → (
P (-2 : Int32))) ∧ (¬ (r1 = 0) → (
M_X9_ringAt (0 : Int32) v_p0_n f_p0_led (fun (r3 : Int32) =>
∃ n : Nat, LP4 (M_X9_rings_l29 x1 v_p0_n f_p0_led P ) n (0 : Int32) (0 : Int32) (0 : Int32) r3))))
def M_X9_isRing (x1 : Int32) (v_p0_n : Int32) (f_p0_led : (Nat → Int32)) (P : Int32 → Prop) : Prop :=
((x1 < 0) → (
P (0 : Int32))) ∧ (¬ (x1 < 0) → (
M_X9_ringAt x1 v_p0_n f_p0_led (fun (r2 : Int32) =>
((r2 = 0) → (
P (0 : Int32))) ∧ (¬ (r2 = 0) → (
P (1 : Int32))))))
def M_X9_kindOf (x0 : Int32) (P : Int32 → Prop) : Prop :=
((x0 = (1 : Int32)) → (
P (3 : Int32))) ∧ (¬ (x0 = (1 : Int32)) → (
((x0 = (2 : Int32)) → (
P (4 : Int32))) ∧ (¬ (x0 = (2 : Int32)) → (
(((x0 - x0 / (2 : Int32) * (2 : Int32)) = 0) → (
P (1 : Int32))) ∧ (¬ ((x0 - x0 / (2 : Int32) * (2 : Int32)) = 0) → (
P (2 : Int32)))))))
def M_X9_ring (x1 : Int32) (x2 : Int32) (v_p0_n : Int32) (f_p0_led : (Nat → Int32)) (P : Int32 → Prop) : Prop :=
M_X9_isRing x1 v_p0_n f_p0_led (fun (r1 : Int32) =>
((r1 = 0) → (
P (-2 : Int32))) ∧ (¬ (r1 = 0) → (
M_X9_in x2.toInt64 (0 : Int64) (2 : Int64) (fun (r3 : Int32) =>
((r3 = 0) → (
P (-2 : Int32))) ∧ (¬ (r3 = 0) → (
M_X9_ringAt x1 v_p0_n f_p0_led (fun (r5 : Int32) =>
M_J6_bitCount_0f7a4 r5 (fun (r6 : Int32) =>
((x2 = 0) → (
M_X9_kindOf r6 (fun (r10 : Int32) =>
P r10))) ∧ (¬ (x2 = 0) → (
((x2 = (1 : Int32)) → (
P r6)) ∧ (¬ (x2 = (1 : Int32)) → (
M_J6_numberOfTrailingZeros_0f7a4 r5 (fun (r9 : Int32) =>
P r9)))))))))))))
def M_X9_taken_b75 (x1 : Int32) (x2 : Int32) (v_p0_n : Int32) (f_p0_led : (Nat → Int32)) (P : Int32 → Prop) (l3 : Int32) (s0 : Int32) : Prop :=
((s0 = 0) → (
P (-13 : Int32))) ∧ (¬ (s0 = 0) → (
P l3))
def M_X9_taken_b59 (x1 : Int32) (x2 : Int32) (v_p0_n : Int32) (f_p0_led : (Nat → Int32)) (P : Int32 → Prop) (l3 : Int32) (l4 : Int32) : Prop :=
((x2 = (1 : Int32)) → (
((l4 = (4 : Int32)) → (
M_X9_taken_b75 x1 x2 v_p0_n f_p0_led P l3 (1 : Int32))) ∧ (¬ (l4 = (4 : Int32)) → (
M_X9_taken_b75 x1 x2 v_p0_n f_p0_led P l3 (0 : Int32))))) ∧ (¬ (x2 = (1 : Int32)) → (
M_X9_taken_b75 x1 x2 v_p0_n f_p0_led P l3 (0 : Int32)))
def M_X9_taken (x1 : Int32) (x2 : Int32) (v_p0_n : Int32) (f_p0_led : (Nat → Int32)) (P : Int32 → Prop) : Prop :=
M_X9_isRing x1 v_p0_n f_p0_led (fun (r1 : Int32) =>
((r1 = 0) → (
P (-2 : Int32))) ∧ (¬ (r1 = 0) → (
M_X9_in x2.toInt64 (0 : Int64) (4 : Int64) (fun (r3 : Int32) =>
((r3 = 0) → (
P (-2 : Int32))) ∧ (¬ (r3 = 0) → (
M_X9_ringAt x1 v_p0_n f_p0_led (fun (r5 : Int32) =>
M_J6_bitCount_0f7a4 r5 (fun (r6 : Int32) =>
M_X9_kindOf r6 (fun (r7 : Int32) =>
((x2 = 0) → (
M_X9_taken_b75 x1 x2 v_p0_n f_p0_led P r6 (1 : Int32))) ∧ (¬ (x2 = 0) → (
((x2 = r7) → (
M_X9_taken_b75 x1 x2 v_p0_n f_p0_led P r6 (1 : Int32))) ∧ (¬ (x2 = r7) → (
((x2 = (2 : Int32)) → (
((r7 = (3 : Int32)) → (
M_X9_taken_b75 x1 x2 v_p0_n f_p0_led P r6 (1 : Int32))) ∧ (¬ (r7 = (3 : Int32)) → (
M_X9_taken_b59 x1 x2 v_p0_n f_p0_led P r6 r7)))) ∧ (¬ (x2 = (2 : Int32)) → (
M_X9_taken_b59 x1 x2 v_p0_n f_p0_led P r6 r7)))))))))))))))
def M_X9_pieces (v_p0_way : Int32) (v_p0_n : Int32) (P : Int32 → Prop) : Prop :=
((v_p0_way = 0) → (
P (v_p0_n - (1 : Int32)))) ∧ (¬ (v_p0_way = 0) → (
P v_p0_n))
def M_X9_isPiece (x1 : Int32) (v_p0_way : Int32) (v_p0_n : Int32) (P : Int32 → Prop) : Prop :=
M_X9_pieces v_p0_way v_p0_n (fun (r1 : Int32) =>
M_X9_in x1.toInt64 (0 : Int64) ((r1 - (1 : Int32)).toInt64) (fun (r2 : Int32) =>
narrow .boolean (.int r2) = .int r2 ∧ (P r2)))
def M_X9_coversOf_l69 (x1 : Int32) (f_p0_led : (Nat → Int32)) (v_p0_n : Int32) (v_p0_way : Int32) (P : Int32 → Prop) (l3 : Int32) (K69 : Int32 → Int32 → Prop) (l4 : Int32) (l5 : Int32) : Prop :=
((l5 = l3) → (
P l4)) ∧ (¬ (l5 = l3) → (
¬ v_p0_n = 0 ∧ (
K69 (l4 ||| ((1 : Int32) <<< (l5 &&& 31))) ((l5 + (1 : Int32)) - (l5 + (1 : Int32)) / v_p0_n * v_p0_n))))
def M_X9_coversOf_l38 (x1 : Int32) (f_p0_led : (Nat → Int32)) (v_p0_n : Int32) (v_p0_way : Int32) (P : Int32 → Prop) (l2 : Int32) (l3 : Int32) (K38 : Int32 → Int32 → Prop) (l4 : Int32) (l5 : Int32) : Prop :=
(((if l2 < l3 then l3 else l2) ≤ l5) → (
P l4)) ∧ (¬ ((if l2 < l3 then l3 else l2) ≤ l5) → (
K38 (l4 ||| ((1 : Int32) <<< (l5 &&& 31))) (l5 + 1)))
def M_X9_coversOf (x1 : Int32) (f_p0_led : (Nat → Int32)) (v_p0_n : Int32) (v_p0_way : Int32) (P : Int32 → Prop) : Prop :=
vp_in x1 8 ∧ (
¬ v_p0_n = 0 ∧ (
vp_in ((x1 + (1 : Int32)) - (x1 + (1 : Int32)) / v_p0_n * v_p0_n) 8 ∧ (
∀ y4 : Int32, y4 = (f_p0_led ((x1 + (1 : Int32)) - (x1 + (1 : Int32)) / v_p0_n * v_p0_n).toNatClampNeg) →
((v_p0_way = 0) → (
∀ y8 : Int32, y8 = (if y4 < (f_p0_led x1.toNatClampNeg) then y4 else (f_p0_led x1.toNatClampNeg)) →
∃ n : Nat, LP2 (M_X9_coversOf_l38 x1 f_p0_led v_p0_n v_p0_way P (f_p0_led x1.toNatClampNeg) y4) n (0 : Int32) y8)) ∧ (¬ (v_p0_way = 0) → (
∃ n : Nat, LP2 (M_X9_coversOf_l69 x1 f_p0_led v_p0_n v_p0_way P y4) n (0 : Int32) (f_p0_led x1.toNatClampNeg))))))
def M_X9_falls (x1 : Int32) (v_p0_way : Int32) (f_p0_led : (Nat → Int32)) (P : Int32 → Prop) : Prop :=
((v_p0_way = 0) → (
vp_in x1 8 ∧ (
vp_in (x1 + (1 : Int32)) 8 ∧ (
(((f_p0_led x1.toNatClampNeg) ≤ (f_p0_led (x1 + (1 : Int32)).toNatClampNeg)) → (
P (0 : Int32))) ∧ (¬ ((f_p0_led x1.toNatClampNeg) ≤ (f_p0_led (x1 + (1 : Int32)).toNatClampNeg)) → (
P (1 : Int32))))))) ∧ (¬ (v_p0_way = 0) → (
P (0 : Int32)))
def M_X9_reached_l17 (x1 : Int32) (f_p0_led : (Nat → Int32)) (v_p0_n : Int32) (v_p0_way : Int32) (K8 : Int32 → Int32 → Prop) (P : Int32 → Prop) (l3 : Int32) (K17 : Int32 → Int32 → Prop) (l2 : Int32) (l4 : Int32) : Prop :=
M_X9_pieces v_p0_way v_p0_n (fun (r3 : Int32) =>
((r3 ≤ l4) → (
K8 l2 (l3 + 1))) ∧ (¬ (r3 ≤ l4) → (
((((l2 >>> (l4 &&& 31)) &&& (1 : Int32)) = 0) → (
K17 (l2 ||| (0 : Int32)) (l4 + 1))) ∧ (¬ (((l2 >>> (l4 &&& 31)) &&& (1 : Int32)) = 0) → (
M_X9_coversOf l4 f_p0_led v_p0_n v_p0_way (fun (r6 : Int32) =>
K17 (l2 ||| r6) (l4 + 1)))))))
def M_X9_reached_l8 (x1 : Int32) (f_p0_led : (Nat → Int32)) (v_p0_n : Int32) (v_p0_way : Int32) (P : Int32 → Prop)  (K8 : Int32 → Int32 → Prop) (l2 : Int32) (l3 : Int32) : Prop :=
(((8 : Int32) ≤ l3) → (
P l2)) ∧ (¬ ((8 : Int32) ≤ l3) → (
∃ n : Nat, LP2 (M_X9_reached_l17 x1 f_p0_led v_p0_n v_p0_way K8 P l3) n l2 (0 : Int32)))
def M_X9_reached (x1 : Int32) (f_p0_led : (Nat → Int32)) (v_p0_n : Int32) (v_p0_way : Int32) (P : Int32 → Prop) : Prop :=
M_X9_coversOf x1 f_p0_led v_p0_n v_p0_way (fun (r1 : Int32) =>
∃ n : Nat, LP2 (M_X9_reached_l8 x1 f_p0_led v_p0_n v_p0_way P ) n r1 (0 : Int32))
def M_X9_covers (x1 : Int32) (x2 : Int32) (v_p0_way : Int32) (v_p0_n : Int32) (f_p0_led : (Nat → Int32)) (P : Int32 → Prop) : Prop :=
M_X9_isPiece x1 v_p0_way v_p0_n (fun (r1 : Int32) =>
((r1 = 0) → (
P (-2 : Int32))) ∧ (¬ (r1 = 0) → (
M_X9_in x2.toInt64 (0 : Int64) (2 : Int64) (fun (r3 : Int32) =>
((r3 = 0) → (
P (-2 : Int32))) ∧ (¬ (r3 = 0) → (
((x2 = 0) → (
M_X9_coversOf x1 f_p0_led v_p0_n v_p0_way (fun (r10 : Int32) =>
P r10))) ∧ (¬ (x2 = 0) → (
((x2 = (2 : Int32)) → (
M_X9_reached x1 f_p0_led v_p0_n v_p0_way (fun (r9 : Int32) =>
P r9))) ∧ (¬ (x2 = (2 : Int32)) → (
M_X9_falls x1 v_p0_way f_p0_led (fun (r7 : Int32) =>
((r7 = 0) → (
P (0 : Int32))) ∧ (¬ (r7 = 0) → (
P (1 : Int32))))))))))))))
def M_X9_tellsPaths_l151 (x1 : Int32) (v_p0_way : Int32) (v_p0_n : Int32) (f_p0_led : (Nat → Int32)) (K38 : Int32 → (Nat → Int64) → (Nat → Int64) → Prop) (P : (Nat → Int64) → (Nat → Int64) → Prop) (l2 : Int32) (f_p0_more : (Nat → Int64)) (K151 : Int32 → (Nat → Int64) → Prop) (l3 : Int32) (f_p0_paths : (Nat → Int64)) : Prop :=
M_X9_pieces v_p0_way v_p0_n (fun (r5 : Int32) =>
((((8 : Int32) * r5) ≤ l3) → (
K38 (l2 + 1) f_p0_paths f_p0_more)) ∧ (¬ (((8 : Int32) * r5) ≤ l3) → (
vp_in l3 64 ∧ (
vp_in l3 64 ∧ (
K151 (l3 + 1) (vp_updL f_p0_paths l3.toNatClampNeg (f_p0_more l3.toNatClampNeg)))))))
def M_X9_tellsPaths_l76 (x1 : Int32) (v_p0_way : Int32) (v_p0_n : Int32) (f_p0_led : (Nat → Int32)) (K38 : Int32 → (Nat → Int64) → (Nat → Int64) → Prop) (K45 : Int32 → (Nat → Int64) → Prop) (K63 : Int32 → (Nat → Int64) → Prop) (P : (Nat → Int64) → (Nat → Int64) → Prop) (l2 : Int32) (l3 : Int32) (l4 : Int32) (l5 : Int32) (f_p0_paths : (Nat → Int64)) (f_p0_more : (Nat → Int64)) (K76 : Int64 → Int32 → Prop) (l6 : Int64) (l8 : Int32) : Prop :=
M_X9_pieces v_p0_way v_p0_n (fun (r11 : Int32) =>
((r11 ≤ l8) → (
vp_in (((8 : Int32) * l3) + l5) 64 ∧ (
K63 (l5 + 1) (vp_updL f_p0_more (((8 : Int32) * l3) + l5).toNatClampNeg l6)))) ∧ (¬ (r11 ≤ l8) → (
((((l4 >>> (l8 &&& 31)) &&& (1 : Int32)) = 0) → (
K76 (l6 + (0 : Int64)) (l8 + 1))) ∧ (¬ (((l4 >>> (l8 &&& 31)) &&& (1 : Int32)) = 0) → (
vp_in (((8 : Int32) * l8) + l5) 64 ∧ (
K76 (l6 + (f_p0_paths (((8 : Int32) * l8) + l5).toNatClampNeg)) (l8 + 1)))))))
def M_X9_tellsPaths_l63 (x1 : Int32) (v_p0_way : Int32) (v_p0_n : Int32) (f_p0_led : (Nat → Int32)) (K38 : Int32 → (Nat → Int64) → (Nat → Int64) → Prop) (K45 : Int32 → (Nat → Int64) → Prop) (P : (Nat → Int64) → (Nat → Int64) → Prop) (l2 : Int32) (l3 : Int32) (l4 : Int32) (f_p0_paths : (Nat → Int64)) (K63 : Int32 → (Nat → Int64) → Prop) (l5 : Int32) (f_p0_more : (Nat → Int64)) : Prop :=
(((8 : Int32) ≤ l5) → (
K45 (l3 + 1) f_p0_more)) ∧ (¬ ((8 : Int32) ≤ l5) → (
∃ n : Nat, LP2 (M_X9_tellsPaths_l76 x1 v_p0_way v_p0_n f_p0_led K38 K45 K63 P l2 l3 l4 l5 f_p0_paths f_p0_more) n (0 : Int64) (0 : Int32)))
def M_X9_tellsPaths_l45 (x1 : Int32) (v_p0_way : Int32) (v_p0_n : Int32) (f_p0_led : (Nat → Int32)) (K38 : Int32 → (Nat → Int64) → (Nat → Int64) → Prop) (P : (Nat → Int64) → (Nat → Int64) → Prop) (l2 : Int32) (f_p0_paths : (Nat → Int64)) (K45 : Int32 → (Nat → Int64) → Prop) (l3 : Int32) (f_p0_more : (Nat → Int64)) : Prop :=
M_X9_pieces v_p0_way v_p0_n (fun (r3 : Int32) =>
((r3 ≤ l3) → (
∃ n : Nat, LP2 (M_X9_tellsPaths_l151 x1 v_p0_way v_p0_n f_p0_led K38 P l2 f_p0_more) n (0 : Int32) f_p0_paths)) ∧ (¬ (r3 ≤ l3) → (
M_X9_coversOf l3 f_p0_led v_p0_n v_p0_way (fun (r9 : Int32) =>
∃ n : Nat, LP2 (M_X9_tellsPaths_l63 x1 v_p0_way v_p0_n f_p0_led K38 K45 P l2 l3 r9 f_p0_paths) n (0 : Int32) f_p0_more))))
def M_X9_tellsPaths_l38 (x1 : Int32) (v_p0_way : Int32) (v_p0_n : Int32) (f_p0_led : (Nat → Int32)) (P : (Nat → Int64) → (Nat → Int64) → Prop)  (K38 : Int32 → (Nat → Int64) → (Nat → Int64) → Prop) (l2 : Int32) (f_p0_paths : (Nat → Int64)) (f_p0_more : (Nat → Int64)) : Prop :=
((x1 ≤ l2) → (
P f_p0_paths f_p0_more)) ∧ (¬ (x1 ≤ l2) → (
∃ n : Nat, LP2 (M_X9_tellsPaths_l45 x1 v_p0_way v_p0_n f_p0_led K38 P l2 f_p0_paths) n (0 : Int32) f_p0_more))
def M_X9_tellsPaths_l2 (x1 : Int32) (v_p0_way : Int32) (v_p0_n : Int32) (f_p0_led : (Nat → Int32)) (P : (Nat → Int64) → (Nat → Int64) → Prop) (f_p0_more : (Nat → Int64)) (K2 : Int32 → (Nat → Int64) → Prop) (l2 : Int32) (f_p0_paths : (Nat → Int64)) : Prop :=
(((64 : Int32) ≤ l2) → (
∃ n : Nat, LP3 (M_X9_tellsPaths_l38 x1 v_p0_way v_p0_n f_p0_led P ) n (0 : Int32) f_p0_paths f_p0_more)) ∧ (¬ ((64 : Int32) ≤ l2) → (
(((l2 / (8 : Int32)) = (l2 - l2 / (8 : Int32) * (8 : Int32))) → (
vp_in l2 64 ∧ (
K2 (l2 + 1) (vp_updL f_p0_paths l2.toNatClampNeg (1 : Int64))))) ∧ (¬ ((l2 / (8 : Int32)) = (l2 - l2 / (8 : Int32) * (8 : Int32))) → (
vp_in l2 64 ∧ (
K2 (l2 + 1) (vp_updL f_p0_paths l2.toNatClampNeg (0 : Int64)))))))
def M_X9_tellsPaths (x1 : Int32) (v_p0_way : Int32) (v_p0_n : Int32) (f_p0_more : (Nat → Int64)) (f_p0_paths : (Nat → Int64)) (f_p0_led : (Nat → Int32)) (P : (Nat → Int64) → (Nat → Int64) → Prop) : Prop :=
∃ n : Nat, LP2 (M_X9_tellsPaths_l2 x1 v_p0_way v_p0_n f_p0_led P f_p0_more) n (0 : Int32) f_p0_paths
def M_X9_paths (x1 : Int32) (x2 : Int32) (x3 : Int32) (v_p0_way : Int32) (v_p0_n : Int32) (f_p0_more : (Nat → Int64)) (f_p0_paths : (Nat → Int64)) (f_p0_led : (Nat → Int32)) (P : Int64 → (Nat → Int64) → (Nat → Int64) → Prop) : Prop :=
M_X9_isPiece x1 v_p0_way v_p0_n (fun (r1 : Int32) =>
((r1 = 0) → (
P (-9223372036854775808 : Int64) f_p0_paths f_p0_more)) ∧ (¬ (r1 = 0) → (
M_X9_isPiece x2 v_p0_way v_p0_n (fun (r3 : Int32) =>
((r3 = 0) → (
P (-9223372036854775808 : Int64) f_p0_paths f_p0_more)) ∧ (¬ (r3 = 0) → (
M_X9_in x3.toInt64 (0 : Int64) (30 : Int64) (fun (r5 : Int32) =>
((r5 = 0) → (
P (-9223372036854775808 : Int64) f_p0_paths f_p0_more)) ∧ (¬ (r5 = 0) → (
M_X9_tellsPaths x3 v_p0_way v_p0_n f_p0_more f_p0_paths f_p0_led (fun (m7_0 : (Nat → Int64)) (m7_1 : (Nat → Int64)) =>
vp_in (((8 : Int32) * x1) + x2) 64 ∧ (
P (m7_0 (((8 : Int32) * x1) + x2).toNatClampNeg) m7_0 m7_1)))))))))))
def M_X9_loopsOf_l10 (x1 : Int32) (v_p0_way : Int32) (v_p0_n : Int32) (f_p0_led : (Nat → Int32)) (P : Int64 → (Nat → Int64) → (Nat → Int64) → Prop) (f_p0_paths : (Nat → Int64)) (f_p0_more : (Nat → Int64)) (K10 : Int64 → Int32 → Prop) (l2 : Int64) (l4 : Int32) : Prop :=
M_X9_pieces v_p0_way v_p0_n (fun (r2 : Int32) =>
((r2 ≤ l4) → (
P l2 f_p0_paths f_p0_more)) ∧ (¬ (r2 ≤ l4) → (
vp_in (((8 : Int32) * l4) + l4) 64 ∧ (
K10 (l2 + (f_p0_paths (((8 : Int32) * l4) + l4).toNatClampNeg)) (l4 + 1)))))
def M_X9_loopsOf (x1 : Int32) (v_p0_way : Int32) (v_p0_n : Int32) (f_p0_more : (Nat → Int64)) (f_p0_paths : (Nat → Int64)) (f_p0_led : (Nat → Int32)) (P : Int64 → (Nat → Int64) → (Nat → Int64) → Prop) : Prop :=
M_X9_tellsPaths x1 v_p0_way v_p0_n f_p0_more f_p0_paths f_p0_led (fun (m1_0 : (Nat → Int64)) (m1_1 : (Nat → Int64)) =>
∃ n : Nat, LP2 (M_X9_loopsOf_l10 x1 v_p0_way v_p0_n f_p0_led P m1_0 m1_1) n (0 : Int64) (0 : Int32))
def M_X9_simpleOf_l9 (Rec : Int32 → Int32 → Int32 → (Nat → Int64) → (Nat → Int64) → (Nat → Int32) → (Int64 → (Nat → Int64) → (Nat → Int64) → Prop) → Prop) (x1 : Int32) (v_p0_way : Int32) (v_p0_n : Int32) (f_p0_led : (Nat → Int32)) (P : Int64 → (Nat → Int64) → (Nat → Int64) → Prop)  (K9 : Int64 → Int32 → (Nat → Int64) → (Nat → Int64) → Prop) (l2 : Int64) (l4 : Int32) (f_p0_paths : (Nat → Int64)) (f_p0_more : (Nat → Int64)) : Prop :=
((x1 ≤ l4) → (
P l2 f_p0_paths f_p0_more)) ∧ (¬ (x1 ≤ l4) → (
¬ l4 = 0 ∧ (
(((x1 - x1 / l4 * l4) = 0) → (
Rec l4 v_p0_way v_p0_n f_p0_more f_p0_paths f_p0_led (fun (r5 : Int64) (m5_0 : (Nat → Int64)) (m5_1 : (Nat → Int64)) =>
K9 (l2 - r5) (l4 + 1) m5_0 m5_1))) ∧ (¬ ((x1 - x1 / l4 * l4) = 0) → (
K9 (l2 - (0 : Int64)) (l4 + 1) f_p0_paths f_p0_more)))))
def Mb_X9_simpleOf (Rec : Int32 → Int32 → Int32 → (Nat → Int64) → (Nat → Int64) → (Nat → Int32) → (Int64 → (Nat → Int64) → (Nat → Int64) → Prop) → Prop) (x1 : Int32) (v_p0_way : Int32) (v_p0_n : Int32) (f_p0_more : (Nat → Int64)) (f_p0_paths : (Nat → Int64)) (f_p0_led : (Nat → Int32)) (P : Int64 → (Nat → Int64) → (Nat → Int64) → Prop) : Prop :=
M_X9_loopsOf x1 v_p0_way v_p0_n f_p0_more f_p0_paths f_p0_led (fun (r1 : Int64) (m1_0 : (Nat → Int64)) (m1_1 : (Nat → Int64)) =>
∃ n : Nat, LP4 (M_X9_simpleOf_l9 Rec x1 v_p0_way v_p0_n f_p0_led P ) n r1 (1 : Int32) m1_0 m1_1)
def M_X9_simpleOf : Nat → Int32 → Int32 → Int32 → (Nat → Int64) → (Nat → Int64) → (Nat → Int32) → (Int64 → (Nat → Int64) → (Nat → Int64) → Prop) → Prop
  | 0 => fun _ _ _ _ _ _ _ => False
  | d + 1 => Mb_X9_simpleOf (M_X9_simpleOf d)
def M_X9_loops (x1 : Int32) (x2 : Int32) (v_p0_way : Int32) (v_p0_n : Int32) (f_p0_more : (Nat → Int64)) (f_p0_paths : (Nat → Int64)) (f_p0_led : (Nat → Int32)) (P : Int64 → (Nat → Int64) → (Nat → Int64) → Prop) : Prop :=
M_X9_in x1.toInt64 (1 : Int64) (30 : Int64) (fun (r1 : Int32) =>
((r1 = 0) → (
P (-9223372036854775808 : Int64) f_p0_paths f_p0_more)) ∧ (¬ (r1 = 0) → (
M_X9_in x2.toInt64 (0 : Int64) (1 : Int64) (fun (r3 : Int32) =>
((r3 = 0) → (
P (-9223372036854775808 : Int64) f_p0_paths f_p0_more)) ∧ (¬ (r3 = 0) → (
((x2 = 0) → (
M_X9_loopsOf x1 v_p0_way v_p0_n f_p0_more f_p0_paths f_p0_led (fun (r7 : Int64) (m7_0 : (Nat → Int64)) (m7_1 : (Nat → Int64)) =>
P r7 m7_0 m7_1))) ∧ (¬ (x2 = 0) → (
M_X9_simpleOf 32 x1 v_p0_way v_p0_n f_p0_more f_p0_paths f_p0_led (fun (r6 : Int64) (m6_0 : (Nat → Int64)) (m6_1 : (Nat → Int64)) =>
P r6 m6_0 m6_1)))))))))
def M_X9_isForced_l18 (x1 : Int32) (v_p0_way : Int32) (v_p0_n : Int32) (f_p0_led : (Nat → Int32)) (P : Int32 → (Nat → Int64) → (Nat → Int64) → Prop) (f_p0_paths : (Nat → Int64)) (f_p0_more : (Nat → Int64)) (K18 : Int32 → Int32 → Prop) (l2 : Int32) (l3 : Int32) : Prop :=
M_X9_ringAt l3 v_p0_n f_p0_led (fun (r2 : Int32) =>
((r2 = 0) → (
narrow .boolean (.int l2) = .int l2 ∧ (P l2 f_p0_paths f_p0_more))) ∧ (¬ (r2 = 0) → (
M_X9_ringAt l3 v_p0_n f_p0_led (fun (r4 : Int32) =>
M_J6_bitCount_0f7a4 r4 (fun (r5 : Int32) =>
((r5 = x1) → (
K18 (l2 ||| (1 : Int32)) (l3 + 1))) ∧ (¬ (r5 = x1) → (
K18 (l2 ||| (0 : Int32)) (l3 + 1))))))))
def M_X9_isForced_b18 (x1 : Int32) (v_p0_way : Int32) (v_p0_n : Int32) (f_p0_led : (Nat → Int32)) (P : Int32 → (Nat → Int64) → (Nat → Int64) → Prop) (l2 : Int32) (l3 : Int32) (f_p0_paths : (Nat → Int64)) (f_p0_more : (Nat → Int64)) : Prop :=
∃ n : Nat, LP2 (M_X9_isForced_l18 x1 v_p0_way v_p0_n f_p0_led P f_p0_paths f_p0_more) n l2 l3
def M_X9_isForced (x1 : Int32) (v_p0_way : Int32) (v_p0_n : Int32) (f_p0_more : (Nat → Int64)) (f_p0_paths : (Nat → Int64)) (f_p0_led : (Nat → Int32)) (P : Int32 → (Nat → Int64) → (Nat → Int64) → Prop) : Prop :=
M_X9_simpleOf 32 x1 v_p0_way v_p0_n f_p0_more f_p0_paths f_p0_led (fun (r1 : Int64) (m1_0 : (Nat → Int64)) (m1_1 : (Nat → Int64)) =>
(((lg_cmp r1 (0 : Int64)) ≤ 0) → (
M_X9_isForced_b18 x1 v_p0_way v_p0_n f_p0_led P (0 : Int32) (0 : Int32) m1_0 m1_1)) ∧ (¬ ((lg_cmp r1 (0 : Int64)) ≤ 0) → (
M_X9_isForced_b18 x1 v_p0_way v_p0_n f_p0_led P (1 : Int32) (0 : Int32) m1_0 m1_1)))
def M_X9_forced (x1 : Int32) (v_p0_way : Int32) (v_p0_n : Int32) (f_p0_more : (Nat → Int64)) (f_p0_paths : (Nat → Int64)) (f_p0_led : (Nat → Int32)) (P : Int32 → (Nat → Int64) → (Nat → Int64) → Prop) : Prop :=
M_X9_in x1.toInt64 (1 : Int64) (12 : Int64) (fun (r1 : Int32) =>
((r1 = 0) → (
P (-2 : Int32) f_p0_paths f_p0_more)) ∧ (¬ (r1 = 0) → (
M_X9_isForced x1 v_p0_way v_p0_n f_p0_more f_p0_paths f_p0_led (fun (r3 : Int32) (m3_0 : (Nat → Int64)) (m3_1 : (Nat → Int64)) =>
((r3 = 0) → (
P (0 : Int32) m3_0 m3_1)) ∧ (¬ (r3 = 0) → (
P (1 : Int32) m3_0 m3_1))))))
def M_X9_allForced_l4 (v_p0_way : Int32) (v_p0_n : Int32) (f_p0_led : (Nat → Int32)) (P : Int32 → (Nat → Int64) → (Nat → Int64) → Prop)  (K4 : Int32 → Int32 → (Nat → Int64) → (Nat → Int64) → Prop) (l1 : Int32) (l2 : Int32) (f_p0_paths : (Nat → Int64)) (f_p0_more : (Nat → Int64)) : Prop :=
(((12 : Int32) < l2) → (
P l1 f_p0_paths f_p0_more)) ∧ (¬ ((12 : Int32) < l2) → (
M_X9_isForced l2 v_p0_way v_p0_n f_p0_more f_p0_paths f_p0_led (fun (r2 : Int32) (m2_0 : (Nat → Int64)) (m2_1 : (Nat → Int64)) =>
((r2 = 0) → (
K4 (l1 ||| (0 : Int32)) (l2 + 1) m2_0 m2_1)) ∧ (¬ (r2 = 0) → (
K4 (l1 ||| ((1 : Int32) <<< (l2 &&& 31))) (l2 + 1) m2_0 m2_1)))))
def M_X9_allForced (v_p0_way : Int32) (v_p0_n : Int32) (f_p0_more : (Nat → Int64)) (f_p0_paths : (Nat → Int64)) (f_p0_led : (Nat → Int32)) (P : Int32 → (Nat → Int64) → (Nat → Int64) → Prop) : Prop :=
∃ n : Nat, LP4 (M_X9_allForced_l4 v_p0_way v_p0_n f_p0_led P ) n (0 : Int32) (1 : Int32) f_p0_paths f_p0_more
def M_X9_isAhead_b32 (x0 : Int32) (x1 : Int32) (P : Int32 → Prop) (l2 : Int32) (l3 : Int32) (l4 : Int32) (l5 : Int32) : Prop :=
((l4 = (1 : Int32)) → (
((l5 = (1 : Int32)) → (
((l2 ≤ l3) → (
P (0 : Int32))) ∧ (¬ (l2 ≤ l3) → (
P (1 : Int32))))) ∧ (¬ (l5 = (1 : Int32)) → (
P (0 : Int32))))) ∧ (¬ (l4 = (1 : Int32)) → (
P (1 : Int32)))
def M_X9_isAhead (x0 : Int32) (x1 : Int32) (P : Int32 → Prop) : Prop :=
M_J6_numberOfTrailingZeros_0f7a4 x0 (fun (r1 : Int32) =>
M_J6_numberOfTrailingZeros_0f7a4 x1 (fun (r2 : Int32) =>
(((x0 >>> (r1 &&& 31)) = (1 : Int32)) → (
M_X9_isAhead_b32 x0 x1 P r1 r2 (x0 >>> (r1 &&& 31)) (x1 >>> (r2 &&& 31)))) ∧ (¬ ((x0 >>> (r1 &&& 31)) = (1 : Int32)) → (
(((x1 >>> (r2 &&& 31)) = (1 : Int32)) → (
M_X9_isAhead_b32 x0 x1 P r1 r2 (x0 >>> (r1 &&& 31)) (x1 >>> (r2 &&& 31)))) ∧ (¬ ((x1 >>> (r2 &&& 31)) = (1 : Int32)) → (
((r1 = r2) → (
(((x1 >>> (r2 &&& 31)) ≤ (x0 >>> (r1 &&& 31))) → (
P (0 : Int32))) ∧ (¬ ((x1 >>> (r2 &&& 31)) ≤ (x0 >>> (r1 &&& 31))) → (
P (1 : Int32))))) ∧ (¬ (r1 = r2) → (
((r2 ≤ r1) → (
P (0 : Int32))) ∧ (¬ (r2 ≤ r1) → (
P (1 : Int32)))))))))))
def M_X9_ahead (x1 : Int32) (x2 : Int32) (P : Int32 → Prop) : Prop :=
M_X9_in x1.toInt64 (1 : Int64) (99 : Int64) (fun (r1 : Int32) =>
((r1 = 0) → (
P (-2 : Int32))) ∧ (¬ (r1 = 0) → (
M_X9_in x2.toInt64 (1 : Int64) (99 : Int64) (fun (r3 : Int32) =>
((r3 = 0) → (
P (-2 : Int32))) ∧ (¬ (r3 = 0) → (
((x1 = x2) → (
P (0 : Int32))) ∧ (¬ (x1 = x2) → (
M_X9_isAhead x1 x2 (fun (r6 : Int32) =>
((r6 = 0) → (
P (0 : Int32))) ∧ (¬ (r6 = 0) → (
P (1 : Int32))))))))))))
def M_X9_placeOf_l4 (x0 : Int32) (P : Int32 → Prop)  (K4 : Int32 → Int32 → Prop) (l1 : Int32) (l2 : Int32) : Prop :=
(((12 : Int32) < l2) → (
P l1)) ∧ (¬ ((12 : Int32) < l2) → (
((l2 = x0) → (
K4 (l1 + (0 : Int32)) (l2 + 1))) ∧ (¬ (l2 = x0) → (
M_X9_isAhead l2 x0 (fun (r3 : Int32) =>
((r3 = 0) → (
K4 (l1 + (0 : Int32)) (l2 + 1))) ∧ (¬ (r3 = 0) → (
K4 (l1 + (1 : Int32)) (l2 + 1))))))))
def M_X9_placeOf (x0 : Int32) (P : Int32 → Prop) : Prop :=
∃ n : Nat, LP2 (M_X9_placeOf_l4 x0 P ) n (0 : Int32) (1 : Int32)
def M_X9_order_l45 (x1 : Int32) (x2 : Int32) (P : Int32 → Prop)  (K45 : Int32 → Int32 → Prop) (l3 : Int32) (l4 : Int32) : Prop :=
(((12 : Int32) < l4) → (
P l3)) ∧ (¬ ((12 : Int32) < l4) → (
M_X9_placeOf l4 (fun (r7 : Int32) =>
((r7 = x1) → (
K45 l4 (l4 + 1))) ∧ (¬ (r7 = x1) → (
K45 l3 (l4 + 1))))))
def M_X9_order (x1 : Int32) (x2 : Int32) (P : Int32 → Prop) : Prop :=
M_X9_in x2.toInt64 (0 : Int64) (1 : Int64) (fun (r1 : Int32) =>
((r1 = 0) → (
P (-2 : Int32))) ∧ (¬ (r1 = 0) → (
M_X9_in x1.toInt64 x2.toInt64 (((x2 + (12 : Int32)) - (1 : Int32)).toInt64) (fun (r3 : Int32) =>
((r3 = 0) → (
P (-2 : Int32))) ∧ (¬ (r3 = 0) → (
((x2 = (1 : Int32)) → (
M_X9_placeOf x1 (fun (r9 : Int32) =>
P r9))) ∧ (¬ (x2 = (1 : Int32)) → (
∃ n : Nat, LP2 (M_X9_order_l45 x1 x2 P ) n (0 : Int32) (1 : Int32)))))))))
def M_X9_comes_l50 (x1 : Int32) (P : (Nat → Int32) → Int32 → Prop) (l2 : Int32) (v_p0_patternMany : Int32) (K50 : Int32 → (Nat → Int32) → Prop) (l3 : Int32) (f_p0_patterns : (Nat → Int32)) : Prop :=
((l3 ≤ l2) → (
vp_in l2 800 ∧ (
P (upd f_p0_patterns l2.toNatClampNeg x1) (v_p0_patternMany + (1 : Int32))))) ∧ (¬ (l3 ≤ l2) → (
vp_in (l3 - (1 : Int32)) 800 ∧ (
vp_in l3 800 ∧ (
K50 (l3 + (-1)) (upd f_p0_patterns l3.toNatClampNeg (f_p0_patterns (l3 - (1 : Int32)).toNatClampNeg))))))
def M_X9_comes_b50 (x1 : Int32) (P : (Nat → Int32) → Int32 → Prop) (l2 : Int32) (l3 : Int32) (f_p0_patterns : (Nat → Int32)) (v_p0_patternMany : Int32) : Prop :=
∃ n : Nat, LP2 (M_X9_comes_l50 x1 P l2 v_p0_patternMany) n l3 f_p0_patterns
def M_X9_comes_b26 (x1 : Int32) (P : (Nat → Int32) → Int32 → Prop) (l2 : Int32) (f_p0_patterns : (Nat → Int32)) (v_p0_patternMany : Int32) : Prop :=
((v_p0_patternMany ≤ l2) → (
M_X9_comes_b50 x1 P l2 v_p0_patternMany f_p0_patterns v_p0_patternMany)) ∧ (¬ (v_p0_patternMany ≤ l2) → (
vp_in l2 800 ∧ (
(((f_p0_patterns l2.toNatClampNeg) = x1) → (
P f_p0_patterns v_p0_patternMany)) ∧ (¬ ((f_p0_patterns l2.toNatClampNeg) = x1) → (
M_X9_comes_b50 x1 P l2 v_p0_patternMany f_p0_patterns v_p0_patternMany)))))
def M_X9_comes_l2 (x1 : Int32) (P : (Nat → Int32) → Int32 → Prop) (f_p0_patterns : (Nat → Int32)) (v_p0_patternMany : Int32) (K2 : Int32 → Prop) (l2 : Int32) : Prop :=
((v_p0_patternMany ≤ l2) → (
M_X9_comes_b26 x1 P l2 f_p0_patterns v_p0_patternMany)) ∧ (¬ (v_p0_patternMany ≤ l2) → (
vp_in l2 800 ∧ (
((x1 ≤ (f_p0_patterns l2.toNatClampNeg)) → (
M_X9_comes_b26 x1 P l2 f_p0_patterns v_p0_patternMany)) ∧ (¬ (x1 ≤ (f_p0_patterns l2.toNatClampNeg)) → (
K2 (l2 + 1))))))
def M_X9_comes (x1 : Int32) (v_p0_patternMany : Int32) (f_p0_patterns : (Nat → Int32)) (P : (Nat → Int32) → Int32 → Prop) : Prop :=
∃ n : Nat, LP1 (M_X9_comes_l2 x1 P f_p0_patterns v_p0_patternMany) n (0 : Int32)
def M_X9_comesBy_l12 (x1 : Int32) (f_p0_ranks : (Nat → Int32)) (K4 : Int32 → Int32 → Prop) (P : (Nat → Int32) → Int32 → Prop) (l3 : Int32) (f_p0_patterns : (Nat → Int32)) (v_p0_patternMany : Int32) (K12 : Int32 → Int32 → Prop) (l2 : Int32) (l4 : Int32) : Prop :=
((x1 ≤ l4) → (
K4 l2 (l3 + 1))) ∧ (¬ (x1 ≤ l4) → (
vp_in l4 6 ∧ (
(((f_p0_ranks l4.toNatClampNeg) = l3) → (
¬ x1 = 0 ∧ (
vp_in ((l4 + (1 : Int32)) - (l4 + (1 : Int32)) / x1 * x1) 6 ∧ (
∀ y8 : Int32, y8 = (((10 : Int32) * l2) + (f_p0_ranks ((l4 + (1 : Int32)) - (l4 + (1 : Int32)) / x1 * x1).toNatClampNeg)) →
K12 y8 (l4 + 1))))) ∧ (¬ ((f_p0_ranks l4.toNatClampNeg) = l3) → (
K12 l2 (l4 + 1))))))
def M_X9_comesBy_l4 (x1 : Int32) (f_p0_ranks : (Nat → Int32)) (P : (Nat → Int32) → Int32 → Prop) (f_p0_patterns : (Nat → Int32)) (v_p0_patternMany : Int32) (K4 : Int32 → Int32 → Prop) (l2 : Int32) (l3 : Int32) : Prop :=
((x1 ≤ l3) → (
M_X9_comes l2 v_p0_patternMany f_p0_patterns (fun (m2_0 : (Nat → Int32)) (m2_1 : Int32) =>
P m2_0 m2_1))) ∧ (¬ (x1 ≤ l3) → (
∃ n : Nat, LP2 (M_X9_comesBy_l12 x1 f_p0_ranks K4 P l3 f_p0_patterns v_p0_patternMany) n l2 (0 : Int32)))
def M_X9_comesBy (x1 : Int32) (v_p0_patternMany : Int32) (f_p0_patterns : (Nat → Int32)) (f_p0_ranks : (Nat → Int32)) (P : (Nat → Int32) → Int32 → Prop) : Prop :=
∃ n : Nat, LP2 (M_X9_comesBy_l4 x1 f_p0_ranks P f_p0_patterns v_p0_patternMany) n (0 : Int32) (0 : Int32)
def M_X9_isSimple_l12 (x1 : Int32) (f_p0_loop : (Nat → Int32)) (K2 : Int32 → Prop) (P : Int32 → Prop) (l2 : Int32) (K12 : Int32 → Int32 → Prop) (l3 : Int32) (l4 : Int32) : Prop :=
((x1 ≤ l4) → (
((l3 = 0) → (
K2 (l2 + 1))) ∧ (¬ (l3 = 0) → (
P (0 : Int32))))) ∧ (¬ (x1 ≤ l4) → (
vp_in l4 6 ∧ (
¬ x1 = 0 ∧ (
vp_in ((l4 + l2) - (l4 + l2) / x1 * x1) 6 ∧ (
(((f_p0_loop l4.toNatClampNeg) = (f_p0_loop ((l4 + l2) - (l4 + l2) / x1 * x1).toNatClampNeg)) → (
K12 (l3 &&& (1 : Int32)) (l4 + 1))) ∧ (¬ ((f_p0_loop l4.toNatClampNeg) = (f_p0_loop ((l4 + l2) - (l4 + l2) / x1 * x1).toNatClampNeg)) → (
K12 (l3 &&& (0 : Int32)) (l4 + 1))))))))
def M_X9_isSimple_l2 (x1 : Int32) (f_p0_loop : (Nat → Int32)) (P : Int32 → Prop)  (K2 : Int32 → Prop) (l2 : Int32) : Prop :=
((x1 ≤ l2) → (
P (1 : Int32))) ∧ (¬ (x1 ≤ l2) → (
∃ n : Nat, LP2 (M_X9_isSimple_l12 x1 f_p0_loop K2 P l2) n (1 : Int32) (0 : Int32)))
def M_X9_isSimple (x1 : Int32) (f_p0_loop : (Nat → Int32)) (P : Int32 → Prop) : Prop :=
∃ n : Nat, LP1 (M_X9_isSimple_l2 x1 f_p0_loop P ) n (1 : Int32)
def M_X9_isLess_b87 (x1 : Int32) (x2 : Int32) (x3 : Int32) (f_p0_loop : (Nat → Int32)) (v_p0_way : Int32) (f_p0_led : (Nat → Int32)) (P : Int32 → Prop) (l4 : Int32) (s0 : Int32) : Prop :=
((s0 = l4) → (
P (1 : Int32))) ∧ (¬ (s0 = l4) → (
P (0 : Int32)))
def M_X9_isLess_l6 (x1 : Int32) (x2 : Int32) (x3 : Int32) (f_p0_loop : (Nat → Int32)) (v_p0_way : Int32) (f_p0_led : (Nat → Int32)) (P : Int32 → Prop)  (K6 : Int32 → Int32 → Prop) (l4 : Int32) (l5 : Int32) : Prop :=
¬ x3 = 0 ∧ (
vp_in ((x1 + l5) - (x1 + l5) / x3 * x3) 6 ∧ (
¬ x3 = 0 ∧ (
vp_in ((x2 + l5) - (x2 + l5) / x3 * x3) 6 ∧ (
(((f_p0_loop ((x1 + l5) - (x1 + l5) / x3 * x3).toNatClampNeg) = (f_p0_loop ((x2 + l5) - (x2 + l5) / x3 * x3).toNatClampNeg)) → (
¬ x3 = 0 ∧ (
vp_in ((x1 + l5) - (x1 + l5) / x3 * x3) 6 ∧ (
M_X9_falls (f_p0_loop ((x1 + l5) - (x1 + l5) / x3 * x3).toNatClampNeg) v_p0_way f_p0_led (fun (r14 : Int32) =>
K6 (l4 ^^^ r14) (l5 + 1)))))) ∧ (¬ ((f_p0_loop ((x1 + l5) - (x1 + l5) / x3 * x3).toNatClampNeg) = (f_p0_loop ((x2 + l5) - (x2 + l5) / x3 * x3).toNatClampNeg)) → (
¬ x3 = 0 ∧ (
vp_in ((x1 + l5) - (x1 + l5) / x3 * x3) 6 ∧ (
¬ x3 = 0 ∧ (
vp_in ((x2 + l5) - (x2 + l5) / x3 * x3) 6 ∧ (
(((f_p0_loop ((x2 + l5) - (x2 + l5) / x3 * x3).toNatClampNeg) ≤ (f_p0_loop ((x1 + l5) - (x1 + l5) / x3 * x3).toNatClampNeg)) → (
M_X9_isLess_b87 x1 x2 x3 f_p0_loop v_p0_way f_p0_led P l4 (0 : Int32))) ∧ (¬ ((f_p0_loop ((x2 + l5) - (x2 + l5) / x3 * x3).toNatClampNeg) ≤ (f_p0_loop ((x1 + l5) - (x1 + l5) / x3 * x3).toNatClampNeg)) → (
M_X9_isLess_b87 x1 x2 x3 f_p0_loop v_p0_way f_p0_led P l4 (1 : Int32)))))))))))))
def M_X9_isLess (x1 : Int32) (x2 : Int32) (x3 : Int32) (f_p0_loop : (Nat → Int32)) (v_p0_way : Int32) (f_p0_led : (Nat → Int32)) (P : Int32 → Prop) : Prop :=
∃ n : Nat, LP2 (M_X9_isLess_l6 x1 x2 x3 f_p0_loop v_p0_way f_p0_led P ) n (1 : Int32) (0 : Int32)
def M_X9_goes_l110 (Rec : Int32 → Int32 → (Nat → Int32) → (Nat → Int32) → Int32 → Int32 → Int32 → (Nat → Int32) → (Nat → Int32) → ((Nat → Int32) → Int32 → (Nat → Int32) → (Nat → Int32) → Prop) → Prop) (x1 : Int32) (x2 : Int32) (f_p0_led : (Nat → Int32)) (v_p0_n : Int32) (v_p0_way : Int32) (K95 : Int32 → (Nat → Int32) → Prop) (P : (Nat → Int32) → Int32 → (Nat → Int32) → (Nat → Int32) → Prop) (l3 : Int32) (f_p0_patterns : (Nat → Int32)) (v_p0_patternMany : Int32) (f_p0_loop : (Nat → Int32)) (K110 : Int32 → (Nat → Int32) → Prop) (l4 : Int32) (f_p0_ranks : (Nat → Int32)) : Prop :=
((x2 ≤ l4) → (
K95 (l3 + 1) f_p0_ranks)) ∧ (¬ (x2 ≤ l4) → (
vp_in l3 6 ∧ (
((l4 = l3) → (
vp_in l3 6 ∧ (
K110 (l4 + 1) (upd f_p0_ranks l3.toNatClampNeg ((f_p0_ranks l3.toNatClampNeg) + (0 : Int32)))))) ∧ (¬ (l4 = l3) → (
M_X9_isLess l4 l3 x2 f_p0_loop v_p0_way f_p0_led (fun (r15 : Int32) =>
((r15 = 0) → (
vp_in l3 6 ∧ (
K110 (l4 + 1) (upd f_p0_ranks l3.toNatClampNeg ((f_p0_ranks l3.toNatClampNeg) + (0 : Int32)))))) ∧ (¬ (r15 = 0) → (
vp_in l3 6 ∧ (
K110 (l4 + 1) (upd f_p0_ranks l3.toNatClampNeg ((f_p0_ranks l3.toNatClampNeg) + (1 : Int32))))))))))))
def M_X9_goes_l95 (Rec : Int32 → Int32 → (Nat → Int32) → (Nat → Int32) → Int32 → Int32 → Int32 → (Nat → Int32) → (Nat → Int32) → ((Nat → Int32) → Int32 → (Nat → Int32) → (Nat → Int32) → Prop) → Prop) (x1 : Int32) (x2 : Int32) (f_p0_led : (Nat → Int32)) (v_p0_n : Int32) (v_p0_way : Int32) (P : (Nat → Int32) → Int32 → (Nat → Int32) → (Nat → Int32) → Prop) (f_p0_patterns : (Nat → Int32)) (v_p0_patternMany : Int32) (f_p0_loop : (Nat → Int32)) (K95 : Int32 → (Nat → Int32) → Prop) (l3 : Int32) (f_p0_ranks : (Nat → Int32)) : Prop :=
((x2 ≤ l3) → (
M_X9_comesBy x2 v_p0_patternMany f_p0_patterns f_p0_ranks (fun (m9_0 : (Nat → Int32)) (m9_1 : Int32) =>
P m9_0 m9_1 f_p0_ranks f_p0_loop))) ∧ (¬ (x2 ≤ l3) → (
vp_in l3 6 ∧ (
∃ n : Nat, LP2 (M_X9_goes_l110 Rec x1 x2 f_p0_led v_p0_n v_p0_way K95 P l3 f_p0_patterns v_p0_patternMany f_p0_loop) n (0 : Int32) (upd f_p0_ranks l3.toNatClampNeg (0 : Int32)))))
def M_X9_goes_b38 (Rec : Int32 → Int32 → (Nat → Int32) → (Nat → Int32) → Int32 → Int32 → Int32 → (Nat → Int32) → (Nat → Int32) → ((Nat → Int32) → Int32 → (Nat → Int32) → (Nat → Int32) → Prop) → Prop) (x1 : Int32) (x2 : Int32) (f_p0_led : (Nat → Int32)) (v_p0_n : Int32) (v_p0_way : Int32) (K7 : Int32 → (Nat → Int32) → Int32 → (Nat → Int32) → (Nat → Int32) → Prop) (P : (Nat → Int32) → Int32 → (Nat → Int32) → (Nat → Int32) → Prop) (l3 : Int32) (f_p0_patterns : (Nat → Int32)) (v_p0_patternMany : Int32) (f_p0_ranks : (Nat → Int32)) (f_p0_loop : (Nat → Int32)) : Prop :=
vp_in x1 6 ∧ (
Rec (x1 + (1 : Int32)) x2 (upd f_p0_loop x1.toNatClampNeg l3) f_p0_led v_p0_n v_p0_way v_p0_patternMany f_p0_patterns f_p0_ranks (fun (m22_0 : (Nat → Int32)) (m22_1 : Int32) (m22_2 : (Nat → Int32)) (m22_3 : (Nat → Int32)) =>
K7 (l3 + 1) m22_0 m22_1 m22_2 m22_3))
def M_X9_goes_l7 (Rec : Int32 → Int32 → (Nat → Int32) → (Nat → Int32) → Int32 → Int32 → Int32 → (Nat → Int32) → (Nat → Int32) → ((Nat → Int32) → Int32 → (Nat → Int32) → (Nat → Int32) → Prop) → Prop) (x1 : Int32) (x2 : Int32) (f_p0_led : (Nat → Int32)) (v_p0_n : Int32) (v_p0_way : Int32) (P : (Nat → Int32) → Int32 → (Nat → Int32) → (Nat → Int32) → Prop)  (K7 : Int32 → (Nat → Int32) → Int32 → (Nat → Int32) → (Nat → Int32) → Prop) (l3 : Int32) (f_p0_patterns : (Nat → Int32)) (v_p0_patternMany : Int32) (f_p0_ranks : (Nat → Int32)) (f_p0_loop : (Nat → Int32)) : Prop :=
M_X9_pieces v_p0_way v_p0_n (fun (r19 : Int32) =>
((r19 ≤ l3) → (
P f_p0_patterns v_p0_patternMany f_p0_ranks f_p0_loop)) ∧ (¬ (r19 ≤ l3) → (
((x1 = 0) → (
M_X9_goes_b38 Rec x1 x2 f_p0_led v_p0_n v_p0_way K7 P l3 f_p0_patterns v_p0_patternMany f_p0_ranks f_p0_loop)) ∧ (¬ (x1 = 0) → (
vp_in (x1 - (1 : Int32)) 6 ∧ (
M_X9_coversOf (f_p0_loop (x1 - (1 : Int32)).toNatClampNeg) f_p0_led v_p0_n v_p0_way (fun (r25 : Int32) =>
((((r25 >>> (l3 &&& 31)) &&& (1 : Int32)) = 0) → (
K7 (l3 + 1) f_p0_patterns v_p0_patternMany f_p0_ranks f_p0_loop)) ∧ (¬ (((r25 >>> (l3 &&& 31)) &&& (1 : Int32)) = 0) → (
M_X9_goes_b38 Rec x1 x2 f_p0_led v_p0_n v_p0_way K7 P l3 f_p0_patterns v_p0_patternMany f_p0_ranks f_p0_loop)))))))))
def Mb_X9_goes (Rec : Int32 → Int32 → (Nat → Int32) → (Nat → Int32) → Int32 → Int32 → Int32 → (Nat → Int32) → (Nat → Int32) → ((Nat → Int32) → Int32 → (Nat → Int32) → (Nat → Int32) → Prop) → Prop) (x1 : Int32) (x2 : Int32) (f_p0_loop : (Nat → Int32)) (f_p0_led : (Nat → Int32)) (v_p0_n : Int32) (v_p0_way : Int32) (v_p0_patternMany : Int32) (f_p0_patterns : (Nat → Int32)) (f_p0_ranks : (Nat → Int32)) (P : (Nat → Int32) → Int32 → (Nat → Int32) → (Nat → Int32) → Prop) : Prop :=
((x2 ≤ x1) → (
vp_in (x2 - (1 : Int32)) 6 ∧ (
M_X9_coversOf (f_p0_loop (x2 - (1 : Int32)).toNatClampNeg) f_p0_led v_p0_n v_p0_way (fun (r3 : Int32) =>
vp_in (0 : Int32) 6 ∧ (
((((r3 >>> ((f_p0_loop (0 : Int32).toNatClampNeg) &&& 31)) &&& (1 : Int32)) = 0) → (
P f_p0_patterns v_p0_patternMany f_p0_ranks f_p0_loop)) ∧ (¬ (((r3 >>> ((f_p0_loop (0 : Int32).toNatClampNeg) &&& 31)) &&& (1 : Int32)) = 0) → (
M_X9_isSimple x2 f_p0_loop (fun (r6 : Int32) =>
((r6 = 0) → (
P f_p0_patterns v_p0_patternMany f_p0_ranks f_p0_loop)) ∧ (¬ (r6 = 0) → (
∃ n : Nat, LP2 (M_X9_goes_l95 Rec x1 x2 f_p0_led v_p0_n v_p0_way P f_p0_patterns v_p0_patternMany f_p0_loop) n (0 : Int32) f_p0_ranks)))))))))) ∧ (¬ (x2 ≤ x1) → (
∃ n : Nat, LP5 (M_X9_goes_l7 Rec x1 x2 f_p0_led v_p0_n v_p0_way P ) n (0 : Int32) f_p0_patterns v_p0_patternMany f_p0_ranks f_p0_loop))
def M_X9_goes : Nat → Int32 → Int32 → (Nat → Int32) → (Nat → Int32) → Int32 → Int32 → Int32 → (Nat → Int32) → (Nat → Int32) → ((Nat → Int32) → Int32 → (Nat → Int32) → (Nat → Int32) → Prop) → Prop
  | 0 => fun _ _ _ _ _ _ _ _ _ _ => False
  | d + 1 => Mb_X9_goes (M_X9_goes d)
def M_X9_tellsPatterns_l44 (x1 : Int32) (f_p0_led : (Nat → Int32)) (v_p0_n : Int32) (v_p0_way : Int32) (K13 : Int32 → Int32 → (Nat → Int32) → (Nat → Int32) → Prop) (P : Int32 → (Nat → Int32) → (Nat → Int32) → (Nat → Int32) → Prop) (l2 : Int32) (l3 : Int32) (v_p0_patternMany : Int32) (f_p0_patterns : (Nat → Int32)) (f_p0_loop : (Nat → Int32)) (K44 : Int32 → Int32 → (Nat → Int32) → Prop) (l4 : Int32) (l5 : Int32) (f_p0_ranks : (Nat → Int32)) : Prop :=
((x1 ≤ l5) → (
M_X9_comesBy x1 v_p0_patternMany f_p0_patterns f_p0_ranks (fun (m9_0 : (Nat → Int32)) (m9_1 : Int32) =>
K13 (l2 + 1) m9_1 m9_0 f_p0_ranks))) ∧ (¬ (x1 ≤ l5) → (
M_J6_bitCount_0f7a4 (l3 &&& (((1 : Int32) <<< (l4 &&& 31)) - (1 : Int32))) (fun (r10 : Int32) =>
vp_in l5 6 ∧ (
vp_in l4 8 ∧ (
K44 (f_p0_led l4.toNatClampNeg) (l5 + 1) (upd f_p0_ranks l5.toNatClampNeg r10))))))
def M_X9_tellsPatterns_l13 (x1 : Int32) (f_p0_led : (Nat → Int32)) (v_p0_n : Int32) (v_p0_way : Int32) (P : Int32 → (Nat → Int32) → (Nat → Int32) → (Nat → Int32) → Prop) (f_p0_loop : (Nat → Int32)) (K13 : Int32 → Int32 → (Nat → Int32) → (Nat → Int32) → Prop) (l2 : Int32) (v_p0_patternMany : Int32) (f_p0_patterns : (Nat → Int32)) (f_p0_ranks : (Nat → Int32)) : Prop :=
M_X9_ringAt l2 v_p0_n f_p0_led (fun (r2 : Int32) =>
((r2 = 0) → (
P v_p0_patternMany f_p0_patterns f_p0_ranks f_p0_loop)) ∧ (¬ (r2 = 0) → (
M_X9_ringAt l2 v_p0_n f_p0_led (fun (r4 : Int32) =>
M_J6_bitCount_0f7a4 r4 (fun (r5 : Int32) =>
((r5 = x1) → (
M_J6_numberOfTrailingZeros_0f7a4 r4 (fun (r7 : Int32) =>
∃ n : Nat, LP3 (M_X9_tellsPatterns_l44 x1 f_p0_led v_p0_n v_p0_way K13 P l2 r4 v_p0_patternMany f_p0_patterns f_p0_loop) n r7 (0 : Int32) f_p0_ranks))) ∧ (¬ (r5 = x1) → (
K13 (l2 + 1) v_p0_patternMany f_p0_patterns f_p0_ranks)))))))
def M_X9_tellsPatterns (x1 : Int32) (v_p0_patternMany : Int32) (f_p0_loop : (Nat → Int32)) (f_p0_led : (Nat → Int32)) (v_p0_n : Int32) (v_p0_way : Int32) (f_p0_patterns : (Nat → Int32)) (f_p0_ranks : (Nat → Int32)) (P : Int32 → (Nat → Int32) → (Nat → Int32) → (Nat → Int32) → Prop) : Prop :=
M_X9_goes 8 (0 : Int32) x1 f_p0_loop f_p0_led v_p0_n v_p0_way (0 : Int32) f_p0_patterns f_p0_ranks (fun (m1_0 : (Nat → Int32)) (m1_1 : Int32) (m1_2 : (Nat → Int32)) (m1_3 : (Nat → Int32)) =>
∃ n : Nat, LP4 (M_X9_tellsPatterns_l13 x1 f_p0_led v_p0_n v_p0_way P m1_3) n (0 : Int32) m1_1 m1_0 m1_2)
def M_X9_pattern (x1 : Int32) (x2 : Int32) (v_p0_way : Int32) (v_p0_patternMany : Int32) (f_p0_loop : (Nat → Int32)) (f_p0_led : (Nat → Int32)) (v_p0_n : Int32) (f_p0_patterns : (Nat → Int32)) (f_p0_ranks : (Nat → Int32)) (P : Int32 → Int32 → (Nat → Int32) → (Nat → Int32) → (Nat → Int32) → Prop) : Prop :=
M_X9_in x1.toInt64 (2 : Int64) (6 : Int64) (fun (r1 : Int32) =>
((r1 = 0) → (
P (-2 : Int32) v_p0_patternMany f_p0_patterns f_p0_ranks f_p0_loop)) ∧ (¬ (r1 = 0) → (
(((-1 : Int32) ≤ x2) → (
((v_p0_way = (1 : Int32)) → (
P (-3 : Int32) v_p0_patternMany f_p0_patterns f_p0_ranks f_p0_loop)) ∧ (¬ (v_p0_way = (1 : Int32)) → (
M_X9_tellsPatterns x1 v_p0_patternMany f_p0_loop f_p0_led v_p0_n v_p0_way f_p0_patterns f_p0_ranks (fun (m5_0 : Int32) (m5_1 : (Nat → Int32)) (m5_2 : (Nat → Int32)) (m5_3 : (Nat → Int32)) =>
((x2 = (-1 : Int32)) → (
P m5_0 m5_0 m5_1 m5_2 m5_3)) ∧ (¬ (x2 = (-1 : Int32)) → (
((m5_0 ≤ x2) → (
P (-1 : Int32) m5_0 m5_1 m5_2 m5_3)) ∧ (¬ (m5_0 ≤ x2) → (
vp_in x2 800 ∧ (
P (m5_1 x2.toNatClampNeg) m5_0 m5_1 m5_2 m5_3)))))))))) ∧ (¬ ((-1 : Int32) ≤ x2) → (
P (-2 : Int32) v_p0_patternMany f_p0_patterns f_p0_ranks f_p0_loop)))))
def M_X9_has_l38 (x1 : Int32) (x2 : Int32) (v_p0_way : Int32) (f_p0_led : (Nat → Int32)) (v_p0_n : Int32) (P : Int32 → Int32 → (Nat → Int32) → (Nat → Int32) → (Nat → Int32) → Prop) (v_p0_patternMany : Int32) (f_p0_patterns : (Nat → Int32)) (f_p0_ranks : (Nat → Int32)) (f_p0_loop : (Nat → Int32)) (K38 : Int32 → Int32 → Prop) (l3 : Int32) (l4 : Int32) : Prop :=
((v_p0_patternMany ≤ l4) → (
P l3 v_p0_patternMany f_p0_patterns f_p0_ranks f_p0_loop)) ∧ (¬ (v_p0_patternMany ≤ l4) → (
vp_in l4 800 ∧ (
(((f_p0_patterns l4.toNatClampNeg) = x2) → (
K38 (1 : Int32) (l4 + 1))) ∧ (¬ ((f_p0_patterns l4.toNatClampNeg) = x2) → (
K38 l3 (l4 + 1))))))
def M_X9_has (x1 : Int32) (x2 : Int32) (v_p0_way : Int32) (v_p0_patternMany : Int32) (f_p0_loop : (Nat → Int32)) (f_p0_led : (Nat → Int32)) (v_p0_n : Int32) (f_p0_patterns : (Nat → Int32)) (f_p0_ranks : (Nat → Int32)) (P : Int32 → Int32 → (Nat → Int32) → (Nat → Int32) → (Nat → Int32) → Prop) : Prop :=
M_X9_in x1.toInt64 (2 : Int64) (6 : Int64) (fun (r1 : Int32) =>
((r1 = 0) → (
P (-2 : Int32) v_p0_patternMany f_p0_patterns f_p0_ranks f_p0_loop)) ∧ (¬ (r1 = 0) → (
((v_p0_way = (1 : Int32)) → (
P (-3 : Int32) v_p0_patternMany f_p0_patterns f_p0_ranks f_p0_loop)) ∧ (¬ (v_p0_way = (1 : Int32)) → (
M_X9_tellsPatterns x1 v_p0_patternMany f_p0_loop f_p0_led v_p0_n v_p0_way f_p0_patterns f_p0_ranks (fun (m4_0 : Int32) (m4_1 : (Nat → Int32)) (m4_2 : (Nat → Int32)) (m4_3 : (Nat → Int32)) =>
∃ n : Nat, LP2 (M_X9_has_l38 x1 x2 v_p0_way f_p0_led v_p0_n P m4_0 m4_1 m4_2 m4_3) n (0 : Int32) (0 : Int32)))))))
def M_X9_lowest_l6 (x0 : Int64) (x1 : Int64) (x2 : Int32) (P : Int64 → Prop)  (K6 : Int64 → Int64 → Prop) (l5 : Int64) (l7 : Int64) : Prop :=
(((lg_cmp l7 (0 : Int64)) = 0) → (
((x2 = 0) → (
¬ l5 = 0 ∧ (
P (x0 / l5)))) ∧ (¬ (x2 = 0) → (
¬ l5 = 0 ∧ (
P (x1 / l5)))))) ∧ (¬ ((lg_cmp l7 (0 : Int64)) = 0) → (
¬ l7 = 0 ∧ (
K6 l7 (l5 - l5 / l7 * l7))))
def M_X9_lowest (x0 : Int64) (x1 : Int64) (x2 : Int32) (P : Int64 → Prop) : Prop :=
∃ n : Nat, LP2 (M_X9_lowest_l6 x0 x1 x2 P ) n x0 x1
def M_X9_counted_l25 (v_p0_way : Int32) (v_p0_n : Int32) (f_p0_led : (Nat → Int32)) (f_p0_counts : (Nat → Int64)) (K2 : Int32 → (Nat → Int64) → Prop) (P : (Nat → Int64) → Prop) (l1 : Int32) (l2 : Int32) (K25 : Int32 → (Nat → Int64) → Prop) (l3 : Int32) (f_p0_then : (Nat → Int64)) : Prop :=
M_X9_pieces v_p0_way v_p0_n (fun (r5 : Int32) =>
((r5 ≤ l3) → (
K2 (l1 + 1) f_p0_then)) ∧ (¬ (r5 ≤ l3) → (
vp_in l1 8 ∧ (
((((l2 >>> (l3 &&& 31)) &&& (1 : Int32)) = 0) → (
vp_in l1 8 ∧ (
K25 (l3 + 1) (vp_updL f_p0_then l1.toNatClampNeg ((f_p0_then l1.toNatClampNeg) + (0 : Int64)))))) ∧ (¬ (((l2 >>> (l3 &&& 31)) &&& (1 : Int32)) = 0) → (
vp_in l3 8 ∧ (
∀ y11 : Int64, y11 = ((f_p0_then l1.toNatClampNeg) + (f_p0_counts l3.toNatClampNeg)) →
vp_in l1 8 ∧ (
K25 (l3 + 1) (vp_updL f_p0_then l1.toNatClampNeg y11)))))))))
def M_X9_counted_l2 (v_p0_way : Int32) (v_p0_n : Int32) (f_p0_led : (Nat → Int32)) (f_p0_counts : (Nat → Int64)) (P : (Nat → Int64) → Prop)  (K2 : Int32 → (Nat → Int64) → Prop) (l1 : Int32) (f_p0_then : (Nat → Int64)) : Prop :=
M_X9_pieces v_p0_way v_p0_n (fun (r1 : Int32) =>
((r1 ≤ l1) → (
P f_p0_then)) ∧ (¬ (r1 ≤ l1) → (
M_X9_coversOf l1 f_p0_led v_p0_n v_p0_way (fun (r3 : Int32) =>
vp_in l1 8 ∧ (
∃ n : Nat, LP2 (M_X9_counted_l25 v_p0_way v_p0_n f_p0_led f_p0_counts K2 P l1 r3) n (0 : Int32) (vp_updL f_p0_then l1.toNatClampNeg (0 : Int64)))))))
def M_X9_counted (v_p0_way : Int32) (v_p0_n : Int32) (f_p0_led : (Nat → Int32)) (f_p0_then : (Nat → Int64)) (f_p0_counts : (Nat → Int64)) (P : (Nat → Int64) → Prop) : Prop :=
∃ n : Nat, LP2 (M_X9_counted_l2 v_p0_way v_p0_n f_p0_led f_p0_counts P ) n (0 : Int32) f_p0_then
def M_X9_growth_b202 (x1 : Int32) (x2 : Int32) (x3 : Int32) (v_p0_way : Int32) (v_p0_n : Int32) (f_p0_led : (Nat → Int32)) (K121 : Int32 → Int32 → Prop) (P : Int64 → (Nat → Int64) → (Nat → Int64) → Prop) (l4 : Int32) (l5 : Int32) (l6 : Int64) (f_p0_then : (Nat → Int64)) (f_p0_counts : (Nat → Int64)) : Prop :=
((x2 = (1 : Int32)) → (
(((lg_cmp l6 (0 : Int64)) ≤ 0) → (
K121 l4 (l5 + 1))) ∧ (¬ ((lg_cmp l6 (0 : Int64)) ≤ 0) → (
K121 l5 (l5 + 1))))) ∧ (¬ (x2 = (1 : Int32)) → (
K121 l4 (l5 + 1)))
def M_X9_growth_b183 (x1 : Int32) (x2 : Int32) (x3 : Int32) (v_p0_way : Int32) (v_p0_n : Int32) (f_p0_led : (Nat → Int32)) (K121 : Int32 → Int32 → Prop) (P : Int64 → (Nat → Int64) → (Nat → Int64) → Prop) (l4 : Int32) (l5 : Int32) (s0 : Int64) (f_p0_then : (Nat → Int64)) (f_p0_counts : (Nat → Int64)) : Prop :=
((l4 = (-1 : Int32)) → (
K121 l5 (l5 + 1))) ∧ (¬ (l4 = (-1 : Int32)) → (
((x2 = 0) → (
(((lg_cmp s0 (0 : Int64)) < 0) → (
K121 l5 (l5 + 1))) ∧ (¬ ((lg_cmp s0 (0 : Int64)) < 0) → (
M_X9_growth_b202 x1 x2 x3 v_p0_way v_p0_n f_p0_led K121 P l4 l5 s0 f_p0_then f_p0_counts)))) ∧ (¬ (x2 = 0) → (
M_X9_growth_b202 x1 x2 x3 v_p0_way v_p0_n f_p0_led K121 P l4 l5 s0 f_p0_then f_p0_counts))))
def M_X9_growth_l121 (x1 : Int32) (x2 : Int32) (x3 : Int32) (v_p0_way : Int32) (v_p0_n : Int32) (f_p0_led : (Nat → Int32)) (P : Int64 → (Nat → Int64) → (Nat → Int64) → Prop) (f_p0_then : (Nat → Int64)) (f_p0_counts : (Nat → Int64)) (K121 : Int32 → Int32 → Prop) (l4 : Int32) (l5 : Int32) : Prop :=
M_X9_pieces v_p0_way v_p0_n (fun (r10 : Int32) =>
((r10 ≤ l5) → (
((l4 = (-1 : Int32)) → (
P (-9223372036854775808 : Int64) f_p0_then f_p0_counts)) ∧ (¬ (l4 = (-1 : Int32)) → (
vp_in l4 8 ∧ (
vp_in l4 8 ∧ (
M_X9_lowest (f_p0_then l4.toNatClampNeg) (f_p0_counts l4.toNatClampNeg) x3 (fun (r15 : Int64) =>
P r15 f_p0_then f_p0_counts))))))) ∧ (¬ (r10 ≤ l5) → (
vp_in l5 8 ∧ (
(((lg_cmp (f_p0_counts l5.toNatClampNeg) (0 : Int64)) ≤ 0) → (
K121 l4 (l5 + 1))) ∧ (¬ ((lg_cmp (f_p0_counts l5.toNatClampNeg) (0 : Int64)) ≤ 0) → (
((l4 = (-1 : Int32)) → (
M_X9_growth_b183 x1 x2 x3 v_p0_way v_p0_n f_p0_led K121 P l4 l5 (0 : Int64) f_p0_then f_p0_counts)) ∧ (¬ (l4 = (-1 : Int32)) → (
vp_in l5 8 ∧ (
vp_in l4 8 ∧ (
vp_in l4 8 ∧ (
vp_in l5 8 ∧ (
M_X9_growth_b183 x1 x2 x3 v_p0_way v_p0_n f_p0_led K121 P l4 l5 (((f_p0_then l5.toNatClampNeg) * (f_p0_counts l4.toNatClampNeg)) - ((f_p0_then l4.toNatClampNeg) * (f_p0_counts l5.toNatClampNeg))) f_p0_then f_p0_counts))))))))))))
def M_X9_growth_l76 (x1 : Int32) (x2 : Int32) (x3 : Int32) (v_p0_way : Int32) (v_p0_n : Int32) (f_p0_led : (Nat → Int32)) (K63 : Int32 → (Nat → Int64) → (Nat → Int64) → Prop) (P : Int64 → (Nat → Int64) → (Nat → Int64) → Prop) (l4 : Int32) (f_p0_then : (Nat → Int64)) (K76 : Int32 → (Nat → Int64) → Prop) (l5 : Int32) (f_p0_counts : (Nat → Int64)) : Prop :=
M_X9_pieces v_p0_way v_p0_n (fun (r29 : Int32) =>
((r29 ≤ l5) → (
K63 (l4 + 1) f_p0_then f_p0_counts)) ∧ (¬ (r29 ≤ l5) → (
vp_in l5 8 ∧ (
vp_in l5 8 ∧ (
K76 (l5 + 1) (vp_updL f_p0_counts l5.toNatClampNeg (f_p0_then l5.toNatClampNeg)))))))
def M_X9_growth_l63 (x1 : Int32) (x2 : Int32) (x3 : Int32) (v_p0_way : Int32) (v_p0_n : Int32) (f_p0_led : (Nat → Int32)) (P : Int64 → (Nat → Int64) → (Nat → Int64) → Prop)  (K63 : Int32 → (Nat → Int64) → (Nat → Int64) → Prop) (l4 : Int32) (f_p0_then : (Nat → Int64)) (f_p0_counts : (Nat → Int64)) : Prop :=
((x1 ≤ l4) → (
M_X9_counted v_p0_way v_p0_n f_p0_led f_p0_then f_p0_counts (fun (m9_0 : (Nat → Int64)) =>
∃ n : Nat, LP2 (M_X9_growth_l121 x1 x2 x3 v_p0_way v_p0_n f_p0_led P m9_0 f_p0_counts) n (-1 : Int32) (0 : Int32)))) ∧ (¬ (x1 ≤ l4) → (
M_X9_counted v_p0_way v_p0_n f_p0_led f_p0_then f_p0_counts (fun (m28_0 : (Nat → Int64)) =>
∃ n : Nat, LP2 (M_X9_growth_l76 x1 x2 x3 v_p0_way v_p0_n f_p0_led K63 P l4 m28_0) n (0 : Int32) f_p0_counts)))
def M_X9_growth_l39 (x1 : Int32) (x2 : Int32) (x3 : Int32) (v_p0_way : Int32) (v_p0_n : Int32) (f_p0_led : (Nat → Int32)) (P : Int64 → (Nat → Int64) → (Nat → Int64) → Prop) (f_p0_then : (Nat → Int64)) (K39 : Int32 → (Nat → Int64) → Prop) (l4 : Int32) (f_p0_counts : (Nat → Int64)) : Prop :=
(((8 : Int32) ≤ l4) → (
∃ n : Nat, LP3 (M_X9_growth_l63 x1 x2 x3 v_p0_way v_p0_n f_p0_led P ) n (0 : Int32) f_p0_then f_p0_counts)) ∧ (¬ ((8 : Int32) ≤ l4) → (
vp_in l4 8 ∧ (
K39 (l4 + 1) (vp_updL f_p0_counts l4.toNatClampNeg (1 : Int64)))))
def M_X9_growth (x1 : Int32) (x2 : Int32) (x3 : Int32) (v_p0_way : Int32) (v_p0_n : Int32) (f_p0_led : (Nat → Int32)) (f_p0_then : (Nat → Int64)) (f_p0_counts : (Nat → Int64)) (P : Int64 → (Nat → Int64) → (Nat → Int64) → Prop) : Prop :=
M_X9_in x1.toInt64 (0 : Int64) (10 : Int64) (fun (r1 : Int32) =>
((r1 = 0) → (
P (-9223372036854775808 : Int64) f_p0_then f_p0_counts)) ∧ (¬ (r1 = 0) → (
M_X9_in x2.toInt64 (0 : Int64) (1 : Int64) (fun (r3 : Int32) =>
((r3 = 0) → (
P (-9223372036854775808 : Int64) f_p0_then f_p0_counts)) ∧ (¬ (r3 = 0) → (
M_X9_in x3.toInt64 (0 : Int64) (1 : Int64) (fun (r5 : Int32) =>
((r5 = 0) → (
P (-9223372036854775808 : Int64) f_p0_then f_p0_counts)) ∧ (¬ (r5 = 0) → (
∃ n : Nat, LP2 (M_X9_growth_l39 x1 x2 x3 v_p0_way v_p0_n f_p0_led P f_p0_then) n (0 : Int32) f_p0_counts)))))))))
def M_X9_polynomial_l218 (x1 : Int32) (v_p0_way : Int32) (v_p0_n : Int32) (f_p0_led : (Nat → Int32)) (K66 : Int64 → Int32 → (Nat → Int64) → (Nat → Int64) → Prop) (K209 : Int32 → (Nat → Int64) → Prop) (P : Int64 → (Nat → Int64) → (Nat → Int64) → Prop) (l2 : Int32) (l3 : Int64) (l5 : Int32) (l8 : Int32) (f_p0_product : (Nat → Int64)) (K218 : Int32 → (Nat → Int64) → Prop) (l9 : Int32) (f_p0_table : (Nat → Int64)) : Prop :=
((l2 ≤ l9) → (
K209 (l8 + 1) f_p0_table)) ∧ (¬ (l2 ≤ l9) → (
vp_in (((8 : Int32) * l8) + l9) 64 ∧ (
((l8 = l9) → (
∀ y14 : Int64, y14 = ((f_p0_product (((8 : Int32) * l8) + l9).toNatClampNeg) + l3) →
vp_in (((8 : Int32) * l8) + l9) 64 ∧ (
K218 (l9 + 1) (vp_updL f_p0_table (((8 : Int32) * l8) + l9).toNatClampNeg y14)))) ∧ (¬ (l8 = l9) → (
∀ y12 : Int64, y12 = ((f_p0_product (((8 : Int32) * l8) + l9).toNatClampNeg) + (0 : Int64)) →
vp_in (((8 : Int32) * l8) + l9) 64 ∧ (
K218 (l9 + 1) (vp_updL f_p0_table (((8 : Int32) * l8) + l9).toNatClampNeg y12)))))))
def M_X9_polynomial_l209 (x1 : Int32) (v_p0_way : Int32) (v_p0_n : Int32) (f_p0_led : (Nat → Int32)) (K66 : Int64 → Int32 → (Nat → Int64) → (Nat → Int64) → Prop) (P : Int64 → (Nat → Int64) → (Nat → Int64) → Prop) (l2 : Int32) (l3 : Int64) (l5 : Int32) (f_p0_product : (Nat → Int64)) (K209 : Int32 → (Nat → Int64) → Prop) (l8 : Int32) (f_p0_table : (Nat → Int64)) : Prop :=
((l2 ≤ l8) → (
K66 l3 (l5 + 1) f_p0_table f_p0_product)) ∧ (¬ (l2 ≤ l8) → (
∃ n : Nat, LP2 (M_X9_polynomial_l218 x1 v_p0_way v_p0_n f_p0_led K66 K209 P l2 l3 l5 l8 f_p0_product) n (0 : Int32) f_p0_table))
def M_X9_polynomial_l109 (x1 : Int32) (v_p0_way : Int32) (v_p0_n : Int32) (f_p0_led : (Nat → Int32)) (K66 : Int64 → Int32 → (Nat → Int64) → (Nat → Int64) → Prop) (K80 : Int64 → Int32 → (Nat → Int64) → Prop) (K97 : Int64 → Int32 → (Nat → Int64) → Prop) (P : Int64 → (Nat → Int64) → (Nat → Int64) → Prop) (l2 : Int32) (l5 : Int32) (l6 : Int64) (l8 : Int32) (l9 : Int32) (l10 : Int32) (f_p0_table : (Nat → Int64)) (f_p0_product : (Nat → Int64)) (K109 : Int64 → Int32 → Prop) (l11 : Int64) (l13 : Int32) : Prop :=
((l2 ≤ l13) → (
vp_in (((8 : Int32) * l8) + l10) 64 ∧ (
((l8 = l10) → (
K97 (l6 + l11) (l10 + 1) (vp_updL f_p0_product (((8 : Int32) * l8) + l10).toNatClampNeg l11))) ∧ (¬ (l8 = l10) → (
K97 (l6 + (0 : Int64)) (l10 + 1) (vp_updL f_p0_product (((8 : Int32) * l8) + l10).toNatClampNeg l11)))))) ∧ (¬ (l2 ≤ l13) → (
((((l9 >>> (l13 &&& 31)) &&& (1 : Int32)) = 0) → (
K109 (l11 + (0 : Int64)) (l13 + 1))) ∧ (¬ (((l9 >>> (l13 &&& 31)) &&& (1 : Int32)) = 0) → (
vp_in (((8 : Int32) * l13) + l10) 64 ∧ (
∀ y23 : Int64, y23 = (l11 + (f_p0_table (((8 : Int32) * l13) + l10).toNatClampNeg)) →
K109 y23 (l13 + 1))))))
def M_X9_polynomial_l97 (x1 : Int32) (v_p0_way : Int32) (v_p0_n : Int32) (f_p0_led : (Nat → Int32)) (K66 : Int64 → Int32 → (Nat → Int64) → (Nat → Int64) → Prop) (K80 : Int64 → Int32 → (Nat → Int64) → Prop) (P : Int64 → (Nat → Int64) → (Nat → Int64) → Prop) (l2 : Int32) (l5 : Int32) (l8 : Int32) (l9 : Int32) (f_p0_table : (Nat → Int64)) (K97 : Int64 → Int32 → (Nat → Int64) → Prop) (l6 : Int64) (l10 : Int32) (f_p0_product : (Nat → Int64)) : Prop :=
((l2 ≤ l10) → (
K80 l6 (l8 + 1) f_p0_product)) ∧ (¬ (l2 ≤ l10) → (
∃ n : Nat, LP2 (M_X9_polynomial_l109 x1 v_p0_way v_p0_n f_p0_led K66 K80 K97 P l2 l5 l6 l8 l9 l10 f_p0_table f_p0_product) n (0 : Int64) (0 : Int32)))
def M_X9_polynomial_l80 (x1 : Int32) (v_p0_way : Int32) (v_p0_n : Int32) (f_p0_led : (Nat → Int32)) (K66 : Int64 → Int32 → (Nat → Int64) → (Nat → Int64) → Prop) (P : Int64 → (Nat → Int64) → (Nat → Int64) → Prop) (l2 : Int32) (l5 : Int32) (f_p0_table : (Nat → Int64)) (K80 : Int64 → Int32 → (Nat → Int64) → Prop) (l6 : Int64) (l8 : Int32) (f_p0_product : (Nat → Int64)) : Prop :=
((l2 ≤ l8) → (
¬ l5.toInt64 = 0 ∧ (
∃ n : Nat, LP2 (M_X9_polynomial_l209 x1 v_p0_way v_p0_n f_p0_led K66 P l2 ((-l6) / l5.toInt64) l5 f_p0_product) n (0 : Int32) f_p0_table))) ∧ (¬ (l2 ≤ l8) → (
M_X9_coversOf l8 f_p0_led v_p0_n v_p0_way (fun (r16 : Int32) =>
∃ n : Nat, LP3 (M_X9_polynomial_l97 x1 v_p0_way v_p0_n f_p0_led K66 K80 P l2 l5 l8 r16 f_p0_table) n l6 (0 : Int32) f_p0_product)))
def M_X9_polynomial_l66 (x1 : Int32) (v_p0_way : Int32) (v_p0_n : Int32) (f_p0_led : (Nat → Int32)) (P : Int64 → (Nat → Int64) → (Nat → Int64) → Prop) (l2 : Int32) (K66 : Int64 → Int32 → (Nat → Int64) → (Nat → Int64) → Prop) (l3 : Int64) (l5 : Int32) (f_p0_table : (Nat → Int64)) (f_p0_product : (Nat → Int64)) : Prop :=
(((l2 - x1) < l5) → (
P l3 f_p0_table f_p0_product)) ∧ (¬ ((l2 - x1) < l5) → (
∃ n : Nat, LP3 (M_X9_polynomial_l80 x1 v_p0_way v_p0_n f_p0_led K66 P l2 l5 f_p0_table) n (0 : Int64) (0 : Int32) f_p0_product))
def M_X9_polynomial_l25 (x1 : Int32) (v_p0_way : Int32) (v_p0_n : Int32) (f_p0_led : (Nat → Int32)) (P : Int64 → (Nat → Int64) → (Nat → Int64) → Prop) (l2 : Int32) (l3 : Int64) (f_p0_product : (Nat → Int64)) (K25 : Int32 → (Nat → Int64) → Prop) (l5 : Int32) (f_p0_table : (Nat → Int64)) : Prop :=
(((64 : Int32) ≤ l5) → (
∃ n : Nat, LP4 (M_X9_polynomial_l66 x1 v_p0_way v_p0_n f_p0_led P l2) n l3 (1 : Int32) f_p0_table f_p0_product)) ∧ (¬ ((64 : Int32) ≤ l5) → (
(((l5 / (8 : Int32)) = (l5 - l5 / (8 : Int32) * (8 : Int32))) → (
vp_in l5 64 ∧ (
K25 (l5 + 1) (vp_updL f_p0_table l5.toNatClampNeg (1 : Int64))))) ∧ (¬ ((l5 / (8 : Int32)) = (l5 - l5 / (8 : Int32) * (8 : Int32))) → (
vp_in l5 64 ∧ (
K25 (l5 + 1) (vp_updL f_p0_table l5.toNatClampNeg (0 : Int64)))))))
def M_X9_polynomial (x1 : Int32) (v_p0_way : Int32) (v_p0_n : Int32) (f_p0_product : (Nat → Int64)) (f_p0_table : (Nat → Int64)) (f_p0_led : (Nat → Int32)) (P : Int64 → (Nat → Int64) → (Nat → Int64) → Prop) : Prop :=
M_X9_pieces v_p0_way v_p0_n (fun (r1 : Int32) =>
M_X9_in x1.toInt64 (0 : Int64) r1.toInt64 (fun (r2 : Int32) =>
((r2 = 0) → (
P (-9223372036854775808 : Int64) f_p0_table f_p0_product)) ∧ (¬ (r2 = 0) → (
∃ n : Nat, LP2 (M_X9_polynomial_l25 x1 v_p0_way v_p0_n f_p0_led P r1 (1 : Int64) f_p0_product) n (0 : Int32) f_p0_table))))
def M_X9_canTurn_l4 (x1 : Int32) (v_p0_n : Int32) (f_p0_led : (Nat → Int32)) (P : Int32 → Prop)  (K4 : Int32 → Int32 → Prop) (l2 : Int32) (l3 : Int32) : Prop :=
((v_p0_n ≤ l3) → (
((x1 = (3 : Int32)) → (
((l2 = (((1 : Int32) <<< (v_p0_n &&& 31)) - (1 : Int32))) → (
P (1 : Int32))) ∧ (¬ (l2 = (((1 : Int32) <<< (v_p0_n &&& 31)) - (1 : Int32))) → (
P (0 : Int32))))) ∧ (¬ (x1 = (3 : Int32)) → (
P (1 : Int32))))) ∧ (¬ (v_p0_n ≤ l3) → (
vp_in l3 8 ∧ (
∀ y5 : Int32, y5 = (l2 ||| ((1 : Int32) <<< ((f_p0_led l3.toNatClampNeg) &&& 31))) →
K4 y5 (l3 + 1))))
def M_X9_canTurn (x1 : Int32) (v_p0_n : Int32) (f_p0_led : (Nat → Int32)) (P : Int32 → Prop) : Prop :=
∃ n : Nat, LP2 (M_X9_canTurn_l4 x1 v_p0_n f_p0_led P ) n (0 : Int32) (0 : Int32)
def M_X9_turns_l160 (x1 : Int32) (x2 : Int32) (v_p0_n : Int32) (P : (Nat → Int32) → (Nat → Int32) → Prop) (f_p0_turned : (Nat → Int32)) (K160 : Int32 → (Nat → Int32) → Prop) (l3 : Int32) (f_p0_led : (Nat → Int32)) : Prop :=
((v_p0_n ≤ l3) → (
P f_p0_led f_p0_turned)) ∧ (¬ (v_p0_n ≤ l3) → (
vp_in l3 8 ∧ (
vp_in l3 8 ∧ (
K160 (l3 + 1) (upd f_p0_led l3.toNatClampNeg (f_p0_turned l3.toNatClampNeg))))))
def M_X9_turns_l2 (x1 : Int32) (x2 : Int32) (v_p0_n : Int32) (P : (Nat → Int32) → (Nat → Int32) → Prop) (f_p0_led : (Nat → Int32)) (K2 : Int32 → (Nat → Int32) → Prop) (l3 : Int32) (f_p0_turned : (Nat → Int32)) : Prop :=
((v_p0_n ≤ l3) → (
∃ n : Nat, LP2 (M_X9_turns_l160 x1 x2 v_p0_n P f_p0_turned) n (0 : Int32) f_p0_led)) ∧ (¬ (v_p0_n ≤ l3) → (
(x1 = (0 : Int32) → (
vp_in l3 8 ∧ (
vp_in ((v_p0_n - (1 : Int32)) - l3) 8 ∧ (
K2 (l3 + 1) (upd f_p0_turned ((v_p0_n - (1 : Int32)) - l3).toNatClampNeg ((v_p0_n - (1 : Int32)) - (f_p0_led l3.toNatClampNeg))))))) ∧ (¬ (x1 = (0 : Int32)) → (
(x1 = (1 : Int32) → (
vp_in l3 8 ∧ (
vp_in (f_p0_led l3.toNatClampNeg) 8 ∧ (
vp_in l3 8 ∧ (
K2 (l3 + 1) (upd f_p0_turned l3.toNatClampNeg (f_p0_led (f_p0_led l3.toNatClampNeg).toNatClampNeg))))))) ∧ (¬ (x1 = (1 : Int32)) → (
(x1 = (2 : Int32) → (
¬ v_p0_n = 0 ∧ (
vp_in l3 8 ∧ (
¬ v_p0_n = 0 ∧ (
∀ y14 : Int32, y14 = (((f_p0_led l3.toNatClampNeg) + (1 : Int32)) - ((f_p0_led l3.toNatClampNeg) + (1 : Int32)) / v_p0_n * v_p0_n) →
vp_in ((l3 + (1 : Int32)) - (l3 + (1 : Int32)) / v_p0_n * v_p0_n) 8 ∧ (
K2 (l3 + 1) (upd f_p0_turned ((l3 + (1 : Int32)) - (l3 + (1 : Int32)) / v_p0_n * v_p0_n).toNatClampNeg y14))))))) ∧ (¬ (x1 = (2 : Int32)) → (
(x1 = (3 : Int32) → (
vp_in l3 8 ∧ (
vp_in (f_p0_led l3.toNatClampNeg) 8 ∧ (
K2 (l3 + 1) (upd f_p0_turned (f_p0_led l3.toNatClampNeg).toNatClampNeg l3))))) ∧ (¬ (x1 = (3 : Int32)) → (
vp_in l3 8 ∧ (
¬ v_p0_n = 0 ∧ (
∀ y20 : Int32, y20 = (((f_p0_led l3.toNatClampNeg) + x2) - ((f_p0_led l3.toNatClampNeg) + x2) / v_p0_n * v_p0_n) →
vp_in l3 8 ∧ (
K2 (l3 + 1) (upd f_p0_turned l3.toNatClampNeg y20))))))))))))))
def M_X9_turns (x1 : Int32) (x2 : Int32) (v_p0_n : Int32) (f_p0_turned : (Nat → Int32)) (f_p0_led : (Nat → Int32)) (P : (Nat → Int32) → (Nat → Int32) → Prop) : Prop :=
∃ n : Nat, LP2 (M_X9_turns_l2 x1 x2 v_p0_n P f_p0_led) n (0 : Int32) f_p0_turned
def M_X9_turn_l111 (x1 : Int32) (x2 : Int32) (x3 : Int32) (v_p0_n : Int32) (P : Int32 → Int32 → (Nat → Int32) → (Nat → Int32) → (Nat → Int32) → Prop) (v_p0_deeds : Int32) (f_p0_were : (Nat → Int32)) (K111 : Int32 → Int32 → Int32 → (Nat → Int32) → (Nat → Int32) → Prop) (l5 : Int32) (l7 : Int32) (l8 : Int32) (f_p0_led : (Nat → Int32)) (f_p0_turned : (Nat → Int32)) : Prop :=
((x1 ≤ l8) → (
P l7 v_p0_deeds f_p0_were f_p0_led f_p0_turned)) ∧ (¬ (x1 ≤ l8) → (
¬ (l5 / (10 : Int32)) = 0 ∧ (
∀ y12 : Int32, y12 = ((x2 / (l5 / (10 : Int32))) - (x2 / (l5 / (10 : Int32))) / (10 : Int32) * (10 : Int32)) →
M_X9_canTurn y12 v_p0_n f_p0_led (fun (r13 : Int32) =>
((r13 = 0) → (
K111 (l5 / (10 : Int32)) l7 (l8 + 1) f_p0_led f_p0_turned)) ∧ (¬ (r13 = 0) → (
M_X9_turns y12 x3 v_p0_n f_p0_turned f_p0_led (fun (m15_0 : (Nat → Int32)) (m15_1 : (Nat → Int32)) =>
K111 (l5 / (10 : Int32)) (l7 + 1) (l8 + 1) m15_0 m15_1)))))))
def M_X9_turn_l43 (x1 : Int32) (x2 : Int32) (x3 : Int32) (v_p0_n : Int32) (P : Int32 → Int32 → (Nat → Int32) → (Nat → Int32) → (Nat → Int32) → Prop) (v_p0_deeds : Int32) (f_p0_were : (Nat → Int32)) (f_p0_led : (Nat → Int32)) (f_p0_turned : (Nat → Int32)) (K43 : Int32 → Int32 → Int32 → Int32 → Prop) (l4 : Int32) (l5 : Int32) (l6 : Int32) (l7 : Int32) : Prop :=
((x1 ≤ l7) → (
((l6 = 0) → (
P (-2 : Int32) v_p0_deeds f_p0_were f_p0_led f_p0_turned)) ∧ (¬ (l6 = 0) → (
((l4 ≤ 0) → (
M_X9_remembers v_p0_deeds f_p0_led f_p0_were (fun (m9_0 : Int32) (m9_1 : (Nat → Int32)) =>
∃ n : Nat, LP5 (M_X9_turn_l111 x1 x2 x3 v_p0_n P m9_0 m9_1) n l5 (0 : Int32) (0 : Int32) f_p0_led f_p0_turned))) ∧ (¬ (l4 ≤ 0) → (
P (-2 : Int32) v_p0_deeds f_p0_were f_p0_led f_p0_turned)))))) ∧ (¬ (x1 ≤ l7) → (
(((4 : Int32) < (l4 - l4 / (10 : Int32) * (10 : Int32))) → (
K43 (l4 / (10 : Int32)) (l5 * (10 : Int32)) (l6 &&& (0 : Int32)) (l7 + 1))) ∧ (¬ ((4 : Int32) < (l4 - l4 / (10 : Int32) * (10 : Int32))) → (
K43 (l4 / (10 : Int32)) (l5 * (10 : Int32)) (l6 &&& (1 : Int32)) (l7 + 1)))))
def M_X9_turn (x1 : Int32) (x2 : Int32) (x3 : Int32) (v_p0_deeds : Int32) (f_p0_led : (Nat → Int32)) (f_p0_were : (Nat → Int32)) (v_p0_n : Int32) (f_p0_turned : (Nat → Int32)) (P : Int32 → Int32 → (Nat → Int32) → (Nat → Int32) → (Nat → Int32) → Prop) : Prop :=
M_X9_in x1.toInt64 (1 : Int64) (6 : Int64) (fun (r1 : Int32) =>
((r1 = 0) → (
P (-2 : Int32) v_p0_deeds f_p0_were f_p0_led f_p0_turned)) ∧ (¬ (r1 = 0) → (
((x2 < 0) → (
P (-2 : Int32) v_p0_deeds f_p0_were f_p0_led f_p0_turned)) ∧ (¬ (x2 < 0) → (
M_X9_in x3.toInt64 (0 : Int64) (7 : Int64) (fun (r4 : Int32) =>
((r4 = 0) → (
P (-2 : Int32) v_p0_deeds f_p0_were f_p0_led f_p0_turned)) ∧ (¬ (r4 = 0) → (
∃ n : Nat, LP4 (M_X9_turn_l43 x1 x2 x3 v_p0_n P v_p0_deeds f_p0_were f_p0_led f_p0_turned) n x2 (1 : Int32) (1 : Int32) (0 : Int32)))))))))
def M_X9_feed (x1 : Int32) (v_p0_taped : Int32) (f_p0_tape : (Nat → Int32)) (P : Int32 → (Nat → Int32) → Int32 → Prop) : Prop :=
M_X9_in x1.toInt64 (0 : Int64) (127 : Int64) (fun (r1 : Int32) =>
((r1 = 0) → (
P (-2 : Int32) f_p0_tape v_p0_taped)) ∧ (¬ (r1 = 0) → (
((v_p0_taped = (60 : Int32)) → (
P (-4 : Int32) f_p0_tape v_p0_taped)) ∧ (¬ (v_p0_taped = (60 : Int32)) → (
vp_in v_p0_taped 60 ∧ (
P (v_p0_taped + (1 : Int32)) (upd f_p0_tape v_p0_taped.toNatClampNeg x1) (v_p0_taped + (1 : Int32))))))))
def M_X9_byteAt (x1 : Int32) (v_p0_taped : Int32) (f_p0_tape : (Nat → Int32)) (P : Int32 → Prop) : Prop :=
((v_p0_taped ≤ x1) → (
P (-1 : Int32))) ∧ (¬ (v_p0_taped ≤ x1) → (
vp_in x1 60 ∧ (
P (f_p0_tape x1.toNatClampNeg))))
def M_X9_read_l332 (v_p0_n : Int32) (f_p0_tape : (Nat → Int32)) (P : Int32 → Int32 → Int32 → (Nat → Int32) → (Nat → Int32) → Int32 → (Nat → Int32) → (Nat → Int32) → Prop) (l2 : Int32) (v_p0_taped : Int32) (v_p0_deeds : Int32) (f_p0_were : (Nat → Int32)) (v_p0_hasWhy : Int32) (f_p0_reasons : (Nat → Int32)) (f_p0_turned : (Nat → Int32)) (K332 : Int32 → (Nat → Int32) → Prop) (l8 : Int32) (f_p0_led : (Nat → Int32)) : Prop :=
((v_p0_n ≤ l8) → (
P l2 v_p0_taped v_p0_deeds f_p0_were f_p0_led v_p0_hasWhy f_p0_reasons f_p0_turned)) ∧ (¬ (v_p0_n ≤ l8) → (
vp_in l8 8 ∧ (
vp_in l8 8 ∧ (
K332 (l8 + 1) (upd f_p0_led l8.toNatClampNeg (f_p0_turned l8.toNatClampNeg))))))
def M_X9_read_b278 (v_p0_n : Int32) (f_p0_tape : (Nat → Int32)) (P : Int32 → Int32 → Int32 → (Nat → Int32) → (Nat → Int32) → Int32 → (Nat → Int32) → (Nat → Int32) → Prop) (l1 : Int32) (l2 : Int32) (l3 : Int32) (s0 : Int32) (s1 : Int32) (v_p0_taped : Int32) (v_p0_deeds : Int32) (f_p0_were : (Nat → Int32)) (f_p0_led : (Nat → Int32)) (v_p0_hasWhy : Int32) (f_p0_reasons : (Nat → Int32)) (f_p0_turned : (Nat → Int32)) : Prop :=
(((s0 &&& s1) = 0) → (
vp_in (0 : Int32) 3 ∧ (
M_J6_bitCount_0f7a4 l1 (fun (r8 : Int32) =>
vp_in (1 : Int32) 3 ∧ (
vp_in (2 : Int32) 3 ∧ (
P ((-100 : Int32) - l3) (0 : Int32) v_p0_deeds f_p0_were f_p0_led (1 : Int32) (upd (upd (upd f_p0_reasons (0 : Int32).toNatClampNeg l2) (1 : Int32).toNatClampNeg r8) (2 : Int32).toNatClampNeg l3) f_p0_turned)))))) ∧ (¬ ((s0 &&& s1) = 0) → (
M_X9_remembers v_p0_deeds f_p0_led f_p0_were (fun (m3_0 : Int32) (m3_1 : (Nat → Int32)) =>
∃ n : Nat, LP2 (M_X9_read_l332 v_p0_n f_p0_tape P l2 (0 : Int32) m3_0 m3_1 v_p0_hasWhy f_p0_reasons f_p0_turned) n (0 : Int32) f_p0_led)))
def M_X9_read_b262 (v_p0_n : Int32) (f_p0_tape : (Nat → Int32)) (P : Int32 → Int32 → Int32 → (Nat → Int32) → (Nat → Int32) → Int32 → (Nat → Int32) → (Nat → Int32) → Prop) (l1 : Int32) (l2 : Int32) (l3 : Int32) (l6 : Int32) (l7 : Int32) (v_p0_taped : Int32) (v_p0_deeds : Int32) (f_p0_were : (Nat → Int32)) (f_p0_led : (Nat → Int32)) (v_p0_hasWhy : Int32) (f_p0_reasons : (Nat → Int32)) (f_p0_turned : (Nat → Int32)) : Prop :=
((l6 = 0) → (
((l2 ≤ 0) → (
M_X9_read_b278 v_p0_n f_p0_tape P l1 l2 l3 l7 (0 : Int32) v_p0_taped v_p0_deeds f_p0_were f_p0_led v_p0_hasWhy f_p0_reasons f_p0_turned)) ∧ (¬ (l2 ≤ 0) → (
M_X9_read_b278 v_p0_n f_p0_tape P l1 l2 l3 l7 (1 : Int32) v_p0_taped v_p0_deeds f_p0_were f_p0_led v_p0_hasWhy f_p0_reasons f_p0_turned)))) ∧ (¬ (l6 = 0) → (
M_X9_read_b278 v_p0_n f_p0_tape P l1 l2 l3 l7 (0 : Int32) v_p0_taped v_p0_deeds f_p0_were f_p0_led v_p0_hasWhy f_p0_reasons f_p0_turned))
def M_X9_read_b246 (v_p0_n : Int32) (f_p0_tape : (Nat → Int32)) (K43 : Int32 → Int32 → Int32 → Int32 → Int32 → Int32 → Int32 → (Nat → Int32) → Prop) (P : Int32 → Int32 → Int32 → (Nat → Int32) → (Nat → Int32) → Int32 → (Nat → Int32) → (Nat → Int32) → Prop) (l1 : Int32) (l2 : Int32) (l3 : Int32) (l4 : Int32) (l5 : Int32) (l6 : Int32) (l7 : Int32) (v_p0_taped : Int32) (v_p0_deeds : Int32) (f_p0_were : (Nat → Int32)) (f_p0_led : (Nat → Int32)) (v_p0_hasWhy : Int32) (f_p0_reasons : (Nat → Int32)) (f_p0_turned : (Nat → Int32)) : Prop :=
((l7 = 0) → (
K43 l1 l2 (l3 + (0 : Int32)) l4 l5 l6 l7 f_p0_turned)) ∧ (¬ (l7 = 0) → (
K43 l1 l2 (l3 + (1 : Int32)) l4 l5 l6 l7 f_p0_turned))
def M_X9_read_b232 (v_p0_n : Int32) (f_p0_tape : (Nat → Int32)) (K43 : Int32 → Int32 → Int32 → Int32 → Int32 → Int32 → Int32 → (Nat → Int32) → Prop) (P : Int32 → Int32 → Int32 → (Nat → Int32) → (Nat → Int32) → Int32 → (Nat → Int32) → (Nat → Int32) → Prop) (l1 : Int32) (l2 : Int32) (l3 : Int32) (l4 : Int32) (l5 : Int32) (l7 : Int32) (l8 : Int32) (v_p0_taped : Int32) (v_p0_deeds : Int32) (f_p0_were : (Nat → Int32)) (f_p0_led : (Nat → Int32)) (v_p0_hasWhy : Int32) (f_p0_reasons : (Nat → Int32)) (f_p0_turned : (Nat → Int32)) : Prop :=
((l8 = (41 : Int32)) → (
M_X9_read_b246 v_p0_n f_p0_tape K43 P l1 l2 l3 l4 l5 (0 : Int32) l7 v_p0_taped v_p0_deeds f_p0_were f_p0_led v_p0_hasWhy f_p0_reasons f_p0_turned)) ∧ (¬ (l8 = (41 : Int32)) → (
M_X9_read_b246 v_p0_n f_p0_tape K43 P l1 l2 l3 l4 l5 (1 : Int32) l7 v_p0_taped v_p0_deeds f_p0_were f_p0_led v_p0_hasWhy f_p0_reasons f_p0_turned))
def M_X9_read_b211 (v_p0_n : Int32) (f_p0_tape : (Nat → Int32)) (K43 : Int32 → Int32 → Int32 → Int32 → Int32 → Int32 → Int32 → (Nat → Int32) → Prop) (P : Int32 → Int32 → Int32 → (Nat → Int32) → (Nat → Int32) → Int32 → (Nat → Int32) → (Nat → Int32) → Prop) (l1 : Int32) (l2 : Int32) (l3 : Int32) (l4 : Int32) (l5 : Int32) (l8 : Int32) (s0 : Int32) (v_p0_taped : Int32) (v_p0_deeds : Int32) (f_p0_were : (Nat → Int32)) (f_p0_led : (Nat → Int32)) (v_p0_hasWhy : Int32) (f_p0_reasons : (Nat → Int32)) (f_p0_turned : (Nat → Int32)) : Prop :=
((l8 = (41 : Int32)) → (
vp_in l5 8 ∧ (
M_X9_read_b232 v_p0_n f_p0_tape K43 P l1 (l2 + 1) l3 l4 l5 s0 l8 v_p0_taped v_p0_deeds f_p0_were f_p0_led v_p0_hasWhy f_p0_reasons (upd f_p0_turned l5.toNatClampNeg l4)))) ∧ (¬ (l8 = (41 : Int32)) → (
M_X9_read_b232 v_p0_n f_p0_tape K43 P l1 l2 l3 l4 l5 s0 l8 v_p0_taped v_p0_deeds f_p0_were f_p0_led v_p0_hasWhy f_p0_reasons f_p0_turned))
def M_X9_read_b165 (v_p0_n : Int32) (f_p0_tape : (Nat → Int32)) (K43 : Int32 → Int32 → Int32 → Int32 → Int32 → Int32 → Int32 → (Nat → Int32) → Prop) (P : Int32 → Int32 → Int32 → (Nat → Int32) → (Nat → Int32) → Int32 → (Nat → Int32) → (Nat → Int32) → Prop) (l1 : Int32) (l2 : Int32) (l3 : Int32) (l4 : Int32) (l7 : Int32) (l9 : Int32) (s1 : Int32) (v_p0_taped : Int32) (v_p0_deeds : Int32) (f_p0_were : (Nat → Int32)) (f_p0_led : (Nat → Int32)) (v_p0_hasWhy : Int32) (f_p0_reasons : (Nat → Int32)) (f_p0_turned : (Nat → Int32)) : Prop :=
vp_in s1 8 ∧ (
((0 ≤ l4) → (
M_X9_read_b246 v_p0_n f_p0_tape K43 P l1 l2 l3 l4 l9 (2 : Int32) l7 v_p0_taped v_p0_deeds f_p0_were f_p0_led v_p0_hasWhy f_p0_reasons (upd f_p0_turned s1.toNatClampNeg l9))) ∧ (¬ (0 ≤ l4) → (
M_X9_read_b246 v_p0_n f_p0_tape K43 P l1 l2 l3 l9 l9 (2 : Int32) l7 v_p0_taped v_p0_deeds f_p0_were f_p0_led v_p0_hasWhy f_p0_reasons (upd f_p0_turned s1.toNatClampNeg l9))))
def M_X9_read_b135 (v_p0_n : Int32) (f_p0_tape : (Nat → Int32)) (K43 : Int32 → Int32 → Int32 → Int32 → Int32 → Int32 → Int32 → (Nat → Int32) → Prop) (P : Int32 → Int32 → Int32 → (Nat → Int32) → (Nat → Int32) → Int32 → (Nat → Int32) → (Nat → Int32) → Prop) (l1 : Int32) (l2 : Int32) (l3 : Int32) (l4 : Int32) (l5 : Int32) (l9 : Int32) (s0 : Int32) (v_p0_taped : Int32) (v_p0_deeds : Int32) (f_p0_were : (Nat → Int32)) (f_p0_led : (Nat → Int32)) (v_p0_hasWhy : Int32) (f_p0_reasons : (Nat → Int32)) (f_p0_turned : (Nat → Int32)) : Prop :=
((s0 = 0) → (
M_X9_read_b246 v_p0_n f_p0_tape K43 P l1 l2 l3 l4 l5 (2 : Int32) s0 v_p0_taped v_p0_deeds f_p0_were f_p0_led v_p0_hasWhy f_p0_reasons f_p0_turned)) ∧ (¬ (s0 = 0) → (
((0 ≤ l4) → (
M_X9_read_b165 v_p0_n f_p0_tape K43 P (l1 ||| ((1 : Int32) <<< (l9 &&& 31))) l2 l3 l4 s0 l9 l5 v_p0_taped v_p0_deeds f_p0_were f_p0_led v_p0_hasWhy f_p0_reasons f_p0_turned)) ∧ (¬ (0 ≤ l4) → (
M_X9_read_b165 v_p0_n f_p0_tape K43 P (l1 ||| ((1 : Int32) <<< (l9 &&& 31))) l2 l3 l4 s0 l9 l9 v_p0_taped v_p0_deeds f_p0_were f_p0_led v_p0_hasWhy f_p0_reasons f_p0_turned))))
def M_X9_read_l43 (v_p0_n : Int32) (f_p0_tape : (Nat → Int32)) (P : Int32 → Int32 → Int32 → (Nat → Int32) → (Nat → Int32) → Int32 → (Nat → Int32) → (Nat → Int32) → Prop) (v_p0_taped : Int32) (v_p0_deeds : Int32) (f_p0_were : (Nat → Int32)) (f_p0_led : (Nat → Int32)) (v_p0_hasWhy : Int32) (f_p0_reasons : (Nat → Int32)) (K43 : Int32 → Int32 → Int32 → Int32 → Int32 → Int32 → Int32 → (Nat → Int32) → Prop) (l1 : Int32) (l2 : Int32) (l3 : Int32) (l4 : Int32) (l5 : Int32) (l6 : Int32) (l7 : Int32) (f_p0_turned : (Nat → Int32)) : Prop :=
((l7 = 0) → (
M_X9_read_b262 v_p0_n f_p0_tape P l1 l2 l3 l6 l7 v_p0_taped v_p0_deeds f_p0_were f_p0_led v_p0_hasWhy f_p0_reasons f_p0_turned)) ∧ (¬ (l7 = 0) → (
((v_p0_taped ≤ l3) → (
M_X9_read_b262 v_p0_n f_p0_tape P l1 l2 l3 l6 l7 v_p0_taped v_p0_deeds f_p0_were f_p0_led v_p0_hasWhy f_p0_reasons f_p0_turned)) ∧ (¬ (v_p0_taped ≤ l3) → (
M_X9_byteAt l3 v_p0_taped f_p0_tape (fun (r15 : Int32) =>
((l6 = 0) → (
((r15 = (40 : Int32)) → (
M_X9_read_b246 v_p0_n f_p0_tape K43 P l1 l2 l3 (-1 : Int32) l5 (1 : Int32) (1 : Int32) v_p0_taped v_p0_deeds f_p0_were f_p0_led v_p0_hasWhy f_p0_reasons f_p0_turned)) ∧ (¬ (r15 = (40 : Int32)) → (
M_X9_read_b246 v_p0_n f_p0_tape K43 P l1 l2 l3 (-1 : Int32) l5 (1 : Int32) (0 : Int32) v_p0_taped v_p0_deeds f_p0_were f_p0_led v_p0_hasWhy f_p0_reasons f_p0_turned)))) ∧ (¬ (l6 = 0) → (
((l6 = (1 : Int32)) → (
M_X9_in ((r15 - (48 : Int32)).toInt64) (0 : Int64) ((v_p0_n - (1 : Int32)).toInt64) (fun (r24 : Int32) =>
((r24 = 0) → (
M_X9_read_b135 v_p0_n f_p0_tape K43 P l1 l2 l3 l4 l5 (r15 - (48 : Int32)) (0 : Int32) v_p0_taped v_p0_deeds f_p0_were f_p0_led v_p0_hasWhy f_p0_reasons f_p0_turned)) ∧ (¬ (r24 = 0) → (
((((l1 >>> ((r15 - (48 : Int32)) &&& 31)) &&& (1 : Int32)) = 0) → (
M_X9_read_b135 v_p0_n f_p0_tape K43 P l1 l2 l3 l4 l5 (r15 - (48 : Int32)) (1 : Int32) v_p0_taped v_p0_deeds f_p0_were f_p0_led v_p0_hasWhy f_p0_reasons f_p0_turned)) ∧ (¬ (((l1 >>> ((r15 - (48 : Int32)) &&& 31)) &&& (1 : Int32)) = 0) → (
M_X9_read_b135 v_p0_n f_p0_tape K43 P l1 l2 l3 l4 l5 (r15 - (48 : Int32)) (0 : Int32) v_p0_taped v_p0_deeds f_p0_were f_p0_led v_p0_hasWhy f_p0_reasons f_p0_turned))))))) ∧ (¬ (l6 = (1 : Int32)) → (
((r15 = (32 : Int32)) → (
M_X9_read_b211 v_p0_n f_p0_tape K43 P l1 l2 l3 l4 l5 r15 (1 : Int32) v_p0_taped v_p0_deeds f_p0_were f_p0_led v_p0_hasWhy f_p0_reasons f_p0_turned)) ∧ (¬ (r15 = (32 : Int32)) → (
((r15 = (41 : Int32)) → (
M_X9_read_b211 v_p0_n f_p0_tape K43 P l1 l2 l3 l4 l5 r15 (1 : Int32) v_p0_taped v_p0_deeds f_p0_were f_p0_led v_p0_hasWhy f_p0_reasons f_p0_turned)) ∧ (¬ (r15 = (41 : Int32)) → (
M_X9_read_b211 v_p0_n f_p0_tape K43 P l1 l2 l3 l4 l5 r15 (0 : Int32) v_p0_taped v_p0_deeds f_p0_were f_p0_led v_p0_hasWhy f_p0_reasons f_p0_turned)))))))))))))
def M_X9_read_l21 (v_p0_n : Int32) (f_p0_tape : (Nat → Int32)) (P : Int32 → Int32 → Int32 → (Nat → Int32) → (Nat → Int32) → Int32 → (Nat → Int32) → (Nat → Int32) → Prop) (l1 : Int32) (l2 : Int32) (l3 : Int32) (l4 : Int32) (l5 : Int32) (l6 : Int32) (l7 : Int32) (v_p0_taped : Int32) (v_p0_deeds : Int32) (f_p0_were : (Nat → Int32)) (f_p0_led : (Nat → Int32)) (v_p0_hasWhy : Int32) (f_p0_reasons : (Nat → Int32)) (K21 : Int32 → (Nat → Int32) → Prop) (l8 : Int32) (f_p0_turned : (Nat → Int32)) : Prop :=
(((8 : Int32) ≤ l8) → (
∃ n : Nat, LP8 (M_X9_read_l43 v_p0_n f_p0_tape P v_p0_taped v_p0_deeds f_p0_were f_p0_led v_p0_hasWhy f_p0_reasons) n l1 l2 l3 l4 l5 l6 l7 f_p0_turned)) ∧ (¬ ((8 : Int32) ≤ l8) → (
vp_in l8 8 ∧ (
K21 (l8 + 1) (upd f_p0_turned l8.toNatClampNeg l8))))
def M_X9_read (v_p0_taped : Int32) (v_p0_deeds : Int32) (f_p0_led : (Nat → Int32)) (f_p0_were : (Nat → Int32)) (v_p0_n : Int32) (f_p0_turned : (Nat → Int32)) (v_p0_hasWhy : Int32) (f_p0_reasons : (Nat → Int32)) (f_p0_tape : (Nat → Int32)) (P : Int32 → Int32 → Int32 → (Nat → Int32) → (Nat → Int32) → Int32 → (Nat → Int32) → (Nat → Int32) → Prop) : Prop :=
∃ n : Nat, LP2 (M_X9_read_l21 v_p0_n f_p0_tape P (0 : Int32) (0 : Int32) (0 : Int32) (0 : Int32) (0 : Int32) (0 : Int32) (1 : Int32) v_p0_taped v_p0_deeds f_p0_were f_p0_led v_p0_hasWhy f_p0_reasons) n (0 : Int32) f_p0_turned
def M_X9_why (x1 : Int32) (v_p0_hasWhy : Int32) (f_p0_reasons : (Nat → Int32)) (P : Int64 → Prop) : Prop :=
((v_p0_hasWhy = 0) → (
P (-9223372036854775808 : Int64))) ∧ (¬ (v_p0_hasWhy = 0) → (
M_X9_in x1.toInt64 (0 : Int64) (2 : Int64) (fun (r2 : Int32) =>
((r2 = 0) → (
P (-9223372036854775808 : Int64))) ∧ (¬ (r2 = 0) → (
vp_in x1 3 ∧ (
P ((f_p0_reasons x1.toNatClampNeg).toInt64)))))))
def M_X9_image_l23 (v_p0_n : Int32) (v_p0_way : Int32) (f_p0_led : (Nat → Int32)) (P : Int32 → Int32 → Int32 → Int32 → (Nat → Int32) → Prop) (v_p0_hasImage : Int32) (v_p0_imageN : Int32) (v_p0_imageWay : Int32) (K23 : Int32 → (Nat → Int32) → Prop) (l1 : Int32) (f_p0_imageLed : (Nat → Int32)) : Prop :=
(((8 : Int32) ≤ l1) → (
P v_p0_n v_p0_hasImage v_p0_imageN v_p0_imageWay f_p0_imageLed)) ∧ (¬ ((8 : Int32) ≤ l1) → (
vp_in l1 8 ∧ (
vp_in l1 8 ∧ (
K23 (l1 + 1) (upd f_p0_imageLed l1.toNatClampNeg (f_p0_led l1.toNatClampNeg))))))
def M_X9_image (v_p0_hasImage : Int32) (v_p0_n : Int32) (v_p0_imageN : Int32) (v_p0_way : Int32) (v_p0_imageWay : Int32) (f_p0_led : (Nat → Int32)) (f_p0_imageLed : (Nat → Int32)) (P : Int32 → Int32 → Int32 → Int32 → (Nat → Int32) → Prop) : Prop :=
∃ n : Nat, LP2 (M_X9_image_l23 v_p0_n v_p0_way f_p0_led P (1 : Int32) v_p0_n v_p0_way) n (0 : Int32) f_p0_imageLed
def M_X9_undo_l28 (v_p0_hasImage : Int32) (v_p0_imageN : Int32) (v_p0_imageWay : Int32) (f_p0_imageLed : (Nat → Int32)) (P : Int32 → Int32 → Int32 → Int32 → (Nat → Int32) → Prop) (v_p0_n : Int32) (v_p0_way : Int32) (v_p0_deeds : Int32) (K28 : Int32 → (Nat → Int32) → Prop) (l1 : Int32) (f_p0_led : (Nat → Int32)) : Prop :=
(((8 : Int32) ≤ l1) → (
P v_p0_n v_p0_n v_p0_way (0 : Int32) f_p0_led)) ∧ (¬ ((8 : Int32) ≤ l1) → (
vp_in l1 8 ∧ (
vp_in l1 8 ∧ (
K28 (l1 + 1) (upd f_p0_led l1.toNatClampNeg (f_p0_imageLed l1.toNatClampNeg))))))
def M_X9_undo (v_p0_hasImage : Int32) (v_p0_imageN : Int32) (v_p0_n : Int32) (v_p0_imageWay : Int32) (v_p0_way : Int32) (v_p0_deeds : Int32) (f_p0_imageLed : (Nat → Int32)) (f_p0_led : (Nat → Int32)) (P : Int32 → Int32 → Int32 → Int32 → (Nat → Int32) → Prop) : Prop :=
((v_p0_hasImage = 0) → (
P (-3 : Int32) v_p0_n v_p0_way v_p0_deeds f_p0_led)) ∧ (¬ (v_p0_hasImage = 0) → (
∃ n : Nat, LP2 (M_X9_undo_l28 v_p0_hasImage v_p0_imageN v_p0_imageWay f_p0_imageLed P v_p0_imageN v_p0_imageWay v_p0_deeds) n (0 : Int32) f_p0_led))
def M_X9_count (x1 : Int32) (v_p0_n : Int32) (v_p0_way : Int32) (v_p0_deeds : Int32) (v_p0_taped : Int32) (P : Int32 → Prop) : Prop :=
(x1 = (0 : Int32) → (
P v_p0_n)) ∧ (¬ (x1 = (0 : Int32)) → (
(x1 = (1 : Int32) → (
P v_p0_way)) ∧ (¬ (x1 = (1 : Int32)) → (
(x1 = (2 : Int32) → (
M_X9_pieces v_p0_way v_p0_n (fun (r2 : Int32) =>
P r2))) ∧ (¬ (x1 = (2 : Int32)) → (
(x1 = (3 : Int32) → (
P v_p0_deeds)) ∧ (¬ (x1 = (3 : Int32)) → (
(x1 = (4 : Int32) → (
P v_p0_taped)) ∧ (¬ (x1 = (4 : Int32)) → (
(x1 = (5 : Int32) → (
P (1123 : Int32))) ∧ (¬ (x1 = (5 : Int32)) → (
P (-2 : Int32)))))))))))))
