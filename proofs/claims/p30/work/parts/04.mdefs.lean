/-! The pictures of the methods, by program out of their bytecode: the rest is told as an argument. -/
def M_X0_startWith_l7 (x1 : Int32) (P : Int32 → (Nat → Int32) → Prop) (v_p0_size : Int32) (K7 : Int32 → (Nat → Int32) → Prop) (l2 : Int32) (f_p0_led : (Nat → Int32)) : Prop :=
(((8 : Int32) ≤ l2) → (
P v_p0_size f_p0_led)) ∧ (¬ ((8 : Int32) ≤ l2) → (
vp_in l2 8 ∧ (
K7 (l2 + 1) (upd f_p0_led l2.toNatClampNeg l2))))
def M_X0_startWith (x1 : Int32) (v_p0_size : Int32) (f_p0_led : (Nat → Int32)) (P : Int32 → (Nat → Int32) → Prop) : Prop :=
∃ n : Nat, LP2 (M_X0_startWith_l7 x1 P x1) n (0 : Int32) f_p0_led
def M_X0_leadAll (f_p1 : (Nat → Int32)) (f_p0_led : (Nat → Int32)) (P : (Nat → Int32) → Prop) : Prop :=
(¬ (0 : Int32) < 0 ∧ ¬ (0 : Int32) < 0 ∧ ¬ (8 : Int32) < 0 ∧ (0 : Int32).toNatClampNeg + (8 : Int32).toNatClampNeg ≤ 8 ∧ (0 : Int32).toNatClampNeg + (8 : Int32).toNatClampNeg ≤ 8) ∧ (
P (va_cpy f_p1 f_p0_led (0 : Int32).toNatClampNeg (0 : Int32).toNatClampNeg (8 : Int32).toNatClampNeg))
def M_X0_become (v_p1_size : Int32) (v_p0_size : Int32) (v_p1_way : Int32) (v_p0_way : Int32) (f_p1_led : (Nat → Int32)) (f_p0_led : (Nat → Int32)) (P : Int32 → Int32 → (Nat → Int32) → Prop) : Prop :=
M_X0_leadAll f_p1_led f_p0_led (fun (m1_0 : (Nat → Int32)) =>
P v_p1_size v_p1_way m1_0)
def M_X0_holds (x1 : Int32) (v_p0_size : Int32) (P : Int32 → Prop) : Prop :=
((x1 < 0) → (
P (0 : Int32))) ∧ (¬ (x1 < 0) → (
((v_p0_size ≤ x1) → (
P (0 : Int32))) ∧ (¬ (v_p0_size ≤ x1) → (
P (1 : Int32)))))
def M_X0_pieceNumber (v_p0_way : Int32) (v_p0_size : Int32) (P : Int32 → Prop) : Prop :=
((v_p0_way = (1 : Int32)) → (
P v_p0_size)) ∧ (¬ (v_p0_way = (1 : Int32)) → (
P (v_p0_size - (1 : Int32))))
def M_X0_figures_l4 (v_p0_size : Int32) (f_p0_led : (Nat → Int32)) (P : Int32 → Prop)  (K4 : Int32 → Int32 → Prop) (l1 : Int32) (l2 : Int32) : Prop :=
((v_p0_size ≤ l2) → (
P l1)) ∧ (¬ (v_p0_size ≤ l2) → (
vp_in l2 8 ∧ (
K4 ((l1 * (10 : Int32)) + (f_p0_led l2.toNatClampNeg)) (l2 + 1))))
def M_X0_figures (v_p0_size : Int32) (f_p0_led : (Nat → Int32)) (P : Int32 → Prop) : Prop :=
∃ n : Nat, LP2 (M_X0_figures_l4 v_p0_size f_p0_led P ) n (0 : Int32) (0 : Int32)
def M_X0_packed_l5 (f_p0_led : (Nat → Int32)) (P : Int32 → Prop)  (K5 : Int32 → Int32 → Prop) (l1 : Int32) (l2 : Int32) : Prop :=
((l2 < 0) → (
P l1)) ∧ (¬ (l2 < 0) → (
vp_in l2 8 ∧ (
∀ y3 : Int32, y3 = ((l1 <<< ((3 : Int32) &&& 31)) ||| (f_p0_led l2.toNatClampNeg)) →
K5 y3 (l2 + (-1)))))
def M_X0_packed (f_p0_led : (Nat → Int32)) (P : Int32 → Prop) : Prop :=
∃ n : Nat, LP2 (M_X0_packed_l5 f_p0_led P ) n (0 : Int32) (7 : Int32)
def M_X0_unpack_l2 (x1 : Int32) (P : (Nat → Int32) → Prop)  (K2 : Int32 → (Nat → Int32) → Prop) (l2 : Int32) (f_p0_led : (Nat → Int32)) : Prop :=
(((8 : Int32) ≤ l2) → (
P f_p0_led)) ∧ (¬ ((8 : Int32) ≤ l2) → (
vp_in l2 8 ∧ (
K2 (l2 + 1) (upd f_p0_led l2.toNatClampNeg ((x1 >>> ((l2 * (3 : Int32)) &&& 31)) &&& (7 : Int32))))))
def M_X0_unpack (x1 : Int32) (f_p0_led : (Nat → Int32)) (P : (Nat → Int32) → Prop) : Prop :=
∃ n : Nat, LP2 (M_X0_unpack_l2 x1 P ) n (0 : Int32) f_p0_led
def M_X0_ringBits_l30 (x1 : Int32) (v_p0_size : Int32) (f_p0_led : (Nat → Int32)) (P : Int32 → Prop)  (K30 : Int32 → Int32 → Int32 → Prop) (l2 : Int32) (l3 : Int32) (l4 : Int32) : Prop :=
((v_p0_size ≤ l4) → (
P l3)) ∧ (¬ (v_p0_size ≤ l4) → (
vp_in l2 8 ∧ (
K30 (f_p0_led l2.toNatClampNeg) (l3 ||| ((1 : Int32) <<< (l2 &&& 31))) (l4 + 1))))
def M_X0_ringBits_l4 (x1 : Int32) (v_p0_size : Int32) (f_p0_led : (Nat → Int32)) (P : Int32 → Prop)  (K4 : Int32 → Int32 → Prop) (l2 : Int32) (l3 : Int32) : Prop :=
((v_p0_size ≤ l3) → (
∃ n : Nat, LP3 (M_X0_ringBits_l30 x1 v_p0_size f_p0_led P ) n l2 (0 : Int32) (0 : Int32))) ∧ (¬ (v_p0_size ≤ l3) → (
vp_in l2 8 ∧ (
K4 (f_p0_led l2.toNatClampNeg) (l3 + 1))))
def M_X0_ringBits (x1 : Int32) (v_p0_size : Int32) (f_p0_led : (Nat → Int32)) (P : Int32 → Prop) : Prop :=
∃ n : Nat, LP2 (M_X0_ringBits_l4 x1 v_p0_size f_p0_led P ) n x1 (0 : Int32)
def M_X0_tailOf_l11 (x1 : Int32) (v_p0_size : Int32) (f_p0_led : (Nat → Int32)) (P : Int32 → Prop) (l2 : Int32) (K11 : Int32 → Int32 → Prop) (l3 : Int32) (l4 : Int32) : Prop :=
((v_p0_size ≤ l4) → (
P l4)) ∧ (¬ (v_p0_size ≤ l4) → (
((((l2 >>> (l3 &&& 31)) &&& (1 : Int32)) = 0) → (
vp_in l3 8 ∧ (
K11 (f_p0_led l3.toNatClampNeg) (l4 + 1)))) ∧ (¬ (((l2 >>> (l3 &&& 31)) &&& (1 : Int32)) = 0) → (
P l4))))
def M_X0_tailOf (x1 : Int32) (v_p0_size : Int32) (f_p0_led : (Nat → Int32)) (P : Int32 → Prop) : Prop :=
M_X0_ringBits x1 v_p0_size f_p0_led (fun (r1 : Int32) =>
∃ n : Nat, LP2 (M_X0_tailOf_l11 x1 v_p0_size f_p0_led P r1) n x1 (0 : Int32))
def M_X0_isLeastOfRing (x1 : Int32) (v_p0_size : Int32) (f_p0_led : (Nat → Int32)) (P : Int32 → Prop) : Prop :=
M_X0_ringBits x1 v_p0_size f_p0_led (fun (r1 : Int32) =>
((((r1 >>> (x1 &&& 31)) &&& (1 : Int32)) = (1 : Int32)) → (
(((r1 &&& (((1 : Int32) <<< (x1 &&& 31)) - (1 : Int32))) = 0) → (
P (1 : Int32))) ∧ (¬ ((r1 &&& (((1 : Int32) <<< (x1 &&& 31)) - (1 : Int32))) = 0) → (
P (0 : Int32))))) ∧ (¬ (((r1 >>> (x1 &&& 31)) &&& (1 : Int32)) = (1 : Int32)) → (
P (0 : Int32))))
def M_X0_leastOfRing_l4 (x1 : Int32) (v_p0_size : Int32) (f_p0_led : (Nat → Int32)) (P : Int32 → Prop)  (K4 : Int32 → Int32 → Prop) (l2 : Int32) (l3 : Int32) : Prop :=
((v_p0_size ≤ l3) → (
P (-1 : Int32))) ∧ (¬ (v_p0_size ≤ l3) → (
M_X0_isLeastOfRing l3 v_p0_size f_p0_led (fun (r2 : Int32) =>
((r2 = 0) → (
K4 l2 (l3 + 1))) ∧ (¬ (r2 = 0) → (
((l2 = x1) → (
P l3)) ∧ (¬ (l2 = x1) → (
K4 (l2 + 1) (l3 + 1))))))))
def M_X0_leastOfRing (x1 : Int32) (v_p0_size : Int32) (f_p0_led : (Nat → Int32)) (P : Int32 → Prop) : Prop :=
∃ n : Nat, LP2 (M_X0_leastOfRing_l4 x1 v_p0_size f_p0_led P ) n (0 : Int32) (0 : Int32)
def M_X0_ringNumber_l4 (v_p0_size : Int32) (f_p0_led : (Nat → Int32)) (P : Int32 → Prop)  (K4 : Int32 → Int32 → Prop) (l1 : Int32) (l2 : Int32) : Prop :=
((v_p0_size ≤ l2) → (
P l1)) ∧ (¬ (v_p0_size ≤ l2) → (
M_X0_isLeastOfRing l2 v_p0_size f_p0_led (fun (r2 : Int32) =>
((r2 = 0) → (
K4 l1 (l2 + 1))) ∧ (¬ (r2 = 0) → (
K4 (l1 + 1) (l2 + 1))))))
def M_X0_ringNumber (v_p0_size : Int32) (f_p0_led : (Nat → Int32)) (P : Int32 → Prop) : Prop :=
∃ n : Nat, LP2 (M_X0_ringNumber_l4 v_p0_size f_p0_led P ) n (0 : Int32) (0 : Int32)
def M_J6_bitCount_0f7a4 (x0 : Int32) (P : Int32 → Prop) : Prop :=
∀ y1 : Int32, y1 = (x0 - ((x0.toUInt32 >>> ((1 : Int32).toUInt32 &&& Int32.toUInt32 31)).toInt32 &&& (1431655765 : Int32))) →
∀ y2 : Int32, y2 = ((y1 &&& (858993459 : Int32)) + ((y1.toUInt32 >>> ((2 : Int32).toUInt32 &&& Int32.toUInt32 31)).toInt32 &&& (858993459 : Int32))) →
∀ y3 : Int32, y3 = ((y2 + (y2.toUInt32 >>> ((4 : Int32).toUInt32 &&& Int32.toUInt32 31)).toInt32) &&& (252645135 : Int32)) →
∀ y4 : Int32, y4 = (y3 + (y3.toUInt32 >>> ((8 : Int32).toUInt32 &&& Int32.toUInt32 31)).toInt32) →
∀ y5 : Int32, y5 = (y4 + (y4.toUInt32 >>> ((16 : Int32).toUInt32 &&& Int32.toUInt32 31)).toInt32) →
P (y5 &&& (63 : Int32))
def M_X0_pointsOnRings_l4 (v_p0_size : Int32) (f_p0_led : (Nat → Int32)) (P : Int32 → Prop)  (K4 : Int32 → Int32 → Prop) (l1 : Int32) (l2 : Int32) : Prop :=
((v_p0_size ≤ l2) → (
M_J6_bitCount_0f7a4 l1 (fun (r2 : Int32) =>
P r2))) ∧ (¬ (v_p0_size ≤ l2) → (
M_X0_ringBits l2 v_p0_size f_p0_led (fun (r3 : Int32) =>
K4 (l1 ||| r3) (l2 + 1))))
def M_X0_pointsOnRings (v_p0_size : Int32) (f_p0_led : (Nat → Int32)) (P : Int32 → Prop) : Prop :=
∃ n : Nat, LP2 (M_X0_pointsOnRings_l4 v_p0_size f_p0_led P ) n (0 : Int32) (0 : Int32)
def M_X0_greatestRing_l4 (v_p0_size : Int32) (f_p0_led : (Nat → Int32)) (P : Int32 → Prop)  (K4 : Int32 → Int32 → Prop) (l1 : Int32) (l2 : Int32) : Prop :=
((v_p0_size ≤ l2) → (
P l1)) ∧ (¬ (v_p0_size ≤ l2) → (
M_X0_ringBits l2 v_p0_size f_p0_led (fun (r2 : Int32) =>
M_J6_bitCount_0f7a4 r2 (fun (r3 : Int32) =>
K4 (if l1 < r3 then r3 else l1) (l2 + 1)))))
def M_X0_greatestRing (v_p0_size : Int32) (f_p0_led : (Nat → Int32)) (P : Int32 → Prop) : Prop :=
∃ n : Nat, LP2 (M_X0_greatestRing_l4 v_p0_size f_p0_led P ) n (0 : Int32) (0 : Int32)
def M_X0_mirror_l2 (v_p0_size : Int32) (f_p0_led : (Nat → Int32)) (P : (Nat → Int32) → Prop)  (K2 : Int32 → (Nat → Int32) → Prop) (l1 : Int32) (f_p0_turnedLed : (Nat → Int32)) : Prop :=
((v_p0_size ≤ l1) → (
P f_p0_turnedLed)) ∧ (¬ (v_p0_size ≤ l1) → (
vp_in l1 8 ∧ (
vp_in ((v_p0_size - (1 : Int32)) - l1) 8 ∧ (
K2 (l1 + 1) (upd f_p0_turnedLed ((v_p0_size - (1 : Int32)) - l1).toNatClampNeg ((v_p0_size - (1 : Int32)) - (f_p0_led l1.toNatClampNeg)))))))
def M_X0_mirror (v_p0_size : Int32) (f_p0_led : (Nat → Int32)) (f_p0_turnedLed : (Nat → Int32)) (P : (Nat → Int32) → Prop) : Prop :=
∃ n : Nat, LP2 (M_X0_mirror_l2 v_p0_size f_p0_led P ) n (0 : Int32) f_p0_turnedLed
def M_X0_leadTwice_l2 (v_p0_size : Int32) (f_p0_led : (Nat → Int32)) (P : (Nat → Int32) → Prop)  (K2 : Int32 → (Nat → Int32) → Prop) (l1 : Int32) (f_p0_turnedLed : (Nat → Int32)) : Prop :=
((v_p0_size ≤ l1) → (
P f_p0_turnedLed)) ∧ (¬ (v_p0_size ≤ l1) → (
vp_in l1 8 ∧ (
vp_in (f_p0_led l1.toNatClampNeg) 8 ∧ (
vp_in l1 8 ∧ (
K2 (l1 + 1) (upd f_p0_turnedLed l1.toNatClampNeg (f_p0_led (f_p0_led l1.toNatClampNeg).toNatClampNeg)))))))
def M_X0_leadTwice (v_p0_size : Int32) (f_p0_led : (Nat → Int32)) (f_p0_turnedLed : (Nat → Int32)) (P : (Nat → Int32) → Prop) : Prop :=
∃ n : Nat, LP2 (M_X0_leadTwice_l2 v_p0_size f_p0_led P ) n (0 : Int32) f_p0_turnedLed
def M_X0_round (x1 : Int32) (v_p0_size : Int32) (P : Int32 → Prop) : Prop :=
((v_p0_size ≤ 0) → (
P (0 : Int32))) ∧ (¬ (v_p0_size ≤ 0) → (
¬ v_p0_size = 0 ∧ (
P (x1 - x1 / v_p0_size * v_p0_size))))
def M_X0_move_l2 (v_p0_size : Int32) (f_p0_led : (Nat → Int32)) (P : (Nat → Int32) → Prop)  (K2 : Int32 → (Nat → Int32) → Prop) (l1 : Int32) (f_p0_turnedLed : (Nat → Int32)) : Prop :=
((v_p0_size ≤ l1) → (
P f_p0_turnedLed)) ∧ (¬ (v_p0_size ≤ l1) → (
M_X0_round (l1 + (1 : Int32)) v_p0_size (fun (r2 : Int32) =>
vp_in l1 8 ∧ (
M_X0_round ((f_p0_led l1.toNatClampNeg) + (1 : Int32)) v_p0_size (fun (r4 : Int32) =>
vp_in r2 8 ∧ (
K2 (l1 + 1) (upd f_p0_turnedLed r2.toNatClampNeg r4)))))))
def M_X0_move (v_p0_size : Int32) (f_p0_led : (Nat → Int32)) (f_p0_turnedLed : (Nat → Int32)) (P : (Nat → Int32) → Prop) : Prop :=
∃ n : Nat, LP2 (M_X0_move_l2 v_p0_size f_p0_led P ) n (0 : Int32) f_p0_turnedLed
def M_X0_turnRound_l4 (v_p0_size : Int32) (f_p0_led : (Nat → Int32)) (P : Int32 → (Nat → Int32) → Prop)  (K4 : Int32 → Int32 → (Nat → Int32) → Prop) (l1 : Int32) (l2 : Int32) (f_p0_turnedLed : (Nat → Int32)) : Prop :=
((v_p0_size ≤ l2) → (
M_J6_bitCount_0f7a4 l1 (fun (r2 : Int32) =>
((r2 = v_p0_size) → (
P (1 : Int32) f_p0_turnedLed)) ∧ (¬ (r2 = v_p0_size) → (
P (0 : Int32) f_p0_turnedLed))))) ∧ (¬ (v_p0_size ≤ l2) → (
vp_in l2 8 ∧ (
∀ y5 : Int32, y5 = (l1 ||| ((1 : Int32) <<< ((f_p0_led l2.toNatClampNeg) &&& 31))) →
vp_in l2 8 ∧ (
vp_in (f_p0_led l2.toNatClampNeg) 8 ∧ (
K4 y5 (l2 + 1) (upd f_p0_turnedLed (f_p0_led l2.toNatClampNeg).toNatClampNeg l2))))))
def M_X0_turnRound (v_p0_size : Int32) (f_p0_led : (Nat → Int32)) (f_p0_turnedLed : (Nat → Int32)) (P : Int32 → (Nat → Int32) → Prop) : Prop :=
∃ n : Nat, LP3 (M_X0_turnRound_l4 v_p0_size f_p0_led P ) n (0 : Int32) (0 : Int32) f_p0_turnedLed
def M_X0_leadFurther_l2 (x1 : Int32) (v_p0_size : Int32) (f_p0_led : (Nat → Int32)) (P : (Nat → Int32) → Prop)  (K2 : Int32 → (Nat → Int32) → Prop) (l2 : Int32) (f_p0_turnedLed : (Nat → Int32)) : Prop :=
((v_p0_size ≤ l2) → (
P f_p0_turnedLed)) ∧ (¬ (v_p0_size ≤ l2) → (
vp_in l2 8 ∧ (
M_X0_round ((f_p0_led l2.toNatClampNeg) + x1) v_p0_size (fun (r3 : Int32) =>
vp_in l2 8 ∧ (
K2 (l2 + 1) (upd f_p0_turnedLed l2.toNatClampNeg r3))))))
def M_X0_leadFurther (x1 : Int32) (v_p0_size : Int32) (f_p0_led : (Nat → Int32)) (f_p0_turnedLed : (Nat → Int32)) (P : (Nat → Int32) → Prop) : Prop :=
∃ n : Nat, LP2 (M_X0_leadFurther_l2 x1 v_p0_size f_p0_led P ) n (0 : Int32) f_p0_turnedLed
def M_X0_turned_b76 (x1 : Int32) (x2 : Int32) (v_p0_size : Int32) (P : Int32 → (Nat → Int32) → (Nat → Int32) → Prop) (f_p0_turnedLed : (Nat → Int32)) (f_p0_led : (Nat → Int32)) : Prop :=
(¬ (0 : Int32) < 0 ∧ ¬ (0 : Int32) < 0 ∧ ¬ v_p0_size < 0 ∧ (0 : Int32).toNatClampNeg + v_p0_size.toNatClampNeg ≤ 8 ∧ (0 : Int32).toNatClampNeg + v_p0_size.toNatClampNeg ≤ 8) ∧ (
P (1 : Int32) f_p0_turnedLed (va_cpy f_p0_turnedLed f_p0_led (0 : Int32).toNatClampNeg (0 : Int32).toNatClampNeg v_p0_size.toNatClampNeg))
def M_X0_turned (x1 : Int32) (x2 : Int32) (v_p0_size : Int32) (f_p0_led : (Nat → Int32)) (f_p0_turnedLed : (Nat → Int32)) (P : Int32 → (Nat → Int32) → (Nat → Int32) → Prop) : Prop :=
(x1 = (0 : Int32) → (
M_X0_mirror v_p0_size f_p0_led f_p0_turnedLed (fun (m3_0 : (Nat → Int32)) =>
M_X0_turned_b76 x1 x2 v_p0_size P m3_0 f_p0_led))) ∧ (¬ (x1 = (0 : Int32)) → (
(x1 = (1 : Int32) → (
M_X0_leadTwice v_p0_size f_p0_led f_p0_turnedLed (fun (m4_0 : (Nat → Int32)) =>
M_X0_turned_b76 x1 x2 v_p0_size P m4_0 f_p0_led))) ∧ (¬ (x1 = (1 : Int32)) → (
(x1 = (2 : Int32) → (
M_X0_move v_p0_size f_p0_led f_p0_turnedLed (fun (m5_0 : (Nat → Int32)) =>
M_X0_turned_b76 x1 x2 v_p0_size P m5_0 f_p0_led))) ∧ (¬ (x1 = (2 : Int32)) → (
(x1 = (3 : Int32) → (
M_X0_turnRound v_p0_size f_p0_led f_p0_turnedLed (fun (r6 : Int32) (m6_0 : (Nat → Int32)) =>
((r6 = 0) → (
P (0 : Int32) m6_0 f_p0_led)) ∧ (¬ (r6 = 0) → (
M_X0_turned_b76 x1 x2 v_p0_size P m6_0 f_p0_led))))) ∧ (¬ (x1 = (3 : Int32)) → (
(x1 = (4 : Int32) → (
M_X0_leadFurther x2 v_p0_size f_p0_led f_p0_turnedLed (fun (m8_0 : (Nat → Int32)) =>
M_X0_turned_b76 x1 x2 v_p0_size P m8_0 f_p0_led))) ∧ (¬ (x1 = (4 : Int32)) → (
P (0 : Int32) f_p0_turnedLed f_p0_led))))))))))
def M_X1_forget (v_p0_amount : Int32) (P : Int32 → Prop) : Prop :=
P (0 : Int32)
def M_X1_forgetOldest_l2 (P : Int32 → (Nat → Int32) → Prop) (v_p0_amount : Int32) (K2 : Int32 → (Nat → Int32) → Prop) (l1 : Int32) (f_p0_maps : (Nat → Int32)) : Prop :=
(((10 : Int32) ≤ l1) → (
P (v_p0_amount - (1 : Int32)) f_p0_maps)) ∧ (¬ ((10 : Int32) ≤ l1) → (
vp_in l1 10 ∧ (
vp_in (l1 - (1 : Int32)) 10 ∧ (
K2 (l1 + 1) (upd f_p0_maps (l1 - (1 : Int32)).toNatClampNeg (f_p0_maps l1.toNatClampNeg))))))
def M_X1_forgetOldest (v_p0_amount : Int32) (f_p0_maps : (Nat → Int32)) (P : Int32 → (Nat → Int32) → Prop) : Prop :=
∃ n : Nat, LP2 (M_X1_forgetOldest_l2 P v_p0_amount) n (1 : Int32) f_p0_maps
def M_X1_keep (x1 : Int32) (v_p0_amount : Int32) (f_p0_maps : (Nat → Int32)) (P : (Nat → Int32) → Int32 → Prop) : Prop :=
((v_p0_amount = (10 : Int32)) → (
M_X1_forgetOldest v_p0_amount f_p0_maps (fun (m3_0 : Int32) (m3_1 : (Nat → Int32)) =>
vp_in m3_0 10 ∧ (
P (upd m3_1 m3_0.toNatClampNeg x1) (m3_0 + (1 : Int32)))))) ∧ (¬ (v_p0_amount = (10 : Int32)) → (
vp_in v_p0_amount 10 ∧ (
P (upd f_p0_maps v_p0_amount.toNatClampNeg x1) (v_p0_amount + (1 : Int32)))))
def M_X1_takeLatest (v_p0_amount : Int32) (f_p0_maps : (Nat → Int32)) (P : Int32 → Int32 → Prop) : Prop :=
((v_p0_amount ≤ 0) → (
vp_in v_p0_amount 10 ∧ (
P (f_p0_maps v_p0_amount.toNatClampNeg) v_p0_amount))) ∧ (¬ (v_p0_amount ≤ 0) → (
vp_in (v_p0_amount - (1 : Int32)) 10 ∧ (
P (f_p0_maps (v_p0_amount - (1 : Int32)).toNatClampNeg) (v_p0_amount - (1 : Int32)))))
def M_X2_ofRing (x0 : Int32) (P : Int32 → Prop) : Prop :=
((x0 = (1 : Int32)) → (
P (3 : Int32))) ∧ (¬ (x0 = (1 : Int32)) → (
((x0 = (2 : Int32)) → (
P (4 : Int32))) ∧ (¬ (x0 = (2 : Int32)) → (
(((x0 - x0 / (2 : Int32) * (2 : Int32)) = 0) → (
P (1 : Int32))) ∧ (¬ ((x0 - x0 / (2 : Int32) * (2 : Int32)) = 0) → (
P (2 : Int32)))))))
def M_X2_isUnder_l4 (x0 : Int32) (x1 : Int32) (P : Int32 → Prop)  (K4 : Int32 → Int32 → Prop) (l2 : Int32) (l3 : Int32) : Prop :=
(((4 : Int32) < l3) → (
P (0 : Int32))) ∧ (¬ ((4 : Int32) < l3) → (
((l2 < 0) → (
P (0 : Int32))) ∧ (¬ (l2 < 0) → (
(((4 : Int32) < l2) → (
P (0 : Int32))) ∧ (¬ ((4 : Int32) < l2) → (
((l2 = x1) → (
P (1 : Int32))) ∧ (¬ (l2 = x1) → (
vp_in l2 5 ∧ (
K4 (kU l2.toNatClampNeg) (l3 + 1))))))))))
def M_X2_isUnder (x0 : Int32) (x1 : Int32) (P : Int32 → Prop) : Prop :=
∃ n : Nat, LP2 (M_X2_isUnder_l4 x0 x1 P ) n x0 (0 : Int32)
def M_X6_put (x1 : Int32) (v_p0_length : Int32) (f_p0_bytes : (Nat → Int32)) (P : (Nat → Int32) → Int32 → Prop) : Prop :=
(((60 : Int32) ≤ v_p0_length) → (
P f_p0_bytes v_p0_length)) ∧ (¬ ((60 : Int32) ≤ v_p0_length) → (
vp_in v_p0_length 60 ∧ (
P (upd f_p0_bytes v_p0_length.toNatClampNeg (vp_nar .byte x1.toInt8.toInt32)) (v_p0_length + (1 : Int32)))))
def M_X7_begin_l22 (x1 : Int32) (P : Int32 → Int32 → Int32 → Int32 → (Nat → Int32) → Prop) (v_p0_stage : Int32) (v_p0_size : Int32) (v_p0_told : Int32) (v_p0_ringsWhole : Int32) (K22 : Int32 → (Nat → Int32) → Prop) (l2 : Int32) (f_p0_led : (Nat → Int32)) : Prop :=
(((8 : Int32) ≤ l2) → (
P v_p0_stage v_p0_size v_p0_told v_p0_ringsWhole f_p0_led)) ∧ (¬ ((8 : Int32) ≤ l2) → (
vp_in l2 8 ∧ (
K22 (l2 + 1) (upd f_p0_led l2.toNatClampNeg l2))))
def M_X7_begin (x1 : Int32) (v_p0_stage : Int32) (v_p0_size : Int32) (v_p0_told : Int32) (v_p0_ringsWhole : Int32) (f_p0_led : (Nat → Int32)) (P : Int32 → Int32 → Int32 → Int32 → (Nat → Int32) → Prop) : Prop :=
∃ n : Nat, LP2 (M_X7_begin_l22 x1 P (0 : Int32) x1 (0 : Int32) (0 : Int32)) n (0 : Int32) f_p0_led
def M_X7_tellPoint_b51 (x1 : Int32) (v_p0_size : Int32) (P : Int32 → (Nat → Int32) → Int32 → Int32 → Int32 → Int32 → Prop) (f_p0_led : (Nat → Int32)) (v_p0_told : Int32) (v_p0_latest : Int32) (v_p0_stage : Int32) (v_p0_first : Int32) : Prop :=
P (1 : Int32) f_p0_led (v_p0_told ||| ((1 : Int32) <<< (x1 &&& 31))) x1 (2 : Int32) v_p0_first
def M_X7_tellPoint (x1 : Int32) (v_p0_size : Int32) (v_p0_told : Int32) (v_p0_first : Int32) (v_p0_latest : Int32) (f_p0_led : (Nat → Int32)) (v_p0_stage : Int32) (P : Int32 → (Nat → Int32) → Int32 → Int32 → Int32 → Int32 → Prop) : Prop :=
((x1 < 0) → (
P (0 : Int32) f_p0_led v_p0_told v_p0_latest v_p0_stage v_p0_first)) ∧ (¬ (x1 < 0) → (
((v_p0_size ≤ x1) → (
P (0 : Int32) f_p0_led v_p0_told v_p0_latest v_p0_stage v_p0_first)) ∧ (¬ (v_p0_size ≤ x1) → (
((((v_p0_told >>> (x1 &&& 31)) &&& (1 : Int32)) = (1 : Int32)) → (
P (0 : Int32) f_p0_led v_p0_told v_p0_latest v_p0_stage v_p0_first)) ∧ (¬ (((v_p0_told >>> (x1 &&& 31)) &&& (1 : Int32)) = (1 : Int32)) → (
((0 ≤ v_p0_first) → (
vp_in v_p0_latest 8 ∧ (
M_X7_tellPoint_b51 x1 v_p0_size P (upd f_p0_led v_p0_latest.toNatClampNeg x1) v_p0_told v_p0_latest v_p0_stage v_p0_first))) ∧ (¬ (0 ≤ v_p0_first) → (
M_X7_tellPoint_b51 x1 v_p0_size P f_p0_led v_p0_told v_p0_latest v_p0_stage x1))))))))
def M_X7_goOnBehindPoint (x1 : Int32) (v_p0_latest : Int32) (v_p0_first : Int32) (f_p0_led : (Nat → Int32)) (v_p0_ringsWhole : Int32) (v_p0_stage : Int32) (P : Int32 → (Nat → Int32) → Int32 → Int32 → Prop) : Prop :=
((x1 = (32 : Int32)) → (
P (1 : Int32) f_p0_led v_p0_ringsWhole (1 : Int32))) ∧ (¬ (x1 = (32 : Int32)) → (
((x1 = (41 : Int32)) → (
vp_in v_p0_latest 8 ∧ (
P (1 : Int32) (upd f_p0_led v_p0_latest.toNatClampNeg v_p0_first) (v_p0_ringsWhole + (1 : Int32)) (3 : Int32)))) ∧ (¬ (x1 = (41 : Int32)) → (
P (0 : Int32) f_p0_led v_p0_ringsWhole v_p0_stage))))
def M_X7_openRing (x1 : Int32) (v_p0_first : Int32) (v_p0_stage : Int32) (P : Int32 → Int32 → Int32 → Prop) : Prop :=
((x1 = (40 : Int32)) → (
P (1 : Int32) (-1 : Int32) (1 : Int32))) ∧ (¬ (x1 = (40 : Int32)) → (
P (0 : Int32) v_p0_first v_p0_stage))
def M_X7_canTake (x1 : Int32) (v_p0_stage : Int32) (v_p0_size : Int32) (v_p0_told : Int32) (v_p0_first : Int32) (v_p0_latest : Int32) (f_p0_led : (Nat → Int32)) (v_p0_ringsWhole : Int32) (P : Int32 → (Nat → Int32) → Int32 → Int32 → Int32 → Int32 → Int32 → Prop) : Prop :=
(v_p0_stage = (1 : Int32) → (
M_X7_tellPoint (x1 - (48 : Int32)) v_p0_size v_p0_told v_p0_first v_p0_latest f_p0_led v_p0_stage (fun (r2 : Int32) (m2_0 : (Nat → Int32)) (m2_1 : Int32) (m2_2 : Int32) (m2_3 : Int32) (m2_4 : Int32) =>
narrow .boolean (.int r2) = .int r2 ∧ (P r2 m2_0 m2_1 m2_2 m2_3 m2_4 v_p0_ringsWhole)))) ∧ (¬ (v_p0_stage = (1 : Int32)) → (
(v_p0_stage = (2 : Int32) → (
M_X7_goOnBehindPoint x1 v_p0_latest v_p0_first f_p0_led v_p0_ringsWhole v_p0_stage (fun (r3 : Int32) (m3_0 : (Nat → Int32)) (m3_1 : Int32) (m3_2 : Int32) =>
narrow .boolean (.int r3) = .int r3 ∧ (P r3 m3_0 v_p0_told v_p0_latest m3_2 v_p0_first m3_1)))) ∧ (¬ (v_p0_stage = (2 : Int32)) → (
M_X7_openRing x1 v_p0_first v_p0_stage (fun (r4 : Int32) (m4_0 : Int32) (m4_1 : Int32) =>
narrow .boolean (.int r4) = .int r4 ∧ (P r4 f_p0_led v_p0_told v_p0_latest m4_1 m4_0 v_p0_ringsWhole))))))
def M_X7_faultIn_l7 (x2 : Int32) (v_p1_length : Int32) (f_p1_bytes : (Nat → Int32)) (P : Int32 → Int32 → Int32 → Int32 → Int32 → (Nat → Int32) → Int32 → Int32 → Prop) (v_p0_size : Int32) (K7 : Int32 → Int32 → Int32 → Int32 → (Nat → Int32) → Int32 → Int32 → Prop) (l3 : Int32) (v_p0_stage : Int32) (v_p0_told : Int32) (v_p0_ringsWhole : Int32) (f_p0_led : (Nat → Int32)) (v_p0_latest : Int32) (v_p0_first : Int32) : Prop :=
((v_p1_length ≤ l3) → (
((v_p0_stage = (3 : Int32)) → (
P (-1 : Int32) v_p0_stage v_p0_size v_p0_told v_p0_ringsWhole f_p0_led v_p0_latest v_p0_first)) ∧ (¬ (v_p0_stage = (3 : Int32)) → (
P v_p1_length v_p0_stage v_p0_size v_p0_told v_p0_ringsWhole f_p0_led v_p0_latest v_p0_first)))) ∧ (¬ (v_p1_length ≤ l3) → (
vp_in l3 60 ∧ (
M_X7_canTake (f_p1_bytes l3.toNatClampNeg) v_p0_stage v_p0_size v_p0_told v_p0_first v_p0_latest f_p0_led v_p0_ringsWhole (fun (r5 : Int32) (m5_0 : (Nat → Int32)) (m5_1 : Int32) (m5_2 : Int32) (m5_3 : Int32) (m5_4 : Int32) (m5_5 : Int32) =>
((r5 = 0) → (
P l3 m5_3 v_p0_size m5_1 m5_5 m5_0 m5_2 m5_4)) ∧ (¬ (r5 = 0) → (
K7 (l3 + 1) m5_3 m5_1 m5_5 m5_0 m5_2 m5_4))))))
def M_X7_faultIn (x2 : Int32) (v_p0_stage : Int32) (v_p0_size : Int32) (v_p0_told : Int32) (v_p0_ringsWhole : Int32) (f_p0_led : (Nat → Int32)) (v_p1_length : Int32) (f_p1_bytes : (Nat → Int32)) (v_p0_first : Int32) (v_p0_latest : Int32) (P : Int32 → Int32 → Int32 → Int32 → Int32 → (Nat → Int32) → Int32 → Int32 → Prop) : Prop :=
M_X7_begin x2 v_p0_stage v_p0_size v_p0_told v_p0_ringsWhole f_p0_led (fun (m1_0 : Int32) (m1_1 : Int32) (m1_2 : Int32) (m1_3 : Int32) (m1_4 : (Nat → Int32)) =>
∃ n : Nat, LP7 (M_X7_faultIn_l7 x2 v_p1_length f_p1_bytes P m1_1) n (0 : Int32) m1_0 m1_2 m1_3 m1_4 v_p0_latest v_p0_first)
def M_X7_keepReasons (x1 : Int32) (v_p0_hasReasons : Int32) (v_p0_ringsWhole : Int32) (f_p0_reasons : (Nat → Int64)) (v_p0_told : Int32) (P : Int32 → (Nat → Int64) → Prop) : Prop :=
vp_in (0 : Int32) 3 ∧ (
M_J6_bitCount_0f7a4 v_p0_told (fun (r2 : Int32) =>
vp_in (1 : Int32) 3 ∧ (
vp_in (2 : Int32) 3 ∧ (
P (1 : Int32) (vp_updL (vp_updL (vp_updL f_p0_reasons (0 : Int32).toNatClampNeg v_p0_ringsWhole.toInt64) (1 : Int32).toNatClampNeg r2.toInt64) (2 : Int32).toNatClampNeg x1.toInt64)))))
def M_X8_points (x1 : Int32) (v_p0_chart_size : Int32) (f_p0_chart_led : (Nat → Int32)) (v_p0_deeds_amount : Int32) (P : Int32 → Int32 → (Nat → Int32) → Int32 → Prop) : Prop :=
((x1 < (2 : Int32)) → (
P (-2 : Int32) v_p0_chart_size f_p0_chart_led v_p0_deeds_amount)) ∧ (¬ (x1 < (2 : Int32)) → (
((x1 ≤ (8 : Int32)) → (
M_X0_startWith x1 v_p0_chart_size f_p0_chart_led (fun (m3_0 : Int32) (m3_1 : (Nat → Int32)) =>
M_X1_forget v_p0_deeds_amount (fun (m4_0 : Int32) =>
P v_p0_chart_size m3_0 m3_1 m4_0)))) ∧ (¬ (x1 ≤ (8 : Int32)) → (
P (-2 : Int32) v_p0_chart_size f_p0_chart_led v_p0_deeds_amount))))
def M_X8_way_b12 (x1 : Int32) (P : Int32 → Int32 → Int32 → Prop) (v_p0_chart_way : Int32) (v_p0_deeds_amount : Int32) : Prop :=
M_X1_forget v_p0_deeds_amount (fun (m1_0 : Int32) =>
P v_p0_chart_way x1 m1_0)
def M_X8_way (x1 : Int32) (v_p0_chart_way : Int32) (v_p0_deeds_amount : Int32) (P : Int32 → Int32 → Int32 → Prop) : Prop :=
((x1 = 0) → (
M_X8_way_b12 x1 P v_p0_chart_way v_p0_deeds_amount)) ∧ (¬ (x1 = 0) → (
((x1 = (1 : Int32)) → (
M_X8_way_b12 x1 P v_p0_chart_way v_p0_deeds_amount)) ∧ (¬ (x1 = (1 : Int32)) → (
P (-2 : Int32) v_p0_chart_way v_p0_deeds_amount))))
def M_X8_lead (x1 : Int32) (x2 : Int32) (v_p0_chart_size : Int32) (f_p0_chart_led : (Nat → Int32)) (v_p0_deeds_amount : Int32) (f_p0_deeds_maps : (Nat → Int32)) (P : Int32 → (Nat → Int32) → Int32 → (Nat → Int32) → Prop) : Prop :=
M_X0_holds x1 v_p0_chart_size (fun (r1 : Int32) =>
((r1 = 0) → (
P (-2 : Int32) f_p0_deeds_maps v_p0_deeds_amount f_p0_chart_led)) ∧ (¬ (r1 = 0) → (
M_X0_holds x2 v_p0_chart_size (fun (r3 : Int32) =>
((r3 = 0) → (
P (-2 : Int32) f_p0_deeds_maps v_p0_deeds_amount f_p0_chart_led)) ∧ (¬ (r3 = 0) → (
M_X0_packed f_p0_chart_led (fun (r5 : Int32) =>
M_X1_keep r5 v_p0_deeds_amount f_p0_deeds_maps (fun (m6_0 : (Nat → Int32)) (m6_1 : Int32) =>
vp_in x1 8 ∧ (
vp_in x1 8 ∧ (
P (f_p0_chart_led x1.toNatClampNeg) m6_0 m6_1 (upd f_p0_chart_led x1.toNatClampNeg x2)))))))))))
def M_X8_of (x1 : Int32) (x2 : Int32) (v_p0_chart_size : Int32) (f_p0_chart_led : (Nat → Int32)) (P : Int32 → Prop) : Prop :=
M_X0_holds x1 v_p0_chart_size (fun (r1 : Int32) =>
((r1 = 0) → (
P (-2 : Int32))) ∧ (¬ (r1 = 0) → (
(x2 = (0 : Int32) → (
vp_in x1 8 ∧ (
P (f_p0_chart_led x1.toNatClampNeg)))) ∧ (¬ (x2 = (0 : Int32)) → (
(x2 = (1 : Int32) → (
M_X0_tailOf x1 v_p0_chart_size f_p0_chart_led (fun (r5 : Int32) =>
P r5))) ∧ (¬ (x2 = (1 : Int32)) → (
(x2 = (2 : Int32) → (
M_X0_ringBits x1 v_p0_chart_size f_p0_chart_led (fun (r6 : Int32) =>
P r6))) ∧ (¬ (x2 = (2 : Int32)) → (
(x2 = (3 : Int32) → (
M_X0_ringBits x1 v_p0_chart_size f_p0_chart_led (fun (r7 : Int32) =>
M_J6_bitCount_0f7a4 r7 (fun (r8 : Int32) =>
P r8)))) ∧ (¬ (x2 = (3 : Int32)) → (
P (-2 : Int32))))))))))))
def M_X8_map (v_p0_chart_size : Int32) (f_p0_chart_led : (Nat → Int32)) (P : Int32 → Prop) : Prop :=
M_X0_figures v_p0_chart_size f_p0_chart_led (fun (r1 : Int32) =>
P r1)
def M_X8_rings (x1 : Int32) (v_p0_chart_size : Int32) (f_p0_chart_led : (Nat → Int32)) (P : Int32 → Prop) : Prop :=
(x1 = (0 : Int32) → (
M_X0_ringNumber v_p0_chart_size f_p0_chart_led (fun (r2 : Int32) =>
P r2))) ∧ (¬ (x1 = (0 : Int32)) → (
(x1 = (1 : Int32) → (
M_X0_pointsOnRings v_p0_chart_size f_p0_chart_led (fun (r3 : Int32) =>
P r3))) ∧ (¬ (x1 = (1 : Int32)) → (
(x1 = (2 : Int32) → (
M_X0_greatestRing v_p0_chart_size f_p0_chart_led (fun (r4 : Int32) =>
P r4))) ∧ (¬ (x1 = (2 : Int32)) → (
(x1 = (3 : Int32) → (
M_X0_pointsOnRings v_p0_chart_size f_p0_chart_led (fun (r5 : Int32) =>
((r5 = v_p0_chart_size) → (
P (1 : Int32))) ∧ (¬ (r5 = v_p0_chart_size) → (
P (0 : Int32)))))) ∧ (¬ (x1 = (3 : Int32)) → (
P (-2 : Int32)))))))))
def M_X8_ring (x1 : Int32) (x2 : Int32) (v_p0_chart_size : Int32) (f_p0_chart_led : (Nat → Int32)) (P : Int32 → Prop) : Prop :=
M_X0_leastOfRing x1 v_p0_chart_size f_p0_chart_led (fun (r1 : Int32) =>
((0 ≤ r1) → (
M_X0_ringBits r1 v_p0_chart_size f_p0_chart_led (fun (r3 : Int32) =>
M_J6_bitCount_0f7a4 r3 (fun (r4 : Int32) =>
(x2 = (0 : Int32) → (
M_X2_ofRing r4 (fun (r6 : Int32) =>
P r6))) ∧ (¬ (x2 = (0 : Int32)) → (
(x2 = (1 : Int32) → (
P r4)) ∧ (¬ (x2 = (1 : Int32)) → (
(x2 = (2 : Int32) → (
P r1)) ∧ (¬ (x2 = (2 : Int32)) → (
P (-2 : Int32))))))))))) ∧ (¬ (0 ≤ r1) → (
P (-2 : Int32))))
def M_X8_taken (x1 : Int32) (x2 : Int32) (v_p0_chart_size : Int32) (f_p0_chart_led : (Nat → Int32)) (P : Int32 → Prop) : Prop :=
M_X0_leastOfRing x1 v_p0_chart_size f_p0_chart_led (fun (r1 : Int32) =>
((r1 < 0) → (
P (-2 : Int32))) ∧ (¬ (r1 < 0) → (
((x2 < 0) → (
P (-2 : Int32))) ∧ (¬ (x2 < 0) → (
((x2 ≤ (4 : Int32)) → (
M_X0_ringBits r1 v_p0_chart_size f_p0_chart_led (fun (r5 : Int32) =>
M_J6_bitCount_0f7a4 r5 (fun (r6 : Int32) =>
M_X2_ofRing r6 (fun (r7 : Int32) =>
M_X2_isUnder r7 x2 (fun (r8 : Int32) =>
((r8 = 0) → (
P (-13 : Int32))) ∧ (¬ (r8 = 0) → (
P r6)))))))) ∧ (¬ (x2 ≤ (4 : Int32)) → (
P (-2 : Int32))))))))
def M_X8_withoutLast_l4 (x0 : Int32) (x1 : Int32) (P : Int32 → Prop)  (K4 : Int32 → Int32 → Prop) (l2 : Int32) (l3 : Int32) : Prop :=
((x1 ≤ l3) → (
P l2)) ∧ (¬ (x1 ≤ l3) → (
K4 (l2 / (10 : Int32)) (l3 + 1)))
def M_X8_withoutLast (x0 : Int32) (x1 : Int32) (P : Int32 → Prop) : Prop :=
∃ n : Nat, LP2 (M_X8_withoutLast_l4 x0 x1 P ) n x0 (0 : Int32)
def M_X8_areTurnings_l16 (x0 : Int32) (x1 : Int32) (P : Int32 → Prop)  (K16 : Int32 → Prop) (l2 : Int32) : Prop :=
((x0 ≤ l2) → (
P (1 : Int32))) ∧ (¬ (x0 ≤ l2) → (
M_X8_withoutLast x1 l2 (fun (r5 : Int32) =>
(((r5 - r5 / (10 : Int32) * (10 : Int32)) ≤ (4 : Int32)) → (
K16 (l2 + 1))) ∧ (¬ ((r5 - r5 / (10 : Int32) * (10 : Int32)) ≤ (4 : Int32)) → (
P (0 : Int32))))))
def M_X8_areTurnings (x0 : Int32) (x1 : Int32) (P : Int32 → Prop) : Prop :=
((x1 < 0) → (
P (0 : Int32))) ∧ (¬ (x1 < 0) → (
M_X8_withoutLast x1 x0 (fun (r2 : Int32) =>
((r2 = 0) → (
∃ n : Nat, LP1 (M_X8_areTurnings_l16 x0 x1 P ) n (0 : Int32))) ∧ (¬ (r2 = 0) → (
P (0 : Int32))))))
def M_X8_turn_l54 (x1 : Int32) (x2 : Int32) (x3 : Int32) (v_p0_chart_size : Int32) (P : Int32 → (Nat → Int32) → Int32 → (Nat → Int32) → (Nat → Int32) → Prop) (f_p0_deeds_maps : (Nat → Int32)) (v_p0_deeds_amount : Int32) (K54 : Int32 → Int32 → (Nat → Int32) → (Nat → Int32) → Prop) (l4 : Int32) (l5 : Int32) (f_p0_chart_turnedLed : (Nat → Int32)) (f_p0_chart_led : (Nat → Int32)) : Prop :=
((l5 < 0) → (
P l4 f_p0_deeds_maps v_p0_deeds_amount f_p0_chart_turnedLed f_p0_chart_led)) ∧ (¬ (l5 < 0) → (
M_X8_withoutLast x2 l5 (fun (r10 : Int32) =>
M_X0_turned (r10 - r10 / (10 : Int32) * (10 : Int32)) x3 v_p0_chart_size f_p0_chart_led f_p0_chart_turnedLed (fun (r11 : Int32) (m11_0 : (Nat → Int32)) (m11_1 : (Nat → Int32)) =>
((r11 = 0) → (
K54 l4 (l5 + (-1)) m11_0 m11_1)) ∧ (¬ (r11 = 0) → (
K54 (l4 + 1) (l5 + (-1)) m11_0 m11_1))))))
def M_X8_turn (x1 : Int32) (x2 : Int32) (x3 : Int32) (f_p0_chart_led : (Nat → Int32)) (v_p0_deeds_amount : Int32) (f_p0_deeds_maps : (Nat → Int32)) (v_p0_chart_size : Int32) (f_p0_chart_turnedLed : (Nat → Int32)) (P : Int32 → (Nat → Int32) → Int32 → (Nat → Int32) → (Nat → Int32) → Prop) : Prop :=
((x1 < (1 : Int32)) → (
P (-2 : Int32) f_p0_deeds_maps v_p0_deeds_amount f_p0_chart_turnedLed f_p0_chart_led)) ∧ (¬ (x1 < (1 : Int32)) → (
(((6 : Int32) < x1) → (
P (-2 : Int32) f_p0_deeds_maps v_p0_deeds_amount f_p0_chart_turnedLed f_p0_chart_led)) ∧ (¬ ((6 : Int32) < x1) → (
M_X8_areTurnings x1 x2 (fun (r3 : Int32) =>
((r3 = 0) → (
P (-2 : Int32) f_p0_deeds_maps v_p0_deeds_amount f_p0_chart_turnedLed f_p0_chart_led)) ∧ (¬ (r3 = 0) → (
((x3 < 0) → (
P (-2 : Int32) f_p0_deeds_maps v_p0_deeds_amount f_p0_chart_turnedLed f_p0_chart_led)) ∧ (¬ (x3 < 0) → (
((x3 < (8 : Int32)) → (
M_X0_packed f_p0_chart_led (fun (r7 : Int32) =>
M_X1_keep r7 v_p0_deeds_amount f_p0_deeds_maps (fun (m8_0 : (Nat → Int32)) (m8_1 : Int32) =>
∃ n : Nat, LP4 (M_X8_turn_l54 x1 x2 x3 v_p0_chart_size P m8_0 m8_1) n (0 : Int32) (x1 - (1 : Int32)) f_p0_chart_turnedLed f_p0_chart_led)))) ∧ (¬ (x3 < (8 : Int32)) → (
P (-2 : Int32) f_p0_deeds_maps v_p0_deeds_amount f_p0_chart_turnedLed f_p0_chart_led)))))))))))
def M_X8_feed (x1 : Int32) (v_p0_tape_length : Int32) (f_p0_tape_bytes : (Nat → Int32)) (P : Int32 → (Nat → Int32) → Int32 → Prop) : Prop :=
((x1 < 0) → (
P (-2 : Int32) f_p0_tape_bytes v_p0_tape_length)) ∧ (¬ (x1 < 0) → (
((x1 ≤ (127 : Int32)) → (
((v_p0_tape_length < (60 : Int32)) → (
M_X6_put x1 v_p0_tape_length f_p0_tape_bytes (fun (m4_0 : (Nat → Int32)) (m4_1 : Int32) =>
P m4_1 m4_0 m4_1))) ∧ (¬ (v_p0_tape_length < (60 : Int32)) → (
P (-4 : Int32) f_p0_tape_bytes v_p0_tape_length)))) ∧ (¬ (x1 ≤ (127 : Int32)) → (
P (-2 : Int32) f_p0_tape_bytes v_p0_tape_length))))
def M_X8_read (v_p0_chart_size : Int32) (v_p0_text_stage : Int32) (v_p0_text_size : Int32) (v_p0_text_told : Int32) (v_p0_text_ringsWhole : Int32) (f_p0_text_led : (Nat → Int32)) (v_p0_tape_length : Int32) (f_p0_tape_bytes : (Nat → Int32)) (v_p0_text_first : Int32) (v_p0_text_latest : Int32) (f_p0_chart_led : (Nat → Int32)) (v_p0_deeds_amount : Int32) (f_p0_deeds_maps : (Nat → Int32)) (v_p0_text_hasReasons : Int32) (f_p0_text_reasons : (Nat → Int64)) (P : Int32 → Int32 → Int32 → Int32 → Int32 → (Nat → Int32) → Int32 → Int32 → Int32 → (Nat → Int32) → Int32 → (Nat → Int32) → Int32 → (Nat → Int64) → Prop) : Prop :=
M_X7_faultIn v_p0_chart_size v_p0_text_stage v_p0_text_size v_p0_text_told v_p0_text_ringsWhole f_p0_text_led v_p0_tape_length f_p0_tape_bytes v_p0_text_first v_p0_text_latest (fun (r1 : Int32) (m1_0 : Int32) (m1_1 : Int32) (m1_2 : Int32) (m1_3 : Int32) (m1_4 : (Nat → Int32)) (m1_5 : Int32) (m1_6 : Int32) =>
((r1 < 0) → (
M_X0_packed f_p0_chart_led (fun (r3 : Int32) =>
M_X1_keep r3 v_p0_deeds_amount f_p0_deeds_maps (fun (m4_0 : (Nat → Int32)) (m4_1 : Int32) =>
M_X0_leadAll m1_4 f_p0_chart_led (fun (m5_0 : (Nat → Int32)) =>
P m1_3 m1_0 m1_1 m1_2 m1_3 m1_4 m1_5 m1_6 (0 : Int32) m4_0 m4_1 m5_0 v_p0_text_hasReasons f_p0_text_reasons))))) ∧ (¬ (r1 < 0) → (
M_X7_keepReasons r1 v_p0_text_hasReasons m1_3 f_p0_text_reasons m1_2 (fun (m6_0 : Int32) (m6_1 : (Nat → Int64)) =>
P ((-100 : Int32) - r1) m1_0 m1_1 m1_2 m1_3 m1_4 m1_5 m1_6 (0 : Int32) f_p0_deeds_maps v_p0_deeds_amount f_p0_chart_led m6_0 m6_1))))
def M_X8_why (x1 : Int32) (v_p0_text_hasReasons : Int32) (f_p0_text_reasons : (Nat → Int64)) (P : Int64 → Prop) : Prop :=
((x1 < 0) → (
P (-9223372036854775808 : Int64))) ∧ (¬ (x1 < 0) → (
(((3 : Int32) ≤ x1) → (
P (-9223372036854775808 : Int64))) ∧ (¬ ((3 : Int32) ≤ x1) → (
((v_p0_text_hasReasons = 0) → (
P (-9223372036854775808 : Int64))) ∧ (¬ (v_p0_text_hasReasons = 0) → (
vp_in x1 3 ∧ (
P (f_p0_text_reasons x1.toNatClampNeg))))))))
def M_X8_back (v_p0_deeds_amount : Int32) (f_p0_deeds_maps : (Nat → Int32)) (f_p0_chart_led : (Nat → Int32)) (P : Int32 → Int32 → (Nat → Int32) → Prop) : Prop :=
((v_p0_deeds_amount = 0) → (
P (-3 : Int32) v_p0_deeds_amount f_p0_chart_led)) ∧ (¬ (v_p0_deeds_amount = 0) → (
M_X1_takeLatest v_p0_deeds_amount f_p0_deeds_maps (fun (r2 : Int32) (m2_0 : Int32) =>
M_X0_unpack r2 f_p0_chart_led (fun (m3_0 : (Nat → Int32)) =>
P m2_0 m2_0 m3_0))))
def M_X8_image (v_p0_chart_size : Int32) (v_p0_kept_size : Int32) (v_p0_chart_way : Int32) (v_p0_kept_way : Int32) (f_p0_chart_led : (Nat → Int32)) (f_p0_kept_led : (Nat → Int32)) (v_p0_imageKept : Int32) (P : Int32 → Int32 → Int32 → (Nat → Int32) → Int32 → Prop) : Prop :=
M_X0_become v_p0_chart_size v_p0_kept_size v_p0_chart_way v_p0_kept_way f_p0_chart_led f_p0_kept_led (fun (m1_0 : Int32) (m1_1 : Int32) (m1_2 : (Nat → Int32)) =>
P v_p0_chart_size m1_0 m1_1 m1_2 (1 : Int32))
def M_X8_undo (v_p0_imageKept : Int32) (v_p0_kept_size : Int32) (v_p0_chart_size : Int32) (v_p0_kept_way : Int32) (v_p0_chart_way : Int32) (f_p0_kept_led : (Nat → Int32)) (f_p0_chart_led : (Nat → Int32)) (v_p0_deeds_amount : Int32) (P : Int32 → Int32 → Int32 → (Nat → Int32) → Int32 → Prop) : Prop :=
((v_p0_imageKept = 0) → (
P (-3 : Int32) v_p0_chart_size v_p0_chart_way f_p0_chart_led v_p0_deeds_amount)) ∧ (¬ (v_p0_imageKept = 0) → (
M_X0_become v_p0_kept_size v_p0_chart_size v_p0_kept_way v_p0_chart_way f_p0_kept_led f_p0_chart_led (fun (m2_0 : Int32) (m2_1 : Int32) (m2_2 : (Nat → Int32)) =>
M_X1_forget v_p0_deeds_amount (fun (m3_0 : Int32) =>
P m2_0 m2_0 m2_1 m2_2 m3_0))))
def M_X8_count (x1 : Int32) (v_p0_chart_size : Int32) (v_p0_chart_way : Int32) (v_p0_deeds_amount : Int32) (v_p0_tape_length : Int32) (v_p0_born : Int32) (P : Int32 → Prop) : Prop :=
(x1 = (0 : Int32) → (
P v_p0_chart_size)) ∧ (¬ (x1 = (0 : Int32)) → (
(x1 = (1 : Int32) → (
P v_p0_chart_way)) ∧ (¬ (x1 = (1 : Int32)) → (
(x1 = (2 : Int32) → (
M_X0_pieceNumber v_p0_chart_way v_p0_chart_size (fun (r2 : Int32) =>
P r2))) ∧ (¬ (x1 = (2 : Int32)) → (
(x1 = (3 : Int32) → (
P v_p0_deeds_amount)) ∧ (¬ (x1 = (3 : Int32)) → (
(x1 = (4 : Int32) → (
P v_p0_tape_length)) ∧ (¬ (x1 = (4 : Int32)) → (
(x1 = (5 : Int32) → (
P v_p0_born)) ∧ (¬ (x1 = (5 : Int32)) → (
P (-2 : Int32)))))))))))))
def M_L_at (tS : tsT) (x1 : Int32) (P : Int32 → Prop) : Prop :=
(((nI tS.1) ≤ x1) → (
P (0 : Int32))) ∧ (¬ ((nI tS.1) ≤ x1) → (
vp_in x1 tS.1 ∧ (
P (tS.2 x1.toNatClampNeg))))
def M_L_build_b115 (tS : tsT) (K67 : Int32 → Int32 → (Nat → Int32) → Int32 → (Nat → Int32) → Prop) (P : Int32 → (Nat → Int32) → Int32 → Int32 → (Nat → Int32) → Prop) (l2 : Int32) (l3 : Int32) (l4 : Int32) (l5 : Int32) (l6 : Int32) (v_p1_chart_size : Int32) (f_p1_chart_led : (Nat → Int32)) (v_p1_deeds_amount : Int32) (v_p1_chart_way : Int32) (f_p1_deeds_maps : (Nat → Int32)) : Prop :=
M_X8_lead l5 l6 v_p1_chart_size f_p1_chart_led v_p1_deeds_amount f_p1_deeds_maps (fun (r11 : Int32) (m11_0 : (Nat → Int32)) (m11_1 : Int32) (m11_2 : (Nat → Int32)) =>
K67 (l4 ||| ((1 : Int32) <<< (l6 &&& 31))) (l5 + 1) m11_2 m11_1 m11_0)
def M_L_build_l90 (tS : tsT) (K67 : Int32 → Int32 → (Nat → Int32) → Int32 → (Nat → Int32) → Prop) (P : Int32 → (Nat → Int32) → Int32 → Int32 → (Nat → Int32) → Prop) (l2 : Int32) (l3 : Int32) (l4 : Int32) (l5 : Int32) (v_p1_chart_size : Int32) (f_p1_chart_led : (Nat → Int32)) (v_p1_deeds_amount : Int32) (v_p1_chart_way : Int32) (f_p1_deeds_maps : (Nat → Int32)) (K90 : Int32 → Prop) (l6 : Int32) : Prop :=
((l3 = 0) → (
M_L_build_b115 tS K67 P l2 l3 l4 l5 l6 v_p1_chart_size f_p1_chart_led v_p1_deeds_amount v_p1_chart_way f_p1_deeds_maps)) ∧ (¬ (l3 = 0) → (
((((l4 >>> (l6 &&& 31)) &&& (1 : Int32)) = 0) → (
M_L_build_b115 tS K67 P l2 l3 l4 l5 l6 v_p1_chart_size f_p1_chart_led v_p1_deeds_amount v_p1_chart_way f_p1_deeds_maps)) ∧ (¬ (((l4 >>> (l6 &&& 31)) &&& (1 : Int32)) = 0) → (
¬ l2 = 0 ∧ (
K90 ((l6 + (1 : Int32)) - (l6 + (1 : Int32)) / l2 * l2))))))
def M_L_build_l67 (tS : tsT) (P : Int32 → (Nat → Int32) → Int32 → Int32 → (Nat → Int32) → Prop) (l2 : Int32) (l3 : Int32) (v_p1_chart_size : Int32) (v_p1_chart_way : Int32) (K67 : Int32 → Int32 → (Nat → Int32) → Int32 → (Nat → Int32) → Prop) (l4 : Int32) (l5 : Int32) (f_p1_chart_led : (Nat → Int32)) (v_p1_deeds_amount : Int32) (f_p1_deeds_maps : (Nat → Int32)) : Prop :=
((l2 ≤ l5) → (
P v_p1_chart_size f_p1_chart_led v_p1_deeds_amount v_p1_chart_way f_p1_deeds_maps)) ∧ (¬ (l2 ≤ l5) → (
M_L_at tS (1 : Int32) (fun (r8 : Int32) =>
¬ l2 = 0 ∧ (
∀ y10 : Int32, y10 = (((r8 >>> (((3 : Int32) * l5) &&& 31)) &&& (7 : Int32)) - ((r8 >>> (((3 : Int32) * l5) &&& 31)) &&& (7 : Int32)) / l2 * l2) →
∃ n : Nat, LP1 (M_L_build_l90 tS K67 P l2 l3 l4 l5 v_p1_chart_size f_p1_chart_led v_p1_deeds_amount v_p1_chart_way f_p1_deeds_maps) n y10))))
def M_L_build_b67 (tS : tsT) (P : Int32 → (Nat → Int32) → Int32 → Int32 → (Nat → Int32) → Prop) (l2 : Int32) (l3 : Int32) (l4 : Int32) (l5 : Int32) (v_p1_chart_size : Int32) (f_p1_chart_led : (Nat → Int32)) (v_p1_deeds_amount : Int32) (v_p1_chart_way : Int32) (f_p1_deeds_maps : (Nat → Int32)) : Prop :=
∃ n : Nat, LP5 (M_L_build_l67 tS P l2 l3 v_p1_chart_size v_p1_chart_way) n l4 l5 f_p1_chart_led v_p1_deeds_amount f_p1_deeds_maps
def M_L_build (tS : tsT) (v_p1_chart_size : Int32) (f_p1_chart_led : (Nat → Int32)) (v_p1_deeds_amount : Int32) (v_p1_chart_way : Int32) (f_p1_deeds_maps : (Nat → Int32)) (P : Int32 → (Nat → Int32) → Int32 → Int32 → (Nat → Int32) → Prop) : Prop :=
M_L_at tS (0 : Int32) (fun (r1 : Int32) =>
∀ y2 : Int32, y2 = ((2 : Int32) + ((r1 &&& (7 : Int32)) - (r1 &&& (7 : Int32)) / (7 : Int32) * (7 : Int32))) →
M_X8_points y2 v_p1_chart_size f_p1_chart_led v_p1_deeds_amount (fun (r3 : Int32) (m3_0 : Int32) (m3_1 : (Nat → Int32)) (m3_2 : Int32) =>
M_L_at tS (0 : Int32) (fun (r4 : Int32) =>
M_X8_way ((r4 >>> ((3 : Int32) &&& 31)) &&& (1 : Int32)) v_p1_chart_way m3_2 (fun (r5 : Int32) (m5_0 : Int32) (m5_1 : Int32) =>
M_L_at tS (0 : Int32) (fun (r6 : Int32) =>
((((r6 >>> ((4 : Int32) &&& 31)) &&& (1 : Int32)) = (1 : Int32)) → (
M_L_build_b67 tS P y2 (1 : Int32) (0 : Int32) (0 : Int32) m3_0 m3_1 m5_1 m5_0 f_p1_deeds_maps)) ∧ (¬ (((r6 >>> ((4 : Int32) &&& 31)) &&& (1 : Int32)) = (1 : Int32)) → (
M_L_build_b67 tS P y2 (0 : Int32) (0 : Int32) (0 : Int32) m3_0 m3_1 m5_1 m5_0 f_p1_deeds_maps)))))))
def M_L_law_c816 (tS : tsT) (v_p1_born : Int32) (P : Int32 → Prop) (l2 : Int32) (l3 : Int32) (l4 : Int32) (l5 : Int32) (v_p1_kept_size : Int32) (v_p1_kept_way : Int32) (f_p1_kept_led : (Nat → Int32)) (v_p1_imageKept : Int32) (v_p1_text_stage : Int32) (v_p1_text_size : Int32) (v_p1_text_told : Int32) (v_p1_text_ringsWhole : Int32) (f_p1_text_led : (Nat → Int32)) (v_p1_text_latest : Int32) (v_p1_text_first : Int32) (v_p1_tape_length : Int32) (f_p1_deeds_maps : (Nat → Int32)) (v_p1_deeds_amount : Int32) (f_p1_chart_led : (Nat → Int32)) (v_p1_text_hasReasons : Int32) (f_p1_text_reasons : (Nat → Int64)) (f_p1_tape_bytes : (Nat → Int32)) (f_p1_chart_turnedLed : (Nat → Int32)) (v_p1_chart_way : Int32) (v_p1_chart_size : Int32) : Prop :=
((l4 = l2) → (
M_X8_undo v_p1_imageKept v_p1_kept_size v_p1_chart_size v_p1_kept_way v_p1_chart_way f_p1_kept_led f_p1_chart_led v_p1_deeds_amount (fun (r108 : Int32) (m108_0 : Int32) (m108_1 : Int32) (m108_2 : (Nat → Int32)) (m108_3 : Int32) =>
((r108 = l2) → (
M_X8_map m108_0 m108_2 (fun (r110 : Int32) =>
((r110 = l3) → (
M_X8_count (3 : Int32) m108_0 m108_1 m108_3 v_p1_tape_length v_p1_born (fun (r112 : Int32) =>
((r112 = 0) → (
M_X8_rings (0 : Int32) m108_0 m108_2 (fun (r114 : Int32) =>
((r114 = l5) → (
M_X8_lead l2 (0 : Int32) m108_0 m108_2 m108_3 f_p1_deeds_maps (fun (r116 : Int32) (m116_0 : (Nat → Int32)) (m116_1 : Int32) (m116_2 : (Nat → Int32)) =>
((r116 = (-2 : Int32)) → (
P (1 : Int32))) ∧ (¬ (r116 = (-2 : Int32)) → (
P (0 : Int32)))))) ∧ (¬ (r114 = l5) → (
P (0 : Int32)))))) ∧ (¬ (r112 = 0) → (
P (0 : Int32)))))) ∧ (¬ (r110 = l3) → (
P (0 : Int32)))))) ∧ (¬ (r108 = l2) → (
P (0 : Int32)))))) ∧ (¬ (l4 = l2) → (
P (0 : Int32)))
def M_L_law_c777 (tS : tsT) (v_p1_born : Int32) (P : Int32 → Prop) (l2 : Int32) (l3 : Int32) (l4 : Int32) (l5 : Int32) (v_p1_kept_size : Int32) (v_p1_kept_way : Int32) (f_p1_kept_led : (Nat → Int32)) (v_p1_imageKept : Int32) (v_p1_text_stage : Int32) (v_p1_text_size : Int32) (v_p1_text_told : Int32) (v_p1_text_ringsWhole : Int32) (f_p1_text_led : (Nat → Int32)) (v_p1_text_latest : Int32) (v_p1_text_first : Int32) (v_p1_tape_length : Int32) (f_p1_deeds_maps : (Nat → Int32)) (v_p1_deeds_amount : Int32) (f_p1_chart_led : (Nat → Int32)) (v_p1_text_hasReasons : Int32) (f_p1_text_reasons : (Nat → Int64)) (f_p1_tape_bytes : (Nat → Int32)) (f_p1_chart_turnedLed : (Nat → Int32)) (v_p1_chart_way : Int32) (v_p1_chart_size : Int32) : Prop :=
M_L_at tS (2 : Int32) (fun (r101 : Int32) =>
M_X8_points ((2 : Int32) + (((r101 >>> ((7 : Int32) &&& 31)) &&& (7 : Int32)) - ((r101 >>> ((7 : Int32) &&& 31)) &&& (7 : Int32)) / (7 : Int32) * (7 : Int32))) v_p1_chart_size f_p1_chart_led v_p1_deeds_amount (fun (r102 : Int32) (m102_0 : Int32) (m102_1 : (Nat → Int32)) (m102_2 : Int32) =>
((r102 = l2) → (
M_X8_rings (0 : Int32) m102_0 m102_1 (fun (r104 : Int32) =>
M_X8_count (0 : Int32) m102_0 v_p1_chart_way m102_2 v_p1_tape_length v_p1_born (fun (r105 : Int32) =>
((r104 = r105) → (
M_L_law_c816 tS v_p1_born P l2 l3 l4 l5 v_p1_kept_size v_p1_kept_way f_p1_kept_led v_p1_imageKept v_p1_text_stage v_p1_text_size v_p1_text_told v_p1_text_ringsWhole f_p1_text_led v_p1_text_latest v_p1_text_first v_p1_tape_length f_p1_deeds_maps m102_2 m102_1 v_p1_text_hasReasons f_p1_text_reasons f_p1_tape_bytes f_p1_chart_turnedLed v_p1_chart_way m102_0)) ∧ (¬ (r104 = r105) → (
P (0 : Int32))))))) ∧ (¬ (r102 = l2) → (
P (0 : Int32)))))
def M_L_law_c717 (tS : tsT) (v_p1_born : Int32) (P : Int32 → Prop) (l2 : Int32) (l3 : Int32) (l4 : Int32) (l5 : Int32) (v_p1_kept_size : Int32) (v_p1_kept_way : Int32) (f_p1_kept_led : (Nat → Int32)) (v_p1_imageKept : Int32) (v_p1_text_stage : Int32) (v_p1_text_size : Int32) (v_p1_text_told : Int32) (v_p1_text_ringsWhole : Int32) (f_p1_text_led : (Nat → Int32)) (v_p1_text_latest : Int32) (v_p1_text_first : Int32) (v_p1_tape_length : Int32) (f_p1_deeds_maps : (Nat → Int32)) (v_p1_deeds_amount : Int32) (f_p1_chart_led : (Nat → Int32)) (v_p1_text_hasReasons : Int32) (f_p1_text_reasons : (Nat → Int64)) (f_p1_tape_bytes : (Nat → Int32)) (f_p1_chart_turnedLed : (Nat → Int32)) (v_p1_chart_way : Int32) (v_p1_chart_size : Int32) : Prop :=
M_X8_turn (1 : Int32) (2 : Int32) (0 : Int32) f_p1_chart_led v_p1_deeds_amount f_p1_deeds_maps v_p1_chart_size f_p1_chart_turnedLed (fun (r91 : Int32) (m91_0 : (Nat → Int32)) (m91_1 : Int32) (m91_2 : (Nat → Int32)) (m91_3 : (Nat → Int32)) =>
M_X8_turn (3 : Int32) (204 : Int32) (3 : Int32) m91_3 m91_1 m91_0 v_p1_chart_size m91_2 (fun (r92 : Int32) (m92_0 : (Nat → Int32)) (m92_1 : Int32) (m92_2 : (Nat → Int32)) (m92_3 : (Nat → Int32)) =>
M_X8_count (1 : Int32) v_p1_chart_size v_p1_chart_way m92_1 v_p1_tape_length v_p1_born (fun (r93 : Int32) =>
M_X8_way ((1 : Int32) - r93) v_p1_chart_way m92_1 (fun (r94 : Int32) (m94_0 : Int32) (m94_1 : Int32) =>
M_X8_count (3 : Int32) v_p1_chart_size m94_0 m94_1 v_p1_tape_length v_p1_born (fun (r95 : Int32) =>
((r95 = 0) → (
M_X8_back m94_1 m92_0 m92_3 (fun (r97 : Int32) (m97_0 : Int32) (m97_1 : (Nat → Int32)) =>
((r97 = (-3 : Int32)) → (
M_X8_points (9 : Int32) v_p1_chart_size m97_1 m97_0 (fun (r99 : Int32) (m99_0 : Int32) (m99_1 : (Nat → Int32)) (m99_2 : Int32) =>
((r99 = (-2 : Int32)) → (
M_L_law_c777 tS v_p1_born P l2 l3 l4 l5 v_p1_kept_size v_p1_kept_way f_p1_kept_led v_p1_imageKept v_p1_text_stage v_p1_text_size v_p1_text_told v_p1_text_ringsWhole f_p1_text_led v_p1_text_latest v_p1_text_first v_p1_tape_length m92_0 m99_2 m99_1 v_p1_text_hasReasons f_p1_text_reasons f_p1_tape_bytes m92_2 m94_0 m99_0)) ∧ (¬ (r99 = (-2 : Int32)) → (
P (0 : Int32)))))) ∧ (¬ (r97 = (-3 : Int32)) → (
P (0 : Int32)))))) ∧ (¬ (r95 = 0) → (
P (0 : Int32))))))))
def M_L_law_c684 (tS : tsT) (v_p1_born : Int32) (P : Int32 → Prop) (l2 : Int32) (l3 : Int32) (l4 : Int32) (l5 : Int32) (v_p1_kept_size : Int32) (v_p1_kept_way : Int32) (f_p1_kept_led : (Nat → Int32)) (v_p1_imageKept : Int32) (v_p1_text_stage : Int32) (v_p1_text_size : Int32) (v_p1_text_told : Int32) (v_p1_text_ringsWhole : Int32) (f_p1_text_led : (Nat → Int32)) (v_p1_text_latest : Int32) (v_p1_text_first : Int32) (v_p1_tape_length : Int32) (f_p1_deeds_maps : (Nat → Int32)) (v_p1_deeds_amount : Int32) (f_p1_chart_led : (Nat → Int32)) (v_p1_text_hasReasons : Int32) (f_p1_text_reasons : (Nat → Int64)) (f_p1_tape_bytes : (Nat → Int32)) (f_p1_chart_turnedLed : (Nat → Int32)) (v_p1_chart_way : Int32) (v_p1_chart_size : Int32) : Prop :=
M_X8_read v_p1_chart_size v_p1_text_stage v_p1_text_size v_p1_text_told v_p1_text_ringsWhole f_p1_text_led v_p1_tape_length f_p1_tape_bytes v_p1_text_first v_p1_text_latest f_p1_chart_led v_p1_deeds_amount f_p1_deeds_maps v_p1_text_hasReasons f_p1_text_reasons (fun (r85 : Int32) (m85_0 : Int32) (m85_1 : Int32) (m85_2 : Int32) (m85_3 : Int32) (m85_4 : (Nat → Int32)) (m85_5 : Int32) (m85_6 : Int32) (m85_7 : Int32) (m85_8 : (Nat → Int32)) (m85_9 : Int32) (m85_10 : (Nat → Int32)) (m85_11 : Int32) (m85_12 : (Nat → Int64)) =>
((r85 = (-100 : Int32)) → (
M_X8_why (1 : Int32) m85_11 m85_12 (fun (r87 : Int64) =>
(((lg_cmp r87 (0 : Int64)) = 0) → (
M_X8_why (3 : Int32) m85_11 m85_12 (fun (r89 : Int64) =>
(((lg_cmp r89 (-9223372036854775808 : Int64)) = 0) → (
M_L_law_c717 tS v_p1_born P l2 l3 l4 l5 v_p1_kept_size v_p1_kept_way f_p1_kept_led v_p1_imageKept m85_0 m85_1 m85_2 m85_3 m85_4 m85_5 m85_6 m85_7 m85_8 m85_9 m85_10 m85_11 m85_12 f_p1_tape_bytes f_p1_chart_turnedLed v_p1_chart_way v_p1_chart_size)) ∧ (¬ ((lg_cmp r89 (-9223372036854775808 : Int64)) = 0) → (
P (0 : Int32)))))) ∧ (¬ ((lg_cmp r87 (0 : Int64)) = 0) → (
P (0 : Int32)))))) ∧ (¬ (r85 = (-100 : Int32)) → (
P (0 : Int32))))
def M_L_law_b644 (tS : tsT) (v_p1_born : Int32) (P : Int32 → Prop) (l2 : Int32) (l3 : Int32) (l4 : Int32) (l5 : Int32) (l11 : Int32) (l13 : Int32) (s0 : Int64) (s1 : Int64) (v_p1_kept_size : Int32) (v_p1_kept_way : Int32) (f_p1_kept_led : (Nat → Int32)) (v_p1_imageKept : Int32) (v_p1_text_stage : Int32) (v_p1_text_size : Int32) (v_p1_text_told : Int32) (v_p1_text_ringsWhole : Int32) (f_p1_text_led : (Nat → Int32)) (v_p1_text_latest : Int32) (v_p1_text_first : Int32) (v_p1_tape_length : Int32) (f_p1_deeds_maps : (Nat → Int32)) (v_p1_deeds_amount : Int32) (f_p1_chart_led : (Nat → Int32)) (v_p1_text_hasReasons : Int32) (f_p1_text_reasons : (Nat → Int64)) (f_p1_tape_bytes : (Nat → Int32)) (f_p1_chart_turnedLed : (Nat → Int32)) (v_p1_chart_way : Int32) (v_p1_chart_size : Int32) : Prop :=
(((lg_cmp s0 s1) = 0) → (
M_X8_why (1 : Int32) v_p1_text_hasReasons f_p1_text_reasons (fun (r77 : Int64) =>
(((lg_cmp r77 ((l11 + (1 : Int32)).toInt64)) = 0) → (
M_X8_why (2 : Int32) v_p1_text_hasReasons f_p1_text_reasons (fun (r79 : Int64) =>
(((lg_cmp r79 l13.toInt64) = 0) → (
M_X8_map v_p1_chart_size f_p1_chart_led (fun (r81 : Int32) =>
((r81 = l3) → (
M_L_law_c684 tS v_p1_born P l2 l3 l4 l5 v_p1_kept_size v_p1_kept_way f_p1_kept_led v_p1_imageKept v_p1_text_stage v_p1_text_size v_p1_text_told v_p1_text_ringsWhole f_p1_text_led v_p1_text_latest v_p1_text_first v_p1_tape_length f_p1_deeds_maps v_p1_deeds_amount f_p1_chart_led v_p1_text_hasReasons f_p1_text_reasons f_p1_tape_bytes f_p1_chart_turnedLed v_p1_chart_way v_p1_chart_size)) ∧ (¬ (r81 = l3) → (
P (0 : Int32)))))) ∧ (¬ ((lg_cmp r79 l13.toInt64) = 0) → (
P (0 : Int32)))))) ∧ (¬ ((lg_cmp r77 ((l11 + (1 : Int32)).toInt64)) = 0) → (
P (0 : Int32)))))) ∧ (¬ ((lg_cmp s0 s1) = 0) → (
P (0 : Int32)))
def M_L_law_b614 (tS : tsT) (v_p1_born : Int32) (P : Int32 → Prop) (l2 : Int32) (l3 : Int32) (l4 : Int32) (l5 : Int32) (l11 : Int32) (l12 : Int32) (s0 : Int32) (s1 : Int32) (v_p1_kept_size : Int32) (v_p1_kept_way : Int32) (f_p1_kept_led : (Nat → Int32)) (v_p1_imageKept : Int32) (v_p1_text_stage : Int32) (v_p1_text_size : Int32) (v_p1_text_told : Int32) (v_p1_text_ringsWhole : Int32) (f_p1_text_led : (Nat → Int32)) (v_p1_text_latest : Int32) (v_p1_text_first : Int32) (v_p1_tape_length : Int32) (f_p1_deeds_maps : (Nat → Int32)) (v_p1_deeds_amount : Int32) (f_p1_chart_led : (Nat → Int32)) (v_p1_text_hasReasons : Int32) (f_p1_text_reasons : (Nat → Int64)) (f_p1_tape_bytes : (Nat → Int32)) (f_p1_chart_turnedLed : (Nat → Int32)) (v_p1_chart_way : Int32) (v_p1_chart_size : Int32) : Prop :=
M_X8_read v_p1_chart_size v_p1_text_stage v_p1_text_size v_p1_text_told v_p1_text_ringsWhole f_p1_text_led v_p1_tape_length f_p1_tape_bytes v_p1_text_first v_p1_text_latest f_p1_chart_led v_p1_deeds_amount f_p1_deeds_maps v_p1_text_hasReasons f_p1_text_reasons (fun (r73 : Int32) (m73_0 : Int32) (m73_1 : Int32) (m73_2 : Int32) (m73_3 : Int32) (m73_4 : (Nat → Int32)) (m73_5 : Int32) (m73_6 : Int32) (m73_7 : Int32) (m73_8 : (Nat → Int32)) (m73_9 : Int32) (m73_10 : (Nat → Int32)) (m73_11 : Int32) (m73_12 : (Nat → Int64)) =>
((r73 = ((-100 : Int32) - (s0 + s1))) → (
M_X8_why (0 : Int32) m73_11 m73_12 (fun (r75 : Int64) =>
((l12 = 0) → (
M_L_law_b644 tS v_p1_born P l2 l3 l4 l5 l11 (s0 + s1) r75 (0 : Int64) v_p1_kept_size v_p1_kept_way f_p1_kept_led v_p1_imageKept m73_0 m73_1 m73_2 m73_3 m73_4 m73_5 m73_6 m73_7 m73_8 m73_9 m73_10 m73_11 m73_12 f_p1_tape_bytes f_p1_chart_turnedLed v_p1_chart_way v_p1_chart_size)) ∧ (¬ (l12 = 0) → (
M_L_law_b644 tS v_p1_born P l2 l3 l4 l5 l11 (s0 + s1) r75 (1 : Int64) v_p1_kept_size v_p1_kept_way f_p1_kept_led v_p1_imageKept m73_0 m73_1 m73_2 m73_3 m73_4 m73_5 m73_6 m73_7 m73_8 m73_9 m73_10 m73_11 m73_12 f_p1_tape_bytes f_p1_chart_turnedLed v_p1_chart_way v_p1_chart_size))))) ∧ (¬ (r73 = ((-100 : Int32) - (s0 + s1))) → (
P (0 : Int32))))
def M_L_law_c577 (tS : tsT) (v_p1_born : Int32) (P : Int32 → Prop) (l2 : Int32) (l3 : Int32) (l4 : Int32) (l5 : Int32) (l11 : Int32) (l12 : Int32) (v_p1_kept_size : Int32) (v_p1_kept_way : Int32) (f_p1_kept_led : (Nat → Int32)) (v_p1_imageKept : Int32) (v_p1_text_stage : Int32) (v_p1_text_size : Int32) (v_p1_text_told : Int32) (v_p1_text_ringsWhole : Int32) (f_p1_text_led : (Nat → Int32)) (v_p1_text_latest : Int32) (v_p1_text_first : Int32) (v_p1_tape_length : Int32) (f_p1_deeds_maps : (Nat → Int32)) (v_p1_deeds_amount : Int32) (f_p1_chart_led : (Nat → Int32)) (v_p1_text_hasReasons : Int32) (f_p1_text_reasons : (Nat → Int64)) (f_p1_tape_bytes : (Nat → Int32)) (f_p1_chart_turnedLed : (Nat → Int32)) (v_p1_chart_way : Int32) (v_p1_chart_size : Int32) : Prop :=
M_L_at tS (2 : Int32) (fun (r70 : Int32) =>
¬ (l11 + (1 : Int32)) = 0 ∧ (
M_X8_feed ((48 : Int32) + (((r70 >>> ((4 : Int32) &&& 31)) &&& (7 : Int32)) - ((r70 >>> ((4 : Int32) &&& 31)) &&& (7 : Int32)) / (l11 + (1 : Int32)) * (l11 + (1 : Int32)))) v_p1_tape_length f_p1_tape_bytes (fun (r72 : Int32) (m72_0 : (Nat → Int32)) (m72_1 : Int32) =>
((l12 = 0) → (
M_L_law_b614 tS v_p1_born P l2 l3 l4 l5 l11 l12 ((2 : Int32) * l11) (3 : Int32) v_p1_kept_size v_p1_kept_way f_p1_kept_led v_p1_imageKept v_p1_text_stage v_p1_text_size v_p1_text_told v_p1_text_ringsWhole f_p1_text_led v_p1_text_latest v_p1_text_first m72_1 f_p1_deeds_maps v_p1_deeds_amount f_p1_chart_led v_p1_text_hasReasons f_p1_text_reasons m72_0 f_p1_chart_turnedLed v_p1_chart_way v_p1_chart_size)) ∧ (¬ (l12 = 0) → (
M_L_law_b614 tS v_p1_born P l2 l3 l4 l5 l11 l12 ((2 : Int32) * l11) (4 : Int32) v_p1_kept_size v_p1_kept_way f_p1_kept_led v_p1_imageKept v_p1_text_stage v_p1_text_size v_p1_text_told v_p1_text_ringsWhole f_p1_text_led v_p1_text_latest v_p1_text_first m72_1 f_p1_deeds_maps v_p1_deeds_amount f_p1_chart_led v_p1_text_hasReasons f_p1_text_reasons m72_0 f_p1_chart_turnedLed v_p1_chart_way v_p1_chart_size)))))
def M_L_law_c570 (tS : tsT) (v_p1_born : Int32) (P : Int32 → Prop) (l2 : Int32) (l3 : Int32) (l4 : Int32) (l5 : Int32) (l11 : Int32) (l12 : Int32) (v_p1_kept_size : Int32) (v_p1_kept_way : Int32) (f_p1_kept_led : (Nat → Int32)) (v_p1_imageKept : Int32) (v_p1_text_stage : Int32) (v_p1_text_size : Int32) (v_p1_text_told : Int32) (v_p1_text_ringsWhole : Int32) (f_p1_text_led : (Nat → Int32)) (v_p1_text_latest : Int32) (v_p1_text_first : Int32) (v_p1_tape_length : Int32) (f_p1_deeds_maps : (Nat → Int32)) (v_p1_deeds_amount : Int32) (f_p1_chart_led : (Nat → Int32)) (v_p1_text_hasReasons : Int32) (f_p1_text_reasons : (Nat → Int64)) (f_p1_tape_bytes : (Nat → Int32)) (f_p1_chart_turnedLed : (Nat → Int32)) (v_p1_chart_way : Int32) (v_p1_chart_size : Int32) : Prop :=
M_X8_feed (32 : Int32) v_p1_tape_length f_p1_tape_bytes (fun (r69 : Int32) (m69_0 : (Nat → Int32)) (m69_1 : Int32) =>
M_L_law_c577 tS v_p1_born P l2 l3 l4 l5 l11 l12 v_p1_kept_size v_p1_kept_way f_p1_kept_led v_p1_imageKept v_p1_text_stage v_p1_text_size v_p1_text_told v_p1_text_ringsWhole f_p1_text_led v_p1_text_latest v_p1_text_first m69_1 f_p1_deeds_maps v_p1_deeds_amount f_p1_chart_led v_p1_text_hasReasons f_p1_text_reasons m69_0 f_p1_chart_turnedLed v_p1_chart_way v_p1_chart_size)
def M_L_law_b546 (tS : tsT) (v_p1_born : Int32) (P : Int32 → Prop) (l2 : Int32) (l3 : Int32) (l4 : Int32) (l5 : Int32) (l11 : Int32) (s0 : Int32) (v_p1_kept_size : Int32) (v_p1_kept_way : Int32) (f_p1_kept_led : (Nat → Int32)) (v_p1_imageKept : Int32) (v_p1_text_stage : Int32) (v_p1_text_size : Int32) (v_p1_text_told : Int32) (v_p1_text_ringsWhole : Int32) (f_p1_text_led : (Nat → Int32)) (v_p1_text_latest : Int32) (v_p1_text_first : Int32) (v_p1_tape_length : Int32) (f_p1_deeds_maps : (Nat → Int32)) (v_p1_deeds_amount : Int32) (f_p1_chart_led : (Nat → Int32)) (v_p1_text_hasReasons : Int32) (f_p1_text_reasons : (Nat → Int64)) (f_p1_tape_bytes : (Nat → Int32)) (f_p1_chart_turnedLed : (Nat → Int32)) (v_p1_chart_way : Int32) (v_p1_chart_size : Int32) : Prop :=
((s0 = 0) → (
M_L_law_c570 tS v_p1_born P l2 l3 l4 l5 l11 s0 v_p1_kept_size v_p1_kept_way f_p1_kept_led v_p1_imageKept v_p1_text_stage v_p1_text_size v_p1_text_told v_p1_text_ringsWhole f_p1_text_led v_p1_text_latest v_p1_text_first v_p1_tape_length f_p1_deeds_maps v_p1_deeds_amount f_p1_chart_led v_p1_text_hasReasons f_p1_text_reasons f_p1_tape_bytes f_p1_chart_turnedLed v_p1_chart_way v_p1_chart_size)) ∧ (¬ (s0 = 0) → (
M_X8_feed (41 : Int32) v_p1_tape_length f_p1_tape_bytes (fun (r66 : Int32) (m66_0 : (Nat → Int32)) (m66_1 : Int32) =>
M_X8_feed (40 : Int32) m66_1 m66_0 (fun (r67 : Int32) (m67_0 : (Nat → Int32)) (m67_1 : Int32) =>
M_L_law_c577 tS v_p1_born P l2 l3 l4 l5 l11 s0 v_p1_kept_size v_p1_kept_way f_p1_kept_led v_p1_imageKept v_p1_text_stage v_p1_text_size v_p1_text_told v_p1_text_ringsWhole f_p1_text_led v_p1_text_latest v_p1_text_first m67_1 f_p1_deeds_maps v_p1_deeds_amount f_p1_chart_led v_p1_text_hasReasons f_p1_text_reasons m67_0 f_p1_chart_turnedLed v_p1_chart_way v_p1_chart_size))))
def M_L_law_c528 (tS : tsT) (v_p1_born : Int32) (P : Int32 → Prop) (l2 : Int32) (l3 : Int32) (l4 : Int32) (l5 : Int32) (l11 : Int32) (v_p1_kept_size : Int32) (v_p1_kept_way : Int32) (f_p1_kept_led : (Nat → Int32)) (v_p1_imageKept : Int32) (v_p1_text_stage : Int32) (v_p1_text_size : Int32) (v_p1_text_told : Int32) (v_p1_text_ringsWhole : Int32) (f_p1_text_led : (Nat → Int32)) (v_p1_text_latest : Int32) (v_p1_text_first : Int32) (v_p1_tape_length : Int32) (f_p1_deeds_maps : (Nat → Int32)) (v_p1_deeds_amount : Int32) (f_p1_chart_led : (Nat → Int32)) (v_p1_text_hasReasons : Int32) (f_p1_text_reasons : (Nat → Int64)) (f_p1_tape_bytes : (Nat → Int32)) (f_p1_chart_turnedLed : (Nat → Int32)) (v_p1_chart_way : Int32) (v_p1_chart_size : Int32) : Prop :=
M_L_at tS (2 : Int32) (fun (r64 : Int32) =>
((((r64 >>> ((3 : Int32) &&& 31)) &&& (1 : Int32)) = (1 : Int32)) → (
M_L_law_b546 tS v_p1_born P l2 l3 l4 l5 l11 (1 : Int32) v_p1_kept_size v_p1_kept_way f_p1_kept_led v_p1_imageKept v_p1_text_stage v_p1_text_size v_p1_text_told v_p1_text_ringsWhole f_p1_text_led v_p1_text_latest v_p1_text_first v_p1_tape_length f_p1_deeds_maps v_p1_deeds_amount f_p1_chart_led v_p1_text_hasReasons f_p1_text_reasons f_p1_tape_bytes f_p1_chart_turnedLed v_p1_chart_way v_p1_chart_size)) ∧ (¬ (((r64 >>> ((3 : Int32) &&& 31)) &&& (1 : Int32)) = (1 : Int32)) → (
M_L_law_b546 tS v_p1_born P l2 l3 l4 l5 l11 (0 : Int32) v_p1_kept_size v_p1_kept_way f_p1_kept_led v_p1_imageKept v_p1_text_stage v_p1_text_size v_p1_text_told v_p1_text_ringsWhole f_p1_text_led v_p1_text_latest v_p1_text_first v_p1_tape_length f_p1_deeds_maps v_p1_deeds_amount f_p1_chart_led v_p1_text_hasReasons f_p1_text_reasons f_p1_tape_bytes f_p1_chart_turnedLed v_p1_chart_way v_p1_chart_size)))
def M_L_law_b512 (tS : tsT) (v_p1_born : Int32) (K493 : Int32 → Int32 → (Nat → Int32) → Prop) (P : Int32 → Prop) (l2 : Int32) (l3 : Int32) (l4 : Int32) (l5 : Int32) (l11 : Int32) (l12 : Int32) (v_p1_kept_size : Int32) (v_p1_kept_way : Int32) (f_p1_kept_led : (Nat → Int32)) (v_p1_imageKept : Int32) (v_p1_text_stage : Int32) (v_p1_text_size : Int32) (v_p1_text_told : Int32) (v_p1_text_ringsWhole : Int32) (f_p1_text_led : (Nat → Int32)) (v_p1_text_latest : Int32) (v_p1_text_first : Int32) (v_p1_tape_length : Int32) (f_p1_deeds_maps : (Nat → Int32)) (v_p1_deeds_amount : Int32) (f_p1_chart_led : (Nat → Int32)) (v_p1_text_hasReasons : Int32) (f_p1_text_reasons : (Nat → Int64)) (f_p1_tape_bytes : (Nat → Int32)) (f_p1_chart_turnedLed : (Nat → Int32)) (v_p1_chart_way : Int32) (v_p1_chart_size : Int32) : Prop :=
M_X8_feed ((48 : Int32) + l12) v_p1_tape_length f_p1_tape_bytes (fun (r61 : Int32) (m61_0 : (Nat → Int32)) (m61_1 : Int32) =>
K493 (l12 + 1) m61_1 m61_0)
def M_L_law_l493 (tS : tsT) (v_p1_born : Int32) (P : Int32 → Prop) (l2 : Int32) (l3 : Int32) (l4 : Int32) (l5 : Int32) (l11 : Int32) (v_p1_kept_size : Int32) (v_p1_kept_way : Int32) (f_p1_kept_led : (Nat → Int32)) (v_p1_imageKept : Int32) (v_p1_text_stage : Int32) (v_p1_text_size : Int32) (v_p1_text_told : Int32) (v_p1_text_ringsWhole : Int32) (f_p1_text_led : (Nat → Int32)) (v_p1_text_latest : Int32) (v_p1_text_first : Int32) (f_p1_deeds_maps : (Nat → Int32)) (v_p1_deeds_amount : Int32) (f_p1_chart_led : (Nat → Int32)) (v_p1_text_hasReasons : Int32) (f_p1_text_reasons : (Nat → Int64)) (f_p1_chart_turnedLed : (Nat → Int32)) (v_p1_chart_way : Int32) (v_p1_chart_size : Int32) (K493 : Int32 → Int32 → (Nat → Int32) → Prop) (l12 : Int32) (v_p1_tape_length : Int32) (f_p1_tape_bytes : (Nat → Int32)) : Prop :=
((l11 < l12) → (
M_L_law_c528 tS v_p1_born P l2 l3 l4 l5 l11 v_p1_kept_size v_p1_kept_way f_p1_kept_led v_p1_imageKept v_p1_text_stage v_p1_text_size v_p1_text_told v_p1_text_ringsWhole f_p1_text_led v_p1_text_latest v_p1_text_first v_p1_tape_length f_p1_deeds_maps v_p1_deeds_amount f_p1_chart_led v_p1_text_hasReasons f_p1_text_reasons f_p1_tape_bytes f_p1_chart_turnedLed v_p1_chart_way v_p1_chart_size)) ∧ (¬ (l11 < l12) → (
((l12 ≤ 0) → (
M_L_law_b512 tS v_p1_born K493 P l2 l3 l4 l5 l11 l12 v_p1_kept_size v_p1_kept_way f_p1_kept_led v_p1_imageKept v_p1_text_stage v_p1_text_size v_p1_text_told v_p1_text_ringsWhole f_p1_text_led v_p1_text_latest v_p1_text_first v_p1_tape_length f_p1_deeds_maps v_p1_deeds_amount f_p1_chart_led v_p1_text_hasReasons f_p1_text_reasons f_p1_tape_bytes f_p1_chart_turnedLed v_p1_chart_way v_p1_chart_size)) ∧ (¬ (l12 ≤ 0) → (
M_X8_feed (32 : Int32) v_p1_tape_length f_p1_tape_bytes (fun (r63 : Int32) (m63_0 : (Nat → Int32)) (m63_1 : Int32) =>
M_L_law_b512 tS v_p1_born K493 P l2 l3 l4 l5 l11 l12 v_p1_kept_size v_p1_kept_way f_p1_kept_led v_p1_imageKept v_p1_text_stage v_p1_text_size v_p1_text_told v_p1_text_ringsWhole f_p1_text_led v_p1_text_latest v_p1_text_first m63_1 f_p1_deeds_maps v_p1_deeds_amount f_p1_chart_led v_p1_text_hasReasons f_p1_text_reasons m63_0 f_p1_chart_turnedLed v_p1_chart_way v_p1_chart_size)))))
def M_L_law_c471 (tS : tsT) (v_p1_born : Int32) (P : Int32 → Prop) (l2 : Int32) (l3 : Int32) (l4 : Int32) (l5 : Int32) (v_p1_kept_size : Int32) (v_p1_kept_way : Int32) (f_p1_kept_led : (Nat → Int32)) (v_p1_imageKept : Int32) (v_p1_text_stage : Int32) (v_p1_text_size : Int32) (v_p1_text_told : Int32) (v_p1_text_ringsWhole : Int32) (f_p1_text_led : (Nat → Int32)) (v_p1_text_latest : Int32) (v_p1_text_first : Int32) (v_p1_tape_length : Int32) (f_p1_deeds_maps : (Nat → Int32)) (v_p1_deeds_amount : Int32) (f_p1_chart_led : (Nat → Int32)) (v_p1_text_hasReasons : Int32) (f_p1_text_reasons : (Nat → Int64)) (f_p1_tape_bytes : (Nat → Int32)) (f_p1_chart_turnedLed : (Nat → Int32)) (v_p1_chart_way : Int32) (v_p1_chart_size : Int32) : Prop :=
M_L_at tS (2 : Int32) (fun (r57 : Int32) =>
¬ l2 = 0 ∧ (
M_X8_feed (40 : Int32) v_p1_tape_length f_p1_tape_bytes (fun (r59 : Int32) (m59_0 : (Nat → Int32)) (m59_1 : Int32) =>
∃ n : Nat, LP3 (M_L_law_l493 tS v_p1_born P l2 l3 l4 l5 ((r57 &&& (7 : Int32)) - (r57 &&& (7 : Int32)) / l2 * l2) v_p1_kept_size v_p1_kept_way f_p1_kept_led v_p1_imageKept v_p1_text_stage v_p1_text_size v_p1_text_told v_p1_text_ringsWhole f_p1_text_led v_p1_text_latest v_p1_text_first f_p1_deeds_maps v_p1_deeds_amount f_p1_chart_led v_p1_text_hasReasons f_p1_text_reasons f_p1_chart_turnedLed v_p1_chart_way v_p1_chart_size) n (0 : Int32) m59_1 m59_0)))
def M_L_law_c445 (tS : tsT) (v_p1_born : Int32) (P : Int32 → Prop) (l2 : Int32) (l3 : Int32) (l4 : Int32) (l5 : Int32) (l10 : Int32) (v_p1_kept_size : Int32) (v_p1_kept_way : Int32) (f_p1_kept_led : (Nat → Int32)) (v_p1_imageKept : Int32) (v_p1_text_stage : Int32) (v_p1_text_size : Int32) (v_p1_text_told : Int32) (v_p1_text_ringsWhole : Int32) (f_p1_text_led : (Nat → Int32)) (v_p1_text_latest : Int32) (v_p1_text_first : Int32) (v_p1_tape_length : Int32) (f_p1_deeds_maps : (Nat → Int32)) (v_p1_deeds_amount : Int32) (f_p1_chart_led : (Nat → Int32)) (v_p1_text_hasReasons : Int32) (f_p1_text_reasons : (Nat → Int64)) (f_p1_tape_bytes : (Nat → Int32)) (f_p1_chart_turnedLed : (Nat → Int32)) (v_p1_chart_way : Int32) (v_p1_chart_size : Int32) : Prop :=
M_X8_back v_p1_deeds_amount f_p1_deeds_maps f_p1_chart_led (fun (r53 : Int32) (m53_0 : Int32) (m53_1 : (Nat → Int32)) =>
((r53 = ((if l10 < (9 : Int32) then l10 else (9 : Int32)) - (1 : Int32))) → (
M_X8_map v_p1_chart_size m53_1 (fun (r55 : Int32) =>
((r55 = l3) → (
M_L_law_c471 tS v_p1_born P l2 l3 l4 l5 v_p1_kept_size v_p1_kept_way f_p1_kept_led v_p1_imageKept v_p1_text_stage v_p1_text_size v_p1_text_told v_p1_text_ringsWhole f_p1_text_led v_p1_text_latest v_p1_text_first v_p1_tape_length f_p1_deeds_maps m53_0 m53_1 v_p1_text_hasReasons f_p1_text_reasons f_p1_tape_bytes f_p1_chart_turnedLed v_p1_chart_way v_p1_chart_size)) ∧ (¬ (r55 = l3) → (
P (0 : Int32)))))) ∧ (¬ (r53 = ((if l10 < (9 : Int32) then l10 else (9 : Int32)) - (1 : Int32))) → (
P (0 : Int32))))
def M_L_law_c387 (tS : tsT) (v_p1_born : Int32) (P : Int32 → Prop) (l2 : Int32) (l3 : Int32) (l4 : Int32) (l5 : Int32) (l7 : Int32) (v_p1_kept_size : Int32) (v_p1_kept_way : Int32) (f_p1_kept_led : (Nat → Int32)) (v_p1_imageKept : Int32) (v_p1_text_stage : Int32) (v_p1_text_size : Int32) (v_p1_text_told : Int32) (v_p1_text_ringsWhole : Int32) (f_p1_text_led : (Nat → Int32)) (v_p1_text_latest : Int32) (v_p1_text_first : Int32) (v_p1_tape_length : Int32) (f_p1_deeds_maps : (Nat → Int32)) (v_p1_deeds_amount : Int32) (f_p1_chart_led : (Nat → Int32)) (v_p1_text_hasReasons : Int32) (f_p1_text_reasons : (Nat → Int64)) (f_p1_tape_bytes : (Nat → Int32)) (f_p1_chart_turnedLed : (Nat → Int32)) (v_p1_chart_way : Int32) (v_p1_chart_size : Int32) : Prop :=
M_X8_count (3 : Int32) v_p1_chart_size v_p1_chart_way v_p1_deeds_amount v_p1_tape_length v_p1_born (fun (r44 : Int32) =>
M_X8_lead (0 : Int32) (1 : Int32) v_p1_chart_size f_p1_chart_led v_p1_deeds_amount f_p1_deeds_maps (fun (r45 : Int32) (m45_0 : (Nat → Int32)) (m45_1 : Int32) (m45_2 : (Nat → Int32)) =>
((r45 < 0) → (
P (0 : Int32))) ∧ (¬ (r45 < 0) → (
M_X8_count (3 : Int32) v_p1_chart_size v_p1_chart_way m45_1 v_p1_tape_length v_p1_born (fun (r47 : Int32) =>
((r47 = (if (r44 + (1 : Int32)) < (10 : Int32) then (r44 + (1 : Int32)) else (10 : Int32))) → (
M_X8_back m45_1 m45_0 m45_2 (fun (r49 : Int32) (m49_0 : Int32) (m49_1 : (Nat → Int32)) =>
((r49 = (if r44 < (9 : Int32) then r44 else (9 : Int32))) → (
M_X8_map v_p1_chart_size m49_1 (fun (r51 : Int32) =>
((r51 = l7) → (
M_L_law_c445 tS v_p1_born P l2 l3 l4 l5 r44 v_p1_kept_size v_p1_kept_way f_p1_kept_led v_p1_imageKept v_p1_text_stage v_p1_text_size v_p1_text_told v_p1_text_ringsWhole f_p1_text_led v_p1_text_latest v_p1_text_first v_p1_tape_length m45_0 m49_0 m49_1 v_p1_text_hasReasons f_p1_text_reasons f_p1_tape_bytes f_p1_chart_turnedLed v_p1_chart_way v_p1_chart_size)) ∧ (¬ (r51 = l7) → (
P (0 : Int32)))))) ∧ (¬ (r49 = (if r44 < (9 : Int32) then r44 else (9 : Int32))) → (
P (0 : Int32)))))) ∧ (¬ (r47 = (if (r44 + (1 : Int32)) < (10 : Int32) then (r44 + (1 : Int32)) else (10 : Int32))) → (
P (0 : Int32))))))))
def M_L_law_c376 (tS : tsT) (v_p1_born : Int32) (P : Int32 → Prop) (l2 : Int32) (l3 : Int32) (l4 : Int32) (l5 : Int32) (l7 : Int32) (v_p1_kept_size : Int32) (v_p1_kept_way : Int32) (f_p1_kept_led : (Nat → Int32)) (v_p1_imageKept : Int32) (v_p1_text_stage : Int32) (v_p1_text_size : Int32) (v_p1_text_told : Int32) (v_p1_text_ringsWhole : Int32) (f_p1_text_led : (Nat → Int32)) (v_p1_text_latest : Int32) (v_p1_text_first : Int32) (v_p1_tape_length : Int32) (f_p1_deeds_maps : (Nat → Int32)) (v_p1_deeds_amount : Int32) (f_p1_chart_led : (Nat → Int32)) (v_p1_text_hasReasons : Int32) (f_p1_text_reasons : (Nat → Int64)) (f_p1_tape_bytes : (Nat → Int32)) (f_p1_chart_turnedLed : (Nat → Int32)) (v_p1_chart_way : Int32) (v_p1_chart_size : Int32) : Prop :=
M_X8_rings (3 : Int32) v_p1_chart_size f_p1_chart_led (fun (r42 : Int32) =>
((r42 = (1 : Int32)) → (
M_L_law_c387 tS v_p1_born P l2 l3 l4 l5 l7 v_p1_kept_size v_p1_kept_way f_p1_kept_led v_p1_imageKept v_p1_text_stage v_p1_text_size v_p1_text_told v_p1_text_ringsWhole f_p1_text_led v_p1_text_latest v_p1_text_first v_p1_tape_length f_p1_deeds_maps v_p1_deeds_amount f_p1_chart_led v_p1_text_hasReasons f_p1_text_reasons f_p1_tape_bytes f_p1_chart_turnedLed v_p1_chart_way v_p1_chart_size)) ∧ (¬ (r42 = (1 : Int32)) → (
P (0 : Int32))))
def M_L_law_b351 (tS : tsT) (v_p1_born : Int32) (K321 : Int32 → Int32 → Int32 → Prop) (P : Int32 → Prop) (l2 : Int32) (l3 : Int32) (l4 : Int32) (l5 : Int32) (l6 : Int32) (l7 : Int32) (l8 : Int32) (l9 : Int32) (l10 : Int32) (s0 : Int32) (s1 : Int32) (v_p1_kept_size : Int32) (v_p1_kept_way : Int32) (f_p1_kept_led : (Nat → Int32)) (v_p1_imageKept : Int32) (v_p1_text_stage : Int32) (v_p1_text_size : Int32) (v_p1_text_told : Int32) (v_p1_text_ringsWhole : Int32) (f_p1_text_led : (Nat → Int32)) (v_p1_text_latest : Int32) (v_p1_text_first : Int32) (v_p1_tape_length : Int32) (f_p1_deeds_maps : (Nat → Int32)) (v_p1_deeds_amount : Int32) (f_p1_chart_led : (Nat → Int32)) (v_p1_text_hasReasons : Int32) (f_p1_text_reasons : (Nat → Int64)) (f_p1_tape_bytes : (Nat → Int32)) (f_p1_chart_turnedLed : (Nat → Int32)) (v_p1_chart_way : Int32) (v_p1_chart_size : Int32) : Prop :=
((s0 = s1) → (
K321 (l8 / (10 : Int32)) (l9 / (10 : Int32)) (l10 + (-1)))) ∧ (¬ (s0 = s1) → (
P (0 : Int32)))
def M_L_law_l321 (tS : tsT) (v_p1_born : Int32) (P : Int32 → Prop) (l2 : Int32) (l3 : Int32) (l4 : Int32) (l5 : Int32) (l6 : Int32) (l7 : Int32) (v_p1_kept_size : Int32) (v_p1_kept_way : Int32) (f_p1_kept_led : (Nat → Int32)) (v_p1_imageKept : Int32) (v_p1_text_stage : Int32) (v_p1_text_size : Int32) (v_p1_text_told : Int32) (v_p1_text_ringsWhole : Int32) (f_p1_text_led : (Nat → Int32)) (v_p1_text_latest : Int32) (v_p1_text_first : Int32) (v_p1_tape_length : Int32) (f_p1_deeds_maps : (Nat → Int32)) (v_p1_deeds_amount : Int32) (f_p1_chart_led : (Nat → Int32)) (v_p1_text_hasReasons : Int32) (f_p1_text_reasons : (Nat → Int64)) (f_p1_tape_bytes : (Nat → Int32)) (f_p1_chart_turnedLed : (Nat → Int32)) (v_p1_chart_way : Int32) (v_p1_chart_size : Int32) (K321 : Int32 → Int32 → Int32 → Prop) (l8 : Int32) (l9 : Int32) (l10 : Int32) : Prop :=
((l10 < 0) → (
M_L_law_c376 tS v_p1_born P l2 l3 l4 l5 l7 v_p1_kept_size v_p1_kept_way f_p1_kept_led v_p1_imageKept v_p1_text_stage v_p1_text_size v_p1_text_told v_p1_text_ringsWhole f_p1_text_led v_p1_text_latest v_p1_text_first v_p1_tape_length f_p1_deeds_maps v_p1_deeds_amount f_p1_chart_led v_p1_text_hasReasons f_p1_text_reasons f_p1_tape_bytes f_p1_chart_turnedLed v_p1_chart_way v_p1_chart_size)) ∧ (¬ (l10 < 0) → (
((((l6 >>> (l10 &&& 31)) &&& (1 : Int32)) = 0) → (
M_L_law_b351 tS v_p1_born K321 P l2 l3 l4 l5 l6 l7 l8 l9 l10 (l9 - l9 / (10 : Int32) * (10 : Int32)) l10 v_p1_kept_size v_p1_kept_way f_p1_kept_led v_p1_imageKept v_p1_text_stage v_p1_text_size v_p1_text_told v_p1_text_ringsWhole f_p1_text_led v_p1_text_latest v_p1_text_first v_p1_tape_length f_p1_deeds_maps v_p1_deeds_amount f_p1_chart_led v_p1_text_hasReasons f_p1_text_reasons f_p1_tape_bytes f_p1_chart_turnedLed v_p1_chart_way v_p1_chart_size)) ∧ (¬ (((l6 >>> (l10 &&& 31)) &&& (1 : Int32)) = 0) → (
M_L_law_b351 tS v_p1_born K321 P l2 l3 l4 l5 l6 l7 l8 l9 l10 (l9 - l9 / (10 : Int32) * (10 : Int32)) (l8 - l8 / (10 : Int32) * (10 : Int32)) v_p1_kept_size v_p1_kept_way f_p1_kept_led v_p1_imageKept v_p1_text_stage v_p1_text_size v_p1_text_told v_p1_text_ringsWhole f_p1_text_led v_p1_text_latest v_p1_text_first v_p1_tape_length f_p1_deeds_maps v_p1_deeds_amount f_p1_chart_led v_p1_text_hasReasons f_p1_text_reasons f_p1_tape_bytes f_p1_chart_turnedLed v_p1_chart_way v_p1_chart_size))))
def M_L_law_c303 (tS : tsT) (v_p1_born : Int32) (P : Int32 → Prop) (l2 : Int32) (l3 : Int32) (l4 : Int32) (l5 : Int32) (l6 : Int32) (v_p1_kept_size : Int32) (v_p1_kept_way : Int32) (f_p1_kept_led : (Nat → Int32)) (v_p1_imageKept : Int32) (v_p1_text_stage : Int32) (v_p1_text_size : Int32) (v_p1_text_told : Int32) (v_p1_text_ringsWhole : Int32) (f_p1_text_led : (Nat → Int32)) (v_p1_text_latest : Int32) (v_p1_text_first : Int32) (v_p1_tape_length : Int32) (f_p1_deeds_maps : (Nat → Int32)) (v_p1_deeds_amount : Int32) (f_p1_chart_led : (Nat → Int32)) (v_p1_text_hasReasons : Int32) (f_p1_text_reasons : (Nat → Int64)) (f_p1_tape_bytes : (Nat → Int32)) (f_p1_chart_turnedLed : (Nat → Int32)) (v_p1_chart_way : Int32) (v_p1_chart_size : Int32) : Prop :=
M_X8_map v_p1_chart_size f_p1_chart_led (fun (r38 : Int32) =>
∃ n : Nat, LP3 (M_L_law_l321 tS v_p1_born P l2 l3 l4 l5 l6 r38 v_p1_kept_size v_p1_kept_way f_p1_kept_led v_p1_imageKept v_p1_text_stage v_p1_text_size v_p1_text_told v_p1_text_ringsWhole f_p1_text_led v_p1_text_latest v_p1_text_first v_p1_tape_length f_p1_deeds_maps v_p1_deeds_amount f_p1_chart_led v_p1_text_hasReasons f_p1_text_reasons f_p1_tape_bytes f_p1_chart_turnedLed v_p1_chart_way v_p1_chart_size) n l3 r38 (l2 - (1 : Int32)))
def M_L_law_c271 (tS : tsT) (v_p1_born : Int32) (P : Int32 → Prop) (l2 : Int32) (l3 : Int32) (l4 : Int32) (l5 : Int32) (l6 : Int32) (v_p1_kept_size : Int32) (v_p1_kept_way : Int32) (f_p1_kept_led : (Nat → Int32)) (v_p1_imageKept : Int32) (v_p1_text_stage : Int32) (v_p1_text_size : Int32) (v_p1_text_told : Int32) (v_p1_text_ringsWhole : Int32) (f_p1_text_led : (Nat → Int32)) (v_p1_text_latest : Int32) (v_p1_text_first : Int32) (v_p1_tape_length : Int32) (f_p1_deeds_maps : (Nat → Int32)) (v_p1_deeds_amount : Int32) (f_p1_chart_led : (Nat → Int32)) (v_p1_text_hasReasons : Int32) (f_p1_text_reasons : (Nat → Int64)) (f_p1_tape_bytes : (Nat → Int32)) (f_p1_chart_turnedLed : (Nat → Int32)) (v_p1_chart_way : Int32) (v_p1_chart_size : Int32) : Prop :=
M_J6_bitCount_0f7a4 l6 (fun (r31 : Int32) =>
M_X8_rings (1 : Int32) v_p1_chart_size f_p1_chart_led (fun (r32 : Int32) =>
((r31 = r32) → (
M_X8_read v_p1_chart_size v_p1_text_stage v_p1_text_size v_p1_text_told v_p1_text_ringsWhole f_p1_text_led v_p1_tape_length f_p1_tape_bytes v_p1_text_first v_p1_text_latest f_p1_chart_led v_p1_deeds_amount f_p1_deeds_maps v_p1_text_hasReasons f_p1_text_reasons (fun (r34 : Int32) (m34_0 : Int32) (m34_1 : Int32) (m34_2 : Int32) (m34_3 : Int32) (m34_4 : (Nat → Int32)) (m34_5 : Int32) (m34_6 : Int32) (m34_7 : Int32) (m34_8 : (Nat → Int32)) (m34_9 : Int32) (m34_10 : (Nat → Int32)) (m34_11 : Int32) (m34_12 : (Nat → Int64)) =>
((r34 = l5) → (
M_X8_count (4 : Int32) v_p1_chart_size v_p1_chart_way m34_9 m34_7 v_p1_born (fun (r36 : Int32) =>
((r36 = 0) → (
M_L_law_c303 tS v_p1_born P l2 l3 l4 l5 l6 v_p1_kept_size v_p1_kept_way f_p1_kept_led v_p1_imageKept m34_0 m34_1 m34_2 m34_3 m34_4 m34_5 m34_6 m34_7 m34_8 m34_9 m34_10 m34_11 m34_12 f_p1_tape_bytes f_p1_chart_turnedLed v_p1_chart_way v_p1_chart_size)) ∧ (¬ (r36 = 0) → (
P (0 : Int32)))))) ∧ (¬ (r34 = l5) → (
P (0 : Int32)))))) ∧ (¬ (r31 = r32) → (
P (0 : Int32)))))
def M_L_law_b215 (tS : tsT) (v_p1_born : Int32) (K35 : Int32 → Int32 → Int32 → (Nat → Int32) → Prop) (K196 : Int32 → Int32 → Int32 → Int32 → (Nat → Int32) → Prop) (P : Int32 → Prop) (l2 : Int32) (l3 : Int32) (l4 : Int32) (l5 : Int32) (l6 : Int32) (l7 : Int32) (l8 : Int32) (l9 : Int32) (l11 : Int32) (l12 : Int32) (v_p1_kept_size : Int32) (v_p1_kept_way : Int32) (f_p1_kept_led : (Nat → Int32)) (v_p1_imageKept : Int32) (v_p1_text_stage : Int32) (v_p1_text_size : Int32) (v_p1_text_told : Int32) (v_p1_text_ringsWhole : Int32) (f_p1_text_led : (Nat → Int32)) (v_p1_text_latest : Int32) (v_p1_text_first : Int32) (v_p1_tape_length : Int32) (f_p1_deeds_maps : (Nat → Int32)) (v_p1_deeds_amount : Int32) (f_p1_chart_led : (Nat → Int32)) (v_p1_text_hasReasons : Int32) (f_p1_text_reasons : (Nat → Int64)) (f_p1_tape_bytes : (Nat → Int32)) (f_p1_chart_turnedLed : (Nat → Int32)) (v_p1_chart_way : Int32) (v_p1_chart_size : Int32) : Prop :=
M_X8_feed ((48 : Int32) + l11) v_p1_tape_length f_p1_tape_bytes (fun (r22 : Int32) (m22_0 : (Nat → Int32)) (m22_1 : Int32) =>
M_X8_of l11 (0 : Int32) v_p1_chart_size f_p1_chart_led (fun (r23 : Int32) =>
K196 (l6 ||| ((1 : Int32) <<< (l11 &&& 31))) r23 (l12 + 1) m22_1 m22_0))
def M_L_law_l196 (tS : tsT) (v_p1_born : Int32) (K35 : Int32 → Int32 → Int32 → (Nat → Int32) → Prop) (P : Int32 → Prop) (l2 : Int32) (l3 : Int32) (l4 : Int32) (l5 : Int32) (l7 : Int32) (l8 : Int32) (l9 : Int32) (v_p1_kept_size : Int32) (v_p1_kept_way : Int32) (f_p1_kept_led : (Nat → Int32)) (v_p1_imageKept : Int32) (v_p1_text_stage : Int32) (v_p1_text_size : Int32) (v_p1_text_told : Int32) (v_p1_text_ringsWhole : Int32) (f_p1_text_led : (Nat → Int32)) (v_p1_text_latest : Int32) (v_p1_text_first : Int32) (f_p1_deeds_maps : (Nat → Int32)) (v_p1_deeds_amount : Int32) (f_p1_chart_led : (Nat → Int32)) (v_p1_text_hasReasons : Int32) (f_p1_text_reasons : (Nat → Int64)) (f_p1_chart_turnedLed : (Nat → Int32)) (v_p1_chart_way : Int32) (v_p1_chart_size : Int32) (K196 : Int32 → Int32 → Int32 → Int32 → (Nat → Int32) → Prop) (l6 : Int32) (l11 : Int32) (l12 : Int32) (v_p1_tape_length : Int32) (f_p1_tape_bytes : (Nat → Int32)) : Prop :=
((l9 ≤ l12) → (
M_X8_feed (41 : Int32) v_p1_tape_length f_p1_tape_bytes (fun (r20 : Int32) (m20_0 : (Nat → Int32)) (m20_1 : Int32) =>
((l11 = l8) → (
K35 l6 (l7 + 1) m20_1 m20_0)) ∧ (¬ (l11 = l8) → (
P (0 : Int32)))))) ∧ (¬ (l9 ≤ l12) → (
((l12 ≤ 0) → (
M_L_law_b215 tS v_p1_born K35 K196 P l2 l3 l4 l5 l6 l7 l8 l9 l11 l12 v_p1_kept_size v_p1_kept_way f_p1_kept_led v_p1_imageKept v_p1_text_stage v_p1_text_size v_p1_text_told v_p1_text_ringsWhole f_p1_text_led v_p1_text_latest v_p1_text_first v_p1_tape_length f_p1_deeds_maps v_p1_deeds_amount f_p1_chart_led v_p1_text_hasReasons f_p1_text_reasons f_p1_tape_bytes f_p1_chart_turnedLed v_p1_chart_way v_p1_chart_size)) ∧ (¬ (l12 ≤ 0) → (
M_X8_feed (32 : Int32) v_p1_tape_length f_p1_tape_bytes (fun (r25 : Int32) (m25_0 : (Nat → Int32)) (m25_1 : Int32) =>
M_L_law_b215 tS v_p1_born K35 K196 P l2 l3 l4 l5 l6 l7 l8 l9 l11 l12 v_p1_kept_size v_p1_kept_way f_p1_kept_led v_p1_imageKept v_p1_text_stage v_p1_text_size v_p1_text_told v_p1_text_ringsWhole f_p1_text_led v_p1_text_latest v_p1_text_first m25_1 f_p1_deeds_maps v_p1_deeds_amount f_p1_chart_led v_p1_text_hasReasons f_p1_text_reasons m25_0 f_p1_chart_turnedLed v_p1_chart_way v_p1_chart_size)))))
def M_L_law_b177 (tS : tsT) (v_p1_born : Int32) (K35 : Int32 → Int32 → Int32 → (Nat → Int32) → Prop) (P : Int32 → Prop) (l2 : Int32) (l3 : Int32) (l4 : Int32) (l5 : Int32) (l6 : Int32) (l7 : Int32) (l8 : Int32) (l9 : Int32) (s0 : Int32) (s1 : Int32) (v_p1_kept_size : Int32) (v_p1_kept_way : Int32) (f_p1_kept_led : (Nat → Int32)) (v_p1_imageKept : Int32) (v_p1_text_stage : Int32) (v_p1_text_size : Int32) (v_p1_text_told : Int32) (v_p1_text_ringsWhole : Int32) (f_p1_text_led : (Nat → Int32)) (v_p1_text_latest : Int32) (v_p1_text_first : Int32) (v_p1_tape_length : Int32) (f_p1_deeds_maps : (Nat → Int32)) (v_p1_deeds_amount : Int32) (f_p1_chart_led : (Nat → Int32)) (v_p1_text_hasReasons : Int32) (f_p1_text_reasons : (Nat → Int64)) (f_p1_tape_bytes : (Nat → Int32)) (f_p1_chart_turnedLed : (Nat → Int32)) (v_p1_chart_way : Int32) (v_p1_chart_size : Int32) : Prop :=
((s0 = s1) → (
M_X8_feed (40 : Int32) v_p1_tape_length f_p1_tape_bytes (fun (r18 : Int32) (m18_0 : (Nat → Int32)) (m18_1 : Int32) =>
∃ n : Nat, LP5 (M_L_law_l196 tS v_p1_born K35 P l2 l3 l4 l5 l7 l8 l9 v_p1_kept_size v_p1_kept_way f_p1_kept_led v_p1_imageKept v_p1_text_stage v_p1_text_size v_p1_text_told v_p1_text_ringsWhole f_p1_text_led v_p1_text_latest v_p1_text_first f_p1_deeds_maps v_p1_deeds_amount f_p1_chart_led v_p1_text_hasReasons f_p1_text_reasons f_p1_chart_turnedLed v_p1_chart_way v_p1_chart_size) n l6 l8 (0 : Int32) m18_1 m18_0))) ∧ (¬ (s0 = s1) → (
P (0 : Int32)))
def M_L_law_b153 (tS : tsT) (v_p1_born : Int32) (K35 : Int32 → Int32 → Int32 → (Nat → Int32) → Prop) (P : Int32 → Prop) (l2 : Int32) (l3 : Int32) (l4 : Int32) (l5 : Int32) (l6 : Int32) (l7 : Int32) (l8 : Int32) (l9 : Int32) (s0 : Int32) (s1 : Int32) (v_p1_kept_size : Int32) (v_p1_kept_way : Int32) (f_p1_kept_led : (Nat → Int32)) (v_p1_imageKept : Int32) (v_p1_text_stage : Int32) (v_p1_text_size : Int32) (v_p1_text_told : Int32) (v_p1_text_ringsWhole : Int32) (f_p1_text_led : (Nat → Int32)) (v_p1_text_latest : Int32) (v_p1_text_first : Int32) (v_p1_tape_length : Int32) (f_p1_deeds_maps : (Nat → Int32)) (v_p1_deeds_amount : Int32) (f_p1_chart_led : (Nat → Int32)) (v_p1_text_hasReasons : Int32) (f_p1_text_reasons : (Nat → Int64)) (f_p1_tape_bytes : (Nat → Int32)) (f_p1_chart_turnedLed : (Nat → Int32)) (v_p1_chart_way : Int32) (v_p1_chart_size : Int32) : Prop :=
((s0 = s1) → (
M_X8_taken l7 (1 : Int32) v_p1_chart_size f_p1_chart_led (fun (r16 : Int32) =>
(((l9 - l9 / (2 : Int32) * (2 : Int32)) = 0) → (
M_L_law_b177 tS v_p1_born K35 P l2 l3 l4 l5 l6 l7 l8 l9 r16 l9 v_p1_kept_size v_p1_kept_way f_p1_kept_led v_p1_imageKept v_p1_text_stage v_p1_text_size v_p1_text_told v_p1_text_ringsWhole f_p1_text_led v_p1_text_latest v_p1_text_first v_p1_tape_length f_p1_deeds_maps v_p1_deeds_amount f_p1_chart_led v_p1_text_hasReasons f_p1_text_reasons f_p1_tape_bytes f_p1_chart_turnedLed v_p1_chart_way v_p1_chart_size)) ∧ (¬ ((l9 - l9 / (2 : Int32) * (2 : Int32)) = 0) → (
M_L_law_b177 tS v_p1_born K35 P l2 l3 l4 l5 l6 l7 l8 l9 r16 (-13 : Int32) v_p1_kept_size v_p1_kept_way f_p1_kept_led v_p1_imageKept v_p1_text_stage v_p1_text_size v_p1_text_told v_p1_text_ringsWhole f_p1_text_led v_p1_text_latest v_p1_text_first v_p1_tape_length f_p1_deeds_maps v_p1_deeds_amount f_p1_chart_led v_p1_text_hasReasons f_p1_text_reasons f_p1_tape_bytes f_p1_chart_turnedLed v_p1_chart_way v_p1_chart_size))))) ∧ (¬ (s0 = s1) → (
P (0 : Int32)))
def M_L_law_b103 (tS : tsT) (v_p1_born : Int32) (K35 : Int32 → Int32 → Int32 → (Nat → Int32) → Prop) (P : Int32 → Prop) (l2 : Int32) (l3 : Int32) (l4 : Int32) (l5 : Int32) (l6 : Int32) (l7 : Int32) (l8 : Int32) (l9 : Int32) (l10 : Int32) (s0 : Int32) (s1 : Int32) (v_p1_kept_size : Int32) (v_p1_kept_way : Int32) (f_p1_kept_led : (Nat → Int32)) (v_p1_imageKept : Int32) (v_p1_text_stage : Int32) (v_p1_text_size : Int32) (v_p1_text_told : Int32) (v_p1_text_ringsWhole : Int32) (f_p1_text_led : (Nat → Int32)) (v_p1_text_latest : Int32) (v_p1_text_first : Int32) (v_p1_tape_length : Int32) (f_p1_deeds_maps : (Nat → Int32)) (v_p1_deeds_amount : Int32) (f_p1_chart_led : (Nat → Int32)) (v_p1_text_hasReasons : Int32) (f_p1_text_reasons : (Nat → Int64)) (f_p1_tape_bytes : (Nat → Int32)) (f_p1_chart_turnedLed : (Nat → Int32)) (v_p1_chart_way : Int32) (v_p1_chart_size : Int32) : Prop :=
((s0 = s1) → (
M_X8_taken l7 l10 v_p1_chart_size f_p1_chart_led (fun (r10 : Int32) =>
((r10 = l9) → (
M_X8_taken l7 (0 : Int32) v_p1_chart_size f_p1_chart_led (fun (r12 : Int32) =>
((r12 = l9) → (
M_X8_taken l7 (2 : Int32) v_p1_chart_size f_p1_chart_led (fun (r14 : Int32) =>
(((l9 - l9 / (2 : Int32) * (2 : Int32)) = (1 : Int32)) → (
M_L_law_b153 tS v_p1_born K35 P l2 l3 l4 l5 l6 l7 l8 l9 r14 l9 v_p1_kept_size v_p1_kept_way f_p1_kept_led v_p1_imageKept v_p1_text_stage v_p1_text_size v_p1_text_told v_p1_text_ringsWhole f_p1_text_led v_p1_text_latest v_p1_text_first v_p1_tape_length f_p1_deeds_maps v_p1_deeds_amount f_p1_chart_led v_p1_text_hasReasons f_p1_text_reasons f_p1_tape_bytes f_p1_chart_turnedLed v_p1_chart_way v_p1_chart_size)) ∧ (¬ ((l9 - l9 / (2 : Int32) * (2 : Int32)) = (1 : Int32)) → (
M_L_law_b153 tS v_p1_born K35 P l2 l3 l4 l5 l6 l7 l8 l9 r14 (-13 : Int32) v_p1_kept_size v_p1_kept_way f_p1_kept_led v_p1_imageKept v_p1_text_stage v_p1_text_size v_p1_text_told v_p1_text_ringsWhole f_p1_text_led v_p1_text_latest v_p1_text_first v_p1_tape_length f_p1_deeds_maps v_p1_deeds_amount f_p1_chart_led v_p1_text_hasReasons f_p1_text_reasons f_p1_tape_bytes f_p1_chart_turnedLed v_p1_chart_way v_p1_chart_size))))) ∧ (¬ (r12 = l9) → (
P (0 : Int32)))))) ∧ (¬ (r10 = l9) → (
P (0 : Int32)))))) ∧ (¬ (s0 = s1) → (
P (0 : Int32)))
def M_L_law_l35 (tS : tsT) (v_p1_born : Int32) (P : Int32 → Prop) (l2 : Int32) (l3 : Int32) (l4 : Int32) (l5 : Int32) (v_p1_kept_size : Int32) (v_p1_kept_way : Int32) (f_p1_kept_led : (Nat → Int32)) (v_p1_imageKept : Int32) (v_p1_text_stage : Int32) (v_p1_text_size : Int32) (v_p1_text_told : Int32) (v_p1_text_ringsWhole : Int32) (f_p1_text_led : (Nat → Int32)) (v_p1_text_latest : Int32) (v_p1_text_first : Int32) (f_p1_deeds_maps : (Nat → Int32)) (v_p1_deeds_amount : Int32) (f_p1_chart_led : (Nat → Int32)) (v_p1_text_hasReasons : Int32) (f_p1_text_reasons : (Nat → Int64)) (f_p1_chart_turnedLed : (Nat → Int32)) (v_p1_chart_way : Int32) (v_p1_chart_size : Int32) (K35 : Int32 → Int32 → Int32 → (Nat → Int32) → Prop) (l6 : Int32) (l7 : Int32) (v_p1_tape_length : Int32) (f_p1_tape_bytes : (Nat → Int32)) : Prop :=
((l5 ≤ l7) → (
M_L_law_c271 tS v_p1_born P l2 l3 l4 l5 l6 v_p1_kept_size v_p1_kept_way f_p1_kept_led v_p1_imageKept v_p1_text_stage v_p1_text_size v_p1_text_told v_p1_text_ringsWhole f_p1_text_led v_p1_text_latest v_p1_text_first v_p1_tape_length f_p1_deeds_maps v_p1_deeds_amount f_p1_chart_led v_p1_text_hasReasons f_p1_text_reasons f_p1_tape_bytes f_p1_chart_turnedLed v_p1_chart_way v_p1_chart_size)) ∧ (¬ (l5 ≤ l7) → (
M_X8_ring l7 (2 : Int32) v_p1_chart_size f_p1_chart_led (fun (r6 : Int32) =>
M_X8_ring l7 (1 : Int32) v_p1_chart_size f_p1_chart_led (fun (r7 : Int32) =>
M_X8_ring l7 (0 : Int32) v_p1_chart_size f_p1_chart_led (fun (r8 : Int32) =>
((r7 = (1 : Int32)) → (
M_L_law_b103 tS v_p1_born K35 P l2 l3 l4 l5 l6 l7 r6 r7 r8 r8 (3 : Int32) v_p1_kept_size v_p1_kept_way f_p1_kept_led v_p1_imageKept v_p1_text_stage v_p1_text_size v_p1_text_told v_p1_text_ringsWhole f_p1_text_led v_p1_text_latest v_p1_text_first v_p1_tape_length f_p1_deeds_maps v_p1_deeds_amount f_p1_chart_led v_p1_text_hasReasons f_p1_text_reasons f_p1_tape_bytes f_p1_chart_turnedLed v_p1_chart_way v_p1_chart_size)) ∧ (¬ (r7 = (1 : Int32)) → (
((r7 = (2 : Int32)) → (
M_L_law_b103 tS v_p1_born K35 P l2 l3 l4 l5 l6 l7 r6 r7 r8 r8 (4 : Int32) v_p1_kept_size v_p1_kept_way f_p1_kept_led v_p1_imageKept v_p1_text_stage v_p1_text_size v_p1_text_told v_p1_text_ringsWhole f_p1_text_led v_p1_text_latest v_p1_text_first v_p1_tape_length f_p1_deeds_maps v_p1_deeds_amount f_p1_chart_led v_p1_text_hasReasons f_p1_text_reasons f_p1_tape_bytes f_p1_chart_turnedLed v_p1_chart_way v_p1_chart_size)) ∧ (¬ (r7 = (2 : Int32)) → (
(((r7 - r7 / (2 : Int32) * (2 : Int32)) = 0) → (
M_L_law_b103 tS v_p1_born K35 P l2 l3 l4 l5 l6 l7 r6 r7 r8 r8 (1 : Int32) v_p1_kept_size v_p1_kept_way f_p1_kept_led v_p1_imageKept v_p1_text_stage v_p1_text_size v_p1_text_told v_p1_text_ringsWhole f_p1_text_led v_p1_text_latest v_p1_text_first v_p1_tape_length f_p1_deeds_maps v_p1_deeds_amount f_p1_chart_led v_p1_text_hasReasons f_p1_text_reasons f_p1_tape_bytes f_p1_chart_turnedLed v_p1_chart_way v_p1_chart_size)) ∧ (¬ ((r7 - r7 / (2 : Int32) * (2 : Int32)) = 0) → (
M_L_law_b103 tS v_p1_born K35 P l2 l3 l4 l5 l6 l7 r6 r7 r8 r8 (2 : Int32) v_p1_kept_size v_p1_kept_way f_p1_kept_led v_p1_imageKept v_p1_text_stage v_p1_text_size v_p1_text_told v_p1_text_ringsWhole f_p1_text_led v_p1_text_latest v_p1_text_first v_p1_tape_length f_p1_deeds_maps v_p1_deeds_amount f_p1_chart_led v_p1_text_hasReasons f_p1_text_reasons f_p1_tape_bytes f_p1_chart_turnedLed v_p1_chart_way v_p1_chart_size)))))))))))
def M_L_law (tS : tsT) (v_p1_chart_size : Int32) (v_p1_chart_way : Int32) (v_p1_deeds_amount : Int32) (v_p1_tape_length : Int32) (v_p1_born : Int32) (f_p1_chart_led : (Nat → Int32)) (v_p1_kept_size : Int32) (v_p1_kept_way : Int32) (f_p1_kept_led : (Nat → Int32)) (v_p1_imageKept : Int32) (v_p1_text_stage : Int32) (v_p1_text_size : Int32) (v_p1_text_told : Int32) (v_p1_text_ringsWhole : Int32) (f_p1_text_led : (Nat → Int32)) (f_p1_tape_bytes : (Nat → Int32)) (v_p1_text_first : Int32) (v_p1_text_latest : Int32) (f_p1_deeds_maps : (Nat → Int32)) (v_p1_text_hasReasons : Int32) (f_p1_text_reasons : (Nat → Int64)) (f_p1_chart_turnedLed : (Nat → Int32)) (P : Int32 → Prop) : Prop :=
M_X8_count (0 : Int32) v_p1_chart_size v_p1_chart_way v_p1_deeds_amount v_p1_tape_length v_p1_born (fun (r1 : Int32) =>
M_X8_map v_p1_chart_size f_p1_chart_led (fun (r2 : Int32) =>
M_X8_image v_p1_chart_size v_p1_kept_size v_p1_chart_way v_p1_kept_way f_p1_chart_led f_p1_kept_led v_p1_imageKept (fun (r3 : Int32) (m3_0 : Int32) (m3_1 : Int32) (m3_2 : (Nat → Int32)) (m3_3 : Int32) =>
M_X8_rings (0 : Int32) v_p1_chart_size f_p1_chart_led (fun (r4 : Int32) =>
∃ n : Nat, LP4 (M_L_law_l35 tS v_p1_born P r1 r2 r3 r4 m3_0 m3_1 m3_2 m3_3 v_p1_text_stage v_p1_text_size v_p1_text_told v_p1_text_ringsWhole f_p1_text_led v_p1_text_latest v_p1_text_first f_p1_deeds_maps v_p1_deeds_amount f_p1_chart_led v_p1_text_hasReasons f_p1_text_reasons f_p1_chart_turnedLed v_p1_chart_way v_p1_chart_size) n (0 : Int32) (0 : Int32) v_p1_tape_length f_p1_tape_bytes))))
