def g_shX0 (a : Nat) : Option (Nat × Nat × Nat) := match a with
  | 0 => some (2, 11, 13)
  | 1 => some (2, 9, 18)
  | 2 => some (1, 1, 6)
  | 3 => some (2, 3, 0)
  | 4 => some (2, 10, 0)
  | 5 => some (2, 6, 0)
  | 6 => some (2, 1, 0)
  | 7 => some (2, 4, 0)
  | 8 => some (2, 5, 0)
  | 9 => some (0, 0, 6)
  | 10 => some (0, 0, 6)
  | 11 => some (0, 0, 6)
  | 12 => some (0, 0, 6)
  | 13 => some (0, 0, 36)
  | 14 => some (0, 0, 102)
  | 15 => some (0, 0, 6)
  | 16 => some (0, 0, 5)
  | 17 => some (0, 0, 24)
  | 18 => some (2, 7, 6)
  | 19 => some (0, 0, 8)
  | 20 => some (0, 0, 8)
  | 21 => some (0, 0, 8)
  | 22 => some (0, 0, 0)
  | 23 => some (2, 9, 18)
  | 24 => some (1, 1, 6)
  | 25 => some (2, 3, 0)
  | 26 => some (2, 10, 0)
  | 27 => some (2, 6, 0)
  | 28 => some (2, 1, 0)
  | 29 => some (2, 4, 0)
  | 30 => some (2, 5, 0)
  | 31 => some (0, 0, 6)
  | 32 => some (0, 0, 6)
  | 33 => some (0, 0, 6)
  | 34 => some (0, 0, 6)
  | 35 => some (0, 0, 36)
  | 36 => some (0, 0, 102)
  | 37 => some (0, 0, 6)
  | 38 => some (0, 0, 5)
  | 39 => some (0, 0, 24)
  | 40 => some (2, 7, 6)
  | 41 => some (0, 0, 8)
  | 42 => some (0, 0, 8)
  | 43 => some (0, 0, 8)
  | 44 => some (0, 0, 0)
  | 45 => some (2, 8, 8)
  | 46 => some (0, 0, 200)
  | 47 => some (0, 0, 201)
  | 48 => some (0, 0, 201)
  | 49 => some (0, 0, 201)
  | 50 => some (2, 0, 5)
  | 51 => some (0, 0, 30)
  | 52 => some (0, 0, 12)
  | 53 => some (0, 0, 4)
  | 54 => some (0, 0, 4)
  | 55 => some (1, 2, 4)
  | 56 => some (0, 0, 40)
  | 57 => some (0, 0, 40)
  | 58 => some (0, 0, 40)
  | 59 => some (0, 0, 40)
  | 60 => some (0, 0, 4)
  | 61 => some (0, 0, 4)
  | 62 => some (0, 0, 4)
  | _ => none
def g_rfX0 (a j : Nat) : Option Nat := match a, j with
  | 0, 0 => some 1
  | 0, 1 => some 23
  | 0, 2 => some 45
  | 0, 3 => some 50
  | 0, 4 => some 52
  | 0, 5 => some 53
  | 0, 6 => some 54
  | 0, 7 => some 55
  | 0, 8 => some 60
  | 0, 9 => some 61
  | 0, 10 => some 62
  | 1, 0 => some 2
  | 1, 1 => some 9
  | 1, 2 => some 10
  | 1, 3 => some 11
  | 1, 4 => some 12
  | 1, 5 => some 13
  | 1, 6 => some 14
  | 1, 7 => some 15
  | 1, 8 => some 16
  | 1, 9 => some 17
  | 2, 0 => some 3
  | 2, 1 => some 4
  | 2, 2 => some 5
  | 2, 3 => some 6
  | 2, 4 => some 7
  | 2, 5 => some 8
  | 18, 0 => some 19
  | 18, 1 => some 20
  | 18, 2 => some 21
  | 18, 3 => some 22
  | 23, 0 => some 24
  | 23, 1 => some 31
  | 23, 2 => some 32
  | 23, 3 => some 33
  | 23, 4 => some 34
  | 23, 5 => some 35
  | 23, 6 => some 36
  | 23, 7 => some 37
  | 23, 8 => some 38
  | 23, 9 => some 39
  | 24, 0 => some 25
  | 24, 1 => some 26
  | 24, 2 => some 27
  | 24, 3 => some 28
  | 24, 4 => some 29
  | 24, 5 => some 30
  | 40, 0 => some 41
  | 40, 1 => some 42
  | 40, 2 => some 43
  | 40, 3 => some 44
  | 45, 0 => some 46
  | 45, 1 => some 47
  | 45, 2 => some 48
  | 45, 3 => some 49
  | 50, 0 => some 51
  | 55, 0 => some 56
  | 55, 1 => some 57
  | 55, 2 => some 58
  | 55, 3 => some 59
  | _, _ => none
/-- shapes: the first 63 cells, then Rules of five cells each (the object, kinds, wills, ends, steps), the i-th with dyn i steps' numbers -/
def g_shX (dyn : Nat → Nat) (k a : Nat) : Option (Nat × Nat × Nat) :=
  if a < 63 then g_shX0 a else if a < 63 + k then (if (a - 63) % 5 = 0 then some (2, 7, 6) else if (a - 63) % 5 = 4 then some (0, 0, dyn ((a - 63) / 5)) else some (0, 0, 8)) else none
/-- references: t is the town's RULES, s the kept town's -/
def g_rfX (t s a j : Nat) : Option Nat :=
  if a < 63 then (if a = 1 ∧ j = 10 then some t else if a = 23 ∧ j = 10 then some s else g_rfX0 a j) else if (a - 63) % 5 = 0 ∧ j < 4 then some (a + 1 + j) else none
/-- the class's world: its first cells lie from b on, those made later from b2 on -/
def g_XX (D : va_G) (cA : Nat → ClassId) (b b2 : Nat) (dyn : Nat → Nat) : g_X := (D, cA, fun a => if a < 63 then b + a else b2 + (a - 63), g_shX dyn, fun q => (b ≤ q ∧ q < b + 63) ∨ b2 ≤ q)
/-- RULES at r, with room for L numbers of steps -/
def g_RO (X : g_X) (k : Nat) (ρ : g_R) (r L : Nat) : Prop := X.2.2.2.1 k r = some (2, 7, 6) ∧ X.2.2.2.1 k (r + 1) = some (0, 0, 8) ∧ X.2.2.2.1 k (r + 2) = some (0, 0, 8) ∧ X.2.2.2.1 k (r + 3) = some (0, 0, 8) ∧ X.2.2.2.1 k (r + 4) = some (0, 0, L) ∧ ρ r 0 = some (r + 1) ∧ ρ r 1 = some (r + 2) ∧ ρ r 2 = some (r + 3) ∧ ρ r 3 = some (r + 4)
theorem g_shS {D : va_G} {cA : Nat → ClassId} {b b2 k j : Nat} {dyn : Nat → Nat} {i : Int32} (h : g_ix 4 i = some j) : (g_XX D cA b b2 dyn).2.2.2.1 k (56 + j) = some (0, 0, 40) := by
  have h3 := (g_ix_some h).2.2
  match j, h3 with
  | 0, _ => rfl
  | 1, _ => rfl
  | 2, _ => rfl
  | 3, _ => rfl
theorem g_rfS {t s j : Nat} (h : j < 4) : g_rfX t s 55 j = some (56 + j) := by
  match j, h with
  | 0, _ => rfl
  | 1, _ => rfl
  | 2, _ => rfl
  | 3, _ => rfl
/-- a sign of the names' text -/
def g_ch (i : Int32) : Option Int32 := if i < 0 ∨ 144 ≤ i.toNatClampNeg then none else some (g_by.getD i.toNatClampNeg 0)
def f_X11_isBetween  (a1 : Int32) (a2 : Int32) (a3 : Int32) : Int32 :=
  if a1 < a2 then
(0)
else
(if a1 > a3 then
(0)
else
(1))
def f_X11_isKind  (a1 : Int32) : Int32 :=
  (f_X11_isBetween a1 1 5)
def f_X11_isWarm  (a1 : Int32) : Int32 :=
  (f_X11_isBetween a1 0 9)
def f_X11_isPlace  (a1 : Int32) : Int32 :=
  (f_X11_isBetween a1 0 15)
def f_X11_isFire  (a1 : Int32) : Int32 :=
  (f_X11_isBetween a1 1 9)
def f_X3_yearns_4  (a1 : Int32) (a2 : Int32) (a3 : Int32) (a4 : Int32) : Int32 :=
  (a1 - a2)
def f_X10_yearns_4  (a1 : Int32) (a2 : Int32) (a3 : Int32) (a4 : Int32) : Int32 :=
  ((f_X3_yearns_4 a1 a2 a3 a4) - 3)
def f_X3_yearns_5  (a1 : Int32) (a2 : Int32) (a3 : Int32) (a4 : Int32) : Int32 :=
  (a1 - a2)
def f_X6_yearns_5  (a1 : Int32) (a2 : Int32) (a3 : Int32) (a4 : Int32) : Int32 :=
  if a1 < a3 then
((-1))
else
((f_X3_yearns_5 a1 a2 a3 a4))
def f_X1_yearns_6  (a1 : Int32) (a2 : Int32) (a3 : Int32) (a4 : Int32) : Int32 :=
  (-1)
def f_X4_yearns_7  (a1 : Int32) (a2 : Int32) (a3 : Int32) (a4 : Int32) : Int32 :=
  a1
def f_X4_yearns_8  (a1 : Int32) (a2 : Int32) (a3 : Int32) (a4 : Int32) : Int32 :=
  a1
def f_X5_yearns_8  (a1 : Int32) (a2 : Int32) (a3 : Int32) (a4 : Int32) : Int32 :=
  if a4 = 0 then
(((f_X4_yearns_8 a1 a2 a3 a4) + 0))
else
(((f_X4_yearns_8 a1 a2 a3 a4) + 2))
def f_X9_settleWish  (a1 : Int32) (a2 : Int32) (μ : g_M) : Option g_M :=
  (g_rd μ 11 6 a1).bind fun x1 =>
(g_rd μ 11 6 a2).bind fun x2 =>
(some ((g_abs (x1 - x2)))).bind fun x3 =>
(g_rd μ 9 6 a1).bind fun x4 =>
if x4 = 1 then
((g_rd μ 10 6 a2).bind fun x6 =>
(g_rd μ 10 6 a1).bind fun x7 =>
if a2 ≤ a1 then
((g_wr μ 13 36 ((a1 * 6) + a2) (f_X10_yearns_4 x6 x3 x7 0)).bind fun μ9 =>
some μ9)
else
((g_wr μ 13 36 ((a1 * 6) + a2) (f_X10_yearns_4 x6 x3 x7 1)).bind fun μ10 =>
some μ10))
else if x4 = 2 then
((g_rd μ 10 6 a2).bind fun x12 =>
(g_rd μ 10 6 a1).bind fun x13 =>
if a2 ≤ a1 then
((g_wr μ 13 36 ((a1 * 6) + a2) (f_X6_yearns_5 x12 x3 x13 0)).bind fun μ15 =>
some μ15)
else
((g_wr μ 13 36 ((a1 * 6) + a2) (f_X6_yearns_5 x12 x3 x13 1)).bind fun μ16 =>
some μ16))
else if x4 = 3 then
((g_rd μ 10 6 a2).bind fun x18 =>
(g_rd μ 10 6 a1).bind fun x19 =>
if a2 ≤ a1 then
((g_wr μ 13 36 ((a1 * 6) + a2) (f_X1_yearns_6 x18 x3 x19 0)).bind fun μ21 =>
some μ21)
else
((g_wr μ 13 36 ((a1 * 6) + a2) (f_X1_yearns_6 x18 x3 x19 1)).bind fun μ22 =>
some μ22))
else if x4 = 4 then
((g_rd μ 10 6 a2).bind fun x24 =>
(g_rd μ 10 6 a1).bind fun x25 =>
if a2 ≤ a1 then
((g_wr μ 13 36 ((a1 * 6) + a2) (f_X4_yearns_7 x24 x3 x25 0)).bind fun μ27 =>
some μ27)
else
((g_wr μ 13 36 ((a1 * 6) + a2) (f_X4_yearns_7 x24 x3 x25 1)).bind fun μ28 =>
some μ28))
else if x4 = 5 then
((g_rd μ 10 6 a2).bind fun x30 =>
(g_rd μ 10 6 a1).bind fun x31 =>
if a2 ≤ a1 then
((g_wr μ 13 36 ((a1 * 6) + a2) (f_X5_yearns_8 x30 x3 x31 0)).bind fun μ33 =>
some μ33)
else
((g_wr μ 13 36 ((a1 * 6) + a2) (f_X5_yearns_8 x30 x3 x31 1)).bind fun μ34 =>
some μ34))
else none
def f_X11_isUnder  (a1 : Int32) (a2 : Int32) (μ : g_M) : Option Int32 :=
  if (f_X11_isBetween a1 0 5) = 0 then
(some 0)
else
((g_ln a1).bind fun x2 =>
if ((x2 >>> (a2 &&& 31)) &&& 1) = 0 then
(some 0)
else
(some 1))
def f_X7_valueOf_16  (a1 : Int32) (μ : g_M) : Option Int32 :=
  if a1 < 10000 then
(some a1)
else
(if (a1 - 10000) ≥ (Int32.ofNat 5) then
(some a1)
else
((g_rd μ 16 5 (a1 - 10000)).bind fun x3 =>
some x3))
def f_X7_compares_16 (r : Nat) (L : Nat) (a1 : Int32) (μ : g_M) : Option Int32 :=
  (g_rd μ (r + 4) L ((a1 * 3) + 1)).bind fun x1 =>
(f_X7_valueOf_16 x1 μ).bind fun x2 =>
(g_rd μ (r + 4) L ((a1 * 3) + 2)).bind fun x4 =>
(f_X7_valueOf_16 x4 μ).bind fun x5 =>
(g_rd μ (r + 4) L (a1 * 3)).bind fun x7 =>
if x7 = 0 then
(if x2 ≥ x5 then
(some 0)
else
(some 1))
else if x7 = 1 then
(if x2 = x5 then
(some 1)
else
(some 0))
else 
(if x2 ≤ x5 then
(some 0)
else
(some 1))
def f_X7_holds_16_L20 (N : Nat) (r : Nat) (L : Nat) : Nat → Int32 → Int32 → Int32 → g_M → Option (Int32)
  | 0, _, _, _, _ => none
  | n + 1, x_1, x_3, x_4, μ => (g_rd μ (r + 3) 8 x_1).bind fun x3 =>
if x_4 ≥ x3 then
(some x_3)
else
((g_rd μ (r + 4) L (x_4 * 3)).bind fun x5 =>
if x5 > 2 then
(if x5 = 3 then
((some ((x_3 ^^^ 1))).bind fun x13 =>
f_X7_holds_16_L20 N r L n x_1 x13 (x_4 + 1) μ)
else
((some ((x_3 &&& 1))).bind fun x8 =>
(some ((g_ush x_3 1))).bind fun x9 =>
if x5 = 4 then
((some ((x9 &&& (x8 ||| (-2))))).bind fun x12 =>
f_X7_holds_16_L20 N r L n x_1 x12 (x_4 + 1) μ)
else
((some ((x9 ||| x8))).bind fun x11 =>
f_X7_holds_16_L20 N r L n x_1 x11 (x_4 + 1) μ)))
else
((f_X7_compares_16 r L x_4 μ).bind fun x14 =>
if x14 = 0 then
((some (((x_3 <<< (1 &&& 31)) ||| 0))).bind fun x17 =>
f_X7_holds_16_L20 N r L n x_1 x17 (x_4 + 1) μ)
else
((some (((x_3 <<< (1 &&& 31)) ||| 1))).bind fun x18 =>
f_X7_holds_16_L20 N r L n x_1 x18 (x_4 + 1) μ)))
def f_X7_holds_16 (N : Nat) (r : Nat) (L : Nat) (a1 : Int32) (μ : g_M) : Option Int32 :=
  if a1 = 0 then
((f_X7_holds_16_L20 N r L N a1 1 0 μ).bind fun x6 =>
if (x6 &&& 1) = 0 then
(some 0)
else
(some 1))
else
((g_rd μ (r + 3) 8 (a1 - 1)).bind fun x2 =>
(f_X7_holds_16_L20 N r L N a1 1 x2 μ).bind fun x3 =>
if (x3 &&& 1) = 0 then
(some 0)
else
(some 1))
def f_X7_tellsOf_16_L2 (N : Nat) (r : Nat) (L : Nat) : Nat → Int32 → Int32 → g_M → Option ((Int32) ⊕ (Unit))
  | 0, _, _, _ => none
  | n + 1, x_1, x_3, μ => if x_3 ≥ (μ r 4) then
(some (.inr ()))
else
((g_rd μ (r + 1) 8 x_3).bind fun x2 =>
(f_X11_isUnder x_1 x2 μ).bind fun x3 =>
if x3 = 0 then
(f_X7_tellsOf_16_L2 N r L n x_1 (x_3 + 1) μ)
else
((f_X7_holds_16 N r L x_3 μ).bind fun x6 =>
if x6 = 0 then
(f_X7_tellsOf_16_L2 N r L n x_1 (x_3 + 1) μ)
else
((g_rd μ (r + 2) 8 x_3).bind fun x9 =>
some (.inl x9))))
def f_X7_tellsOf_16 (N : Nat) (r : Nat) (L : Nat) (a1 : Int32) (μ : g_M) : Option Int32 :=
  (f_X7_tellsOf_16_L2 N r L N a1 0 μ).bind fun w2 => (match w2 with
  | .inl q => some q
  | .inr _ => (
some 0))
def f_X9_settleWills_L45 (N : Nat) (t : Nat) (L : Nat) : Nat → Int32 → Int32 → g_M → Option (g_M)
  | 0, _, _, _ => none
  | n + 1, x_1, x_2, μ => if x_2 > 16 then
(some μ)
else
((some (g_set μ 16 0 x_2)).bind fun μ9 =>
(g_rd μ9 9 6 x_1).bind fun x10 =>
(f_X7_tellsOf_16 N t L x10 μ9).bind fun x11 =>
(g_wr μ9 14 102 ((x_2 * 6) + x_1) x11).bind fun μ13 =>
f_X9_settleWills_L45 N t L n x_1 (x_2 + 1) μ13)
def f_X9_settleWills (N : Nat) (t : Nat) (L : Nat) (a1 : Int32) (μ : g_M) : Option g_M :=
  (g_rd μ 10 6 a1).bind fun x1 =>
(some (g_set μ 16 1 x1)).bind fun μ2 =>
(g_rd μ2 11 6 a1).bind fun x3 =>
(some (g_set μ2 16 2 x3)).bind fun μ4 =>
(g_rd μ4 12 6 a1).bind fun x5 =>
(some (g_set μ4 16 3 x5)).bind fun μ6 =>
(some (g_set μ6 16 4 a1)).bind fun μ7 =>
(f_X9_settleWills_L45 N t L N a1 0 μ7).bind fun μ8 =>
some μ8
def f_X9_settle_L2 (N : Nat) (t : Nat) (L : Nat) : Nat → Int32 → Int32 → g_M → Option (g_M)
  | 0, _, _, _ => none
  | n + 1, x_1, x_2, μ => if x_2 ≥ (μ 1 11) then
(some μ)
else
(if x_2 = x_1 then
(f_X9_settle_L2 N t L n x_1 (x_2 + 1) μ)
else
((f_X9_settleWish x_1 x_2 μ).bind fun μ5 =>
(f_X9_settleWish x_2 x_1 μ5).bind fun μ8 =>
f_X9_settle_L2 N t L n x_1 (x_2 + 1) μ8))
def f_X9_settle (N : Nat) (t : Nat) (L : Nat) (a1 : Int32) (μ : g_M) : Option g_M :=
  (f_X9_settle_L2 N t L N a1 0 μ).bind fun μ1 =>
(f_X9_settleWills N t L a1 μ1).bind fun μ5 =>
some μ5
def f_X9_addOven (N : Nat) (t : Nat) (L : Nat) (a1 : Int32) (a2 : Int32) (a3 : Int32) (a4 : Int32) (μ : g_M) : Option (Int32 × g_M) :=
  (g_wr μ 9 6 (μ 1 11) a1).bind fun μ1 =>
(g_wr μ1 10 6 (μ 1 11) a2).bind fun μ2 =>
(g_wr μ2 11 6 (μ 1 11) a3).bind fun μ3 =>
(g_wr μ3 12 6 (μ 1 11) a4).bind fun μ4 =>
(some (g_set μ4 1 11 ((μ4 1 11) + 1))).bind fun μ5 =>
(f_X9_settle N t L (μ 1 11) μ5).bind fun μ8 =>
some ((μ 1 11), μ8)
def f_X11_oven (N : Nat) (t : Nat) (L : Nat) (a1 : Int32) (a2 : Int32) (a3 : Int32) (a4 : Int32) (μ : g_M) : Option (Int32 × g_M) :=
  if (f_X11_isKind a1) = 0 then
(some ((-1), μ))
else
(if (f_X11_isWarm a2) = 0 then
(some ((-1), μ))
else
(if (f_X11_isPlace a3) = 0 then
(some ((-1), μ))
else
(if (f_X11_isFire a4) = 0 then
(some ((-1), μ))
else
(if (μ 1 11) < 6 then
((f_X9_addOven N t L a1 a2 a3 a4 μ).bind fun (x6, μ8) =>
some (x6, μ8))
else
(some ((-2), μ))))))
def f_X11_isOven  (a1 : Int32) (μ : g_M) : Int32 :=
  (f_X11_isBetween a1 0 ((μ 1 11) - 1))
def f_X9_awayOf  (a1 : Int32) (a2 : Int32) : Int32 :=
  ((g_ush a1 (4 * a2)) &&& 15)
def f_X9_homeSet_L4 (N : Nat) : Nat → Int32 → Int32 → Int32 → g_M → Option (Int32)
  | 0, _, _, _, _ => none
  | n + 1, x_1, x_2, x_3, μ => if x_3 ≥ (μ 1 11) then
(some x_2)
else
(if (f_X9_awayOf x_1 x_3) = 0 then
((some ((x_2 ||| (1 <<< (x_3 &&& 31))))).bind fun x3 =>
f_X9_homeSet_L4 N n x_1 x3 (x_3 + 1) μ)
else
(f_X9_homeSet_L4 N n x_1 x_2 (x_3 + 1) μ))
def f_X9_homeSet (N : Nat) (a1 : Int32) (μ : g_M) : Option Int32 :=
  (f_X9_homeSet_L4 N N a1 0 0 μ).bind fun x1 =>
some x1
def f_X9_willOf  (a1 : Int32) (a2 : Int32) (μ : g_M) : Option Int32 :=
  (g_rd μ 14 102 ((a2 * 6) + a1)).bind fun x1 =>
some x1
def f_X9_freeSet_L14 (N : Nat) : Nat → Int32 → Int32 → Int32 → g_M → Option (Int32)
  | 0, _, _, _, _ => none
  | n + 1, x_2, x_4, x_5, μ => if x_5 ≥ (μ 1 11) then
(some x_4)
else
((f_X9_willOf x_5 x_2 μ).bind fun x5 =>
if x5 = 1 then
((some ((x_4 &&& ((1 <<< (x_5 &&& 31)) ^^^ (-1))))).bind fun x8 =>
f_X9_freeSet_L14 N n x_2 x8 (x_5 + 1) μ)
else
(f_X9_freeSet_L14 N n x_2 x_4 (x_5 + 1) μ))
def f_X9_freeSet (N : Nat) (a1 : Int32) (a2 : Int32) (a3 : Int32) (μ : g_M) : Option Int32 :=
  (f_X9_homeSet N a1 μ).bind fun x1 =>
(some ((x1 &&& (a3 ^^^ (-1))))).bind fun x3 =>
(f_X9_freeSet_L14 N N a2 x3 0 μ).bind fun x4 =>
some x4
def f_X9_wishOf  (a1 : Int32) (a2 : Int32) (μ : g_M) : Option Int32 :=
  (g_rd μ 13 36 ((a1 * 6) + a2)).bind fun x1 =>
some x1
def f_X9_choiceOf_L35 (N : Nat) : Nat → Int32 → Int32 → Int32 → Int32 → Int32 → g_M → Option (Int32)
  | 0, _, _, _, _, _, _ => none
  | n + 1, x_1, x_2, x_4, x_5, x_6, μ => if x_6 ≥ (μ 1 11) then
(some x_4)
else
(if x_6 = x_1 then
(f_X9_choiceOf_L35 N n x_1 x_2 x_4 x_5 (x_6 + 1) μ)
else
(if ((x_2 >>> (x_6 &&& 31)) &&& 1) = 0 then
(f_X9_choiceOf_L35 N n x_1 x_2 x_4 x_5 (x_6 + 1) μ)
else
((f_X9_wishOf x_1 x_6 μ).bind fun x8 =>
if x8 ≤ x_5 then
(f_X9_choiceOf_L35 N n x_1 x_2 x_4 x_5 (x_6 + 1) μ)
else
((f_X9_wishOf x_1 x_6 μ).bind fun x11 =>
f_X9_choiceOf_L35 N n x_1 x_2 x_6 x11 (x_6 + 1) μ))))
def f_X9_choiceOf (N : Nat) (a1 : Int32) (a2 : Int32) (a3 : Int32) (μ : g_M) : Option Int32 :=
  if ((a2 >>> (a1 &&& 31)) &&& 1) = 0 then
(some 6)
else
((f_X9_willOf a1 a3 μ).bind fun x2 =>
if x2 = 2 then
((f_X9_choiceOf_L35 N N a1 a2 6 3 0 μ).bind fun x7 =>
some x7)
else
((f_X9_choiceOf_L35 N N a1 a2 6 0 0 μ).bind fun x5 =>
some x5))
def f_X3_bakes_4  (a1 : Int32) (a2 : Int32) : Int32 :=
  a1
def f_X10_bakes_4  (a1 : Int32) (a2 : Int32) : Int32 :=
  ((f_X3_bakes_4 a1 a2) / 2)
def f_X3_bakes_5  (a1 : Int32) (a2 : Int32) : Int32 :=
  a1
def f_X6_bakes_5  (a1 : Int32) (a2 : Int32) : Int32 :=
  ((f_X3_bakes_5 a1 a2) * 2)
def f_X3_bakes_6  (a1 : Int32) (a2 : Int32) : Int32 :=
  a1
def f_X6_bakes_6  (a1 : Int32) (a2 : Int32) : Int32 :=
  ((f_X3_bakes_6 a1 a2) * 2)
def f_X1_bakes_6  (a1 : Int32) (a2 : Int32) : Int32 :=
  ((f_X6_bakes_6 a1 a2) + 1)
def f_X3_bakes_7  (a1 : Int32) (a2 : Int32) : Int32 :=
  a1
def f_X3_bakes_8  (a1 : Int32) (a2 : Int32) : Int32 :=
  a1
def f_X5_bakes_8  (a1 : Int32) (a2 : Int32) : Int32 :=
  if (g_rem a2 2) = 0 then
((f_X3_bakes_8 a1 a2))
else
(0)
def f_X9_bakesOf  (a1 : Int32) (a2 : Int32) (μ : g_M) : Option Int32 :=
  (g_rd μ 9 6 a1).bind fun x1 =>
if x1 = 1 then
((g_rd μ 12 6 a1).bind fun x3 =>
some (f_X10_bakes_4 x3 a2))
else if x1 = 2 then
((g_rd μ 12 6 a1).bind fun x5 =>
some (f_X6_bakes_5 x5 a2))
else if x1 = 3 then
((g_rd μ 12 6 a1).bind fun x7 =>
some (f_X1_bakes_6 x7 a2))
else if x1 = 4 then
((g_rd μ 12 6 a1).bind fun x9 =>
some (f_X3_bakes_7 x9 a2))
else if x1 = 5 then
((g_rd μ 12 6 a1).bind fun x11 =>
some (f_X5_bakes_8 x11 a2))
else none
def f_X11_ovenOf (N : Nat) (a1 : Int32) (a2 : Int32) (μ : g_M) : Option Int32 :=
  if (f_X11_isOven a1 μ) = 0 then
(some (-1))
else
(if a2 = 0 then
((g_rd μ 9 6 a1).bind fun x3 =>
some x3)
else if a2 = 1 then
((g_rd μ 10 6 a1).bind fun x5 =>
some x5)
else if a2 = 2 then
((g_rd μ 11 6 a1).bind fun x7 =>
some x7)
else if a2 = 3 then
((g_rd μ 12 6 a1).bind fun x9 =>
some x9)
else if a2 = 4 then
(some (f_X9_awayOf (μ 1 12) a1))
else if a2 = 5 then
((f_X9_bakesOf a1 (μ 1 13) μ).bind fun x12 =>
some x12)
else if a2 = 6 then
((f_X9_willOf a1 (μ 1 13) μ).bind fun x15 =>
some x15)
else if a2 = 7 then
((f_X9_freeSet N (μ 1 12) (μ 1 13) 0 μ).bind fun x18 =>
(f_X9_choiceOf N a1 x18 (μ 1 13) μ).bind fun x20 =>
some x20)
else 
(some (-1)))
def f_X9_replaceAway  (a1 : Int32) (a2 : Int32) (μ : g_M) : Option (Int32 × g_M) :=
  (some ((f_X9_awayOf (μ 1 12) a1))).bind fun x1 =>
(some (g_set μ 1 12 ((μ 1 12) + ((a2 - x1) <<< ((4 * a1) &&& 31))))).bind fun μ2 =>
some (x1, μ2)
def f_X9_replace_12 (N : Nat) (t : Nat) (L : Nat) (a1 : Int32) (a2 : Int32) (μ : g_M) : Option (Int32 × g_M) :=
  (g_rd μ 12 6 a1).bind fun x1 =>
(g_wr μ 12 6 a1 a2).bind fun μ2 =>
(f_X9_settle N t L a1 μ2).bind fun μ5 =>
some (x1, μ5)
def f_X9_replace_11 (N : Nat) (t : Nat) (L : Nat) (a1 : Int32) (a2 : Int32) (μ : g_M) : Option (Int32 × g_M) :=
  (g_rd μ 11 6 a1).bind fun x1 =>
(g_wr μ 11 6 a1 a2).bind fun μ2 =>
(f_X9_settle N t L a1 μ2).bind fun μ5 =>
some (x1, μ5)
def f_X9_replace_10 (N : Nat) (t : Nat) (L : Nat) (a1 : Int32) (a2 : Int32) (μ : g_M) : Option (Int32 × g_M) :=
  (g_rd μ 10 6 a1).bind fun x1 =>
(g_wr μ 10 6 a1 a2).bind fun μ2 =>
(f_X9_settle N t L a1 μ2).bind fun μ5 =>
some (x1, μ5)
def f_X11_change (N : Nat) (t : Nat) (L : Nat) (a1 : Int32) (a2 : Int32) (a3 : Int32) (μ : g_M) : Option (Int32 × g_M) :=
  if (f_X11_isOven a1 μ) = 0 then
(some ((-1), μ))
else
(if a2 = 1 then
(if (f_X11_isWarm a3) = 0 then
(some ((-1), μ))
else
((f_X9_replace_10 N t L a1 a3 μ).bind fun (x4, μ6) =>
some (x4, μ6)))
else if a2 = 2 then
(if (f_X11_isPlace a3) = 0 then
(some ((-1), μ))
else
((f_X9_replace_11 N t L a1 a3 μ).bind fun (x9, μ11) =>
some (x9, μ11)))
else if a2 = 3 then
(if (f_X11_isFire a3) = 0 then
(some ((-1), μ))
else
((f_X9_replace_12 N t L a1 a3 μ).bind fun (x14, μ16) =>
some (x14, μ16)))
else if a2 = 4 then
(if (f_X11_isBetween a3 0 9) = 0 then
(some ((-1), μ))
else
((f_X9_replaceAway a1 a3 μ).bind fun (x19, μ21) =>
some (x19, μ21)))
else 
(some ((-1), μ)))
def f_X9_replace_9 (N : Nat) (t : Nat) (L : Nat) (a1 : Int32) (a2 : Int32) (μ : g_M) : Option (Int32 × g_M) :=
  (g_rd μ 9 6 a1).bind fun x1 =>
(g_wr μ 9 6 a1 a2).bind fun μ2 =>
(f_X9_settle N t L a1 μ2).bind fun μ5 =>
some (x1, μ5)
def f_X11_remake (N : Nat) (t : Nat) (L : Nat) (a1 : Int32) (a2 : Int32) (μ : g_M) : Option (Int32 × g_M) :=
  if (f_X11_isOven a1 μ) = 0 then
(some ((-1), μ))
else
(if (f_X11_isKind a2) = 0 then
(some ((-1), μ))
else
((f_X9_replace_9 N t L a1 a2 μ).bind fun (x3, μ5) =>
some (x3, μ5)))
def f_X11_longing  (a1 : Int32) (a2 : Int32) (μ : g_M) : Option Int32 :=
  if (f_X11_isOven a1 μ) = 0 then
(some (-1))
else
(if (f_X11_isOven a2 μ) = 0 then
(some (-1))
else
(if a1 = a2 then
(some (-1))
else
((f_X9_wishOf a1 a2 μ).bind fun x4 =>
some (x4 + 100))))
def f_X11_ends  (a1 : Int32) (μ : g_M) : Option (Int32 × g_M) :=
  if (f_X11_isBetween a1 1 16) = 0 then
(some ((-1), μ))
else
(if a1 ≥ (μ 1 13) then
((some (g_set μ 1 14 a1)).bind fun μ3 =>
some ((μ 1 14), μ3))
else
(some ((-4), μ)))
def f_X11_anew  (μ : g_M) : Option (Int32 × g_M) :=
  (some (g_set μ 1 13 0)).bind fun μ1 =>
(some (g_set μ1 1 15 0)).bind fun μ2 =>
(some (g_set μ2 1 12 0)).bind fun μ3 =>
some ((μ 1 13), μ3)
def f_X9_isOver  (μ : g_M) : Int32 :=
  if (μ 1 13) < (μ 1 14) then
(0)
else
(1)
def f_X11_state (N : Nat) (a1 : Int32) (μ : g_M) : Option Int32 :=
  if a1 = 0 then
(some (μ 1 13))
else if a1 = 1 then
(some (μ 1 14))
else if a1 = 2 then
(some (μ 1 15))
else if a1 = 3 then
(if (f_X9_isOver μ) = 0 then
(some 0)
else
(some 1))
else if a1 = 4 then
((f_X9_homeSet N (μ 1 12) μ).bind fun x7 =>
some x7)
else 
(some (-1))
def f_X8_takeByte  (a1 : Int32) (μ : g_M) : Option g_M :=
  if (μ 45 6) ≥ 200 then
(some μ)
else
((g_wr μ 46 200 (μ 45 6) a1).bind fun μ2 =>
(some (g_set μ2 45 6 ((μ2 45 6) + 1))).bind fun μ3 =>
some μ3)
def f_X11_feed_L33 (N : Nat) : Nat → Int64 → Int32 → Int32 → g_M → Option (g_M)
  | 0, _, _, _, _ => none
  | n + 1, x_1, x_3, x_4, μ => if x_4 ≥ x_3 then
(some μ)
else
((f_X8_takeByte ((Int64.toInt32 (g_lush x_1 (8 * x_4))) &&& 255) μ).bind fun μ6 =>
f_X11_feed_L33 N n x_1 x_3 (x_4 + 1) μ6)
def f_X11_feed (N : Nat) (a1 : Int64) (a2 : Int32) (μ : g_M) : Option (Int32 × g_M) :=
  if (f_X11_isBetween a2 1 8) = 0 then
(some ((-1), μ))
else
(if ((μ 45 6) + a2) ≤ 200 then
((f_X11_feed_L33 N N a1 a2 0 μ).bind fun μ3 =>
some ((μ3 45 6), μ3))
else
(some ((-2), μ)))
def f_X9_oneLess_L4 (N : Nat) : Nat → Int32 → Int32 → Int32 → g_M → Option (Int32)
  | 0, _, _, _, _ => none
  | n + 1, x_1, x_2, x_3, μ => if x_3 ≥ (μ 1 11) then
(some x_2)
else
(if (f_X9_awayOf x_1 x_3) = 0 then
(f_X9_oneLess_L4 N n x_1 x_2 (x_3 + 1) μ)
else
((some ((x_2 - (1 <<< ((4 * x_3) &&& 31))))).bind fun x3 =>
f_X9_oneLess_L4 N n x_1 x3 (x_3 + 1) μ))
def f_X9_oneLess (N : Nat) (a1 : Int32) (μ : g_M) : Option Int32 :=
  (f_X9_oneLess_L4 N N a1 a1 0 μ).bind fun x1 =>
some x1
def f_X9_after_L20 (N : Nat) : Nat → Int32 → Int32 → Int32 → Int32 → g_M → Option (g_M)
  | 0, _, _, _, _, _ => none
  | n + 1, x_2, x_4, x_5, x_6, μ => if x_6 ≥ (μ 1 11) then
(some μ)
else
((f_X9_choiceOf N x_6 x_5 x_2 μ).bind fun x6 =>
(g_wr μ 15 6 x_6 x6).bind fun μ8 =>
f_X9_after_L20 N n x_2 x_4 x_5 (x_6 + 1) μ8)
def f_X9_after_L54 (N : Nat) : Nat → Int32 → Int32 → g_M → Option (Int32)
  | 0, _, _, _ => none
  | n + 1, x_4, x_6, μ => if x_6 ≥ (μ 1 11) then
(some x_4)
else
((g_rd μ 15 6 x_6).bind fun x8 =>
if x8 ≤ x_6 then
(f_X9_after_L54 N n x_4 (x_6 + 1) μ)
else
(if x8 ≥ (μ 1 11) then
(f_X9_after_L54 N n x_4 (x_6 + 1) μ)
else
((g_rd μ 15 6 x8).bind fun x11 =>
if x11 = x_6 then
((g_rd μ 11 6 x_6).bind fun x13 =>
(g_rd μ 11 6 x8).bind fun x14 =>
(some ((2 + ((g_abs (x13 - x14)) / 4)))).bind fun x15 =>
(some ((x_4 ||| ((x15 <<< ((4 * x_6) &&& 31)) ||| (x15 <<< ((4 * x8) &&& 31)))))).bind fun x16 =>
f_X9_after_L54 N n x16 (x_6 + 1) μ)
else
(f_X9_after_L54 N n x_4 (x_6 + 1) μ))))
def f_X9_after (N : Nat) (a1 : Int32) (a2 : Int32) (a3 : Int32) (μ : g_M) : Option (Int32 × g_M) :=
  (f_X9_oneLess N a1 μ).bind fun x1 =>
(f_X9_freeSet N x1 a2 a3 μ).bind fun x3 =>
(f_X9_after_L20 N N a2 x1 x3 0 μ).bind fun μ5 =>
(f_X9_after_L54 N N x1 0 μ5).bind fun x7 =>
some (x7, μ5)
def f_X9_worthOf_L5 (N : Nat) : Nat → Int32 → Int32 → Int32 → Int32 → g_M → Option (Int32)
  | 0, _, _, _, _, _ => none
  | n + 1, x_1, x_2, x_3, x_4, μ => if x_4 ≥ (μ 1 11) then
(some x_3)
else
(if (f_X9_awayOf x_1 x_4) = 0 then
((f_X9_bakesOf x_4 x_2 μ).bind fun x3 =>
(some ((x_3 + x3))).bind fun x5 =>
f_X9_worthOf_L5 N n x_1 x_2 x5 (x_4 + 1) μ)
else
(f_X9_worthOf_L5 N n x_1 x_2 x_3 (x_4 + 1) μ))
def f_X9_worthOf (N : Nat) (a1 : Int32) (a2 : Int32) (μ : g_M) : Option Int32 :=
  (f_X9_worthOf_L5 N N a1 a2 0 0 μ).bind fun x1 =>
some x1
def f_X9_passNight (N : Nat) (a1 : Int32) (μ : g_M) : Option (Int32 × g_M) :=
  (f_X9_after N (μ 1 12) (μ 1 13) a1 μ).bind fun (x1, μ3) =>
(some (g_set μ3 1 12 x1)).bind fun μ4 =>
(f_X9_worthOf N (μ4 1 12) (μ4 1 13) μ4).bind fun x5 =>
(some (g_set μ4 1 15 ((μ4 1 15) + x5))).bind fun μ7 =>
(some (g_set μ7 1 13 ((μ7 1 13) + 1))).bind fun μ8 =>
some (x5, μ8)
def f_X11_night (N : Nat) (μ : g_M) : Option (Int32 × g_M) :=
  if (f_X9_isOver μ) = 0 then
((f_X9_passNight N 0 μ).bind fun (x2, μ4) =>
some (x2, μ4))
else
(some ((-4), μ))
def f_X9_nightsOf  (a1 : Int32) (μ : g_M) : Int32 :=
  (g_max 0 (g_min a1 ((μ 1 14) - (μ 1 13))))
def f_X2_restWorth_L10 (N : Nat) : Nat → Int32 → Int32 → Int32 → Int32 → g_M → Option (Int32 × g_M)
  | 0, _, _, _, _, _ => none
  | n + 1, x_1, x_2, x_3, x_4, μ => if x_4 ≥ (f_X9_nightsOf x_1 μ) then
(some (x_3, μ))
else
((f_X9_after N x_2 ((μ 1 13) + x_4) 0 μ).bind fun (x2, μ4) =>
(f_X9_worthOf N x2 ((μ4 1 13) + x_4) μ4).bind fun x5 =>
(some ((x_3 + x5))).bind fun x7 =>
f_X2_restWorth_L10 N n x_1 x2 x7 (x_4 + 1) μ4)
def f_X2_restWorth (N : Nat) (a1 : Int32) (μ : g_M) : Option (Int32 × g_M) :=
  (f_X2_restWorth_L10 N N a1 (μ 1 12) 0 0 μ).bind fun (x1, μ2) =>
some (x1, μ2)
def f_X11_on (N : Nat) (a1 : Int32) (μ : g_M) : Option (Int32 × g_M) :=
  if (f_X11_isBetween a1 0 16) = 0 then
(some ((-1), μ))
else
((f_X2_restWorth N a1 μ).bind fun (x2, μ4) =>
some (x2, μ4))
def f_X2_went  (a1 : Int32) (a2 : Int32) (a3 : Int32) : Int32 :=
  if (f_X9_awayOf a2 a3) ≤ (f_X9_awayOf a1 a3) then
(0)
else
(1)
def f_X2_firstGoing_L10 (N : Nat) : Nat → Int32 → Int32 → Int32 → g_M → Option ((Int32 × g_M) ⊕ (g_M))
  | 0, _, _, _, _ => none
  | n + 1, x_1, x_2, x_3, μ => if x_3 ≥ (μ 1 14) then
(some (.inr μ))
else
((f_X9_after N x_2 x_3 0 μ).bind fun (x2, μ4) =>
if (f_X2_went x_2 x2 x_1) = 0 then
(f_X2_firstGoing_L10 N n x_1 x2 (x_3 + 1) μ4)
else
(some (.inl (x_3, μ4))))
def f_X2_firstGoing (N : Nat) (a1 : Int32) (μ : g_M) : Option (Int32 × g_M) :=
  (f_X2_firstGoing_L10 N N a1 (μ 1 12) (μ 1 13) μ).bind fun w3 => (match w3 with
  | .inl q => some q
  | .inr μ1 => (
some ((-3), μ1)))
def f_X11_goes (N : Nat) (a1 : Int32) (μ : g_M) : Option (Int32 × g_M) :=
  if (f_X11_isOven a1 μ) = 0 then
(some ((-1), μ))
else
((f_X2_firstGoing N a1 μ).bind fun (x2, μ4) =>
some (x2, μ4))
def f_X2_goings_L13 (N : Nat) : Nat → Int32 → Int32 → Int32 → Int32 → g_M → Option (Int32 × g_M)
  | 0, _, _, _, _, _ => none
  | n + 1, x_1, x_2, x_3, x_4, μ => if x_4 ≥ (μ 1 14) then
(some (x_3, μ))
else
((f_X9_after N x_2 x_4 0 μ).bind fun (x2, μ4) =>
if (f_X2_went x_2 x2 x_1) = 0 then
(f_X2_goings_L13 N n x_1 x2 x_3 (x_4 + 1) μ4)
else
(f_X2_goings_L13 N n x_1 x2 (x_3 + 1) (x_4 + 1) μ4))
def f_X2_goings (N : Nat) (a1 : Int32) (μ : g_M) : Option (Int32 × g_M) :=
  (f_X2_goings_L13 N N a1 (μ 1 12) 0 (μ 1 13) μ).bind fun (x1, μ2) =>
some (x1, μ2)
def f_X11_often (N : Nat) (a1 : Int32) (μ : g_M) : Option (Int32 × g_M) :=
  if (f_X11_isOven a1 μ) = 0 then
(some ((-1), μ))
else
((f_X2_goings N a1 μ).bind fun (x2, μ4) =>
some (x2, μ4))
def f_X2_bestSetting_11_L14 (N : Nat) (t : Nat) (L : Nat) : Nat → Int32 → Int32 → Int32 → Int32 → Int32 → Int32 → g_M → Option (Int32 × g_M)
  | 0, _, _, _, _, _, _, _ => none
  | n + 1, x_2, x_3, x_4, x_5, x_6, x_7, μ => if x_7 > x_3 then
(some (x_6, μ))
else
((g_wr μ 11 6 x_2 x_7).bind fun μ3 =>
(f_X9_settle N t L x_2 μ3).bind fun μ6 =>
(f_X2_restWorth N 16 μ6).bind fun (x7, μ9) =>
if x7 ≤ x_5 then
(f_X2_bestSetting_11_L14 N t L n x_2 x_3 x_4 x_5 x_6 (x_7 + 1) μ9)
else
(f_X2_bestSetting_11_L14 N t L n x_2 x_3 x_4 x7 x_7 (x_7 + 1) μ9))
def f_X2_bestSetting_11 (N : Nat) (t : Nat) (L : Nat) (a1 : Int32) (a2 : Int32) (μ : g_M) : Option (Int32 × g_M) :=
  (g_rd μ 11 6 a1).bind fun x1 =>
(f_X2_bestSetting_11_L14 N t L N a1 a2 x1 (-1) 0 0 μ).bind fun (x2, μ3) =>
(g_wr μ3 11 6 a1 x1).bind fun μ5 =>
(f_X9_settle N t L a1 μ5).bind fun μ8 =>
some (x2, μ8)
def f_X11_placeFor (N : Nat) (t : Nat) (L : Nat) (a1 : Int32) (μ : g_M) : Option (Int32 × g_M) :=
  if (f_X11_isOven a1 μ) = 0 then
(some ((-1), μ))
else
((f_X2_bestSetting_11 N t L a1 15 μ).bind fun (x2, μ4) =>
some (x2, μ4))
def f_X2_bestSetting_10_L14 (N : Nat) (t : Nat) (L : Nat) : Nat → Int32 → Int32 → Int32 → Int32 → Int32 → Int32 → g_M → Option (Int32 × g_M)
  | 0, _, _, _, _, _, _, _ => none
  | n + 1, x_2, x_3, x_4, x_5, x_6, x_7, μ => if x_7 > x_3 then
(some (x_6, μ))
else
((g_wr μ 10 6 x_2 x_7).bind fun μ3 =>
(f_X9_settle N t L x_2 μ3).bind fun μ6 =>
(f_X2_restWorth N 16 μ6).bind fun (x7, μ9) =>
if x7 ≤ x_5 then
(f_X2_bestSetting_10_L14 N t L n x_2 x_3 x_4 x_5 x_6 (x_7 + 1) μ9)
else
(f_X2_bestSetting_10_L14 N t L n x_2 x_3 x_4 x7 x_7 (x_7 + 1) μ9))
def f_X2_bestSetting_10 (N : Nat) (t : Nat) (L : Nat) (a1 : Int32) (a2 : Int32) (μ : g_M) : Option (Int32 × g_M) :=
  (g_rd μ 10 6 a1).bind fun x1 =>
(f_X2_bestSetting_10_L14 N t L N a1 a2 x1 (-1) 0 0 μ).bind fun (x2, μ3) =>
(g_wr μ3 10 6 a1 x1).bind fun μ5 =>
(f_X9_settle N t L a1 μ5).bind fun μ8 =>
some (x2, μ8)
def f_X11_warmFor (N : Nat) (t : Nat) (L : Nat) (a1 : Int32) (μ : g_M) : Option (Int32 × g_M) :=
  if (f_X11_isOven a1 μ) = 0 then
(some ((-1), μ))
else
((f_X2_bestSetting_10 N t L a1 9 μ).bind fun (x2, μ4) =>
some (x2, μ4))
def f_X9_isPair  (a1 : Int32) (a2 : Int32) (μ : g_M) : Option Int32 :=
  (f_X9_wishOf a1 a2 μ).bind fun x1 =>
if x1 ≤ 0 then
(some 0)
else
((f_X9_wishOf a2 a1 μ).bind fun x4 =>
if x4 ≤ 0 then
(some 0)
else
(some 1))
def f_X11_pairs_L19 (N : Nat) : Nat → Int32 → Int32 → Int32 → g_M → Option (Int32)
  | 0, _, _, _, _ => none
  | n + 1, x_1, x_2, x_3, μ => if x_3 ≥ (μ 1 11) then
(some x_1)
else
((f_X9_isPair x_2 x_3 μ).bind fun x4 =>
if x4 = 0 then
(f_X11_pairs_L19 N n x_1 x_2 (x_3 + 1) μ)
else
(f_X11_pairs_L19 N n (x_1 + 1) x_2 (x_3 + 1) μ))
def f_X11_pairs_L4 (N : Nat) : Nat → Int32 → Int32 → g_M → Option (Int32)
  | 0, _, _, _ => none
  | n + 1, x_1, x_2, μ => if x_2 ≥ (μ 1 11) then
(some x_1)
else
((some ((x_2 + 1))).bind fun x2 =>
(f_X11_pairs_L19 N N x_1 x_2 x2 μ).bind fun x3 =>
f_X11_pairs_L4 N n x3 (x_2 + 1) μ)
def f_X11_pairs (N : Nat) (μ : g_M) : Option Int32 :=
  (f_X11_pairs_L4 N N 0 0 μ).bind fun x1 =>
some x1
def f_X9_everybody  (μ : g_M) : Int32 :=
  ((1 <<< ((μ 1 11) &&& 31)) - 1)
def f_X2_weddingOf  (a1 : Int32) (a2 : Int32) (μ : g_M) : Option Int32 :=
  (f_X9_wishOf a1 a2 μ).bind fun x1 =>
(f_X9_wishOf a2 a1 μ).bind fun x3 =>
some ((1000 + x1) + x3)
def f_X2_mostWed_L34 (F : Int32 → Int32 → g_M → Option Int32) (N : Nat) : Nat → Int32 → Int32 → Int32 → Int32 → g_M → Option (Int32)
  | 0, _, _, _, _, _ => none
  | n + 1, x_1, x_2, x_3, x_4, μ => if x_4 ≥ (μ 1 11) then
(some x_3)
else
(if ((x_1 >>> (x_4 &&& 31)) &&& 1) = 0 then
(f_X2_mostWed_L34 F N n x_1 x_2 x_3 (x_4 + 1) μ)
else
((f_X9_isPair x_2 x_4 μ).bind fun x8 =>
if x8 = 0 then
(f_X2_mostWed_L34 F N n x_1 x_2 x_3 (x_4 + 1) μ)
else
((f_X2_weddingOf x_2 x_4 μ).bind fun x11 =>
(F (x_1 &&& ((1 <<< (x_4 &&& 31)) ^^^ (-1))) (x_2 + 1) μ).bind fun x13 =>
(some ((x11 + x13))).bind fun x15 =>
(some ((g_max x_3 x15))).bind fun x16 =>
f_X2_mostWed_L34 F N n x_1 x_2 x16 (x_4 + 1) μ)))
def f_X2_mostWed (N : Nat) : Nat → Int32 → Int32 → g_M → Option Int32
  | 0, _, _, _ => none
  | n + 1, a1, a2, μ => if a2 < (μ 1 11) then
(((f_X2_mostWed N n) a1 (a2 + 1) μ).bind fun x2 =>
if ((a1 >>> (a2 &&& 31)) &&& 1) = 0 then
(some x2)
else
((some ((a2 + 1))).bind fun x5 =>
(f_X2_mostWed_L34 (f_X2_mostWed N n) N N a1 a2 x2 x5 μ).bind fun x6 =>
some x6))
else
(some 0)
def f_X2_mostWeddings (N : Nat) (μ : g_M) : Option Int32 :=
  (f_X2_mostWed N 8 (f_X9_everybody μ) 0 μ).bind fun x1 =>
some x1
def f_X11_weddings (N : Nat) (a1 : Int32) (μ : g_M) : Option Int32 :=
  if (f_X11_isBetween a1 0 1) = 0 then
(some (-1))
else
((f_X2_mostWeddings N μ).bind fun x2 =>
if a1 = 0 then
(some (x2 / 1000))
else
(some (g_rem x2 1000)))
def f_X2_firstMate_L12 (N : Nat) : Nat → Int32 → Int32 → Int32 → Int32 → g_M → Option ((Int32) ⊕ (Unit))
  | 0, _, _, _, _, _ => none
  | n + 1, x_1, x_2, x_3, x_4, μ => if x_4 ≥ (μ 1 11) then
(some (.inr ()))
else
(if ((x_1 >>> (x_4 &&& 31)) &&& 1) = 0 then
(f_X2_firstMate_L12 N n x_1 x_2 x_3 (x_4 + 1) μ)
else
((f_X9_isPair x_2 x_4 μ).bind fun x6 =>
if x6 = 0 then
(f_X2_firstMate_L12 N n x_1 x_2 x_3 (x_4 + 1) μ)
else
((f_X2_weddingOf x_2 x_4 μ).bind fun x9 =>
(f_X2_mostWed N 8 (x_1 &&& ((1 <<< (x_4 &&& 31)) ^^^ (-1))) (x_2 + 1) μ).bind fun x11 =>
if (x9 + x11) = x_3 then
(some (.inl x_4))
else
(f_X2_firstMate_L12 N n x_1 x_2 x_3 (x_4 + 1) μ))))
def f_X2_firstMate (N : Nat) (a1 : Int32) (a2 : Int32) (μ : g_M) : Option Int32 :=
  (f_X2_mostWed N 8 a1 a2 μ).bind fun x1 =>
(some ((a2 + 1))).bind fun x3 =>
(f_X2_firstMate_L12 N N a1 a2 x1 x3 μ).bind fun w5 => (match w5 with
  | .inl q => some q
  | .inr _ => (
some 6))
def f_X2_mateOf_L7 (N : Nat) : Nat → Int32 → Int32 → Int32 → g_M → Option ((Int32) ⊕ (Unit))
  | 0, _, _, _, _ => none
  | n + 1, x_1, x_2, x_3, μ => if x_3 > x_1 then
(some (.inr ()))
else
(if ((x_2 >>> (x_3 &&& 31)) &&& 1) = 0 then
(f_X2_mateOf_L7 N n x_1 x_2 (x_3 + 1) μ)
else
((f_X2_firstMate N x_2 x_3 μ).bind fun x4 =>
if x_3 = x_1 then
(some (.inl x4))
else
(if x4 = x_1 then
(some (.inl x_3))
else
((some ((x_2 &&& ((1 <<< (x4 &&& 31)) ^^^ (-1))))).bind fun x8 =>
f_X2_mateOf_L7 N n x_1 x8 (x_3 + 1) μ))))
def f_X2_mateOf (N : Nat) (a1 : Int32) (μ : g_M) : Option Int32 :=
  (some ((f_X9_everybody μ))).bind fun x1 =>
(f_X2_mateOf_L7 N N a1 x1 0 μ).bind fun w3 => (match w3 with
  | .inl q => some q
  | .inr _ => (
some 6))
def f_X11_mate (N : Nat) (a1 : Int32) (μ : g_M) : Option Int32 :=
  if (f_X11_isOven a1 μ) = 0 then
(some (-1))
else
((f_X2_mateOf N a1 μ).bind fun x2 =>
some x2)
def f_J6_bitCount_0f7a4  (a1 : Int32) : Option Int32 :=
  (some ((a1 - ((g_ush a1 1) &&& 1431655765)))).bind fun x1 =>
(some (((x1 &&& 858993459) + ((g_ush x1 2) &&& 858993459)))).bind fun x2 =>
(some (((x2 + (g_ush x2 4)) &&& 252645135))).bind fun x3 =>
(some ((x3 + (g_ush x3 8)))).bind fun x4 =>
(some ((x4 + (g_ush x4 16)))).bind fun x5 =>
some (x5 &&& 63)
def f_X2_nobodyGoes_L10 (N : Nat) : Nat → Int32 → Int32 → Int32 → g_M → Option ((Int32 × g_M) ⊕ (g_M))
  | 0, _, _, _, _ => none
  | n + 1, x_1, x_2, x_3, μ => if x_3 ≥ (μ 1 14) then
(some (.inr μ))
else
((f_X9_after N x_2 x_3 x_1 μ).bind fun (x2, μ4) =>
(f_X9_oneLess N x_2 μ4).bind fun x5 =>
if x2 = x5 then
(f_X2_nobodyGoes_L10 N n x_1 x2 (x_3 + 1) μ4)
else
(some (.inl (0, μ4))))
def f_X2_nobodyGoes (N : Nat) (a1 : Int32) (μ : g_M) : Option (Int32 × g_M) :=
  (f_X2_nobodyGoes_L10 N N a1 (μ 1 12) (μ 1 13) μ).bind fun w3 => (match w3 with
  | .inl q => some q
  | .inr μ1 => (
some (1, μ1)))
def f_X2_fewestChains_L7 (N : Nat) : Nat → Int32 → Int32 → g_M → Option (Int32 × g_M)
  | 0, _, _, _ => none
  | n + 1, x_1, x_2, μ => if x_2 ≥ (f_X9_everybody μ) then
(some (x_1, μ))
else
((f_J6_bitCount_0f7a4 x_2).bind fun x3 =>
(f_J6_bitCount_0f7a4 x_1).bind fun x5 =>
if x3 ≥ x5 then
(f_X2_fewestChains_L7 N n x_1 (x_2 + 1) μ)
else
((f_X2_nobodyGoes N x_2 μ).bind fun (x8, μ10) =>
if x8 = 0 then
(f_X2_fewestChains_L7 N n x_1 (x_2 + 1) μ10)
else
(f_X2_fewestChains_L7 N n x_2 (x_2 + 1) μ10)))
def f_X2_fewestChains (N : Nat) (μ : g_M) : Option (Int32 × g_M) :=
  (some ((f_X9_everybody μ))).bind fun x1 =>
(f_X2_fewestChains_L7 N N x1 0 μ).bind fun (x2, μ3) =>
some (x2, μ3)
def f_X11_chains (N : Nat) (a1 : Int32) (μ : g_M) : Option (Int32 × g_M) :=
  if (f_X11_isBetween a1 0 1) = 0 then
(some ((-1), μ))
else
((f_X2_fewestChains N μ).bind fun (x2, μ4) =>
if a1 = 0 then
(some (x2, μ4))
else
((f_J6_bitCount_0f7a4 x2).bind fun x6 =>
some (x6, μ4)))
def f_X11_isPlan  (a1 : Int32) : Int32 :=
  (f_X11_isBetween a1 0 4)
def f_X11_chainOf  (a1 : Int32) : Int32 :=
  if a1 > 0 then
((1 <<< ((a1 - 1) &&& 31)))
else
(0)
def f_X2_mostWorth_L20 (F : Int32 → Int32 → Int32 → g_M → Option (Int32 × g_M)) (N : Nat) : Nat → Int32 → Int32 → Int32 → Int32 → Int32 → g_M → Option (Int32 × g_M)
  | 0, _, _, _, _, _, _ => none
  | n + 1, x_1, x_2, x_3, x_4, x_5, μ => if x_5 > (μ 1 11) then
(some (x_4, μ))
else
((f_X9_after N x_1 x_2 (f_X11_chainOf x_5) μ).bind fun (x4, μ6) =>
(f_X9_worthOf N x4 x_2 μ6).bind fun x7 =>
(F x4 (x_2 + 1) (x_3 - 1) μ6).bind fun (x9, μ11) =>
(some ((g_max x_4 (x7 + x9)))).bind fun x12 =>
f_X2_mostWorth_L20 F N n x_1 x_2 x_3 x12 (x_5 + 1) μ11)
def f_X2_mostWorth (N : Nat) : Nat → Int32 → Int32 → Int32 → g_M → Option (Int32 × g_M)
  | 0, _, _, _, _ => none
  | n + 1, a1, a2, a3, μ => if a3 ≤ 0 then
(some (0, μ))
else
(if a2 < (μ 1 14) then
((f_X2_mostWorth_L20 (f_X2_mostWorth N n) N N a1 a2 a3 0 0 μ).bind fun (x3, μ4) =>
some (x3, μ4))
else
(some (0, μ)))
def f_X2_bestWorth (N : Nat) (a1 : Int32) (μ : g_M) : Option (Int32 × g_M) :=
  (f_X2_mostWorth N 6 (μ 1 12) (μ 1 13) a1 μ).bind fun (x1, μ3) =>
some (x1, μ3)
def f_X11_best (N : Nat) (a1 : Int32) (μ : g_M) : Option (Int32 × g_M) :=
  if (f_X11_isPlan a1) = 0 then
(some ((-1), μ))
else
((f_X2_bestWorth N a1 μ).bind fun (x2, μ4) =>
some (x2, μ4))
def f_X2_firstBestAct_L9 (N : Nat) : Nat → Int32 → Int32 → Int32 → Int32 → Int32 → Int32 → g_M → Option (Int32 × g_M)
  | 0, _, _, _, _, _, _, _ => none
  | n + 1, x_1, x_2, x_3, x_4, x_5, x_6, μ => if x_6 > (μ 1 11) then
(some (x_4, μ))
else
((f_X9_after N x_1 x_2 (f_X11_chainOf x_6) μ).bind fun (x2, μ4) =>
(f_X9_worthOf N x2 x_2 μ4).bind fun x5 =>
(f_X2_mostWorth N 6 x2 (x_2 + 1) (x_3 - 1) μ4).bind fun (x7, μ9) =>
(some ((x5 + x7))).bind fun x10 =>
if x10 ≤ x_5 then
(f_X2_firstBestAct_L9 N n x_1 x_2 x_3 x_4 x_5 (x_6 + 1) μ9)
else
(f_X2_firstBestAct_L9 N n x_1 x_2 x_3 x_6 x10 (x_6 + 1) μ9))
def f_X2_firstBestAct (N : Nat) (a1 : Int32) (a2 : Int32) (a3 : Int32) (μ : g_M) : Option (Int32 × g_M) :=
  (f_X2_firstBestAct_L9 N N a1 a2 a3 0 (-1) 0 μ).bind fun (x1, μ2) =>
some (x1, μ2)
def f_X11_ith_L44 (N : Nat) : Nat → Int32 → Int32 → Int32 → Int32 → g_M → Option (Int32 × g_M)
  | 0, _, _, _, _, _ => none
  | n + 1, x_1, x_2, x_3, x_4, μ => if x_4 ≥ x_2 then
(some (x_3, μ))
else
((f_X2_firstBestAct N x_3 ((μ 1 13) + x_4) (x_1 - x_4) μ).bind fun (x5, μ7) =>
(f_X9_after N x_3 ((μ7 1 13) + x_4) (f_X11_chainOf x5) μ7).bind fun (x8, μ10) =>
f_X11_ith_L44 N n x_1 x_2 x8 (x_4 + 1) μ10)
def f_X11_ith (N : Nat) (a1 : Int32) (a2 : Int32) (μ : g_M) : Option (Int32 × g_M) :=
  if (f_X11_isPlan a1) = 0 then
(some ((-1), μ))
else
(if (f_X11_isBetween a2 0 3) = 0 then
(some ((-1), μ))
else
(if a2 < (f_X9_nightsOf a1 μ) then
((f_X11_ith_L44 N N a1 a2 (μ 1 12) 0 μ).bind fun (x4, μ5) =>
(f_X2_firstBestAct N x4 ((μ5 1 13) + a2) (a1 - a2) μ5).bind fun (x7, μ9) =>
some (x7, μ9))
else
(some ((-3), μ))))
def f_X2_plansWorth_L29 (F : Int32 → Int32 → Int32 → Int32 → g_M → Option (Int32 × g_M)) (N : Nat) : Nat → Int32 → Int32 → Int32 → Int32 → Int32 → Int32 → g_M → Option (Int32 × g_M)
  | 0, _, _, _, _, _, _, _ => none
  | n + 1, x_1, x_2, x_3, x_4, x_5, x_6, μ => if x_6 > (μ 1 11) then
(some (x_5, μ))
else
((f_X9_after N x_1 x_2 (f_X11_chainOf x_6) μ).bind fun (x5, μ7) =>
(f_X9_worthOf N x5 x_2 μ7).bind fun x8 =>
(F x5 (x_2 + 1) (x_3 - 1) (x_4 - x8) μ7).bind fun (x10, μ12) =>
(some ((x_5 + x10))).bind fun x13 =>
f_X2_plansWorth_L29 F N n x_1 x_2 x_3 x_4 x13 (x_6 + 1) μ12)
def f_X2_plansWorth (N : Nat) : Nat → Int32 → Int32 → Int32 → Int32 → g_M → Option (Int32 × g_M)
  | 0, _, _, _, _, _ => none
  | n + 1, a1, a2, a3, a4, μ => if a3 ≤ 0 then
(if a4 = 0 then
(some (1, μ))
else
(some (0, μ)))
else
(if a2 < (μ 1 14) then
((f_X2_plansWorth_L29 (f_X2_plansWorth N n) N N a1 a2 a3 a4 0 0 μ).bind fun (x4, μ5) =>
some (x4, μ5))
else
(if a4 = 0 then
(some (1, μ))
else
(some (0, μ))))
def f_X2_bestWays (N : Nat) (a1 : Int32) (μ : g_M) : Option (Int32 × g_M) :=
  (f_X2_mostWorth N 6 (μ 1 12) (μ 1 13) a1 μ).bind fun (x1, μ3) =>
(f_X2_plansWorth N 6 (μ3 1 12) (μ3 1 13) a1 x1 μ3).bind fun (x4, μ6) =>
some (x4, μ6)
def f_X11_ways (N : Nat) (a1 : Int32) (μ : g_M) : Option (Int32 × g_M) :=
  if (f_X11_isPlan a1) = 0 then
(some ((-1), μ))
else
((f_X2_bestWays N a1 μ).bind fun (x2, μ4) =>
some (x2, μ4))
def f_X11_isOvenSet  (a1 : Int32) (μ : g_M) : Int32 :=
  if (a1 &&& ((f_X9_everybody μ) ^^^ (-1))) = 0 then
(1)
else
(0)
def f_X2_fewestActs_L41 (F : Int32 → Int32 → Int32 → Int32 → g_M → Option (Int32 × g_M)) (N : Nat) : Nat → Int32 → Int32 → Int32 → Int32 → Int32 → Int32 → g_M → Option (Int32 × g_M)
  | 0, _, _, _, _, _, _, _ => none
  | n + 1, x_1, x_2, x_3, x_4, x_5, x_6, μ => if x_6 > (μ 1 11) then
(some (x_5, μ))
else
((f_X9_after N x_1 x_2 (f_X11_chainOf x_6) μ).bind fun (x7, μ9) =>
if x_6 = 0 then
((F x7 (x_2 + 1) (x_3 - 1) x_4 μ9).bind fun (x16, μ18) =>
(some ((0 + x16))).bind fun x19 =>
(some ((g_min x_5 x19))).bind fun x20 =>
f_X2_fewestActs_L41 F N n x_1 x_2 x_3 x_4 x20 (x_6 + 1) μ18)
else
((F x7 (x_2 + 1) (x_3 - 1) x_4 μ9).bind fun (x11, μ13) =>
(some ((1 + x11))).bind fun x14 =>
(some ((g_min x_5 x14))).bind fun x15 =>
f_X2_fewestActs_L41 F N n x_1 x_2 x_3 x_4 x15 (x_6 + 1) μ13))
def f_X2_fewestActs (N : Nat) : Nat → Int32 → Int32 → Int32 → Int32 → g_M → Option (Int32 × g_M)
  | 0, _, _, _, _, _ => none
  | n + 1, a1, a2, a3, a4, μ => if a3 ≤ 0 then
((f_X9_homeSet N a1 μ).bind fun x2 =>
if (x2 &&& a4) = a4 then
(some (0, μ))
else
(some (1000, μ)))
else
(if a2 < (μ 1 14) then
((f_X2_fewestActs_L41 (f_X2_fewestActs N n) N N a1 a2 a3 a4 1000 0 μ).bind fun (x6, μ7) =>
some (x6, μ7))
else
((f_X9_homeSet N a1 μ).bind fun x9 =>
if (x9 &&& a4) = a4 then
(some (0, μ))
else
(some (1000, μ))))
def f_X2_actsTillHome (N : Nat) (a1 : Int32) (a2 : Int32) (μ : g_M) : Option (Int32 × g_M) :=
  (f_X2_fewestActs N 6 (μ 1 12) (μ 1 13) a1 a2 μ).bind fun (x1, μ3) =>
some (x1, μ3)
def f_X11_kept (N : Nat) (a1 : Int32) (a2 : Int32) (μ : g_M) : Option (Int32 × g_M) :=
  if (f_X11_isPlan a1) = 0 then
(some ((-1), μ))
else
(if (f_X11_isOvenSet a2 μ) = 0 then
(some ((-1), μ))
else
((f_X2_actsTillHome N a1 a2 μ).bind fun (x3, μ5) =>
if x3 ≤ 4 then
(some (x3, μ5))
else
(some ((-3), μ5))))
def f_X2_homeBehindSome_L24 (F : Int32 → Int32 → Int32 → g_M → Option (Int32 × g_M)) (N : Nat) : Nat → Int32 → Int32 → Int32 → Int32 → Int32 → g_M → Option (Int32 × g_M)
  | 0, _, _, _, _, _, _ => none
  | n + 1, x_1, x_2, x_3, x_4, x_5, μ => if x_5 > (μ 1 11) then
(some (x_4, μ))
else
((f_X9_after N x_1 x_2 (f_X11_chainOf x_5) μ).bind fun (x6, μ8) =>
(F x6 (x_2 + 1) (x_3 - 1) μ8).bind fun (x9, μ11) =>
(some ((x_4 ||| x9))).bind fun x12 =>
f_X2_homeBehindSome_L24 F N n x_1 x_2 x_3 x12 (x_5 + 1) μ11)
def f_X2_homeBehindSome (N : Nat) : Nat → Int32 → Int32 → Int32 → g_M → Option (Int32 × g_M)
  | 0, _, _, _, _ => none
  | n + 1, a1, a2, a3, μ => if a3 ≤ 0 then
((f_X9_homeSet N a1 μ).bind fun x2 =>
some (x2, μ))
else
(if a2 < (μ 1 14) then
((f_X2_homeBehindSome_L24 (f_X2_homeBehindSome N n) N N a1 a2 a3 0 0 μ).bind fun (x5, μ6) =>
some (x5, μ6))
else
((f_X9_homeSet N a1 μ).bind fun x8 =>
some (x8, μ)))
def f_X2_everHome (N : Nat) (a1 : Int32) (μ : g_M) : Option (Int32 × g_M) :=
  (f_X2_homeBehindSome N 6 (μ 1 12) (μ 1 13) a1 μ).bind fun (x1, μ3) =>
some (x1, μ3)
def f_J6_numberOfTrailingZeros_0f7a4  (a1 : Int32) : Option Int32 :=
  (some (((a1 ^^^ (-1)) &&& (a1 - 1)))).bind fun x1 =>
if x1 > 0 then
(if x1 ≤ 65536 then
(if x1 ≤ 256 then
(if x1 ≤ 16 then
(if x1 ≤ 4 then
(some (1 + (g_ush x1 1)))
else
((some ((g_ush x1 2))).bind fun x7 =>
some ((1 + 2) + (g_ush x7 1))))
else
((some ((g_ush x1 4))).bind fun x8 =>
if x8 ≤ 4 then
(some ((1 + 4) + (g_ush x8 1)))
else
((some ((g_ush x8 2))).bind fun x10 =>
some (((1 + 4) + 2) + (g_ush x10 1)))))
else
((some ((g_ush x1 8))).bind fun x11 =>
if x11 ≤ 16 then
(if x11 ≤ 4 then
(some ((1 + 8) + (g_ush x11 1)))
else
((some ((g_ush x11 2))).bind fun x14 =>
some (((1 + 8) + 2) + (g_ush x14 1))))
else
((some ((g_ush x11 4))).bind fun x15 =>
if x15 ≤ 4 then
(some (((1 + 8) + 4) + (g_ush x15 1)))
else
((some ((g_ush x15 2))).bind fun x17 =>
some ((((1 + 8) + 4) + 2) + (g_ush x17 1))))))
else
((some ((g_ush x1 16))).bind fun x18 =>
if x18 ≤ 256 then
(if x18 ≤ 16 then
(if x18 ≤ 4 then
(some ((1 + 16) + (g_ush x18 1)))
else
((some ((g_ush x18 2))).bind fun x22 =>
some (((1 + 16) + 2) + (g_ush x22 1))))
else
((some ((g_ush x18 4))).bind fun x23 =>
if x23 ≤ 4 then
(some (((1 + 16) + 4) + (g_ush x23 1)))
else
((some ((g_ush x23 2))).bind fun x25 =>
some ((((1 + 16) + 4) + 2) + (g_ush x25 1)))))
else
((some ((g_ush x18 8))).bind fun x26 =>
if x26 ≤ 16 then
(if x26 ≤ 4 then
(some (((1 + 16) + 8) + (g_ush x26 1)))
else
((some ((g_ush x26 2))).bind fun x29 =>
some ((((1 + 16) + 8) + 2) + (g_ush x29 1))))
else
((some ((g_ush x26 4))).bind fun x30 =>
if x30 ≤ 4 then
(some ((((1 + 16) + 8) + 4) + (g_ush x30 1)))
else
((some ((g_ush x30 2))).bind fun x32 =>
some (((((1 + 16) + 8) + 4) + 2) + (g_ush x32 1)))))))
else
(some (x1 &&& 32))
def f_X11_bars (N : Nat) (a1 : Int32) (a2 : Int32) (μ : g_M) : Option (Int32 × g_M) :=
  if (f_X11_isPlan a1) = 0 then
(some ((-1), μ))
else
(if (f_X11_isOvenSet a2 μ) = 0 then
(some ((-1), μ))
else
((f_X2_everHome N a1 μ).bind fun (x3, μ5) =>
(some ((a2 &&& (x3 ^^^ (-1))))).bind fun x6 =>
if x6 = 0 then
(some ((-3), μ5))
else
((f_J6_numberOfTrailingZeros_0f7a4 x6).bind fun x8 =>
some (x8, μ5))))
def f_X11_isGame  (a1 : Int32) : Int32 :=
  (f_X11_isBetween a1 1 4)
def f_X2_gameValue_L20 (F : Int32 → Int32 → Int32 → Int32 → g_M → Option (Int32 × g_M)) (N : Nat) : Nat → Int32 → Int32 → Int32 → Int32 → Int32 → Int32 → g_M → Option (Int32 × g_M)
  | 0, _, _, _, _, _, _, _ => none
  | n + 1, x_1, x_2, x_3, x_4, x_5, x_6, μ => if x_6 > (μ 1 11) then
(some (x_5, μ))
else
((f_X9_after N x_1 x_2 (f_X11_chainOf x_6) μ).bind fun (x4, μ6) =>
(f_X9_worthOf N x4 x_2 μ6).bind fun x7 =>
if x_4 = 0 then
((F x4 (x_2 + 1) (x_3 - 1) 1 μ6).bind fun (x17, μ19) =>
(some ((x7 + x17))).bind fun x20 =>
if x20 ≥ x_5 then
(if x_6 = 0 then
(f_X2_gameValue_L20 F N n x_1 x_2 x_3 x_4 x20 (x_6 + 1) μ19)
else
(f_X2_gameValue_L20 F N n x_1 x_2 x_3 x_4 x_5 (x_6 + 1) μ19))
else
(if x_6 = 0 then
(f_X2_gameValue_L20 F N n x_1 x_2 x_3 x_4 x20 (x_6 + 1) μ19)
else
(f_X2_gameValue_L20 F N n x_1 x_2 x_3 x_4 x20 (x_6 + 1) μ19)))
else
((F x4 (x_2 + 1) (x_3 - 1) 0 μ6).bind fun (x10, μ12) =>
(some ((x7 + x10))).bind fun x13 =>
if x13 ≤ x_5 then
(if x_6 = 0 then
(f_X2_gameValue_L20 F N n x_1 x_2 x_3 x_4 x13 (x_6 + 1) μ12)
else
(f_X2_gameValue_L20 F N n x_1 x_2 x_3 x_4 x_5 (x_6 + 1) μ12))
else
(if x_6 = 0 then
(f_X2_gameValue_L20 F N n x_1 x_2 x_3 x_4 x13 (x_6 + 1) μ12)
else
(f_X2_gameValue_L20 F N n x_1 x_2 x_3 x_4 x13 (x_6 + 1) μ12))))
def f_X2_gameValue (N : Nat) : Nat → Int32 → Int32 → Int32 → Int32 → g_M → Option (Int32 × g_M)
  | 0, _, _, _, _, _ => none
  | n + 1, a1, a2, a3, a4, μ => if a3 ≤ 0 then
(some (0, μ))
else
(if a2 < (μ 1 14) then
((f_X2_gameValue_L20 (f_X2_gameValue N n) N N a1 a2 a3 a4 0 0 μ).bind fun (x3, μ4) =>
some (x3, μ4))
else
(some (0, μ)))
def f_X2_valueOfGame (N : Nat) (a1 : Int32) (μ : g_M) : Option (Int32 × g_M) :=
  (f_X2_gameValue N 6 (μ 1 12) (μ 1 13) a1 1 μ).bind fun (x1, μ3) =>
some (x1, μ3)
def f_X11_game (N : Nat) (a1 : Int32) (μ : g_M) : Option (Int32 × g_M) :=
  if (f_X11_isGame a1) = 0 then
(some ((-1), μ))
else
((f_X2_valueOfGame N a1 μ).bind fun (x2, μ4) =>
some (x2, μ4))
def f_X2_firstMove_L7 (N : Nat) : Nat → Int32 → Int32 → Int32 → Int32 → g_M → Option (Int32 × g_M)
  | 0, _, _, _, _, _ => none
  | n + 1, x_1, x_2, x_3, x_4, μ => if x_4 > (μ 1 11) then
(some (x_2, μ))
else
((f_X9_after N (μ 1 12) (μ 1 13) (f_X11_chainOf x_4) μ).bind fun (x2, μ4) =>
(f_X9_worthOf N x2 (μ4 1 13) μ4).bind fun x5 =>
(f_X2_gameValue N 6 x2 ((μ4 1 13) + 1) (x_1 - 1) 0 μ4).bind fun (x7, μ9) =>
(some ((x5 + x7))).bind fun x10 =>
if x10 ≤ x_3 then
(f_X2_firstMove_L7 N n x_1 x_2 x_3 (x_4 + 1) μ9)
else
(f_X2_firstMove_L7 N n x_1 x_4 x10 (x_4 + 1) μ9))
def f_X2_firstMove (N : Nat) (a1 : Int32) (μ : g_M) : Option (Int32 × g_M) :=
  (f_X2_firstMove_L7 N N a1 0 (-1) 0 μ).bind fun (x1, μ2) =>
some (x1, μ2)
def f_X11_play (N : Nat) (a1 : Int32) (μ : g_M) : Option (Int32 × g_M) :=
  if (f_X11_isGame a1) = 0 then
(some ((-1), μ))
else
(if (f_X9_isOver μ) = 0 then
((f_X2_firstMove N a1 μ).bind fun (x3, μ5) =>
some (x3, μ5))
else
(some ((-3), μ)))
def f_X11_isFelt  (a1 : Int32) : Int32 :=
  (f_X11_isBetween a1 (-20) 20)
def f_X9_addReport  (a1 : Int32) (a2 : Int32) (a3 : Int32) (a4 : Int32) (μ : g_M) : Option (Int32 × g_M) :=
  (some (((μ 1 17) * 4))).bind fun x1 =>
(g_wr μ 17 24 x1 a1).bind fun μ2 =>
(g_wr μ2 17 24 (x1 + 1) a2).bind fun μ3 =>
(g_wr μ3 17 24 (x1 + 2) a3).bind fun μ4 =>
(g_wr μ4 17 24 (x1 + 3) a4).bind fun μ5 =>
(some (g_set μ5 1 17 ((μ5 1 17) + 1))).bind fun μ6 =>
some (((μ6 1 17) - 1), μ6)
def f_X11_report  (a1 : Int32) (a2 : Int32) (a3 : Int32) (a4 : Int32) (μ : g_M) : Option (Int32 × g_M) :=
  if (f_X11_isKind a1) = 0 then
(some ((-1), μ))
else
(if (f_X11_isPlace a2) = 0 then
(some ((-1), μ))
else
(if (f_X11_isFelt a3) = 0 then
(some ((-1), μ))
else
(if (f_X11_isFelt a4) = 0 then
(some ((-1), μ))
else
(if a4 ≥ a3 then
(if (μ 1 17) < 6 then
((f_X9_addReport a1 a2 a3 a4 μ).bind fun (x7, μ9) =>
some (x7, μ9))
else
(some ((-2), μ)))
else
(some ((-1), μ))))))
def f_X11_forget  (μ : g_M) : Option (Int32 × g_M) :=
  (some (g_set μ 1 17 0)).bind fun μ1 =>
some ((μ 1 17), μ1)
def f_X9_isSo  (a1 : Int32) (a2 : Int32) (a3 : Int32) (μ : g_M) : Option Int32 :=
  (some ((a1 * 4))).bind fun x1 =>
(g_rd μ 17 24 (x1 + 1)).bind fun x2 =>
(some ((g_abs (x2 - a2)))).bind fun x3 =>
(g_rd μ 17 24 x1).bind fun x4 =>
if x4 = 1 then
((some ((f_X10_yearns_4 a3 x3 5 0))).bind fun x6 =>
(g_rd μ 17 24 (x1 + 2)).bind fun x7 =>
if x6 < x7 then
(some 0)
else
((g_rd μ 17 24 (x1 + 3)).bind fun x9 =>
if x6 > x9 then
(some 0)
else
(some 1)))
else if x4 = 2 then
((some ((f_X6_yearns_5 a3 x3 5 0))).bind fun x12 =>
(g_rd μ 17 24 (x1 + 2)).bind fun x13 =>
if x12 < x13 then
(some 0)
else
((g_rd μ 17 24 (x1 + 3)).bind fun x15 =>
if x12 > x15 then
(some 0)
else
(some 1)))
else if x4 = 3 then
((some ((f_X1_yearns_6 a3 x3 5 0))).bind fun x18 =>
(g_rd μ 17 24 (x1 + 2)).bind fun x19 =>
if x18 < x19 then
(some 0)
else
((g_rd μ 17 24 (x1 + 3)).bind fun x21 =>
if x18 > x21 then
(some 0)
else
(some 1)))
else if x4 = 4 then
((some ((f_X4_yearns_7 a3 x3 5 0))).bind fun x24 =>
(g_rd μ 17 24 (x1 + 2)).bind fun x25 =>
if x24 < x25 then
(some 0)
else
((g_rd μ 17 24 (x1 + 3)).bind fun x27 =>
if x24 > x27 then
(some 0)
else
(some 1)))
else if x4 = 5 then
((some ((f_X5_yearns_8 a3 x3 5 0))).bind fun x30 =>
(g_rd μ 17 24 (x1 + 2)).bind fun x31 =>
if x30 < x31 then
(some 0)
else
((g_rd μ 17 24 (x1 + 3)).bind fun x33 =>
if x30 > x33 then
(some 0)
else
(some 1)))
else none
def f_X9_fits_L3 (N : Nat) : Nat → Int32 → Int32 → Int32 → Int32 → g_M → Option ((Int32) ⊕ (Unit))
  | 0, _, _, _, _, _ => none
  | n + 1, x_1, x_2, x_3, x_4, μ => if x_4 ≥ (μ 1 17) then
(some (.inr ()))
else
(if x_4 = x_3 then
(f_X9_fits_L3 N n x_1 x_2 x_3 (x_4 + 1) μ)
else
((f_X9_isSo x_4 x_1 x_2 μ).bind fun x3 =>
if x3 = 0 then
(some (.inl 0))
else
(f_X9_fits_L3 N n x_1 x_2 x_3 (x_4 + 1) μ)))
def f_X9_fits (N : Nat) (a1 : Int32) (a2 : Int32) (a3 : Int32) (μ : g_M) : Option Int32 :=
  (f_X9_fits_L3 N N a1 a2 a3 0 μ).bind fun w2 => (match w2 with
  | .inl q => some q
  | .inr _ => (
some 1))
def f_X9_fitting_L4 (N : Nat) : Nat → Int32 → Int32 → Int32 → g_M → Option (Int32)
  | 0, _, _, _, _ => none
  | n + 1, x_1, x_2, x_3, μ => if x_3 ≥ 160 then
(some x_2)
else
((f_X9_fits N (x_3 / 10) (g_rem x_3 10) x_1 μ).bind fun x2 =>
if x2 = 0 then
(f_X9_fitting_L4 N n x_1 x_2 (x_3 + 1) μ)
else
(f_X9_fitting_L4 N n x_1 (x_2 + 1) (x_3 + 1) μ))
def f_X9_fitting (N : Nat) (a1 : Int32) (μ : g_M) : Option Int32 :=
  (f_X9_fitting_L4 N N a1 0 0 μ).bind fun x1 =>
some x1
def f_X9_firstFitting_L2 (N : Nat) : Nat → Int32 → Int32 → g_M → Option ((Int32) ⊕ (Unit))
  | 0, _, _, _ => none
  | n + 1, x_1, x_2, μ => if x_2 ≥ 160 then
(some (.inr ()))
else
((f_X9_fits N (x_2 / 10) (g_rem x_2 10) x_1 μ).bind fun x2 =>
if x2 = 0 then
(f_X9_firstFitting_L2 N n x_1 (x_2 + 1) μ)
else
(some (.inl x_2)))
def f_X9_firstFitting (N : Nat) (a1 : Int32) (μ : g_M) : Option Int32 :=
  (f_X9_firstFitting_L2 N N a1 0 μ).bind fun w2 => (match w2 with
  | .inl q => some q
  | .inr _ => (
some (-1)))
def f_X11_span (N : Nat) (a1 : Int32) (μ : g_M) : Option Int32 :=
  if (f_X11_isBetween a1 0 2) = 0 then
(some (-1))
else
(if a1 = 0 then
((f_X9_fitting N 6 μ).bind fun x7 =>
some x7)
else
((f_X9_firstFitting N 6 μ).bind fun x3 =>
if x3 ≥ 0 then
(if a1 = 1 then
(some (x3 / 10))
else
(some (g_rem x3 10)))
else
(some (-3))))
def f_X11_liar_L17 (N : Nat) : Nat → Int32 → g_M → Option ((Int32) ⊕ (Unit))
  | 0, _, _ => none
  | n + 1, x_1, μ => if x_1 ≥ (μ 1 17) then
(some (.inr ()))
else
((f_X9_firstFitting N x_1 μ).bind fun x5 =>
if x5 < 0 then
(f_X11_liar_L17 N n (x_1 + 1) μ)
else
(some (.inl x_1)))
def f_X11_liar (N : Nat) (μ : g_M) : Option Int32 :=
  (f_X9_firstFitting N 6 μ).bind fun x1 =>
if x1 < 0 then
((f_X11_liar_L17 N N 0 μ).bind fun w5 => (match w5 with
  | .inl q => some q
  | .inr _ => (
some (-3))))
else
(some (-3))
def f_X11_seed  (a1 : Int32) (μ : g_M) : Option (Int32 × g_M) :=
  (some (g_set μ 1 16 a1)).bind fun μ1 =>
some ((μ 1 16), μ1)
def f_X11_nextLot  (a1 : Int32) : Int32 :=
  ((a1 * 1103515245) + 12345)
def f_X9_actByLot  (a1 : Int32) (μ : g_M) : Option Int32 :=
  (g_rmo (g_ush a1 16) ((μ 1 11) + 1)).bind fun x1 =>
some x1
def f_X11_lot (N : Nat) (μ : g_M) : Option (Int32 × g_M) :=
  if (f_X9_isOver μ) = 0 then
((some (g_set μ 1 16 (f_X11_nextLot (μ 1 16)))).bind fun μ2 =>
(f_X9_actByLot (μ2 1 16) μ2).bind fun x3 =>
(f_X9_passNight N (f_X11_chainOf x3) μ2).bind fun (x5, μ7) =>
some (x5, μ7))
else
(some ((-4), μ))
def f_X11_times_L64 (N : Nat) : Nat → Int32 → Int32 → Int32 → Int32 → Int32 → Int32 → Int32 → Int32 → g_M → Option (Int32 × Int32 × g_M)
  | 0, _, _, _, _, _, _, _, _, _ => none
  | n + 1, x_1, x_2, x_3, x_4, x_5, x_6, x_7, x_8, μ => if x_8 ≥ (μ 1 14) then
(some (x_3, x_7, μ))
else
((some ((f_X11_nextLot x_3))).bind fun x5 =>
(f_X9_actByLot x5 μ).bind fun x6 =>
(f_X9_after N x_6 x_8 (f_X11_chainOf x6) μ).bind fun (x8, μ10) =>
(f_X9_worthOf N x8 x_8 μ10).bind fun x11 =>
(some ((x_7 + x11))).bind fun x13 =>
f_X11_times_L64 N n x_1 x_2 x5 x_4 x_5 x8 x13 (x_8 + 1) μ10)
def f_X11_times_L37 (N : Nat) : Nat → Int32 → Int32 → Int32 → Int32 → Int32 → g_M → Option (Int32 × g_M)
  | 0, _, _, _, _, _, _ => none
  | n + 1, x_1, x_2, x_3, x_4, x_5, μ => if x_5 ≥ x_1 then
(some (x_4, μ))
else
((f_X11_times_L64 N N x_1 x_2 x_3 x_4 x_5 (μ 1 12) 0 (μ 1 13) μ).bind fun (x4, x5, μ6) =>
if x5 < x_2 then
(f_X11_times_L37 N n x_1 x_2 x4 x_4 (x_5 + 1) μ6)
else
(f_X11_times_L37 N n x_1 x_2 x4 (x_4 + 1) (x_5 + 1) μ6))
def f_X11_times (N : Nat) (a1 : Int32) (a2 : Int32) (μ : g_M) : Option (Int32 × g_M) :=
  if (f_X11_isBetween a1 1 40) = 0 then
(some ((-1), μ))
else
(if (f_X11_isBetween a2 0 999) = 0 then
(some ((-1), μ))
else
((f_X11_times_L37 N N a1 a2 (μ 1 16) 0 0 μ).bind fun (x3, μ4) =>
some (x3, μ4)))
def f_X11_prove_L31 (N : Nat) : Nat → Int32 → Int32 → Int32 → g_M → Option (g_M)
  | 0, _, _, _, _ => none
  | n + 1, x_1, x_2, x_3, μ => if x_3 ≥ (μ 0 11) then
(some μ)
else
((some (((μ 1 13) + x_3))).bind fun x4 =>
(f_X2_firstBestAct N x_2 x4 (x_1 - x_3) μ).bind fun (x5, μ7) =>
(f_X9_after N x_2 x4 (f_X11_chainOf x5) μ7).bind fun (x8, μ10) =>
(g_wr μ10 52 12 (x_3 * 3) x5).bind fun μ11 =>
(f_X9_worthOf N x8 x4 μ11).bind fun x12 =>
(g_wr μ11 52 12 ((x_3 * 3) + 1) x12).bind fun μ14 =>
(f_X9_homeSet N x8 μ14).bind fun x15 =>
(g_wr μ14 52 12 ((x_3 * 3) + 2) x15).bind fun μ17 =>
f_X11_prove_L31 N n x_1 x8 (x_3 + 1) μ17)
def f_X11_prove (N : Nat) (a1 : Int32) (μ : g_M) : Option (Int32 × g_M) :=
  if (f_X11_isPlan a1) = 0 then
(some ((-1), μ))
else
((some (g_set μ 0 11 (f_X9_nightsOf a1 μ))).bind fun μ2 =>
(f_X11_prove_L31 N N a1 (μ2 1 12) 0 μ2).bind fun μ3 =>
some ((μ3 0 11), μ3))
def f_X11_isRow  (a1 : Int32) (a2 : Int32) (μ : g_M) : Int32 :=
  if (f_X11_isBetween a1 0 ((μ 0 11) - 1)) = 0 then
(0)
else
(if (f_X11_isBetween a2 0 2) = 0 then
(0)
else
(1))
def f_X11_row  (a1 : Int32) (a2 : Int32) (μ : g_M) : Option Int32 :=
  if (f_X11_isRow a1 a2 μ) = 0 then
(some (-9))
else
((g_rd μ 52 12 ((a1 * 3) + a2)).bind fun x2 =>
some x2)
def f_X11_alterRow  (a1 : Int32) (a2 : Int32) (a3 : Int32) (μ : g_M) : Option (Int32 × g_M) :=
  if (f_X11_isRow a1 a2 μ) = 0 then
(some ((-9), μ))
else
((g_rd μ 52 12 ((a1 * 3) + a2)).bind fun x2 =>
(g_wr μ 52 12 ((a1 * 3) + a2) a3).bind fun μ3 =>
some (x2, μ3))
def f_X11_isAct  (a1 : Int32) (μ : g_M) : Int32 :=
  (f_X11_isBetween a1 0 (μ 1 11))
def f_X11_judge_L10 (N : Nat) : Nat → Int32 → Int32 → g_M → Option ((Int32 × g_M) ⊕ (g_M))
  | 0, _, _, _ => none
  | n + 1, x_1, x_2, μ => if x_2 ≥ (μ 0 11) then
(some (.inr μ))
else
((some (((μ 1 13) + x_2))).bind fun x2 =>
(g_rd μ 52 12 (x_2 * 3)).bind fun x3 =>
if (f_X11_isAct x3 μ) = 0 then
(some (.inl ((x_2 + 1), μ)))
else
(if x2 < (μ 1 14) then
((f_X9_after N x_1 x2 (f_X11_chainOf x3) μ).bind fun (x6, μ8) =>
(g_rd μ8 52 12 ((x_2 * 3) + 1)).bind fun x9 =>
(f_X9_worthOf N x6 x2 μ8).bind fun x10 =>
if x9 = x10 then
((g_rd μ8 52 12 ((x_2 * 3) + 2)).bind fun x17 =>
(f_X9_homeSet N x6 μ8).bind fun x18 =>
if x17 = x18 then
(f_X11_judge_L10 N n x6 (x_2 + 1) μ8)
else
(some (.inl ((x_2 + 1), μ8))))
else
((g_rd μ8 52 12 ((x_2 * 3) + 2)).bind fun x13 =>
(f_X9_homeSet N x6 μ8).bind fun x14 =>
if x13 = x14 then
(some (.inl ((x_2 + 1), μ8)))
else
(some (.inl ((x_2 + 1), μ8)))))
else
(some (.inl ((x_2 + 1), μ)))))
def f_X11_judge (N : Nat) (μ : g_M) : Option (Int32 × g_M) :=
  (f_X11_judge_L10 N N (μ 1 12) 0 μ).bind fun w3 => (match w3 with
  | .inl q => some q
  | .inr μ1 => (
some (0, μ1)))
def f_X11_isSheet  (a1 : Int32) : Int32 :=
  (f_X11_isBetween a1 0 3)
def f_X11_sheet_L71 (N : Nat) : Nat → Int32 → Int32 → Int32 → g_M → Option (g_M)
  | 0, _, _, _, _ => none
  | n + 1, x_1, x_3, x_4, μ => if x_4 ≥ x_3 then
(some μ)
else
((g_ix 4 x_1).bind fun j9 =>
(g_wr μ (56 + j9) 40 x_4 0).bind fun μ10 =>
f_X11_sheet_L71 N n x_1 x_3 (x_4 + 1) μ10)
def f_X11_sheet (N : Nat) (a1 : Int32) (a2 : Int32) (a3 : Int32) (μ : g_M) : Option (Int32 × g_M) :=
  if (f_X11_isSheet a1) = 0 then
(some ((-1), μ))
else
(if (f_X11_isBetween a2 (-1) 4) = 0 then
(some ((-1), μ))
else
(if a2 = (-1) then
((g_wr μ 53 4 a1 (-1)).bind fun μ10 =>
(g_wr μ10 54 4 a1 0).bind fun μ11 =>
some (1, μ11))
else
(if a3 ≤ 40 then
(if a3 ≥ 0 then
((g_wr μ 53 4 a1 a2).bind fun μ6 =>
(g_wr μ6 54 4 a1 a3).bind fun μ7 =>
(f_X11_sheet_L71 N N a1 a3 0 μ7).bind fun μ8 =>
some (1, μ8))
else
(some ((-14), μ)))
else
(some ((-1), μ)))))
def f_X11_isItem  (a1 : Int32) (a2 : Int32) (μ : g_M) : Option Int32 :=
  (g_rd μ 54 4 a1).bind fun x1 =>
some (f_X11_isBetween a2 0 (x1 - 1))
def f_X11_narrowed  (a1 : Int32) (a2 : Int32) : Int32 :=
  if a2 = 0 then
(((Int32.toInt8 a1).toInt32))
else if a2 = 1 then
(((Int32.toInt16 a1).toInt32))
else if a2 = 2 then
(a1)
else if a2 = 3 then
(a1)
else if a2 = 4 then
(if a1 = 0 then
(0)
else
(1))
else 
(a1)
def f_X11_write  (a1 : Int32) (a2 : Int32) (a3 : Int32) (μ : g_M) : Option (Int32 × g_M) :=
  if (f_X11_isSheet a1) = 0 then
(some ((-1), μ))
else
((g_rd μ 53 4 a1).bind fun x2 =>
if x2 = (-1) then
(some ((-11), μ))
else
((f_X11_isItem a1 a2 μ).bind fun x4 =>
if x4 = 0 then
(some ((-12), μ))
else
((g_ix 4 a1).bind fun j7 =>
(g_rd μ 53 4 a1).bind fun x8 =>
(g_wr μ (56 + j7) 40 a2 (f_X11_narrowed a3 x8)).bind fun μ9 =>
some (1, μ9))))
def f_X11_refusalAs  (a1 : Int32) (a2 : Int32) (μ : g_M) : Option Int32 :=
  (g_rd μ 53 4 a1).bind fun x1 =>
if x1 = (-1) then
(some (-11))
else
((g_rd μ 53 4 a1).bind fun x3 =>
if x3 = a2 then
(some 0)
else
(some (-13)))
def f_X11_item  (a1 : Int32) (a2 : Int32) (a3 : Int32) (μ : g_M) : Option Int32 :=
  if (f_X11_isSheet a1) = 0 then
(some (-1))
else
(if (f_X11_isBetween a2 0 4) = 0 then
(some (-1))
else
((f_X11_refusalAs a1 a2 μ).bind fun x3 =>
if x3 ≥ 0 then
((f_X11_isItem a1 a3 μ).bind fun x6 =>
if x6 = 0 then
(some (-12))
else
((g_ix 4 a1).bind fun j9 =>
(g_rd μ (56 + j9) 40 a3).bind fun x10 =>
some x10))
else
(some x3)))
def f_X11_goAll_L41 (N : Nat) : Nat → Int32 → Int32 → Int32 → Int32 → Int32 → g_M → Option ((Int32 × g_M) ⊕ (Int32 × g_M))
  | 0, _, _, _, _, _, _ => none
  | n + 1, x_1, x_2, x_3, x_5, x_6, μ => if x_6 ≥ x_3 then
(some (.inr (x_5, μ)))
else
((f_X11_isItem x_1 (x_2 + x_6) μ).bind fun x7 =>
if x7 = 0 then
(some (.inl ((-12), μ)))
else
((g_ix 4 x_1).bind fun j10 =>
(g_rd μ (56 + j10) 40 (x_2 + x_6)).bind fun x11 =>
if (f_X11_isAct x11 μ) = 0 then
(f_X11_goAll_L41 N n x_1 x_2 x_3 x_5 (x_6 + 1) μ)
else
(if (f_X9_isOver μ) = 0 then
((f_X9_passNight N (f_X11_chainOf x11) μ).bind fun (x14, μ16) =>
(some ((x_5 + x14))).bind fun x17 =>
f_X11_goAll_L41 N n x_1 x_2 x_3 x17 (x_6 + 1) μ16)
else
(f_X11_goAll_L41 N n x_1 x_2 x_3 x_5 (x_6 + 1) μ))))
def f_X11_goAll (N : Nat) (a1 : Int32) (a2 : Int32) (a3 : Int32) (μ : g_M) : Option (Int32 × g_M) :=
  if (f_X11_isSheet a1) = 0 then
(some ((-1), μ))
else
(if (f_X11_isBetween a3 0 20) = 0 then
(some ((-1), μ))
else
((f_X11_refusalAs a1 0 μ).bind fun x3 =>
if x3 ≥ 0 then
((f_X11_goAll_L41 N N a1 a2 a3 0 0 μ).bind fun w9 => (match w9 with
  | .inl q => some q
  | .inr (x6, μ7) => (
some (x6, μ7))))
else
(some (x3, μ))))
def f_X11_wouldBe_L50 (N : Nat) : Nat → Int32 → Int32 → Int32 → Int32 → Int32 → Int32 → g_M → Option ((Int32 × g_M) ⊕ (Int32 × g_M))
  | 0, _, _, _, _, _, _, _ => none
  | n + 1, x_1, x_2, x_3, x_5, x_6, x_7, μ => if x_7 ≥ x_3 then
(some (.inr (x_6, μ)))
else
((f_X11_isItem x_1 (x_2 + x_7) μ).bind fun x7 =>
if x7 = 0 then
(some (.inl ((-12), μ)))
else
((g_ix 4 x_1).bind fun j10 =>
(g_rd μ (56 + j10) 40 (x_2 + x_7)).bind fun x11 =>
(some (((μ 1 13) + x_7))).bind fun x12 =>
if (f_X11_isAct x11 μ) = 0 then
(some (.inl ((-4), μ)))
else
(if x12 < (μ 1 14) then
((f_X9_after N x_5 x12 (f_X11_chainOf x11) μ).bind fun (x15, μ17) =>
(f_X9_worthOf N x15 x12 μ17).bind fun x18 =>
(some ((x_6 + x18))).bind fun x20 =>
f_X11_wouldBe_L50 N n x_1 x_2 x_3 x15 x20 (x_7 + 1) μ17)
else
(some (.inl ((-4), μ))))))
def f_X11_wouldBe (N : Nat) (a1 : Int32) (a2 : Int32) (a3 : Int32) (μ : g_M) : Option (Int32 × g_M) :=
  if (f_X11_isSheet a1) = 0 then
(some ((-1), μ))
else
(if (f_X11_isBetween a3 0 20) = 0 then
(some ((-1), μ))
else
((f_X11_refusalAs a1 0 μ).bind fun x3 =>
if x3 ≥ 0 then
((f_X11_wouldBe_L50 N N a1 a2 a3 (μ 1 12) 0 0 μ).bind fun w9 => (match w9 with
  | .inl q => some q
  | .inr (x6, μ7) => (
some (x6, μ7))))
else
(some (x3, μ))))
def f_X11_isShelf  (a1 : Int32) : Int32 :=
  (f_X11_isBetween a1 0 3)
def f_X11_putOn  (a1 : Int32) (a2 : Int32) (a3 : Int32) (a4 : Int32) (μ : g_M) : Option (Int32 × g_M) :=
  (g_wr μ 60 4 a1 a2).bind fun μ1 =>
(g_wr μ1 61 4 a1 a3).bind fun μ2 =>
(g_wr μ2 62 4 a1 a4).bind fun μ3 =>
some (1, μ3)
def f_X11_shelf  (a1 : Int32) (a2 : Int32) (a3 : Int32) (μ : g_M) : Option (Int32 × g_M) :=
  if (f_X11_isShelf a1) = 0 then
(some ((-1), μ))
else
(if a2 = 0 then
(if (f_X11_isOven a3 μ) = 0 then
(if a2 = 1 then
(if (f_X11_isSheet a3) = 0 then
(if a2 = 2 then
((f_X11_putOn a1 2 0 0 μ).bind fun (x33, μ35) =>
some (x33, μ35))
else
(some ((-1), μ)))
else
((g_rd μ 53 4 a3).bind fun x36 =>
if x36 = (-1) then
((g_rd μ 53 4 a3).bind fun x43 =>
(g_rd μ 54 4 a3).bind fun x44 =>
(f_X11_putOn a1 2 x43 x44 μ).bind fun (x45, μ47) =>
some (x45, μ47))
else
((g_rd μ 53 4 a3).bind fun x38 =>
(g_rd μ 54 4 a3).bind fun x39 =>
(f_X11_putOn a1 1 x38 x39 μ).bind fun (x40, μ42) =>
some (x40, μ42))))
else
(if a2 = 2 then
((f_X11_putOn a1 2 0 0 μ).bind fun (x28, μ30) =>
some (x28, μ30))
else
(some ((-1), μ))))
else
((f_X11_putOn a1 0 a3 0 μ).bind fun (x48, μ50) =>
some (x48, μ50)))
else
(if a2 = 1 then
(if (f_X11_isSheet a3) = 0 then
(if a2 = 2 then
((f_X11_putOn a1 2 0 0 μ).bind fun (x10, μ12) =>
some (x10, μ12))
else
(some ((-1), μ)))
else
((g_rd μ 53 4 a3).bind fun x13 =>
if x13 = (-1) then
((g_rd μ 53 4 a3).bind fun x20 =>
(g_rd μ 54 4 a3).bind fun x21 =>
(f_X11_putOn a1 2 x20 x21 μ).bind fun (x22, μ24) =>
some (x22, μ24))
else
((g_rd μ 53 4 a3).bind fun x15 =>
(g_rd μ 54 4 a3).bind fun x16 =>
(f_X11_putOn a1 1 x15 x16 μ).bind fun (x17, μ19) =>
some (x17, μ19))))
else
(if a2 = 2 then
((f_X11_putOn a1 2 0 0 μ).bind fun (x5, μ7) =>
some (x5, μ7))
else
(some ((-1), μ)))))
def f_X11_heldOn  (a1 : Int32) (μ : g_M) : Option Int32 :=
  (g_rd μ 60 4 a1).bind fun x1 =>
if x1 = 0 then
((g_rd μ 61 4 a1).bind fun x4 =>
if (f_X11_isOven x4 μ) = 0 then
(some 2)
else
((g_rd μ 60 4 a1).bind fun x6 =>
some x6))
else
((g_rd μ 60 4 a1).bind fun x3 =>
some x3)
def f_X11_taken  (a1 : Int32) (a2 : Int32) (μ : g_M) : Option Int32 :=
  (some ((f_X11_isBetween a2 10 14))).bind fun x1 =>
if (f_X11_isShelf a1) = 0 then
(some (-1))
else
(if x1 = 0 then
(if (f_X11_isBetween a2 0 5) = 0 then
(some (-1))
else
((f_X11_heldOn a1 μ).bind fun x12 =>
if x12 = 2 then
(some (-11))
else
((g_rd μ 61 4 a1).bind fun x15 =>
if x12 = 1 then
(some (-13))
else
((g_rd μ 9 6 x15).bind fun x17 =>
(f_X11_isUnder x17 a2 μ).bind fun x18 =>
if x18 = 0 then
(some (-13))
else
(some x15)))))
else
((f_X11_heldOn a1 μ).bind fun x4 =>
if x4 = 2 then
(some (-11))
else
((g_rd μ 61 4 a1).bind fun x7 =>
if x4 = 1 then
(if x7 = (a2 - 10) then
((g_rd μ 62 4 a1).bind fun x10 =>
some x10)
else
(some (-13)))
else
(some (-13)))))
def f_X0_clear  (μ : g_M) : Option g_M :=
  (some (g_set μ 50 1 0)).bind fun μ1 =>
(some (g_set μ1 50 4 0)).bind fun μ2 =>
some μ2
def f_X0_began  (a1 : Int32) (μ : g_M) : Option g_M :=
  if (μ 50 1) ≥ (Int32.ofNat 30) then
(some μ)
else
((g_wr μ 51 30 (μ 50 1) a1).bind fun μ2 =>
(some (g_set μ2 50 1 ((μ2 50 1) + 1))).bind fun μ3 =>
some μ3)
def f_X3_parts_4_50  (a1 : Int32) (μ : g_M) : Option (Int32 × g_M) :=
  (f_X0_began 12 μ).bind fun μ3 =>
(some (((μ3 50 2) - (μ3 50 3)))).bind fun x4 =>
if x4 = 0 then
((some (g_set μ3 50 4 1)).bind fun μ7 =>
some (0, μ7))
else
((g_rmo a1 x4).bind fun x6 =>
some (x6, μ3))
def f_X3_parts_5_50  (a1 : Int32) (μ : g_M) : Option (Int32 × g_M) :=
  (f_X0_began 12 μ).bind fun μ3 =>
(some (((μ3 50 2) - (μ3 50 3)))).bind fun x4 =>
if x4 = 0 then
((some (g_set μ3 50 4 1)).bind fun μ7 =>
some (0, μ7))
else
((g_rmo a1 x4).bind fun x6 =>
some (x6, μ3))
def f_X3_parts_6_50  (a1 : Int32) (μ : g_M) : Option (Int32 × g_M) :=
  (f_X0_began 12 μ).bind fun μ3 =>
(some (((μ3 50 2) - (μ3 50 3)))).bind fun x4 =>
if x4 = 0 then
((some (g_set μ3 50 4 1)).bind fun μ7 =>
some (0, μ7))
else
((g_rmo a1 x4).bind fun x6 =>
some (x6, μ3))
def f_X3_parts_7_50  (a1 : Int32) (μ : g_M) : Option (Int32 × g_M) :=
  (f_X0_began 12 μ).bind fun μ3 =>
(some (((μ3 50 2) - (μ3 50 3)))).bind fun x4 =>
if x4 = 0 then
((some (g_set μ3 50 4 1)).bind fun μ7 =>
some (0, μ7))
else
((g_rmo a1 x4).bind fun x6 =>
some (x6, μ3))
def f_X4_parts_7_50  (a1 : Int32) (μ : g_M) : Option (Int32 × g_M) :=
  (f_X0_began 40 μ).bind fun μ3 =>
(f_X3_parts_7_50 a1 μ3).bind fun (x4, μ6) =>
some ((x4 + (μ6 50 3)), μ6)
def f_X3_parts_8_50  (a1 : Int32) (μ : g_M) : Option (Int32 × g_M) :=
  (f_X0_began 12 μ).bind fun μ3 =>
(some (((μ3 50 2) - (μ3 50 3)))).bind fun x4 =>
if x4 = 0 then
((some (g_set μ3 50 4 1)).bind fun μ7 =>
some (0, μ7))
else
((g_rmo a1 x4).bind fun x6 =>
some (x6, μ3))
def f_X4_parts_8_50  (a1 : Int32) (μ : g_M) : Option (Int32 × g_M) :=
  (f_X0_began 40 μ).bind fun μ3 =>
(f_X3_parts_8_50 a1 μ3).bind fun (x4, μ6) =>
some ((x4 + (μ6 50 3)), μ6)
def f_X3_glows_8_50  (a1 : Int32) (μ : g_M) : Option (Int32 × g_M) :=
  (f_X0_began 10 μ).bind fun μ3 =>
some ((a1 - ((μ3 50 2) * 3)), μ3)
def f_X5_parts_8_50  (a1 : Int32) (μ : g_M) : Option (Int32 × g_M) :=
  (f_X0_began 61 μ).bind fun μ3 =>
(f_X4_parts_8_50 a1 μ3).bind fun (x4, μ6) =>
if (μ6 50 4) = 0 then
((f_X3_glows_8_50 (μ6 50 2) μ6).bind fun (x8, μ10) =>
some ((x4 - x8), μ10))
else
(some (0, μ6))
def f_X3_glows_4_50  (a1 : Int32) (μ : g_M) : Option (Int32 × g_M) :=
  (f_X0_began 10 μ).bind fun μ3 =>
some ((a1 - ((μ3 50 2) * 3)), μ3)
def f_X10_glows_4_50  (a1 : Int32) (μ : g_M) : Option (Int32 × g_M) :=
  (f_X0_began 20 μ).bind fun μ3 =>
(f_X3_glows_4_50 a1 μ3).bind fun (x4, μ6) =>
some ((x4 * 2), μ6)
def f_X3_longs_4_50  (a1 : Int32) (μ : g_M) : Option (Int32 × g_M) :=
  (f_X0_began 11 μ).bind fun μ3 =>
(f_X10_glows_4_50 a1 μ3).bind fun (x4, μ6) =>
some ((x4 ^^^ (μ6 50 3)), μ6)
def f_X3_glows_5_50  (a1 : Int32) (μ : g_M) : Option (Int32 × g_M) :=
  (f_X0_began 10 μ).bind fun μ3 =>
some ((a1 - ((μ3 50 2) * 3)), μ3)
def f_X3_longs_5_50  (a1 : Int32) (μ : g_M) : Option (Int32 × g_M) :=
  (f_X0_began 11 μ).bind fun μ3 =>
(f_X3_glows_5_50 a1 μ3).bind fun (x4, μ6) =>
some ((x4 ^^^ (μ6 50 3)), μ6)
def f_X6_longs_5_50  (a1 : Int32) (μ : g_M) : Option (Int32 × g_M) :=
  (f_X0_began 30 μ).bind fun μ3 =>
(f_X3_longs_5_50 a1 μ3).bind fun (x4, μ6) =>
some ((x4 - (μ6 50 2)), μ6)
def f_X3_glows_6_50  (a1 : Int32) (μ : g_M) : Option (Int32 × g_M) :=
  (f_X0_began 10 μ).bind fun μ3 =>
some ((a1 - ((μ3 50 2) * 3)), μ3)
def f_X1_glows_6_50  (a1 : Int32) (μ : g_M) : Option (Int32 × g_M) :=
  (f_X0_began 50 μ).bind fun μ3 =>
(f_X3_glows_6_50 a1 μ3).bind fun (x4, μ6) =>
some ((x4 ^^^ 3), μ6)
def f_X3_longs_6_50  (a1 : Int32) (μ : g_M) : Option (Int32 × g_M) :=
  (f_X0_began 11 μ).bind fun μ3 =>
(f_X1_glows_6_50 a1 μ3).bind fun (x4, μ6) =>
some ((x4 ^^^ (μ6 50 3)), μ6)
def f_X6_longs_6_50  (a1 : Int32) (μ : g_M) : Option (Int32 × g_M) :=
  (f_X0_began 30 μ).bind fun μ3 =>
(f_X3_longs_6_50 a1 μ3).bind fun (x4, μ6) =>
some ((x4 - (μ6 50 2)), μ6)
def f_X3_glows_7_50  (a1 : Int32) (μ : g_M) : Option (Int32 × g_M) :=
  (f_X0_began 10 μ).bind fun μ3 =>
some ((a1 - ((μ3 50 2) * 3)), μ3)
def f_X3_longs_7_50  (a1 : Int32) (μ : g_M) : Option (Int32 × g_M) :=
  (f_X0_began 11 μ).bind fun μ3 =>
(f_X3_glows_7_50 a1 μ3).bind fun (x4, μ6) =>
some ((x4 ^^^ (μ6 50 3)), μ6)
def f_X3_longs_8_50  (a1 : Int32) (μ : g_M) : Option (Int32 × g_M) :=
  (f_X0_began 11 μ).bind fun μ3 =>
(f_X3_glows_8_50 a1 μ3).bind fun (x4, μ6) =>
some ((x4 ^^^ (μ6 50 3)), μ6)
def f_X5_longs_8_50  (a1 : Int32) (μ : g_M) : Option (Int32 × g_M) :=
  (f_X0_began 60 μ).bind fun μ3 =>
(f_X3_longs_8_50 a1 μ3).bind fun (x4, μ6) =>
some ((0 - x4), μ6)
def f_X3_weds_4_50  (a1 : Int32) (μ : g_M) : Option (Int32 × g_M) :=
  (f_X0_began 13 μ).bind fun μ3 =>
(f_X3_longs_4_50 a1 μ3).bind fun (x4, μ6) =>
some ((x4 + 1), μ6)
def f_X3_weds_5_50  (a1 : Int32) (μ : g_M) : Option (Int32 × g_M) :=
  (f_X0_began 13 μ).bind fun μ3 =>
(f_X6_longs_5_50 a1 μ3).bind fun (x4, μ6) =>
some ((x4 + 1), μ6)
def f_X3_weds_6_50  (a1 : Int32) (μ : g_M) : Option (Int32 × g_M) :=
  (f_X0_began 13 μ).bind fun μ3 =>
(f_X6_longs_6_50 a1 μ3).bind fun (x4, μ6) =>
some ((x4 + 1), μ6)
def f_X1_weds_6_50  (a1 : Int32) (μ : g_M) : Option (Int32 × g_M) :=
  (f_X0_began 51 μ).bind fun μ3 =>
(f_X3_weds_6_50 a1 μ3).bind fun (x4, μ6) =>
(f_X3_parts_6_50 a1 μ6).bind fun (x7, μ9) =>
some ((x4 * x7), μ9)
def f_X3_weds_7_50  (a1 : Int32) (μ : g_M) : Option (Int32 × g_M) :=
  (f_X0_began 13 μ).bind fun μ3 =>
(f_X3_longs_7_50 a1 μ3).bind fun (x4, μ6) =>
some ((x4 + 1), μ6)
def f_X3_weds_8_50  (a1 : Int32) (μ : g_M) : Option (Int32 × g_M) :=
  (f_X0_began 13 μ).bind fun μ3 =>
(f_X5_longs_8_50 a1 μ3).bind fun (x4, μ6) =>
some ((x4 + 1), μ6)
def f_X11_act  (a1 : Int32) (a2 : Int32) (a3 : Int32) (μ : g_M) : Option (Int32 × g_M) :=
  (f_X0_clear μ).bind fun μ3 =>
if (f_X11_isShelf a1) = 0 then
(some (0, μ3))
else
(if (f_X11_isBetween a2 0 3) = 0 then
(some (0, μ3))
else
((f_X11_heldOn a1 μ3).bind fun x6 =>
if x6 = 0 then
((g_rd μ3 61 4 a1).bind fun x9 =>
(some (g_set μ3 50 2 x9)).bind fun μ10 =>
(g_rd μ10 12 6 x9).bind fun x11 =>
(some (g_set μ10 50 3 x11)).bind fun μ12 =>
(g_rd μ12 9 6 x9).bind fun x13 =>
if x13 = 1 then
(if a2 = 0 then
((f_X10_glows_4_50 a3 μ12).bind fun (x16, μ18) =>
if (μ18 50 4) = 0 then
(some (x16, μ18))
else
(some ((-15), μ18)))
else if a2 = 1 then
((f_X3_longs_4_50 a3 μ12).bind fun (x21, μ23) =>
if (μ23 50 4) = 0 then
(some (x21, μ23))
else
(some ((-15), μ23)))
else if a2 = 2 then
((f_X3_parts_4_50 a3 μ12).bind fun (x26, μ28) =>
if (μ28 50 4) = 0 then
(some (x26, μ28))
else
(some ((-15), μ28)))
else 
((f_X3_weds_4_50 a3 μ12).bind fun (x30, μ32) =>
if (μ32 50 4) = 0 then
(some (x30, μ32))
else
(some ((-15), μ32))))
else if x13 = 2 then
(if a2 = 0 then
((f_X3_glows_5_50 a3 μ12).bind fun (x36, μ38) =>
if (μ38 50 4) = 0 then
(some (x36, μ38))
else
(some ((-15), μ38)))
else if a2 = 1 then
((f_X6_longs_5_50 a3 μ12).bind fun (x41, μ43) =>
if (μ43 50 4) = 0 then
(some (x41, μ43))
else
(some ((-15), μ43)))
else if a2 = 2 then
((f_X3_parts_5_50 a3 μ12).bind fun (x46, μ48) =>
if (μ48 50 4) = 0 then
(some (x46, μ48))
else
(some ((-15), μ48)))
else 
((f_X3_weds_5_50 a3 μ12).bind fun (x50, μ52) =>
if (μ52 50 4) = 0 then
(some (x50, μ52))
else
(some ((-15), μ52))))
else if x13 = 3 then
(if a2 = 0 then
((f_X1_glows_6_50 a3 μ12).bind fun (x56, μ58) =>
if (μ58 50 4) = 0 then
(some (x56, μ58))
else
(some ((-15), μ58)))
else if a2 = 1 then
((f_X6_longs_6_50 a3 μ12).bind fun (x61, μ63) =>
if (μ63 50 4) = 0 then
(some (x61, μ63))
else
(some ((-15), μ63)))
else if a2 = 2 then
((f_X3_parts_6_50 a3 μ12).bind fun (x66, μ68) =>
if (μ68 50 4) = 0 then
(some (x66, μ68))
else
(some ((-15), μ68)))
else 
((f_X1_weds_6_50 a3 μ12).bind fun (x70, μ72) =>
if (μ72 50 4) = 0 then
(some (x70, μ72))
else
(some ((-15), μ72))))
else if x13 = 4 then
(if a2 = 0 then
((f_X3_glows_7_50 a3 μ12).bind fun (x76, μ78) =>
if (μ78 50 4) = 0 then
(some (x76, μ78))
else
(some ((-15), μ78)))
else if a2 = 1 then
((f_X3_longs_7_50 a3 μ12).bind fun (x81, μ83) =>
if (μ83 50 4) = 0 then
(some (x81, μ83))
else
(some ((-15), μ83)))
else if a2 = 2 then
((f_X4_parts_7_50 a3 μ12).bind fun (x86, μ88) =>
if (μ88 50 4) = 0 then
(some (x86, μ88))
else
(some ((-15), μ88)))
else 
((f_X3_weds_7_50 a3 μ12).bind fun (x90, μ92) =>
if (μ92 50 4) = 0 then
(some (x90, μ92))
else
(some ((-15), μ92))))
else if x13 = 5 then
(if a2 = 0 then
((f_X3_glows_8_50 a3 μ12).bind fun (x96, μ98) =>
if (μ98 50 4) = 0 then
(some (x96, μ98))
else
(some ((-15), μ98)))
else if a2 = 1 then
((f_X5_longs_8_50 a3 μ12).bind fun (x101, μ103) =>
if (μ103 50 4) = 0 then
(some (x101, μ103))
else
(some ((-15), μ103)))
else if a2 = 2 then
((f_X5_parts_8_50 a3 μ12).bind fun (x106, μ108) =>
if (μ108 50 4) = 0 then
(some (x106, μ108))
else
(some ((-15), μ108)))
else 
((f_X3_weds_8_50 a3 μ12).bind fun (x110, μ112) =>
if (μ112 50 4) = 0 then
(some (x110, μ112))
else
(some ((-15), μ112))))
else none)
else
(some (0, μ3))))
def f_X11_trace  (a1 : Int32) (μ : g_M) : Option Int32 :=
  if (f_X11_isBetween a1 0 ((μ 50 1) - 1)) = 0 then
(some (-3))
else
((g_rd μ 51 30 a1).bind fun x2 =>
some x2)
def f_X11_many (N : Nat) (t : Nat) (L : Nat) (a1 : Int32) (μ : g_M) : Option Int32 :=
  if a1 = 0 then
(some (μ 1 11))
else if a1 = 1 then
(some (μ t 4))
else if a1 = 2 then
((f_X9_homeSet N (μ 1 12) μ).bind fun x4 =>
(f_J6_bitCount_0f7a4 x4).bind fun x6 =>
some x6)
else if a1 = 3 then
(some (μ 1 17))
else if a1 = 4 then
(some (μ 0 11))
else if a1 = 5 then
(some (μ 45 6))
else if a1 = 6 then
(some (μ 50 1))
else 
(some (-1))
def f_X8_isLetter  (a1 : Int32) : Int32 :=
  if a1 < 97 then
(0)
else
(if a1 > 122 then
(0)
else
(1))
def f_X8_isDigit  (a1 : Int32) : Int32 :=
  if a1 < 48 then
(0)
else
(if a1 > 57 then
(0)
else
(1))
def f_X8_wordEnd_L54 (N : Nat) : Nat → Int32 → g_M → Option (Int32)
  | 0, _, _ => none
  | n + 1, x_2, μ => if x_2 ≥ (μ 45 6) then
(some x_2)
else
((g_rd μ 46 200 x_2).bind fun x7 =>
if (f_X8_isDigit x7) = 0 then
(some x_2)
else
(f_X8_wordEnd_L54 N n (x_2 + 1) μ))
def f_X8_wordEnd_L16 (N : Nat) : Nat → Int32 → g_M → Option (Int32)
  | 0, _, _ => none
  | n + 1, x_2, μ => if x_2 ≥ (μ 45 6) then
(some x_2)
else
((g_rd μ 46 200 x_2).bind fun x9 =>
if (f_X8_isLetter x9) = 0 then
(some x_2)
else
(f_X8_wordEnd_L16 N n (x_2 + 1) μ))
def f_X8_wordEnd (N : Nat) (a1 : Int32) (μ : g_M) : Option Int32 :=
  (some ((a1 + 1))).bind fun x1 =>
(g_rd μ 46 200 a1).bind fun x2 =>
if (f_X8_isLetter x2) = 0 then
((g_rd μ 46 200 a1).bind fun x4 =>
if (f_X8_isDigit x4) = 0 then
(some x1)
else
((f_X8_wordEnd_L54 N N x1 μ).bind fun x6 =>
some x6))
else
((f_X8_wordEnd_L16 N N x1 μ).bind fun x8 =>
some x8)
def f_X8_isName_L11 (N : Nat) : Nat → Int32 → Int32 → Int32 → Int32 → g_M → Option ((Int32) ⊕ (Unit))
  | 0, _, _, _, _, _ => none
  | n + 1, x_1, x_2, x_3, x_4, μ => if x_4 ≥ 8 then
(some (.inr ()))
else
(if x_4 ≥ x_3 then
((g_ch ((x_1 * 8) + x_4)).bind fun x4 =>
if x4 = 32 then
(f_X8_isName_L11 N n x_1 x_2 x_3 (x_4 + 1) μ)
else
(some (.inl 0)))
else
((g_rd μ 46 200 (x_2 + x_4)).bind fun x6 =>
(g_ch ((x_1 * 8) + x_4)).bind fun x7 =>
if x7 = x6 then
(f_X8_isName_L11 N n x_1 x_2 x_3 (x_4 + 1) μ)
else
(some (.inl 0))))
def f_X8_isName (N : Nat) (a1 : Int32) (a2 : Int32) (a3 : Int32) (μ : g_M) : Option Int32 :=
  if a3 ≤ 8 then
((f_X8_isName_L11 N N a1 a2 a3 0 μ).bind fun w3 => (match w3 with
  | .inl q => some q
  | .inr _ => (
some 1)))
else
(some 0)
def f_X8_nameCode_L2 (N : Nat) : Nat → Int32 → Int32 → Int32 → g_M → Option ((Int32) ⊕ (Unit))
  | 0, _, _, _, _ => none
  | n + 1, x_1, x_2, x_3, μ => if x_3 ≥ 18 then
(some (.inr ()))
else
((f_X8_isName N x_3 x_1 x_2 μ).bind fun x2 =>
if x2 = 0 then
(f_X8_nameCode_L2 N n x_1 x_2 (x_3 + 1) μ)
else
(some (.inl x_3)))
def f_X8_nameCode (N : Nat) (a1 : Int32) (a2 : Int32) (μ : g_M) : Option Int32 :=
  (f_X8_nameCode_L2 N N a1 a2 0 μ).bind fun w2 => (match w2 with
  | .inl q => some q
  | .inr _ => (
some 25))
def f_X8_codeOf (N : Nat) (a1 : Int32) (a2 : Int32) (μ : g_M) : Option Int32 :=
  (g_rd μ 46 200 a1).bind fun x1 =>
if (f_X8_isLetter x1) = 0 then
((g_rd μ 46 200 a1).bind fun x3 =>
if (f_X8_isDigit x3) = 0 then
((g_rd μ 46 200 a1).bind fun x5 =>
if x5 = 40 then
(some 23)
else if x5 = 41 then
(some 24)
else if x5 = 59 then
(some 19)
else if x5 = 60 then
(some 20)
else if x5 = 61 then
(some 21)
else if x5 = 62 then
(some 22)
else 
(some 25))
else
(if (a2 - a1) > 4 then
(some 25)
else
(some 18)))
else
((f_X8_nameCode N a1 (a2 - a1) μ).bind fun x13 =>
some x13)
def f_X8_numberOf_L5 (N : Nat) : Nat → Int32 → Int32 → Int32 → g_M → Option (Int32)
  | 0, _, _, _, _ => none
  | n + 1, x_2, x_3, x_4, μ => if x_4 ≥ x_2 then
(some x_3)
else
((g_rd μ 46 200 x_4).bind fun x2 =>
(some ((((x_3 * 10) + x2) - 48))).bind fun x3 =>
f_X8_numberOf_L5 N n x_2 x3 (x_4 + 1) μ)
def f_X8_numberOf (N : Nat) (a1 : Int32) (a2 : Int32) (μ : g_M) : Option Int32 :=
  (f_X8_numberOf_L5 N N a2 0 a1 μ).bind fun x1 =>
some x1
def f_X8_splitTape_L9 (N : Nat) : Nat → Int32 → g_M → Option (g_M)
  | 0, _, _ => none
  | n + 1, x_2, μ => if x_2 ≥ (μ 45 6) then
(some μ)
else
((f_X8_wordEnd N x_2 μ).bind fun x3 =>
(g_rd μ 46 200 x_2).bind fun x5 =>
if x5 = 32 then
((some ((g_max (x_2 + 1) x3))).bind fun x7 =>
f_X8_splitTape_L9 N n x7 μ)
else
((f_X8_codeOf N x_2 x3 μ).bind fun x8 =>
(g_wr μ 47 201 (μ 45 4) x8).bind fun μ10 =>
(g_wr μ10 48 201 (μ10 45 4) x_2).bind fun μ11 =>
(g_rd μ11 47 201 (μ11 45 4)).bind fun x12 =>
if x12 = 18 then
((f_X8_numberOf N x_2 x3 μ11).bind fun x17 =>
(g_wr μ11 49 201 (μ11 45 4) x17).bind fun μ19 =>
(some (g_set μ19 45 4 ((μ19 45 4) + 1))).bind fun μ20 =>
(some ((g_max (x_2 + 1) x3))).bind fun x21 =>
f_X8_splitTape_L9 N n x21 μ20)
else
((g_wr μ11 49 201 (μ11 45 4) 0).bind fun μ14 =>
(some (g_set μ14 45 4 ((μ14 45 4) + 1))).bind fun μ15 =>
(some ((g_max (x_2 + 1) x3))).bind fun x16 =>
f_X8_splitTape_L9 N n x16 μ15)))
def f_X8_splitTape (N : Nat) (μ : g_M) : Option g_M :=
  (some (g_set μ 45 4 0)).bind fun μ1 =>
(f_X8_splitTape_L9 N N 0 μ1).bind fun μ2 =>
(g_wr μ2 47 201 (μ2 45 4) 26).bind fun μ4 =>
(g_wr μ4 48 201 (μ4 45 4) (μ4 45 6)).bind fun μ5 =>
some μ5
def f_X8_pass  (a1 : Int32) (a2 : Int32) (μ : g_M) : Option (Int32 × g_M) :=
  if (μ 45 5) ≥ (μ 45 4) then
(some (0, μ))
else
((g_rd μ 47 201 (μ 45 5)).bind fun x2 =>
if x2 < a1 then
(some (0, μ))
else
((g_rd μ 47 201 (μ 45 5)).bind fun x4 =>
if x4 > a2 then
(some (0, μ))
else
((some (g_set μ 45 5 ((μ 45 5) + 1))).bind fun μ6 =>
some (1, μ6))))
def f_X8_readBracket_R (F : Int32 → g_M → Option (Int32 × g_M)) (N : Nat) (r : Nat) (L : Nat) (a1 : Int32) (μ : g_M) : Option (Int32 × g_M) :=
  if a1 ≥ 3 then
(some (0, μ))
else
((f_X8_pass 23 23 μ).bind fun (x2, μ4) =>
if x2 = 0 then
(some (0, μ4))
else
((F (a1 + 1) μ4).bind fun (x6, μ8) =>
if x6 = 0 then
(some (0, μ8))
else
((f_X8_pass 24 24 μ8).bind fun (x10, μ12) =>
if x10 = 0 then
(some (0, μ12))
else
(some (1, μ12)))))
def f_X7_addStep (r : Nat) (L : Nat) (a1 : Int32) (a2 : Int32) (a3 : Int32) (μ : g_M) : Option g_M :=
  (some (((μ r 5) * 3))).bind fun x1 =>
if (x1 + 3) > (Int32.ofNat L) then
(some μ)
else
((g_wr μ (r + 4) L x1 a1).bind fun μ3 =>
(g_wr μ3 (r + 4) L (x1 + 1) a2).bind fun μ4 =>
(g_wr μ4 (r + 4) L (x1 + 2) a3).bind fun μ5 =>
(some (g_set μ5 r 5 ((μ5 r 5) + 1))).bind fun μ6 =>
some μ6)
def f_X8_valueHere  (μ : g_M) : Option Int32 :=
  (g_rd μ 47 201 (μ 45 5)).bind fun x1 =>
if x1 < 13 then
((g_rd μ 49 201 (μ 45 5)).bind fun x3 =>
some x3)
else
((g_rd μ 47 201 (μ 45 5)).bind fun x4 =>
if x4 > 17 then
((g_rd μ 49 201 (μ 45 5)).bind fun x6 =>
some x6)
else
((g_rd μ 47 201 (μ 45 5)).bind fun x7 =>
some ((10000 + x7) - 13)))
def f_X8_readSign_R (r : Nat) (L : Nat) (μ : g_M) : Option (Int32 × g_M) :=
  (f_X8_valueHere μ).bind fun x1 =>
(f_X8_pass 13 18 μ).bind fun (x3, μ5) =>
if x3 = 0 then
(some (0, μ5))
else
((g_rd μ5 47 201 (μ5 45 5)).bind fun x7 =>
(some ((x7 - 20))).bind fun x8 =>
(f_X8_pass 20 22 μ5).bind fun (x9, μ11) =>
if x9 = 0 then
(some (0, μ11))
else
((f_X8_valueHere μ11).bind fun x13 =>
(f_X8_pass 13 18 μ11).bind fun (x15, μ17) =>
if x15 = 0 then
(some (0, μ17))
else
((f_X7_addStep r L x8 x1 x13 μ17).bind fun μ21 =>
some (1, μ21))))
def f_X8_readOne_R_L5 (F : Int32 → g_M → Option (Int32 × g_M)) (N : Nat) (r : Nat) (L : Nat) : Nat → Int32 → Int32 → Int32 → g_M → Option (Int32 × g_M)
  | 0, _, _, _, _ => none
  | n + 1, x_2, x_3, x_4, μ => if x_4 ≥ 200 then
(some (x_3, μ))
else
((f_X8_pass 12 12 μ).bind fun (x2, μ4) =>
if x2 = 0 then
(some (x_3, μ4))
else
(if x_3 = 0 then
(f_X8_readOne_R_L5 F N r L n x_2 1 (x_4 + 1) μ4)
else
(f_X8_readOne_R_L5 F N r L n x_2 0 (x_4 + 1) μ4)))
def f_X8_readOne_R (F : Int32 → g_M → Option (Int32 × g_M)) (N : Nat) (r : Nat) (L : Nat) (a1 : Int32) (μ : g_M) : Option (Int32 × g_M) :=
  (f_X8_readOne_R_L5 F N r L N a1 0 0 μ).bind fun (x1, μ2) =>
(g_rd μ2 47 201 (μ2 45 5)).bind fun x4 =>
if x4 = 23 then
((f_X8_readBracket_R F N r L a1 μ2).bind fun (x17, μ19) =>
if x17 = 0 then
((g_zc x17).bind fun x21 =>
some (x21, μ19))
else
(if x1 = 0 then
((g_zc x17).bind fun x23 =>
some (x23, μ19))
else
((f_X7_addStep r L 3 0 0 μ19).bind fun μ26 =>
(g_zc x17).bind fun x27 =>
some (x27, μ26))))
else
((f_X8_readSign_R r L μ2).bind fun (x6, μ8) =>
if x6 = 0 then
((g_zc x6).bind fun x10 =>
some (x10, μ8))
else
(if x1 = 0 then
((g_zc x6).bind fun x12 =>
some (x12, μ8))
else
((f_X7_addStep r L 3 0 0 μ8).bind fun μ15 =>
(g_zc x6).bind fun x16 =>
some (x16, μ15))))
def f_X8_readAll_R_L13 (F : Int32 → g_M → Option (Int32 × g_M)) (N : Nat) (r : Nat) (L : Nat) : Nat → Int32 → Int32 → g_M → Option ((Int32 × g_M) ⊕ (g_M))
  | 0, _, _, _ => none
  | n + 1, x_2, x_3, μ => if x_3 ≥ 200 then
(some (.inr μ))
else
((f_X8_pass 11 11 μ).bind fun (x6, μ8) =>
if x6 = 0 then
(some (.inr μ8))
else
((f_X8_readOne_R F N r L x_2 μ8).bind fun (x10, μ12) =>
if x10 = 0 then
(some (.inl (0, μ12)))
else
((f_X7_addStep r L 4 0 0 μ12).bind fun μ16 =>
f_X8_readAll_R_L13 F N r L n x_2 (x_3 + 1) μ16)))
def f_X8_readAll_R (F : Int32 → g_M → Option (Int32 × g_M)) (N : Nat) (r : Nat) (L : Nat) (a1 : Int32) (μ : g_M) : Option (Int32 × g_M) :=
  (f_X8_readOne_R F N r L a1 μ).bind fun (x1, μ3) =>
if x1 = 0 then
(some (0, μ3))
else
((f_X8_readAll_R_L13 F N r L N a1 0 μ3).bind fun w7 => (match w7 with
  | .inl q => some q
  | .inr μ5 => (
some (1, μ5))))
def f_X8_readCondition_R_L13 (F : Int32 → g_M → Option (Int32 × g_M)) (N : Nat) (r : Nat) (L : Nat) : Nat → Int32 → Int32 → g_M → Option ((Int32 × g_M) ⊕ (g_M))
  | 0, _, _, _ => none
  | n + 1, x_2, x_3, μ => if x_3 ≥ 200 then
(some (.inr μ))
else
((f_X8_pass 10 10 μ).bind fun (x6, μ8) =>
if x6 = 0 then
(some (.inr μ8))
else
((f_X8_readAll_R F N r L x_2 μ8).bind fun (x10, μ12) =>
if x10 = 0 then
(some (.inl (0, μ12)))
else
((f_X7_addStep r L 5 0 0 μ12).bind fun μ16 =>
f_X8_readCondition_R_L13 F N r L n x_2 (x_3 + 1) μ16)))
def f_X8_readCondition_R (N : Nat) (r : Nat) (L : Nat) : Nat → Int32 → g_M → Option (Int32 × g_M)
  | 0, _, _ => none
  | n + 1, a1, μ => (f_X8_readAll_R (f_X8_readCondition_R N r L n) N r L a1 μ).bind fun (x1, μ3) =>
if x1 = 0 then
(some (0, μ3))
else
((f_X8_readCondition_R_L13 (f_X8_readCondition_R N r L n) N r L N a1 0 μ3).bind fun w7 => (match w7 with
  | .inl q => some q
  | .inr μ5 => (
some (1, μ5))))
def f_X7_addRule (r : Nat) (L : Nat) (a1 : Int32) (a2 : Int32) (μ : g_M) : Option g_M :=
  if (μ r 4) ≥ 8 then
(some μ)
else
((g_wr μ (r + 1) 8 (μ r 4) a1).bind fun μ2 =>
(g_wr μ2 (r + 2) 8 (μ2 r 4) a2).bind fun μ3 =>
(g_wr μ3 (r + 3) 8 (μ3 r 4) (μ3 r 5)).bind fun μ4 =>
(some (g_set μ4 r 4 ((μ4 r 4) + 1))).bind fun μ5 =>
some μ5)
def f_X8_readRule_R (N : Nat) (r : Nat) (L : Nat) (μ : g_M) : Option (Int32 × g_M) :=
  (g_rd μ 47 201 (μ 45 5)).bind fun x1 =>
(f_X8_pass 0 5 μ).bind fun (x2, μ4) =>
if x2 = 0 then
(some (0, μ4))
else
((f_X8_pass 9 9 μ4).bind fun (x6, μ8) =>
if x6 = 0 then
((g_rd μ8 47 201 (μ8 45 5)).bind fun x10 =>
(some ((x10 - 6))).bind fun x11 =>
(f_X8_pass 6 8 μ8).bind fun (x12, μ14) =>
if x12 = 0 then
(some (0, μ14))
else
((f_X8_pass 19 19 μ14).bind fun (x16, μ18) =>
if x16 = 0 then
(some (0, μ18))
else
((f_X7_addRule r L x1 x11 μ18).bind fun μ22 =>
some (1, μ22))))
else
((f_X8_readCondition_R N r L 5 0 μ8).bind fun (x23, μ25) =>
if x23 = 0 then
(some (0, μ25))
else
((g_rd μ25 47 201 (μ25 45 5)).bind fun x27 =>
(some ((x27 - 6))).bind fun x28 =>
(f_X8_pass 6 8 μ25).bind fun (x29, μ31) =>
if x29 = 0 then
(some (0, μ31))
else
((f_X8_pass 19 19 μ31).bind fun (x33, μ35) =>
if x33 = 0 then
(some (0, μ35))
else
((f_X7_addRule r L x1 x28 μ35).bind fun μ39 =>
some (1, μ39))))))
