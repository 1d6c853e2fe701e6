def g_shM (a : Nat) : Option (Nat × Nat × Nat) := match a with
  | 0 => some (2, 12, 45)
  | 1 => some (0, 0, 544)
  | 2 => some (0, 0, 544)
  | 3 => some (0, 0, 190)
  | 4 => some (0, 0, 200)
  | 5 => some (0, 0, 6)
  | 6 => some (0, 0, 544)
  | 7 => some (0, 0, 6)
  | 8 => some (0, 0, 6)
  | 9 => some (0, 0, 4)
  | 10 => some (0, 0, 4)
  | 11 => some (0, 0, 12)
  | 12 => some (0, 0, 4)
  | 13 => some (0, 0, 4)
  | 14 => some (0, 0, 160)
  | 15 => some (0, 0, 4)
  | 16 => some (0, 0, 4)
  | 17 => some (0, 0, 4)
  | 18 => some (0, 0, 30)
  | _ => none
def g_rfM (a j : Nat) : Option Nat := match a, j with
  | 0, 0 => some 1
  | 0, 1 => some 2
  | 0, 3 => some 3
  | 0, 4 => some 4
  | 0, 6 => some 5
  | 0, 14 => some 6
  | 0, 16 => some 7
  | 0, 17 => some 8
  | 0, 20 => some 9
  | 0, 21 => some 10
  | 0, 31 => some 11
  | 0, 33 => some 12
  | 0, 34 => some 13
  | 0, 35 => some 14
  | 0, 36 => some 15
  | 0, 37 => some 16
  | 0, 38 => some 17
  | 0, 39 => some 18
  | _, _ => none
/-- the reference's world: its cells lie from b on -/
def g_XM (D : va_G) (cA : Nat → ClassId) (b : Nat) : g_X := (D, cA, fun a => b + a, fun _ a => g_shM a, fun q => b ≤ q ∧ q < b + 19)
def f_X12_isIn  (a1 : Int64) (a2 : Int64) (a3 : Int64) : Int32 :=
  if (lg_cmp a1 a2) < 0 then
(0)
else
(if (lg_cmp a1 a3) > 0 then
(0)
else
(1))
def f_X12_isOven  (a1 : Int32) (μ : g_M) : Int32 :=
  if a1 < 0 then
(0)
else
(if a1 ≥ (μ 1 0) then
(0)
else
(1))
def f_X12_its  (a1 : Int32) (a2 : Int32) (μ : g_M) : Option Int32 :=
  (g_rd μ 1 544 ((8 + (5 * a1)) + a2)).bind fun x1 =>
some x1
def f_X12_becomes  (a1 : Int32) (a2 : Int32) (μ : g_M) : Option (Int32 × g_M) :=
  (g_rd μ 1 544 a1).bind fun x1 =>
(g_wr μ 1 544 a1 a2).bind fun μ2 =>
some (x1, μ2)
def f_X12_laysAside_L2 (N : Nat) : Nat → Int32 → Int32 → g_M → Option (g_M)
  | 0, _, _, _ => none
  | n + 1, x_1, x_2, μ => if x_2 ≥ 38 then
(some μ)
else
((g_rd μ 1 544 x_2).bind fun x2 =>
(g_wr μ 3 190 ((38 * x_1) + x_2) x2).bind fun μ3 =>
f_X12_laysAside_L2 N n x_1 (x_2 + 1) μ3)
def f_X12_laysAside (N : Nat) (a1 : Int32) (μ : g_M) : Option g_M :=
  (f_X12_laysAside_L2 N N a1 0 μ).bind fun μ1 =>
some μ1
def f_X12_laysBack_L2 (N : Nat) : Nat → Int32 → Int32 → g_M → Option (g_M)
  | 0, _, _, _ => none
  | n + 1, x_1, x_2, μ => if x_2 ≥ 38 then
(some μ)
else
((g_rd μ 3 190 ((38 * x_1) + x_2)).bind fun x2 =>
(g_wr μ 1 544 x_2 x2).bind fun μ3 =>
f_X12_laysBack_L2 N n x_1 (x_2 + 1) μ3)
def f_X12_laysBack (N : Nat) (a1 : Int32) (μ : g_M) : Option g_M :=
  (f_X12_laysBack_L2 N N a1 0 μ).bind fun μ1 =>
some μ1
def f_X12_isOver  (μ : g_M) : Int32 :=
  if (μ 1 1) < (μ 1 2) then
(0)
else
(1)
def f_X12_oven  (a1 : Int32) (a2 : Int32) (a3 : Int32) (a4 : Int32) (μ : g_M) : Option (Int32 × g_M) :=
  if (f_X12_isIn (Int32.toInt64 a1) 1 5) = 0 then
(some ((-1), μ))
else
(if (f_X12_isIn (Int32.toInt64 a2) 0 9) = 0 then
(some ((-1), μ))
else
(if (f_X12_isIn (Int32.toInt64 a3) 0 15) = 0 then
(some ((-1), μ))
else
(if (f_X12_isIn (Int32.toInt64 a4) 1 9) = 0 then
(some ((-1), μ))
else
(if (μ 1 0) = 6 then
(some ((-2), μ))
else
((some ((8 + (5 * (μ 1 0))))).bind fun x6 =>
(g_wr μ 1 544 x6 a1).bind fun μ7 =>
(g_wr μ7 1 544 (x6 + 1) a2).bind fun μ8 =>
(g_wr μ8 1 544 (x6 + 2) a3).bind fun μ9 =>
(g_wr μ9 1 544 (x6 + 3) a4).bind fun μ10 =>
(g_wr μ10 1 544 (x6 + 4) 0).bind fun μ11 =>
(some (g_set μ11 1 0 ((μ11 1 0) + 1))).bind fun μ12 =>
some (((μ12 1 0) - 1), μ12))))))
def f_X12_apart  (a1 : Int32) (a2 : Int32) : Int32 :=
  if a1 ≥ a2 then
((a1 - a2))
else
((a2 - a1))
def f_X12_longsBy  (a1 : Int32) (a2 : Int32) (a3 : Int32) (a4 : Int32) (a5 : Int32) (a6 : Int32) : Int32 :=
  if a1 = 1 then
(((a4 - (f_X12_apart a3 a5)) - 3))
else if a1 = 2 then
(if a4 < a2 then
((-1))
else
((a4 - (f_X12_apart a3 a5))))
else if a1 = 3 then
((-1))
else if a1 = 4 then
(a4)
else 
(if a6 = 0 then
(a4)
else
((a4 + 2)))
def f_X12_longs  (a1 : Int32) (a2 : Int32) (μ : g_M) : Option Int32 :=
  (f_X12_its a1 0 μ).bind fun x1 =>
(f_X12_its a1 1 μ).bind fun x3 =>
(f_X12_its a1 2 μ).bind fun x5 =>
(f_X12_its a2 1 μ).bind fun x7 =>
(f_X12_its a2 2 μ).bind fun x9 =>
if a2 ≤ a1 then
(some (f_X12_longsBy x1 x3 x5 x7 x9 0))
else
(some (f_X12_longsBy x1 x3 x5 x7 x9 1))
def f_X12_bakes  (a1 : Int32) (μ : g_M) : Option Int32 :=
  (f_X12_its a1 3 μ).bind fun x1 =>
(f_X12_its a1 0 μ).bind fun x3 =>
if x3 = 1 then
(some (x1 / 2))
else if x3 = 2 then
(some (2 * x1))
else if x3 = 3 then
(some ((2 * x1) + 1))
else if x3 = 4 then
(some x1)
else if x3 = 5 then
(if (g_rem (μ 1 1) 2) = 1 then
(some 0)
else
(some x1))
else 
(some x1)
def f_X12_isUnder  (a1 : Int32) (a2 : Int32) : Int32 :=
  if a2 = 0 then
(1)
else
(if a1 = a2 then
(1)
else
(if a2 = 2 then
(if a1 = 3 then
(1)
else
(if a2 = 4 then
(if a1 = 5 then
(1)
else
(0))
else
(0)))
else
(if a2 = 4 then
(if a1 = 5 then
(1)
else
(0))
else
(0))))
def f_X12_valueOf  (a1 : Int32) (a2 : Int32) (μ : g_M) : Option Int32 :=
  if (a1 - 10000) = 0 then
(some (μ 1 1))
else if (a1 - 10000) = 1 then
((f_X12_its a2 1 μ).bind fun x3 =>
some x3)
else if (a1 - 10000) = 2 then
((f_X12_its a2 2 μ).bind fun x6 =>
some x6)
else if (a1 - 10000) = 3 then
((f_X12_its a2 3 μ).bind fun x9 =>
some x9)
else if (a1 - 10000) = 4 then
(some a2)
else 
(some a1)
def f_X12_holds_L17 (N : Nat) : Nat → Int32 → Int32 → Int64 → Int32 → g_M → Option (Int64)
  | 0, _, _, _, _, _ => none
  | n + 1, x_1, x_2, x_3, x_5, μ => (g_rd μ 1 544 ((38 + (4 * x_1)) + 3)).bind fun x2 =>
if x_5 ≥ x2 then
(some x_3)
else
((g_rd μ 1 544 (94 + (3 * x_5))).bind fun x4 =>
if x4 ≥ 3 then
(if x4 = 3 then
((some ((x_3 ^^^ 1))).bind fun x13 =>
f_X12_holds_L17 N n x_1 x_2 x13 (x_5 + 1) μ)
else
((some ((x_3 &&& 1))).bind fun x7 =>
(some ((x_3 / 2))).bind fun x8 =>
if x4 = 4 then
(if (lg_cmp x7 1) = 0 then
(f_X12_holds_L17 N n x_1 x_2 x8 (x_5 + 1) μ)
else
((some ((x8 &&& (-2)))).bind fun x11 =>
f_X12_holds_L17 N n x_1 x_2 x11 (x_5 + 1) μ))
else
((some ((x8 ||| x7))).bind fun x12 =>
f_X12_holds_L17 N n x_1 x_2 x12 (x_5 + 1) μ)))
else
((g_rd μ 1 544 ((94 + (3 * x_5)) + 1)).bind fun x14 =>
(f_X12_valueOf x14 x_2 μ).bind fun x15 =>
(g_rd μ 1 544 ((94 + (3 * x_5)) + 2)).bind fun x17 =>
(f_X12_valueOf x17 x_2 μ).bind fun x18 =>
if x4 = 0 then
(if x15 ≥ x18 then
((some (((2 * x_3) + 0))).bind fun x29 =>
f_X12_holds_L17 N n x_1 x_2 x29 (x_5 + 1) μ)
else
((some (((2 * x_3) + 1))).bind fun x30 =>
f_X12_holds_L17 N n x_1 x_2 x30 (x_5 + 1) μ))
else
(if x4 = 1 then
(if x15 = x18 then
((some (((2 * x_3) + 1))).bind fun x27 =>
f_X12_holds_L17 N n x_1 x_2 x27 (x_5 + 1) μ)
else
((some (((2 * x_3) + 0))).bind fun x26 =>
f_X12_holds_L17 N n x_1 x_2 x26 (x_5 + 1) μ))
else
(if x15 ≤ x18 then
((some (((2 * x_3) + 0))).bind fun x23 =>
f_X12_holds_L17 N n x_1 x_2 x23 (x_5 + 1) μ)
else
((some (((2 * x_3) + 1))).bind fun x24 =>
f_X12_holds_L17 N n x_1 x_2 x24 (x_5 + 1) μ)))))
def f_X12_holds (N : Nat) (a1 : Int32) (a2 : Int32) (μ : g_M) : Option Int32 :=
  (g_rd μ 1 544 ((38 + (4 * a1)) + 2)).bind fun x1 =>
(f_X12_holds_L17 N N a1 a2 1 x1 μ).bind fun x2 =>
if (lg_cmp (g_lrm x2 2) 1) = 0 then
(some 1)
else
(some 0)
def f_X12_will_L2 (N : Nat) : Nat → Int32 → Int32 → g_M → Option ((Int32) ⊕ (Unit))
  | 0, _, _, _ => none
  | n + 1, x_1, x_2, μ => if x_2 ≥ (μ 1 5) then
(some (.inr ()))
else
((f_X12_its x_1 0 μ).bind fun x2 =>
(g_rd μ 1 544 (38 + (4 * x_2))).bind fun x4 =>
if (f_X12_isUnder x2 x4) = 0 then
(f_X12_will_L2 N n x_1 (x_2 + 1) μ)
else
((f_X12_holds N x_2 x_1 μ).bind fun x6 =>
if x6 = 0 then
(f_X12_will_L2 N n x_1 (x_2 + 1) μ)
else
((g_rd μ 1 544 ((38 + (4 * x_2)) + 1)).bind fun x9 =>
some (.inl x9))))
def f_X12_will (N : Nat) (a1 : Int32) (μ : g_M) : Option Int32 :=
  (f_X12_will_L2 N N a1 0 μ).bind fun w2 => (match w2 with
  | .inl q => some q
  | .inr _ => (
some 0))
def f_X12_looks_L7 (N : Nat) : Nat → Int32 → Int32 → g_M → Option (g_M)
  | 0, _, _, _ => none
  | n + 1, x_1, x_2, μ => if x_2 ≥ (μ 1 0) then
(some μ)
else
((f_X12_will N x_2 μ).bind fun x3 =>
(g_wr μ 5 6 x_2 x3).bind fun μ5 =>
(f_X12_its x_2 4 μ5).bind fun x6 =>
if x6 = 0 then
(if ((x_1 >>> (x_2 &&& 31)) &&& 1) = 0 then
((g_rd μ5 5 6 x_2).bind fun x12 =>
if x12 = 1 then
((some (g_set μ5 0 7 ((μ5 0 7) ||| 0))).bind fun μ14 =>
f_X12_looks_L7 N n x_1 (x_2 + 1) μ14)
else
((some (g_set μ5 0 7 ((μ5 0 7) ||| (1 <<< (x_2 &&& 31))))).bind fun μ15 =>
f_X12_looks_L7 N n x_1 (x_2 + 1) μ15))
else
((some (g_set μ5 0 7 ((μ5 0 7) ||| 0))).bind fun μ11 =>
f_X12_looks_L7 N n x_1 (x_2 + 1) μ11))
else
((some (g_set μ5 0 7 ((μ5 0 7) ||| 0))).bind fun μ9 =>
f_X12_looks_L7 N n x_1 (x_2 + 1) μ9))
def f_X12_looks (N : Nat) (a1 : Int32) (μ : g_M) : Option g_M :=
  (some (g_set μ 0 7 0)).bind fun μ1 =>
(f_X12_looks_L7 N N a1 0 μ1).bind fun μ2 =>
some μ2
def f_X12_choice_L22 (N : Nat) : Nat → Int32 → Int32 → Int32 → Int32 → g_M → Option (Int32)
  | 0, _, _, _, _, _ => none
  | n + 1, x_1, x_2, x_3, x_4, μ => if x_4 ≥ (μ 1 0) then
(some x_2)
else
(if (((μ 0 7) >>> (x_1 &&& 31)) &&& 1) = 1 then
(if x_4 = x_1 then
(f_X12_choice_L22 N n x_1 x_2 x_3 (x_4 + 1) μ)
else
(if (((μ 0 7) >>> (x_4 &&& 31)) &&& 1) = 1 then
((f_X12_longs x_1 x_4 μ).bind fun x7 =>
if x7 ≤ x_3 then
(f_X12_choice_L22 N n x_1 x_2 x_3 (x_4 + 1) μ)
else
((f_X12_longs x_1 x_4 μ).bind fun x10 =>
f_X12_choice_L22 N n x_1 x_4 x10 (x_4 + 1) μ))
else
(f_X12_choice_L22 N n x_1 x_2 x_3 (x_4 + 1) μ)))
else
(some x_2))
def f_X12_choice (N : Nat) (a1 : Int32) (μ : g_M) : Option Int32 :=
  (g_rd μ 5 6 a1).bind fun x1 =>
if x1 = 2 then
((f_X12_choice_L22 N N a1 6 3 0 μ).bind fun x5 =>
some x5)
else
((f_X12_choice_L22 N N a1 6 0 0 μ).bind fun x3 =>
some x3)
def f_X12_ovenOf (N : Nat) (a1 : Int32) (a2 : Int32) (μ : g_M) : Option (Int32 × g_M) :=
  if (f_X12_isOven a1 μ) = 0 then
(some ((-1), μ))
else
(if (f_X12_isIn (Int32.toInt64 a2) 0 7) = 0 then
(some ((-1), μ))
else
((f_X12_looks N 0 μ).bind fun μ5 =>
if a2 ≥ 5 then
(if a2 = 5 then
((f_X12_bakes a1 μ5).bind fun x12 =>
some (x12, μ5))
else
(if a2 = 6 then
((g_rd μ5 5 6 a1).bind fun x11 =>
some (x11, μ5))
else
((f_X12_choice N a1 μ5).bind fun x9 =>
some (x9, μ5))))
else
((f_X12_its a1 a2 μ5).bind fun x14 =>
some (x14, μ5))))
def f_X12_change  (a1 : Int32) (a2 : Int32) (a3 : Int32) (μ : g_M) : Option (Int32 × g_M) :=
  if (f_X12_isOven a1 μ) = 0 then
(some ((-1), μ))
else
(if (f_X12_isIn (Int32.toInt64 a2) 1 4) = 0 then
(some ((-1), μ))
else
(if a2 = 3 then
(if a2 = 2 then
(if (f_X12_isIn (Int32.toInt64 a3) 1 15) = 0 then
(some ((-1), μ))
else
((f_X12_becomes ((8 + (5 * a1)) + a2) a3 μ).bind fun (x19, μ21) =>
some (x19, μ21)))
else
(if (f_X12_isIn (Int32.toInt64 a3) 1 9) = 0 then
(some ((-1), μ))
else
((f_X12_becomes ((8 + (5 * a1)) + a2) a3 μ).bind fun (x15, μ17) =>
some (x15, μ17))))
else
(if a2 = 2 then
(if (f_X12_isIn (Int32.toInt64 a3) 0 15) = 0 then
(some ((-1), μ))
else
((f_X12_becomes ((8 + (5 * a1)) + a2) a3 μ).bind fun (x10, μ12) =>
some (x10, μ12)))
else
(if (f_X12_isIn (Int32.toInt64 a3) 0 9) = 0 then
(some ((-1), μ))
else
((f_X12_becomes ((8 + (5 * a1)) + a2) a3 μ).bind fun (x6, μ8) =>
some (x6, μ8))))))
def f_X12_remake  (a1 : Int32) (a2 : Int32) (μ : g_M) : Option (Int32 × g_M) :=
  if (f_X12_isOven a1 μ) = 0 then
(some ((-1), μ))
else
(if (f_X12_isIn (Int32.toInt64 a2) 1 5) = 0 then
(some ((-1), μ))
else
((f_X12_becomes (8 + (5 * a1)) a2 μ).bind fun (x3, μ5) =>
some (x3, μ5)))
def f_X12_longing  (a1 : Int32) (a2 : Int32) (μ : g_M) : Option Int32 :=
  if (f_X12_isOven a1 μ) = 0 then
(some (-1))
else
(if (f_X12_isOven a2 μ) = 0 then
(some (-1))
else
(if a1 = a2 then
(some (-1))
else
((f_X12_longs a1 a2 μ).bind fun x4 =>
some (x4 + 100))))
def f_X12_ends  (a1 : Int32) (μ : g_M) : Option (Int32 × g_M) :=
  if (f_X12_isIn (Int32.toInt64 a1) 1 16) = 0 then
(some ((-1), μ))
else
(if a1 ≥ (μ 1 1) then
((f_X12_becomes 2 a1 μ).bind fun (x3, μ5) =>
some (x3, μ5))
else
(some ((-4), μ)))
def f_X12_anew_L2 (N : Nat) : Nat → Int32 → g_M → Option (g_M)
  | 0, _, _ => none
  | n + 1, x_1, μ => if x_1 ≥ (μ 1 0) then
(some μ)
else
((g_wr μ 1 544 ((8 + (5 * x_1)) + 4) 0).bind fun μ2 =>
f_X12_anew_L2 N n (x_1 + 1) μ2)
def f_X12_anew (N : Nat) (μ : g_M) : Option (Int32 × g_M) :=
  (f_X12_anew_L2 N N 0 μ).bind fun μ1 =>
(some (g_set μ1 1 3 0)).bind fun μ3 =>
(f_X12_becomes 1 0 μ3).bind fun (x4, μ6) =>
some (x4, μ6)
def f_X12_home_L4 (N : Nat) : Nat → Int32 → Int32 → g_M → Option (Int32)
  | 0, _, _, _ => none
  | n + 1, x_1, x_2, μ => if x_2 ≥ (μ 1 0) then
(some x_1)
else
((f_X12_its x_2 4 μ).bind fun x2 =>
if x2 = 0 then
((some ((x_1 ||| (1 <<< (x_2 &&& 31))))).bind fun x6 =>
f_X12_home_L4 N n x6 (x_2 + 1) μ)
else
((some ((x_1 ||| 0))).bind fun x5 =>
f_X12_home_L4 N n x5 (x_2 + 1) μ))
def f_X12_home (N : Nat) (μ : g_M) : Option Int32 :=
  (f_X12_home_L4 N N 0 0 μ).bind fun x1 =>
some x1
def f_X12_state (N : Nat) (a1 : Int32) (μ : g_M) : Option Int32 :=
  if a1 = 0 then
((g_rd μ 1 544 (1 + a1)).bind fun x2 =>
some x2)
else if a1 = 1 then
((g_rd μ 1 544 (1 + a1)).bind fun x4 =>
some x4)
else if a1 = 2 then
((g_rd μ 1 544 (1 + a1)).bind fun x6 =>
some x6)
else if a1 = 3 then
(if (f_X12_isOver μ) = 0 then
(some 0)
else
(some 1))
else if a1 = 4 then
((f_X12_home N μ).bind fun x10 =>
some x10)
else 
(some (-1))
def f_X12_feed_L32 (N : Nat) : Nat → Int64 → Int32 → Int32 → g_M → Option (g_M)
  | 0, _, _, _, _ => none
  | n + 1, x_1, x_3, x_4, μ => if x_4 ≥ x_3 then
(some μ)
else
((g_wr μ 4 200 (μ 0 5) (Int64.toInt32 ((x_1 >>> (Int32.toInt64 (8 * x_4) &&& 63)) &&& 255))).bind fun μ4 =>
(some (g_set μ4 0 5 ((μ4 0 5) + 1))).bind fun μ5 =>
f_X12_feed_L32 N n x_1 x_3 (x_4 + 1) μ5)
def f_X12_feed (N : Nat) (a1 : Int64) (a2 : Int32) (μ : g_M) : Option (Int32 × g_M) :=
  if (f_X12_isIn (Int32.toInt64 a2) 1 8) = 0 then
(some ((-1), μ))
else
(if ((μ 0 5) + a2) ≤ 200 then
((f_X12_feed_L32 N N a1 a2 0 μ).bind fun μ3 =>
some ((μ3 0 5), μ3))
else
(some ((-2), μ)))
def f_X12_isAlpha  (a1 : Int32) : Int32 :=
  if a1 < 97 then
(0)
else
(if a1 > 122 then
(0)
else
(1))
def f_X12_isDigit  (a1 : Int32) : Int32 :=
  if a1 < 48 then
(0)
else
(if a1 > 57 then
(0)
else
(1))
def f_X12_byteAt  (a1 : Int32) (μ : g_M) : Option Int32 :=
  if a1 ≥ (μ 0 5) then
(some (-1))
else
((g_rd μ 4 200 a1).bind fun x2 =>
some x2)
def f_X12_nextToken_L8 (N : Nat) : Nat → g_M → Option (g_M)
  | 0, _ => none
  | n + 1, μ => (f_X12_byteAt (μ 0 9) μ).bind fun x2 =>
if x2 = 32 then
((some (g_set μ 0 9 ((μ 0 9) + 1))).bind fun μ5 =>
f_X12_nextToken_L8 N n μ5)
else
(some μ)
def f_X12_nextToken_L91 (N : Nat) : Nat → g_M → Option (g_M)
  | 0, _ => none
  | n + 1, μ => if (μ 0 8) = 1 then
((f_X12_byteAt (μ 0 10) μ).bind fun x13 =>
if (f_X12_isAlpha x13) = 0 then
(some μ)
else
((some (g_set μ 0 10 ((μ 0 10) + 1))).bind fun μ16 =>
f_X12_nextToken_L91 N n μ16))
else
(some μ)
def f_X12_nextToken_L126 (N : Nat) : Nat → g_M → Option (g_M)
  | 0, _ => none
  | n + 1, μ => if (μ 0 8) = 2 then
((f_X12_byteAt (μ 0 10) μ).bind fun x15 =>
if (f_X12_isDigit x15) = 0 then
(some μ)
else
(if (μ 0 11) ≤ 9999 then
((f_X12_byteAt (μ 0 10) μ).bind fun x19 =>
(some (g_set μ 0 11 (((10 * (μ 0 11)) + x19) - 48))).bind fun μ21 =>
(some (g_set μ21 0 10 ((μ21 0 10) + 1))).bind fun μ22 =>
f_X12_nextToken_L126 N n μ22)
else
((some (g_set μ 0 11 (μ 0 11))).bind fun μ23 =>
(some (g_set μ23 0 10 ((μ23 0 10) + 1))).bind fun μ24 =>
f_X12_nextToken_L126 N n μ24)))
else
(some μ)
def f_X12_nextToken (N : Nat) (μ : g_M) : Option g_M :=
  (some (g_set μ 0 9 (μ 0 10))).bind fun μ1 =>
(f_X12_nextToken_L8 N N μ1).bind fun μ2 =>
(some (g_set μ2 0 10 (μ2 0 9))).bind fun μ4 =>
(f_X12_byteAt (μ4 0 9) μ4).bind fun x5 =>
if x5 ≥ 0 then
(if (f_X12_isAlpha x5) = 0 then
(if (f_X12_isDigit x5) = 0 then
((some (g_set μ4 0 8 3)).bind fun μ10 =>
(some (g_set μ10 0 11 0)).bind fun μ11 =>
(f_X12_nextToken_L91 N N μ11).bind fun μ12 =>
(f_X12_nextToken_L126 N N μ12).bind fun μ14 =>
if (μ14 0 8) ≤ 2 then
((some (g_set μ14 0 10 ((μ14 0 10) + 0))).bind fun μ17 =>
some μ17)
else
((some (g_set μ14 0 10 ((μ14 0 10) + 1))).bind fun μ18 =>
some μ18))
else
((some (g_set μ4 0 8 2)).bind fun μ19 =>
(some (g_set μ19 0 11 0)).bind fun μ20 =>
(f_X12_nextToken_L91 N N μ20).bind fun μ21 =>
(f_X12_nextToken_L126 N N μ21).bind fun μ23 =>
if (μ23 0 8) ≤ 2 then
((some (g_set μ23 0 10 ((μ23 0 10) + 0))).bind fun μ26 =>
some μ26)
else
((some (g_set μ23 0 10 ((μ23 0 10) + 1))).bind fun μ27 =>
some μ27)))
else
((some (g_set μ4 0 8 1)).bind fun μ28 =>
(some (g_set μ28 0 11 0)).bind fun μ29 =>
(f_X12_nextToken_L91 N N μ29).bind fun μ30 =>
(f_X12_nextToken_L126 N N μ30).bind fun μ32 =>
if (μ32 0 8) ≤ 2 then
((some (g_set μ32 0 10 ((μ32 0 10) + 0))).bind fun μ35 =>
some μ35)
else
((some (g_set μ32 0 10 ((μ32 0 10) + 1))).bind fun μ36 =>
some μ36)))
else
((some (g_set μ4 0 8 0)).bind fun μ37 =>
(some (g_set μ37 0 11 0)).bind fun μ38 =>
(f_X12_nextToken_L91 N N μ38).bind fun μ39 =>
(f_X12_nextToken_L126 N N μ39).bind fun μ41 =>
if (μ41 0 8) ≤ 2 then
((some (g_set μ41 0 10 ((μ41 0 10) + 0))).bind fun μ44 =>
some μ44)
else
((some (g_set μ41 0 10 ((μ41 0 10) + 1))).bind fun μ45 =>
some μ45))
def f_X12_needs (N : Nat) (a1 : Int32) (μ : g_M) : Option g_M :=
  if (μ 0 12) = 0 then
(if a1 = 0 then
((some (g_set μ 0 12 1)).bind fun μ13 =>
if (μ13 0 12) = 0 then
((f_X12_nextToken N μ13).bind fun μ17 =>
some μ17)
else
(some μ13))
else
((some (g_set μ 0 12 0)).bind fun μ8 =>
if (μ8 0 12) = 0 then
((f_X12_nextToken N μ8).bind fun μ12 =>
some μ12)
else
(some μ8)))
else
((some (g_set μ 0 12 1)).bind fun μ2 =>
if (μ2 0 12) = 0 then
((f_X12_nextToken N μ2).bind fun μ6 =>
some μ6)
else
(some μ2))
def f_X12_isByte  (a1 : Int32) (μ : g_M) : Option Int32 :=
  if (μ 0 8) = 3 then
((f_X12_byteAt (μ 0 9) μ).bind fun x2 =>
if x2 = a1 then
(some 1)
else
(some 0))
else
(some 0)
def f_X12_isName  (a1 : Int32) (a2 : Int32) (a3 : Int32) (a4 : Int32) (a5 : Int32) (μ : g_M) : Option Int32 :=
  if (μ 0 8) = 1 then
(if ((μ 0 10) - (μ 0 9)) = a1 then
((f_X12_byteAt (μ 0 9) μ).bind fun x3 =>
if x3 = a2 then
((f_X12_byteAt ((μ 0 9) + 1) μ).bind fun x6 =>
if x6 = a3 then
((f_X12_byteAt ((μ 0 9) + 2) μ).bind fun x9 =>
if x9 = a4 then
((f_X12_byteAt ((μ 0 10) - 1) μ).bind fun x12 =>
if x12 = a5 then
(some 1)
else
(some 0))
else
(some 0))
else
(some 0))
else
(some 0))
else
(some 0))
else
(some 0)
def f_X12_isSame  (a1 : Int32) (a2 : Int32) (a3 : Int32) (a4 : Int32) (μ : g_M) : Option Int32 :=
  (f_X12_byteAt ((μ 0 9) + a1) μ).bind fun x1 =>
if x1 = a2 then
((f_X12_byteAt (((μ 0 9) + a1) + 1) μ).bind fun x4 =>
if x4 = a3 then
((f_X12_byteAt (((μ 0 9) + a1) + 2) μ).bind fun x7 =>
if x7 = a4 then
(some 1)
else
(some 0))
else
(some 0))
else
(some 0)
def f_X12_kindHere  (μ : g_M) : Option Int32 :=
  (f_X12_isName 4 111 118 101 110 μ).bind fun x1 =>
if x1 = 0 then
((f_X12_isName 7 119 105 100 100 μ).bind fun x4 =>
if x4 = 0 then
((f_X12_isName 5 114 97 110 101 μ).bind fun x7 =>
if x7 = 0 then
((f_X12_isName 6 100 111 111 100 μ).bind fun x10 =>
if x10 = 0 then
((f_X12_isName 8 112 111 114 101 μ).bind fun x13 =>
if x13 = 0 then
((f_X12_isName 4 114 97 107 101 μ).bind fun x16 =>
if x16 = 0 then
(some (-1))
else
(some 5))
else
((f_X12_isSame 3 116 97 98 μ).bind fun x19 =>
if x19 = 0 then
((f_X12_isName 4 114 97 107 101 μ).bind fun x22 =>
if x22 = 0 then
(some (-1))
else
(some 5))
else
((f_X12_byteAt ((μ 0 9) + 6) μ).bind fun x25 =>
if x25 = 108 then
(some 4)
else
((f_X12_isName 4 114 97 107 101 μ).bind fun x28 =>
if x28 = 0 then
(some (-1))
else
(some 5)))))
else
((f_X12_isSame 2 111 114 101 μ).bind fun x31 =>
if x31 = 0 then
((f_X12_isName 8 112 111 114 101 μ).bind fun x34 =>
if x34 = 0 then
((f_X12_isName 4 114 97 107 101 μ).bind fun x37 =>
if x37 = 0 then
(some (-1))
else
(some 5))
else
((f_X12_isSame 3 116 97 98 μ).bind fun x40 =>
if x40 = 0 then
((f_X12_isName 4 114 97 107 101 μ).bind fun x43 =>
if x43 = 0 then
(some (-1))
else
(some 5))
else
((f_X12_byteAt ((μ 0 9) + 6) μ).bind fun x46 =>
if x46 = 108 then
(some 4)
else
((f_X12_isName 4 114 97 107 101 μ).bind fun x49 =>
if x49 = 0 then
(some (-1))
else
(some 5)))))
else
(some 3)))
else
((f_X12_byteAt ((μ 0 9) + 3) μ).bind fun x52 =>
if x52 = 103 then
(some 2)
else
((f_X12_isName 6 100 111 111 100 μ).bind fun x55 =>
if x55 = 0 then
((f_X12_isName 8 112 111 114 101 μ).bind fun x58 =>
if x58 = 0 then
((f_X12_isName 4 114 97 107 101 μ).bind fun x61 =>
if x61 = 0 then
(some (-1))
else
(some 5))
else
((f_X12_isSame 3 116 97 98 μ).bind fun x64 =>
if x64 = 0 then
((f_X12_isName 4 114 97 107 101 μ).bind fun x67 =>
if x67 = 0 then
(some (-1))
else
(some 5))
else
((f_X12_byteAt ((μ 0 9) + 6) μ).bind fun x70 =>
if x70 = 108 then
(some 4)
else
((f_X12_isName 4 114 97 107 101 μ).bind fun x73 =>
if x73 = 0 then
(some (-1))
else
(some 5)))))
else
((f_X12_isSame 2 111 114 101 μ).bind fun x76 =>
if x76 = 0 then
((f_X12_isName 8 112 111 114 101 μ).bind fun x79 =>
if x79 = 0 then
((f_X12_isName 4 114 97 107 101 μ).bind fun x82 =>
if x82 = 0 then
(some (-1))
else
(some 5))
else
((f_X12_isSame 3 116 97 98 μ).bind fun x85 =>
if x85 = 0 then
((f_X12_isName 4 114 97 107 101 μ).bind fun x88 =>
if x88 = 0 then
(some (-1))
else
(some 5))
else
((f_X12_byteAt ((μ 0 9) + 6) μ).bind fun x91 =>
if x91 = 108 then
(some 4)
else
((f_X12_isName 4 114 97 107 101 μ).bind fun x94 =>
if x94 = 0 then
(some (-1))
else
(some 5)))))
else
(some 3)))))
else
((f_X12_isSame 3 111 119 101 μ).bind fun x97 =>
if x97 = 0 then
((f_X12_isName 5 114 97 110 101 μ).bind fun x100 =>
if x100 = 0 then
((f_X12_isName 6 100 111 111 100 μ).bind fun x103 =>
if x103 = 0 then
((f_X12_isName 8 112 111 114 101 μ).bind fun x106 =>
if x106 = 0 then
((f_X12_isName 4 114 97 107 101 μ).bind fun x109 =>
if x109 = 0 then
(some (-1))
else
(some 5))
else
((f_X12_isSame 3 116 97 98 μ).bind fun x112 =>
if x112 = 0 then
((f_X12_isName 4 114 97 107 101 μ).bind fun x115 =>
if x115 = 0 then
(some (-1))
else
(some 5))
else
((f_X12_byteAt ((μ 0 9) + 6) μ).bind fun x118 =>
if x118 = 108 then
(some 4)
else
((f_X12_isName 4 114 97 107 101 μ).bind fun x121 =>
if x121 = 0 then
(some (-1))
else
(some 5)))))
else
((f_X12_isSame 2 111 114 101 μ).bind fun x124 =>
if x124 = 0 then
((f_X12_isName 8 112 111 114 101 μ).bind fun x127 =>
if x127 = 0 then
((f_X12_isName 4 114 97 107 101 μ).bind fun x130 =>
if x130 = 0 then
(some (-1))
else
(some 5))
else
((f_X12_isSame 3 116 97 98 μ).bind fun x133 =>
if x133 = 0 then
((f_X12_isName 4 114 97 107 101 μ).bind fun x136 =>
if x136 = 0 then
(some (-1))
else
(some 5))
else
((f_X12_byteAt ((μ 0 9) + 6) μ).bind fun x139 =>
if x139 = 108 then
(some 4)
else
((f_X12_isName 4 114 97 107 101 μ).bind fun x142 =>
if x142 = 0 then
(some (-1))
else
(some 5)))))
else
(some 3)))
else
((f_X12_byteAt ((μ 0 9) + 3) μ).bind fun x145 =>
if x145 = 103 then
(some 2)
else
((f_X12_isName 6 100 111 111 100 μ).bind fun x148 =>
if x148 = 0 then
((f_X12_isName 8 112 111 114 101 μ).bind fun x151 =>
if x151 = 0 then
((f_X12_isName 4 114 97 107 101 μ).bind fun x154 =>
if x154 = 0 then
(some (-1))
else
(some 5))
else
((f_X12_isSame 3 116 97 98 μ).bind fun x157 =>
if x157 = 0 then
((f_X12_isName 4 114 97 107 101 μ).bind fun x160 =>
if x160 = 0 then
(some (-1))
else
(some 5))
else
((f_X12_byteAt ((μ 0 9) + 6) μ).bind fun x163 =>
if x163 = 108 then
(some 4)
else
((f_X12_isName 4 114 97 107 101 μ).bind fun x166 =>
if x166 = 0 then
(some (-1))
else
(some 5)))))
else
((f_X12_isSame 2 111 114 101 μ).bind fun x169 =>
if x169 = 0 then
((f_X12_isName 8 112 111 114 101 μ).bind fun x172 =>
if x172 = 0 then
((f_X12_isName 4 114 97 107 101 μ).bind fun x175 =>
if x175 = 0 then
(some (-1))
else
(some 5))
else
((f_X12_isSame 3 116 97 98 μ).bind fun x178 =>
if x178 = 0 then
((f_X12_isName 4 114 97 107 101 μ).bind fun x181 =>
if x181 = 0 then
(some (-1))
else
(some 5))
else
((f_X12_byteAt ((μ 0 9) + 6) μ).bind fun x184 =>
if x184 = 108 then
(some 4)
else
((f_X12_isName 4 114 97 107 101 μ).bind fun x187 =>
if x187 = 0 then
(some (-1))
else
(some 5)))))
else
(some 3)))))
else
(some 1)))
else
(some 0)
def f_X12_doHere  (μ : g_M) : Option Int32 :=
  if (μ 0 8) = 1 then
(if ((μ 0 10) - (μ 0 9)) = 2 then
((f_X12_byteAt (μ 0 9) μ).bind fun x15 =>
if x15 = 103 then
((f_X12_byteAt ((μ 0 9) + 1) μ).bind fun x24 =>
if x24 = 111 then
(some 0)
else
((f_X12_isName 4 115 116 97 121 μ).bind fun x27 =>
if x27 = 0 then
((f_X12_isName 3 115 104 121 121 μ).bind fun x30 =>
if x30 = 0 then
(some (-1))
else
(some 2))
else
(some 1)))
else
((f_X12_isName 4 115 116 97 121 μ).bind fun x18 =>
if x18 = 0 then
((f_X12_isName 3 115 104 121 121 μ).bind fun x21 =>
if x21 = 0 then
(some (-1))
else
(some 2))
else
(some 1)))
else
((f_X12_isName 4 115 116 97 121 μ).bind fun x9 =>
if x9 = 0 then
((f_X12_isName 3 115 104 121 121 μ).bind fun x12 =>
if x12 = 0 then
(some (-1))
else
(some 2))
else
(some 1)))
else
((f_X12_isName 4 115 116 97 121 μ).bind fun x2 =>
if x2 = 0 then
((f_X12_isName 3 115 104 121 121 μ).bind fun x5 =>
if x5 = 0 then
(some (-1))
else
(some 2))
else
(some 1))
def f_X12_factHere  (μ : g_M) : Option Int32 :=
  (f_X12_isName 5 110 105 103 116 μ).bind fun x1 =>
if x1 = 0 then
((f_X12_isName 4 119 97 114 109 μ).bind fun x4 =>
if x4 = 0 then
((f_X12_isName 5 112 108 97 101 μ).bind fun x7 =>
if x7 = 0 then
((f_X12_isName 4 102 105 114 101 μ).bind fun x10 =>
if x10 = 0 then
((f_X12_isName 6 110 117 109 114 μ).bind fun x13 =>
if x13 = 0 then
(some (-1))
else
((f_X12_isSame 2 109 98 101 μ).bind fun x16 =>
if x16 = 0 then
(some (-1))
else
(some 4)))
else
(some 3))
else
((f_X12_byteAt ((μ 0 9) + 3) μ).bind fun x19 =>
if x19 = 99 then
(some 2)
else
((f_X12_isName 4 102 105 114 101 μ).bind fun x22 =>
if x22 = 0 then
((f_X12_isName 6 110 117 109 114 μ).bind fun x25 =>
if x25 = 0 then
(some (-1))
else
((f_X12_isSame 2 109 98 101 μ).bind fun x28 =>
if x28 = 0 then
(some (-1))
else
(some 4)))
else
(some 3))))
else
(some 1))
else
((f_X12_byteAt ((μ 0 9) + 3) μ).bind fun x31 =>
if x31 = 104 then
(some 0)
else
((f_X12_isName 4 119 97 114 109 μ).bind fun x34 =>
if x34 = 0 then
((f_X12_isName 5 112 108 97 101 μ).bind fun x37 =>
if x37 = 0 then
((f_X12_isName 4 102 105 114 101 μ).bind fun x40 =>
if x40 = 0 then
((f_X12_isName 6 110 117 109 114 μ).bind fun x43 =>
if x43 = 0 then
(some (-1))
else
((f_X12_isSame 2 109 98 101 μ).bind fun x46 =>
if x46 = 0 then
(some (-1))
else
(some 4)))
else
(some 3))
else
((f_X12_byteAt ((μ 0 9) + 3) μ).bind fun x49 =>
if x49 = 99 then
(some 2)
else
((f_X12_isName 4 102 105 114 101 μ).bind fun x52 =>
if x52 = 0 then
((f_X12_isName 6 110 117 109 114 μ).bind fun x55 =>
if x55 = 0 then
(some (-1))
else
((f_X12_isSame 2 109 98 101 μ).bind fun x58 =>
if x58 = 0 then
(some (-1))
else
(some 4)))
else
(some 3))))
else
(some 1)))
def f_X12_isTwo  (a1 : Int32) (a2 : Int32) (μ : g_M) : Option Int32 :=
  if (μ 0 8) = 1 then
(if ((μ 0 10) - (μ 0 9)) = 2 then
((f_X12_byteAt (μ 0 9) μ).bind fun x3 =>
if x3 = a1 then
((f_X12_byteAt ((μ 0 9) + 1) μ).bind fun x6 =>
if x6 = a2 then
(some 1)
else
(some 0))
else
(some 0))
else
(some 0))
else
(some 0)
def f_X12_steps  (a1 : Int32) (a2 : Int32) (a3 : Int32) (μ : g_M) : Option g_M :=
  if (μ 0 12) = 0 then
((g_wr μ 1 544 (94 + (3 * (μ 1 7))) a1).bind fun μ2 =>
(g_wr μ2 1 544 ((94 + (3 * (μ2 1 7))) + 1) a2).bind fun μ3 =>
(g_wr μ3 1 544 ((94 + (3 * (μ3 1 7))) + 2) a3).bind fun μ4 =>
(some (g_set μ4 1 7 ((μ4 1 7) + 1))).bind fun μ5 =>
some μ5)
else
(some μ)
def f_X12_valueHere (N : Nat) (μ : g_M) : Option (Int32 × g_M) :=
  (f_X12_factHere μ).bind fun x1 =>
if x1 < 0 then
(if x1 ≥ 0 then
((f_X12_needs N 1 μ).bind fun μ7 =>
some ((μ 0 11), μ7))
else
(if (μ 0 8) = 2 then
(if ((μ 0 10) - (μ 0 9)) > 4 then
((f_X12_needs N 0 μ).bind fun μ15 =>
some ((μ 0 11), μ15))
else
((f_X12_needs N 1 μ).bind fun μ18 =>
some ((μ 0 11), μ18)))
else
((f_X12_needs N 0 μ).bind fun μ11 =>
some ((μ 0 11), μ11))))
else
((some ((10000 + x1))).bind fun x19 =>
if x1 ≥ 0 then
((f_X12_needs N 1 μ).bind fun μ23 =>
some (x19, μ23))
else
(if (μ 0 8) = 2 then
(if ((μ 0 10) - (μ 0 9)) > 4 then
((f_X12_needs N 0 μ).bind fun μ31 =>
some (x19, μ31))
else
((f_X12_needs N 1 μ).bind fun μ34 =>
some (x19, μ34)))
else
((f_X12_needs N 0 μ).bind fun μ27 =>
some (x19, μ27))))
def f_X12_comparesHere (N : Nat) (μ : g_M) : Option g_M :=
  (f_X12_valueHere N μ).bind fun (x1, μ3) =>
(f_X12_isByte 60 μ3).bind fun x4 =>
if x4 = 0 then
((f_X12_isByte 61 μ3).bind fun x7 =>
if x7 = 0 then
((f_X12_isByte 60 μ3).bind fun x10 =>
if x10 = 0 then
((f_X12_isByte 61 μ3).bind fun x22 =>
if x22 = 0 then
((f_X12_isByte 62 μ3).bind fun x34 =>
if x34 = 0 then
((f_X12_needs N 0 μ3).bind fun μ39 =>
(f_X12_valueHere N μ39).bind fun (x40, μ42) =>
(f_X12_steps 2 x1 x40 μ42).bind fun μ45 =>
some μ45)
else
((f_X12_needs N 1 μ3).bind fun μ48 =>
(f_X12_valueHere N μ48).bind fun (x49, μ51) =>
(f_X12_steps 2 x1 x49 μ51).bind fun μ54 =>
some μ54))
else
((f_X12_needs N 1 μ3).bind fun μ27 =>
(f_X12_valueHere N μ27).bind fun (x28, μ30) =>
(f_X12_steps 2 x1 x28 μ30).bind fun μ33 =>
some μ33))
else
((f_X12_needs N 1 μ3).bind fun μ15 =>
(f_X12_valueHere N μ15).bind fun (x16, μ18) =>
(f_X12_steps 2 x1 x16 μ18).bind fun μ21 =>
some μ21))
else
((f_X12_isByte 60 μ3).bind fun x55 =>
if x55 = 0 then
((f_X12_isByte 61 μ3).bind fun x67 =>
if x67 = 0 then
((f_X12_isByte 62 μ3).bind fun x79 =>
if x79 = 0 then
((f_X12_needs N 0 μ3).bind fun μ84 =>
(f_X12_valueHere N μ84).bind fun (x85, μ87) =>
(f_X12_steps 1 x1 x85 μ87).bind fun μ90 =>
some μ90)
else
((f_X12_needs N 1 μ3).bind fun μ93 =>
(f_X12_valueHere N μ93).bind fun (x94, μ96) =>
(f_X12_steps 1 x1 x94 μ96).bind fun μ99 =>
some μ99))
else
((f_X12_needs N 1 μ3).bind fun μ72 =>
(f_X12_valueHere N μ72).bind fun (x73, μ75) =>
(f_X12_steps 1 x1 x73 μ75).bind fun μ78 =>
some μ78))
else
((f_X12_needs N 1 μ3).bind fun μ60 =>
(f_X12_valueHere N μ60).bind fun (x61, μ63) =>
(f_X12_steps 1 x1 x61 μ63).bind fun μ66 =>
some μ66)))
else
((f_X12_isByte 60 μ3).bind fun x100 =>
if x100 = 0 then
((f_X12_isByte 61 μ3).bind fun x112 =>
if x112 = 0 then
((f_X12_isByte 62 μ3).bind fun x124 =>
if x124 = 0 then
((f_X12_needs N 0 μ3).bind fun μ129 =>
(f_X12_valueHere N μ129).bind fun (x130, μ132) =>
(f_X12_steps 0 x1 x130 μ132).bind fun μ135 =>
some μ135)
else
((f_X12_needs N 1 μ3).bind fun μ138 =>
(f_X12_valueHere N μ138).bind fun (x139, μ141) =>
(f_X12_steps 0 x1 x139 μ141).bind fun μ144 =>
some μ144))
else
((f_X12_needs N 1 μ3).bind fun μ117 =>
(f_X12_valueHere N μ117).bind fun (x118, μ120) =>
(f_X12_steps 0 x1 x118 μ120).bind fun μ123 =>
some μ123))
else
((f_X12_needs N 1 μ3).bind fun μ105 =>
(f_X12_valueHere N μ105).bind fun (x106, μ108) =>
(f_X12_steps 0 x1 x106 μ108).bind fun μ111 =>
some μ111))
def f_X12_oneHere_L2 (F : g_M → Option g_M) (N : Nat) : Nat → Int32 → g_M → Option (Int32 × g_M)
  | 0, _, _ => none
  | n + 1, x_1, μ => if (μ 0 12) = 0 then
((f_X12_isName 3 110 111 116 116 μ).bind fun x2 =>
if x2 = 0 then
(some (x_1, μ))
else
((f_X12_nextToken N μ).bind fun μ7 =>
f_X12_oneHere_L2 F N n (x_1 + 1) μ7))
else
(some (x_1, μ))
def f_X12_oneHere (F : g_M → Option g_M) (N : Nat) (μ : g_M) : Option g_M :=
  (f_X12_oneHere_L2 F N N 0 μ).bind fun (x1, μ2) =>
if (μ2 0 12) = 0 then
((f_X12_isByte 40 μ2).bind fun x9 =>
if x9 = 0 then
((f_X12_comparesHere N μ2).bind fun μ14 =>
if (g_rem x1 2) = 1 then
((f_X12_steps 3 0 0 μ14).bind fun μ18 =>
some μ18)
else
(some μ14))
else
(if (μ2 0 13) ≥ 3 then
((f_X12_needs N 0 μ2).bind fun μ22 =>
(some (g_set μ22 0 13 ((μ22 0 13) + 1))).bind fun μ23 =>
(F μ23).bind fun μ26 =>
(f_X12_isByte 41 μ26).bind fun x27 =>
(f_X12_needs N x27 μ26).bind fun μ31 =>
(some (g_set μ31 0 13 ((μ31 0 13) - 1))).bind fun μ32 =>
if (g_rem x1 2) = 1 then
((f_X12_steps 3 0 0 μ32).bind fun μ36 =>
some μ36)
else
(some μ32))
else
((f_X12_needs N 1 μ2).bind fun μ39 =>
(some (g_set μ39 0 13 ((μ39 0 13) + 1))).bind fun μ40 =>
(F μ40).bind fun μ43 =>
(f_X12_isByte 41 μ43).bind fun x44 =>
(f_X12_needs N x44 μ43).bind fun μ48 =>
(some (g_set μ48 0 13 ((μ48 0 13) - 1))).bind fun μ49 =>
if (g_rem x1 2) = 1 then
((f_X12_steps 3 0 0 μ49).bind fun μ53 =>
some μ53)
else
(some μ49))))
else
(if (g_rem x1 2) = 1 then
((f_X12_steps 3 0 0 μ2).bind fun μ8 =>
some μ8)
else
(some μ2))
def f_X12_allHere_L4 (F : g_M → Option g_M) (N : Nat) : Nat → g_M → Option (g_M)
  | 0, _ => none
  | n + 1, μ => if (μ 0 12) = 0 then
((f_X12_isName 3 97 110 100 100 μ).bind fun x5 =>
if x5 = 0 then
(some μ)
else
((f_X12_nextToken N μ).bind fun μ10 =>
(f_X12_oneHere F N μ10).bind fun μ13 =>
(f_X12_steps 4 0 0 μ13).bind fun μ16 =>
f_X12_allHere_L4 F N n μ16))
else
(some μ)
def f_X12_allHere (F : g_M → Option g_M) (N : Nat) (μ : g_M) : Option g_M :=
  (f_X12_oneHere F N μ).bind fun μ3 =>
(f_X12_allHere_L4 F N N μ3).bind fun μ4 =>
some μ4
def f_X12_condHere_L4 (F : g_M → Option g_M) (N : Nat) : Nat → g_M → Option (g_M)
  | 0, _ => none
  | n + 1, μ => if (μ 0 12) = 0 then
((f_X12_isTwo 111 114 μ).bind fun x5 =>
if x5 = 0 then
(some μ)
else
((f_X12_nextToken N μ).bind fun μ10 =>
(f_X12_allHere F N μ10).bind fun μ13 =>
(f_X12_steps 5 0 0 μ13).bind fun μ16 =>
f_X12_condHere_L4 F N n μ16))
else
(some μ)
def f_X12_condHere (N : Nat) : Nat → g_M → Option g_M
  | 0, _ => none
  | n + 1, μ => (f_X12_allHere (f_X12_condHere N n) N μ).bind fun μ3 =>
(f_X12_condHere_L4 (f_X12_condHere N n) N N μ3).bind fun μ4 =>
some μ4
def f_X12_ruleHere (N : Nat) (μ : g_M) : Option g_M :=
  (some ((38 + (4 * (μ 1 5))))).bind fun x1 =>
(f_X12_kindHere μ).bind fun x2 =>
if x2 < 0 then
((f_X12_needs N 0 μ).bind fun μ7 =>
if (μ7 0 12) = 0 then
((f_X12_isTwo 105 102 μ7).bind fun x40 =>
if x40 = 0 then
((f_X12_doHere μ7).bind fun x43 =>
if x43 < 0 then
((f_X12_needs N 0 μ7).bind fun μ48 =>
(f_X12_isByte 59 μ48).bind fun x49 =>
(f_X12_needs N x49 μ48).bind fun μ53 =>
if (μ53 0 12) = 0 then
((g_wr μ53 1 544 x1 x2).bind fun μ55 =>
(g_wr μ55 1 544 (x1 + 1) x43).bind fun μ56 =>
(g_wr μ56 1 544 (x1 + 2) (μ7 1 7)).bind fun μ57 =>
(g_wr μ57 1 544 (x1 + 3) (μ57 1 7)).bind fun μ58 =>
(some (g_set μ58 1 5 ((μ58 1 5) + 1))).bind fun μ59 =>
some μ59)
else
(some μ53))
else
((f_X12_needs N 1 μ7).bind fun μ62 =>
(f_X12_isByte 59 μ62).bind fun x63 =>
(f_X12_needs N x63 μ62).bind fun μ67 =>
if (μ67 0 12) = 0 then
((g_wr μ67 1 544 x1 x2).bind fun μ69 =>
(g_wr μ69 1 544 (x1 + 1) x43).bind fun μ70 =>
(g_wr μ70 1 544 (x1 + 2) (μ7 1 7)).bind fun μ71 =>
(g_wr μ71 1 544 (x1 + 3) (μ71 1 7)).bind fun μ72 =>
(some (g_set μ72 1 5 ((μ72 1 5) + 1))).bind fun μ73 =>
some μ73)
else
(some μ67)))
else
((f_X12_nextToken N μ7).bind fun μ76 =>
(some (g_set μ76 0 13 0)).bind fun μ77 =>
(f_X12_condHere N 5 μ77).bind fun μ80 =>
(f_X12_doHere μ80).bind fun x81 =>
if x81 < 0 then
((f_X12_needs N 0 μ80).bind fun μ86 =>
(f_X12_isByte 59 μ86).bind fun x87 =>
(f_X12_needs N x87 μ86).bind fun μ91 =>
if (μ91 0 12) = 0 then
((g_wr μ91 1 544 x1 x2).bind fun μ93 =>
(g_wr μ93 1 544 (x1 + 1) x81).bind fun μ94 =>
(g_wr μ94 1 544 (x1 + 2) (μ7 1 7)).bind fun μ95 =>
(g_wr μ95 1 544 (x1 + 3) (μ95 1 7)).bind fun μ96 =>
(some (g_set μ96 1 5 ((μ96 1 5) + 1))).bind fun μ97 =>
some μ97)
else
(some μ91))
else
((f_X12_needs N 1 μ80).bind fun μ100 =>
(f_X12_isByte 59 μ100).bind fun x101 =>
(f_X12_needs N x101 μ100).bind fun μ105 =>
if (μ105 0 12) = 0 then
((g_wr μ105 1 544 x1 x2).bind fun μ107 =>
(g_wr μ107 1 544 (x1 + 1) x81).bind fun μ108 =>
(g_wr μ108 1 544 (x1 + 2) (μ7 1 7)).bind fun μ109 =>
(g_wr μ109 1 544 (x1 + 3) (μ109 1 7)).bind fun μ110 =>
(some (g_set μ110 1 5 ((μ110 1 5) + 1))).bind fun μ111 =>
some μ111)
else
(some μ105))))
else
((f_X12_doHere μ7).bind fun x9 =>
if x9 < 0 then
((f_X12_needs N 0 μ7).bind fun μ14 =>
(f_X12_isByte 59 μ14).bind fun x15 =>
(f_X12_needs N x15 μ14).bind fun μ19 =>
if (μ19 0 12) = 0 then
((g_wr μ19 1 544 x1 x2).bind fun μ21 =>
(g_wr μ21 1 544 (x1 + 1) x9).bind fun μ22 =>
(g_wr μ22 1 544 (x1 + 2) (μ7 1 7)).bind fun μ23 =>
(g_wr μ23 1 544 (x1 + 3) (μ23 1 7)).bind fun μ24 =>
(some (g_set μ24 1 5 ((μ24 1 5) + 1))).bind fun μ25 =>
some μ25)
else
(some μ19))
else
((f_X12_needs N 1 μ7).bind fun μ28 =>
(f_X12_isByte 59 μ28).bind fun x29 =>
(f_X12_needs N x29 μ28).bind fun μ33 =>
if (μ33 0 12) = 0 then
((g_wr μ33 1 544 x1 x2).bind fun μ35 =>
(g_wr μ35 1 544 (x1 + 1) x9).bind fun μ36 =>
(g_wr μ36 1 544 (x1 + 2) (μ7 1 7)).bind fun μ37 =>
(g_wr μ37 1 544 (x1 + 3) (μ37 1 7)).bind fun μ38 =>
(some (g_set μ38 1 5 ((μ38 1 5) + 1))).bind fun μ39 =>
some μ39)
else
(some μ33))))
else
(if (μ 1 5) ≥ 8 then
((f_X12_needs N 0 μ).bind fun μ115 =>
if (μ115 0 12) = 0 then
((f_X12_isTwo 105 102 μ115).bind fun x148 =>
if x148 = 0 then
((f_X12_doHere μ115).bind fun x151 =>
if x151 < 0 then
((f_X12_needs N 0 μ115).bind fun μ156 =>
(f_X12_isByte 59 μ156).bind fun x157 =>
(f_X12_needs N x157 μ156).bind fun μ161 =>
if (μ161 0 12) = 0 then
((g_wr μ161 1 544 x1 x2).bind fun μ163 =>
(g_wr μ163 1 544 (x1 + 1) x151).bind fun μ164 =>
(g_wr μ164 1 544 (x1 + 2) (μ115 1 7)).bind fun μ165 =>
(g_wr μ165 1 544 (x1 + 3) (μ165 1 7)).bind fun μ166 =>
(some (g_set μ166 1 5 ((μ166 1 5) + 1))).bind fun μ167 =>
some μ167)
else
(some μ161))
else
((f_X12_needs N 1 μ115).bind fun μ170 =>
(f_X12_isByte 59 μ170).bind fun x171 =>
(f_X12_needs N x171 μ170).bind fun μ175 =>
if (μ175 0 12) = 0 then
((g_wr μ175 1 544 x1 x2).bind fun μ177 =>
(g_wr μ177 1 544 (x1 + 1) x151).bind fun μ178 =>
(g_wr μ178 1 544 (x1 + 2) (μ115 1 7)).bind fun μ179 =>
(g_wr μ179 1 544 (x1 + 3) (μ179 1 7)).bind fun μ180 =>
(some (g_set μ180 1 5 ((μ180 1 5) + 1))).bind fun μ181 =>
some μ181)
else
(some μ175)))
else
((f_X12_nextToken N μ115).bind fun μ184 =>
(some (g_set μ184 0 13 0)).bind fun μ185 =>
(f_X12_condHere N 5 μ185).bind fun μ188 =>
(f_X12_doHere μ188).bind fun x189 =>
if x189 < 0 then
((f_X12_needs N 0 μ188).bind fun μ194 =>
(f_X12_isByte 59 μ194).bind fun x195 =>
(f_X12_needs N x195 μ194).bind fun μ199 =>
if (μ199 0 12) = 0 then
((g_wr μ199 1 544 x1 x2).bind fun μ201 =>
(g_wr μ201 1 544 (x1 + 1) x189).bind fun μ202 =>
(g_wr μ202 1 544 (x1 + 2) (μ115 1 7)).bind fun μ203 =>
(g_wr μ203 1 544 (x1 + 3) (μ203 1 7)).bind fun μ204 =>
(some (g_set μ204 1 5 ((μ204 1 5) + 1))).bind fun μ205 =>
some μ205)
else
(some μ199))
else
((f_X12_needs N 1 μ188).bind fun μ208 =>
(f_X12_isByte 59 μ208).bind fun x209 =>
(f_X12_needs N x209 μ208).bind fun μ213 =>
if (μ213 0 12) = 0 then
((g_wr μ213 1 544 x1 x2).bind fun μ215 =>
(g_wr μ215 1 544 (x1 + 1) x189).bind fun μ216 =>
(g_wr μ216 1 544 (x1 + 2) (μ115 1 7)).bind fun μ217 =>
(g_wr μ217 1 544 (x1 + 3) (μ217 1 7)).bind fun μ218 =>
(some (g_set μ218 1 5 ((μ218 1 5) + 1))).bind fun μ219 =>
some μ219)
else
(some μ213))))
else
((f_X12_doHere μ115).bind fun x117 =>
if x117 < 0 then
((f_X12_needs N 0 μ115).bind fun μ122 =>
(f_X12_isByte 59 μ122).bind fun x123 =>
(f_X12_needs N x123 μ122).bind fun μ127 =>
if (μ127 0 12) = 0 then
((g_wr μ127 1 544 x1 x2).bind fun μ129 =>
(g_wr μ129 1 544 (x1 + 1) x117).bind fun μ130 =>
(g_wr μ130 1 544 (x1 + 2) (μ115 1 7)).bind fun μ131 =>
(g_wr μ131 1 544 (x1 + 3) (μ131 1 7)).bind fun μ132 =>
(some (g_set μ132 1 5 ((μ132 1 5) + 1))).bind fun μ133 =>
some μ133)
else
(some μ127))
else
((f_X12_needs N 1 μ115).bind fun μ136 =>
(f_X12_isByte 59 μ136).bind fun x137 =>
(f_X12_needs N x137 μ136).bind fun μ141 =>
if (μ141 0 12) = 0 then
((g_wr μ141 1 544 x1 x2).bind fun μ143 =>
(g_wr μ143 1 544 (x1 + 1) x117).bind fun μ144 =>
(g_wr μ144 1 544 (x1 + 2) (μ115 1 7)).bind fun μ145 =>
(g_wr μ145 1 544 (x1 + 3) (μ145 1 7)).bind fun μ146 =>
(some (g_set μ146 1 5 ((μ146 1 5) + 1))).bind fun μ147 =>
some μ147)
else
(some μ141))))
else
((f_X12_needs N 1 μ).bind fun μ222 =>
if (μ222 0 12) = 0 then
((f_X12_isTwo 105 102 μ222).bind fun x255 =>
if x255 = 0 then
((f_X12_doHere μ222).bind fun x258 =>
if x258 < 0 then
((f_X12_needs N 0 μ222).bind fun μ263 =>
(f_X12_isByte 59 μ263).bind fun x264 =>
(f_X12_needs N x264 μ263).bind fun μ268 =>
if (μ268 0 12) = 0 then
((g_wr μ268 1 544 x1 x2).bind fun μ270 =>
(g_wr μ270 1 544 (x1 + 1) x258).bind fun μ271 =>
(g_wr μ271 1 544 (x1 + 2) (μ222 1 7)).bind fun μ272 =>
(g_wr μ272 1 544 (x1 + 3) (μ272 1 7)).bind fun μ273 =>
(some (g_set μ273 1 5 ((μ273 1 5) + 1))).bind fun μ274 =>
some μ274)
else
(some μ268))
else
((f_X12_needs N 1 μ222).bind fun μ277 =>
(f_X12_isByte 59 μ277).bind fun x278 =>
(f_X12_needs N x278 μ277).bind fun μ282 =>
if (μ282 0 12) = 0 then
((g_wr μ282 1 544 x1 x2).bind fun μ284 =>
(g_wr μ284 1 544 (x1 + 1) x258).bind fun μ285 =>
(g_wr μ285 1 544 (x1 + 2) (μ222 1 7)).bind fun μ286 =>
(g_wr μ286 1 544 (x1 + 3) (μ286 1 7)).bind fun μ287 =>
(some (g_set μ287 1 5 ((μ287 1 5) + 1))).bind fun μ288 =>
some μ288)
else
(some μ282)))
else
((f_X12_nextToken N μ222).bind fun μ291 =>
(some (g_set μ291 0 13 0)).bind fun μ292 =>
(f_X12_condHere N 5 μ292).bind fun μ295 =>
(f_X12_doHere μ295).bind fun x296 =>
if x296 < 0 then
((f_X12_needs N 0 μ295).bind fun μ301 =>
(f_X12_isByte 59 μ301).bind fun x302 =>
(f_X12_needs N x302 μ301).bind fun μ306 =>
if (μ306 0 12) = 0 then
((g_wr μ306 1 544 x1 x2).bind fun μ308 =>
(g_wr μ308 1 544 (x1 + 1) x296).bind fun μ309 =>
(g_wr μ309 1 544 (x1 + 2) (μ222 1 7)).bind fun μ310 =>
(g_wr μ310 1 544 (x1 + 3) (μ310 1 7)).bind fun μ311 =>
(some (g_set μ311 1 5 ((μ311 1 5) + 1))).bind fun μ312 =>
some μ312)
else
(some μ306))
else
((f_X12_needs N 1 μ295).bind fun μ315 =>
(f_X12_isByte 59 μ315).bind fun x316 =>
(f_X12_needs N x316 μ315).bind fun μ320 =>
if (μ320 0 12) = 0 then
((g_wr μ320 1 544 x1 x2).bind fun μ322 =>
(g_wr μ322 1 544 (x1 + 1) x296).bind fun μ323 =>
(g_wr μ323 1 544 (x1 + 2) (μ222 1 7)).bind fun μ324 =>
(g_wr μ324 1 544 (x1 + 3) (μ324 1 7)).bind fun μ325 =>
(some (g_set μ325 1 5 ((μ325 1 5) + 1))).bind fun μ326 =>
some μ326)
else
(some μ320))))
else
((f_X12_doHere μ222).bind fun x224 =>
if x224 < 0 then
((f_X12_needs N 0 μ222).bind fun μ229 =>
(f_X12_isByte 59 μ229).bind fun x230 =>
(f_X12_needs N x230 μ229).bind fun μ234 =>
if (μ234 0 12) = 0 then
((g_wr μ234 1 544 x1 x2).bind fun μ236 =>
(g_wr μ236 1 544 (x1 + 1) x224).bind fun μ237 =>
(g_wr μ237 1 544 (x1 + 2) (μ222 1 7)).bind fun μ238 =>
(g_wr μ238 1 544 (x1 + 3) (μ238 1 7)).bind fun μ239 =>
(some (g_set μ239 1 5 ((μ239 1 5) + 1))).bind fun μ240 =>
some μ240)
else
(some μ234))
else
((f_X12_needs N 1 μ222).bind fun μ243 =>
(f_X12_isByte 59 μ243).bind fun x244 =>
(f_X12_needs N x244 μ243).bind fun μ248 =>
if (μ248 0 12) = 0 then
((g_wr μ248 1 544 x1 x2).bind fun μ250 =>
(g_wr μ250 1 544 (x1 + 1) x224).bind fun μ251 =>
(g_wr μ251 1 544 (x1 + 2) (μ222 1 7)).bind fun μ252 =>
(g_wr μ252 1 544 (x1 + 3) (μ252 1 7)).bind fun μ253 =>
(some (g_set μ253 1 5 ((μ253 1 5) + 1))).bind fun μ254 =>
some μ254)
else
(some μ248)))))
def f_X12_rules_L2 (N : Nat) : Nat → Int32 → g_M → Option (g_M)
  | 0, _, _ => none
  | n + 1, x_1, μ => if x_1 ≥ 544 then
(some μ)
else
((g_rd μ 1 544 x_1).bind fun x2 =>
(g_wr μ 6 544 x_1 x2).bind fun μ3 =>
f_X12_rules_L2 N n (x_1 + 1) μ3)
def f_X12_rules_L56 (N : Nat) : Nat → g_M → Option (g_M)
  | 0, _ => none
  | n + 1, μ => if (μ 0 12) = 0 then
(if (μ 0 8) = 0 then
(some μ)
else
((f_X12_ruleHere N μ).bind fun μ14 =>
f_X12_rules_L56 N n μ14))
else
(some μ)
def f_X12_rules_L84 (N : Nat) : Nat → Int32 → g_M → Option (g_M)
  | 0, _, _ => none
  | n + 1, x_1, μ => if x_1 ≥ 544 then
(some μ)
else
(if (μ 0 12) = 0 then
(some μ)
else
((g_rd μ 6 544 x_1).bind fun x15 =>
(g_wr μ 1 544 x_1 x15).bind fun μ16 =>
f_X12_rules_L84 N n (x_1 + 1) μ16))
def f_X12_rules (N : Nat) (μ : g_M) : Option (Int32 × g_M) :=
  (f_X12_rules_L2 N N 0 μ).bind fun μ1 =>
(some (g_set μ1 1 5 0)).bind fun μ3 =>
(some (g_set μ3 1 7 0)).bind fun μ4 =>
(some (g_set μ4 0 10 0)).bind fun μ5 =>
(some (g_set μ5 0 12 0)).bind fun μ6 =>
(f_X12_nextToken N μ6).bind fun μ9 =>
(f_X12_rules_L56 N N μ9).bind fun μ10 =>
(some (g_set μ10 0 5 0)).bind fun μ12 =>
(f_X12_rules_L84 N N 0 μ12).bind fun μ13 =>
if (μ13 0 12) = 0 then
(some ((μ13 1 5), μ13))
else
(some (((-100) - (μ13 0 9)), μ13))
def f_X12_goesBy_L2 (N : Nat) : Nat → Int32 → Int32 → g_M → Option (g_M)
  | 0, _, _, _ => none
  | n + 1, x_1, x_2, μ => if x_2 ≥ (μ 1 0) then
(some μ)
else
((g_rd μ 1 544 ((8 + (5 * x_2)) + 4)).bind fun x2 =>
(f_X12_its x_2 4 μ).bind fun x3 =>
if x3 ≤ 0 then
((g_wr μ 1 544 ((8 + (5 * x_2)) + 4) (x2 - 0)).bind fun μ6 =>
f_X12_goesBy_L2 N n x_1 (x_2 + 1) μ6)
else
((g_wr μ 1 544 ((8 + (5 * x_2)) + 4) (x2 - 1)).bind fun μ7 =>
f_X12_goesBy_L2 N n x_1 (x_2 + 1) μ7))
def f_X12_goesBy_L60 (N : Nat) : Nat → Int32 → g_M → Option (g_M)
  | 0, _, _ => none
  | n + 1, x_2, μ => if x_2 ≥ (μ 1 0) then
(some μ)
else
((f_X12_choice N x_2 μ).bind fun x8 =>
if x8 ≥ x_2 then
((some (g_set μ 0 15 ((μ 0 15) ||| 0))).bind fun μ11 =>
f_X12_goesBy_L60 N n (x_2 + 1) μ11)
else
((f_X12_choice N x8 μ).bind fun x12 =>
if x12 = x_2 then
((some (g_set μ 0 15 ((μ 0 15) ||| ((1 <<< (x_2 &&& 31)) ||| (1 <<< (x8 &&& 31)))))).bind fun μ16 =>
f_X12_goesBy_L60 N n (x_2 + 1) μ16)
else
((some (g_set μ 0 15 ((μ 0 15) ||| 0))).bind fun μ15 =>
f_X12_goesBy_L60 N n (x_2 + 1) μ15)))
def f_X12_goesBy_L118 (N : Nat) : Nat → Int32 → g_M → Option (g_M)
  | 0, _, _ => none
  | n + 1, x_2, μ => if x_2 ≥ (μ 1 0) then
(some μ)
else
(if (((μ 0 15) >>> (x_2 &&& 31)) &&& 1) = 1 then
((f_X12_its x_2 2 μ).bind fun x11 =>
(f_X12_choice N x_2 μ).bind fun x13 =>
(f_X12_its x13 2 μ).bind fun x15 =>
(g_wr μ 1 544 ((8 + (5 * x_2)) + 4) (2 + ((f_X12_apart x11 x15) / 4))).bind fun μ17 =>
f_X12_goesBy_L118 N n (x_2 + 1) μ17)
else
(f_X12_goesBy_L118 N n (x_2 + 1) μ))
def f_X12_goesBy_L186 (N : Nat) : Nat → Int32 → Int32 → g_M → Option (Int32)
  | 0, _, _, _ => none
  | n + 1, x_2, x_3, μ => if x_3 ≥ (μ 1 0) then
(some x_2)
else
((f_X12_its x_3 4 μ).bind fun x12 =>
if x12 = 0 then
((f_X12_bakes x_3 μ).bind fun x16 =>
(some ((x_2 + x16))).bind fun x18 =>
f_X12_goesBy_L186 N n x18 (x_3 + 1) μ)
else
((some ((x_2 + 0))).bind fun x15 =>
f_X12_goesBy_L186 N n x15 (x_3 + 1) μ))
def f_X12_goesBy (N : Nat) (a1 : Int32) (μ : g_M) : Option (Int32 × g_M) :=
  (f_X12_goesBy_L2 N N a1 0 μ).bind fun μ1 =>
(f_X12_looks N a1 μ1).bind fun μ5 =>
(some (g_set μ5 0 15 0)).bind fun μ6 =>
(f_X12_goesBy_L60 N N 0 μ6).bind fun μ7 =>
(f_X12_goesBy_L118 N N 0 μ7).bind fun μ9 =>
(f_X12_goesBy_L186 N N 0 0 μ9).bind fun x11 =>
(some (g_set μ9 1 1 ((μ9 1 1) + 1))).bind fun μ13 =>
(some (g_set μ13 1 3 ((μ13 1 3) + x11))).bind fun μ14 =>
some (x11, μ14)
def f_X12_goesWith (N : Nat) (a1 : Int32) (μ : g_M) : Option (Int32 × g_M) :=
  if a1 = 0 then
((f_X12_goesBy N 0 μ).bind fun (x5, μ7) =>
some (x5, μ7))
else
((f_X12_goesBy N (1 <<< ((a1 - 1) &&& 31)) μ).bind fun (x2, μ4) =>
some (x2, μ4))
def f_X12_night (N : Nat) (μ : g_M) : Option (Int32 × g_M) :=
  if (f_X12_isOver μ) = 0 then
((f_X12_goesBy N 0 μ).bind fun (x2, μ4) =>
some (x2, μ4))
else
(some ((-4), μ))
def f_X12_onBy_L10 (N : Nat) : Nat → Int32 → Int32 → Int32 → Int32 → g_M → Option (Int32 × g_M)
  | 0, _, _, _, _, _ => none
  | n + 1, x_1, x_2, x_3, x_4, μ => if x_4 ≥ x_1 then
(some (x_3, μ))
else
(if (f_X12_isOver μ) = 0 then
((f_X12_goesBy N x_2 μ).bind fun (x6, μ8) =>
(some ((x_3 + x6))).bind fun x9 =>
f_X12_onBy_L10 N n x_1 x_2 x9 (x_4 + 1) μ8)
else
(some (x_3, μ)))
def f_X12_onBy (N : Nat) (a1 : Int32) (a2 : Int32) (μ : g_M) : Option (Int32 × g_M) :=
  (f_X12_laysAside N 0 μ).bind fun μ3 =>
(f_X12_onBy_L10 N N a1 a2 0 0 μ3).bind fun (x4, μ5) =>
(f_X12_laysBack N 0 μ5).bind fun μ9 =>
some (x4, μ9)
def f_X12_on (N : Nat) (a1 : Int32) (μ : g_M) : Option (Int32 × g_M) :=
  if (f_X12_isIn (Int32.toInt64 a1) 0 16) = 0 then
(some ((-1), μ))
else
((f_X12_onBy N a1 0 μ).bind fun (x2, μ4) =>
some (x2, μ4))
def f_X12_goes_L18 (N : Nat) : Nat → Int32 → Int32 → g_M → Option (Int32 × g_M)
  | 0, _, _, _ => none
  | n + 1, x_1, x_2, μ => if (f_X12_isOver μ) = 0 then
(if x_2 ≥ 0 then
(some (x_2, μ))
else
((f_X12_goesBy N 0 μ).bind fun (x7, μ9) =>
if (((μ9 0 15) >>> (x_1 &&& 31)) &&& 1) = 1 then
(f_X12_goes_L18 N n x_1 (μ 1 1) μ9)
else
(f_X12_goes_L18 N n x_1 (-3) μ9)))
else
(some (x_2, μ))
def f_X12_goes (N : Nat) (a1 : Int32) (μ : g_M) : Option (Int32 × g_M) :=
  if (f_X12_isOven a1 μ) = 0 then
(some ((-1), μ))
else
((f_X12_laysAside N 0 μ).bind fun μ4 =>
(f_X12_goes_L18 N N a1 (-3) μ4).bind fun (x5, μ6) =>
(f_X12_laysBack N 0 μ6).bind fun μ10 =>
some (x5, μ10))
def f_X12_often_L17 (N : Nat) : Nat → Int32 → Int32 → g_M → Option (Int32 × g_M)
  | 0, _, _, _ => none
  | n + 1, x_1, x_2, μ => if (f_X12_isOver μ) = 0 then
((f_X12_goesBy N 0 μ).bind fun (x6, μ8) =>
(some ((x_2 + (((μ8 0 15) >>> (x_1 &&& 31)) &&& 1)))).bind fun x9 =>
f_X12_often_L17 N n x_1 x9 μ8)
else
(some (x_2, μ))
def f_X12_often (N : Nat) (a1 : Int32) (μ : g_M) : Option (Int32 × g_M) :=
  if (f_X12_isOven a1 μ) = 0 then
(some ((-1), μ))
else
((f_X12_laysAside N 0 μ).bind fun μ4 =>
(f_X12_often_L17 N N a1 0 μ4).bind fun (x5, μ6) =>
(f_X12_laysBack N 0 μ6).bind fun μ10 =>
some (x5, μ10))
def f_X12_valueFor_L28 (N : Nat) : Nat → Int32 → Int32 → Int32 → Int32 → Int32 → Int32 → g_M → Option (Int32 × g_M)
  | 0, _, _, _, _, _, _, _ => none
  | n + 1, x_3, x_4, x_5, x_6, x_7, x_8, μ => if x_8 > x_3 then
(some (x_6, μ))
else
((g_wr μ 1 544 x_4 x_8).bind fun μ4 =>
(f_X12_onBy N 16 0 μ4).bind fun (x5, μ7) =>
if x5 ≤ x_7 then
(f_X12_valueFor_L28 N n x_3 x_4 x_5 x_6 x_7 (x_8 + 1) μ7)
else
(f_X12_valueFor_L28 N n x_3 x_4 x_5 x_8 x5 (x_8 + 1) μ7))
def f_X12_valueFor (N : Nat) (a1 : Int32) (a2 : Int32) (a3 : Int32) (μ : g_M) : Option (Int32 × g_M) :=
  (some (((8 + (5 * a1)) + a2))).bind fun x1 =>
(g_rd μ 1 544 x1).bind fun x2 =>
(f_X12_valueFor_L28 N N a3 x1 x2 0 (-1) 0 μ).bind fun (x3, μ4) =>
(g_wr μ4 1 544 x1 x2).bind fun μ6 =>
some (x3, μ6)
def f_X12_placeFor (N : Nat) (a1 : Int32) (μ : g_M) : Option (Int32 × g_M) :=
  if (f_X12_isOven a1 μ) = 0 then
(some ((-1), μ))
else
((f_X12_valueFor N a1 2 15 μ).bind fun (x2, μ4) =>
some (x2, μ4))
def f_X12_warmFor (N : Nat) (a1 : Int32) (μ : g_M) : Option (Int32 × g_M) :=
  if (f_X12_isOven a1 μ) = 0 then
(some ((-1), μ))
else
((f_X12_valueFor N a1 1 9 μ).bind fun (x2, μ4) =>
some (x2, μ4))
def f_X12_isPair  (a1 : Int32) (a2 : Int32) (μ : g_M) : Option Int32 :=
  (f_X12_longs a1 a2 μ).bind fun x1 =>
if x1 ≤ 0 then
(some 0)
else
((f_X12_longs a2 a1 μ).bind fun x4 =>
if x4 ≤ 0 then
(some 0)
else
(some 1))
def f_X12_pairs_L16 (N : Nat) : Nat → Int32 → Int32 → Int32 → g_M → Option (Int32)
  | 0, _, _, _, _ => none
  | n + 1, x_1, x_2, x_3, μ => if x_3 ≥ x_2 then
(some x_1)
else
((f_X12_isPair x_2 x_3 μ).bind fun x3 =>
if x3 = 0 then
((some ((x_1 + 0))).bind fun x6 =>
f_X12_pairs_L16 N n x6 x_2 (x_3 + 1) μ)
else
((some ((x_1 + 1))).bind fun x7 =>
f_X12_pairs_L16 N n x7 x_2 (x_3 + 1) μ))
def f_X12_pairs_L4 (N : Nat) : Nat → Int32 → Int32 → g_M → Option (Int32)
  | 0, _, _, _ => none
  | n + 1, x_1, x_2, μ => if x_2 ≥ (μ 1 0) then
(some x_1)
else
((f_X12_pairs_L16 N N x_1 x_2 0 μ).bind fun x2 =>
f_X12_pairs_L4 N n x2 (x_2 + 1) μ)
def f_X12_pairs (N : Nat) (μ : g_M) : Option Int32 :=
  (f_X12_pairs_L4 N N 0 0 μ).bind fun x1 =>
some x1
def f_X12_weds_L103 (F : Int32 → Int32 → Int32 → Int32 → g_M → Option g_M) (N : Nat) : Nat → Int32 → Int32 → Int32 → Int32 → Int32 → g_M → Option (g_M)
  | 0, _, _, _, _, _, _ => none
  | n + 1, x_1, x_2, x_3, x_4, x_5, μ => if x_5 ≥ (μ 1 0) then
(some μ)
else
(if ((x_2 >>> (x_5 &&& 31)) &&& 1) = 0 then
((f_X12_isPair x_1 x_5 μ).bind fun x6 =>
if x6 = 0 then
(f_X12_weds_L103 F N n x_1 x_2 x_3 x_4 (x_5 + 1) μ)
else
((g_wr μ 7 6 x_1 x_5).bind fun μ9 =>
(g_wr μ9 7 6 x_5 x_1).bind fun μ10 =>
(f_X12_longs x_1 x_5 μ10).bind fun x11 =>
(f_X12_longs x_5 x_1 μ10).bind fun x13 =>
(F (x_1 + 1) (x_2 ||| (1 <<< (x_5 &&& 31))) (x_3 + 1) ((x_4 + x11) + x13) μ10).bind fun μ17 =>
f_X12_weds_L103 F N n x_1 x_2 x_3 x_4 (x_5 + 1) μ17))
else
(f_X12_weds_L103 F N n x_1 x_2 x_3 x_4 (x_5 + 1) μ))
def f_X12_weds_L49 (F : Int32 → Int32 → Int32 → Int32 → g_M → Option g_M) (N : Nat) : Nat → Int32 → g_M → Option (g_M)
  | 0, _, _ => none
  | n + 1, x_5, μ => if x_5 ≥ 6 then
(some μ)
else
((g_rd μ 7 6 x_5).bind fun x17 =>
(g_wr μ 8 6 x_5 x17).bind fun μ18 =>
f_X12_weds_L49 F N n (x_5 + 1) μ18)
def f_X12_weds (N : Nat) : Nat → Int32 → Int32 → Int32 → Int32 → g_M → Option g_M
  | 0, _, _, _, _, _ => none
  | n + 1, a1, a2, a3, a4, μ => if a1 = (μ 1 0) then
(if a3 > (μ 0 18) then
((some (g_set μ 0 18 a3)).bind fun μ14 =>
(some (g_set μ14 0 19 a4)).bind fun μ15 =>
(f_X12_weds_L49 (f_X12_weds N n) N N 0 μ15).bind fun μ16 =>
some μ16)
else
(if a3 = (μ 0 18) then
(if a4 ≤ (μ 0 19) then
(some μ)
else
((some (g_set μ 0 18 a3)).bind fun μ20 =>
(some (g_set μ20 0 19 a4)).bind fun μ21 =>
(f_X12_weds_L49 (f_X12_weds N n) N N 0 μ21).bind fun μ22 =>
some μ22))
else
(some μ)))
else
(if ((a2 >>> (a1 &&& 31)) &&& 1) = 1 then
(((f_X12_weds N n) (a1 + 1) a2 a3 a4 μ).bind fun μ12 =>
some μ12)
else
((some ((a1 + 1))).bind fun x3 =>
(f_X12_weds_L103 (f_X12_weds N n) N N a1 a2 a3 a4 x3 μ).bind fun μ4 =>
(g_wr μ4 7 6 a1 6).bind fun μ6 =>
((f_X12_weds N n) (a1 + 1) a2 a3 a4 μ6).bind fun μ9 =>
some μ9))
def f_X12_findsWeddings (N : Nat) (μ : g_M) : Option g_M :=
  (some (g_set μ 0 18 (-1))).bind fun μ1 =>
(some (g_set μ1 0 19 0)).bind fun μ2 =>
(f_X12_weds N 8 0 0 0 0 μ2).bind fun μ5 =>
some μ5
def f_X12_weddings (N : Nat) (a1 : Int32) (μ : g_M) : Option (Int32 × g_M) :=
  if (f_X12_isIn (Int32.toInt64 a1) 0 1) = 0 then
(some ((-1), μ))
else
((f_X12_findsWeddings N μ).bind fun μ4 =>
if a1 = 0 then
(some ((μ4 0 18), μ4))
else
(some ((μ4 0 19), μ4)))
def f_X12_mate (N : Nat) (a1 : Int32) (μ : g_M) : Option (Int32 × g_M) :=
  if (f_X12_isOven a1 μ) = 0 then
(some ((-1), μ))
else
((f_X12_findsWeddings N μ).bind fun μ4 =>
(g_rd μ4 8 6 a1).bind fun x5 =>
some (x5, μ4))
def f_X12_size_L4 (N : Nat) : Nat → Int32 → Int32 → Option (Int32)
  | 0, _, _ => none
  | n + 1, x_1, x_2 => if x_2 = 0 then
(some x_1)
else
((some ((x_2 &&& (x_2 - 1)))).bind fun x2 =>
f_X12_size_L4 N n (x_1 + 1) x2)
def f_X12_size (N : Nat) (a1 : Int32) : Option Int32 :=
  (f_X12_size_L4 N N 0 a1).bind fun x1 =>
some x1
def f_X12_isStill_L7 (N : Nat) : Nat → Int32 → Int32 → g_M → Option (Int32 × g_M)
  | 0, _, _, _ => none
  | n + 1, x_1, x_2, μ => if (f_X12_isOver μ) = 0 then
(if x_2 = 0 then
(some (x_2, μ))
else
((f_X12_goesBy N x_1 μ).bind fun (x6, μ8) =>
if (μ8 0 15) = 0 then
(f_X12_isStill_L7 N n x_1 1 μ8)
else
(f_X12_isStill_L7 N n x_1 0 μ8)))
else
(some (x_2, μ))
def f_X12_isStill (N : Nat) (a1 : Int32) (μ : g_M) : Option (Int32 × g_M) :=
  (f_X12_laysAside N 0 μ).bind fun μ3 =>
(f_X12_isStill_L7 N N a1 1 μ3).bind fun (x4, μ5) =>
(f_X12_laysBack N 0 μ5).bind fun μ9 =>
(g_zc x4).bind fun x10 =>
some (x10, μ9)
def f_X12_chains_L16 (N : Nat) : Nat → Int32 → Int32 → Int32 → g_M → Option (Int32 × g_M)
  | 0, _, _, _, _ => none
  | n + 1, x_1, x_2, x_3, μ => if x_3 ≥ (1 <<< ((μ 1 0) &&& 31)) then
(some (x_2, μ))
else
(if x_2 < 0 then
((f_X12_isStill N x_3 μ).bind fun (x4, μ6) =>
if x4 = 0 then
(f_X12_chains_L16 N n x_1 x_2 (x_3 + 1) μ6)
else
(f_X12_chains_L16 N n x_1 x_3 (x_3 + 1) μ6))
else
((f_X12_size N x_3).bind fun x8 =>
(f_X12_size N x_2).bind fun x10 =>
if x8 ≥ x10 then
(f_X12_chains_L16 N n x_1 x_2 (x_3 + 1) μ)
else
((f_X12_isStill N x_3 μ).bind fun (x13, μ15) =>
if x13 = 0 then
(f_X12_chains_L16 N n x_1 x_2 (x_3 + 1) μ15)
else
(f_X12_chains_L16 N n x_1 x_3 (x_3 + 1) μ15))))
def f_X12_chains (N : Nat) (a1 : Int32) (μ : g_M) : Option (Int32 × g_M) :=
  if (f_X12_isIn (Int32.toInt64 a1) 0 1) = 0 then
(some ((-1), μ))
else
((f_X12_chains_L16 N N a1 (-1) 0 μ).bind fun (x2, μ3) =>
if a1 = 0 then
(some (x2, μ3))
else
((f_X12_size N x2).bind fun x6 =>
some (x6, μ3)))
def f_X12_plans_L38 (F : Int32 → Int32 → Int32 → Int32 → g_M → Option g_M) (N : Nat) : Nat → Int32 → Int32 → Int32 → g_M → Option (g_M)
  | 0, _, _, _, _ => none
  | n + 1, x_3, x_4, x_5, μ => if x_5 ≥ 4 then
(some μ)
else
((g_rd μ 9 4 x_5).bind fun x26 =>
(g_wr μ 10 4 x_5 x26).bind fun μ27 =>
f_X12_plans_L38 F N n x_3 x_4 (x_5 + 1) μ27)
def f_X12_plans_L146 (F : Int32 → Int32 → Int32 → Int32 → g_M → Option g_M) (N : Nat) : Nat → Int32 → Int32 → Int32 → Int32 → Int32 → g_M → Option (g_M)
  | 0, _, _, _, _, _, _ => none
  | n + 1, x_1, x_2, x_3, x_4, x_5, μ => if x_5 > (μ 1 0) then
(some μ)
else
((g_wr μ 9 4 x_1 x_5).bind fun μ51 =>
(f_X12_goesWith N x_5 μ51).bind fun (x52, μ54) =>
if x_5 = 0 then
((F (x_1 + 1) x_2 (x_3 + x52) x_4 μ54).bind fun μ64 =>
(f_X12_laysBack N x_1 μ64).bind fun μ67 =>
f_X12_plans_L146 F N n x_1 x_2 x_3 x_4 (x_5 + 1) μ67)
else
((F (x_1 + 1) x_2 (x_3 + x52) (x_4 + 1) μ54).bind fun μ58 =>
(f_X12_laysBack N x_1 μ58).bind fun μ61 =>
f_X12_plans_L146 F N n x_1 x_2 x_3 x_4 (x_5 + 1) μ61))
def f_X12_plans (N : Nat) : Nat → Int32 → Int32 → Int32 → Int32 → g_M → Option g_M
  | 0, _, _, _, _, _ => none
  | n + 1, a1, a2, a3, a4, μ => if a1 = a2 then
(if a3 ≤ (μ 0 22) then
(if a3 = (μ 0 22) then
((some (g_set μ 0 23 ((μ 0 23) + 1))).bind fun μ13 =>
(f_X12_home N μ13).bind fun x14 =>
(some (g_set μ13 0 27 ((μ13 0 27) ||| x14))).bind fun μ16 =>
if ((μ16 0 25) &&& (x14 ^^^ (-1))) = 0 then
(if a4 ≥ (μ16 0 26) then
((some (g_set μ16 0 26 (μ16 0 26))).bind fun μ20 =>
some μ20)
else
((some (g_set μ16 0 26 a4)).bind fun μ21 =>
some μ21))
else
((some (g_set μ16 0 26 (μ16 0 26))).bind fun μ18 =>
some μ18))
else
((some (g_set μ 0 23 ((μ 0 23) + 0))).bind fun μ4 =>
(f_X12_home N μ4).bind fun x5 =>
(some (g_set μ4 0 27 ((μ4 0 27) ||| x5))).bind fun μ7 =>
if ((μ7 0 25) &&& (x5 ^^^ (-1))) = 0 then
(if a4 ≥ (μ7 0 26) then
((some (g_set μ7 0 26 (μ7 0 26))).bind fun μ11 =>
some μ11)
else
((some (g_set μ7 0 26 a4)).bind fun μ12 =>
some μ12))
else
((some (g_set μ7 0 26 (μ7 0 26))).bind fun μ9 =>
some μ9)))
else
((some (g_set μ 0 22 a3)).bind fun μ22 =>
(some (g_set μ22 0 23 0)).bind fun μ23 =>
(some (g_set μ23 0 24 a1)).bind fun μ24 =>
(f_X12_plans_L38 (f_X12_plans N n) N N a3 a4 0 μ24).bind fun μ25 =>
if a3 = (μ25 0 22) then
((some (g_set μ25 0 23 ((μ25 0 23) + 1))).bind fun μ37 =>
(f_X12_home N μ37).bind fun x38 =>
(some (g_set μ37 0 27 ((μ37 0 27) ||| x38))).bind fun μ40 =>
if ((μ40 0 25) &&& (x38 ^^^ (-1))) = 0 then
(if a4 ≥ (μ40 0 26) then
((some (g_set μ40 0 26 (μ40 0 26))).bind fun μ44 =>
some μ44)
else
((some (g_set μ40 0 26 a4)).bind fun μ45 =>
some μ45))
else
((some (g_set μ40 0 26 (μ40 0 26))).bind fun μ42 =>
some μ42))
else
((some (g_set μ25 0 23 ((μ25 0 23) + 0))).bind fun μ28 =>
(f_X12_home N μ28).bind fun x29 =>
(some (g_set μ28 0 27 ((μ28 0 27) ||| x29))).bind fun μ31 =>
if ((μ31 0 25) &&& (x29 ^^^ (-1))) = 0 then
(if a4 ≥ (μ31 0 26) then
((some (g_set μ31 0 26 (μ31 0 26))).bind fun μ35 =>
some μ35)
else
((some (g_set μ31 0 26 a4)).bind fun μ36 =>
some μ36))
else
((some (g_set μ31 0 26 (μ31 0 26))).bind fun μ33 =>
some μ33))))
else
(if (f_X12_isOver μ) = 0 then
((f_X12_laysAside N a1 μ).bind fun μ49 =>
(f_X12_plans_L146 (f_X12_plans N n) N N a1 a2 a3 a4 0 μ49).bind fun μ50 =>
some μ50)
else
(if a3 ≤ (μ 0 22) then
(if a3 = (μ 0 22) then
((some (g_set μ 0 23 ((μ 0 23) + 1))).bind fun μ63 =>
(f_X12_home N μ63).bind fun x64 =>
(some (g_set μ63 0 27 ((μ63 0 27) ||| x64))).bind fun μ66 =>
if ((μ66 0 25) &&& (x64 ^^^ (-1))) = 0 then
(if a4 ≥ (μ66 0 26) then
((some (g_set μ66 0 26 (μ66 0 26))).bind fun μ70 =>
some μ70)
else
((some (g_set μ66 0 26 a4)).bind fun μ71 =>
some μ71))
else
((some (g_set μ66 0 26 (μ66 0 26))).bind fun μ68 =>
some μ68))
else
((some (g_set μ 0 23 ((μ 0 23) + 0))).bind fun μ54 =>
(f_X12_home N μ54).bind fun x55 =>
(some (g_set μ54 0 27 ((μ54 0 27) ||| x55))).bind fun μ57 =>
if ((μ57 0 25) &&& (x55 ^^^ (-1))) = 0 then
(if a4 ≥ (μ57 0 26) then
((some (g_set μ57 0 26 (μ57 0 26))).bind fun μ61 =>
some μ61)
else
((some (g_set μ57 0 26 a4)).bind fun μ62 =>
some μ62))
else
((some (g_set μ57 0 26 (μ57 0 26))).bind fun μ59 =>
some μ59)))
else
((some (g_set μ 0 22 a3)).bind fun μ72 =>
(some (g_set μ72 0 23 0)).bind fun μ73 =>
(some (g_set μ73 0 24 a1)).bind fun μ74 =>
(f_X12_plans_L38 (f_X12_plans N n) N N a3 a4 0 μ74).bind fun μ75 =>
if a3 = (μ75 0 22) then
((some (g_set μ75 0 23 ((μ75 0 23) + 1))).bind fun μ87 =>
(f_X12_home N μ87).bind fun x88 =>
(some (g_set μ87 0 27 ((μ87 0 27) ||| x88))).bind fun μ90 =>
if ((μ90 0 25) &&& (x88 ^^^ (-1))) = 0 then
(if a4 ≥ (μ90 0 26) then
((some (g_set μ90 0 26 (μ90 0 26))).bind fun μ94 =>
some μ94)
else
((some (g_set μ90 0 26 a4)).bind fun μ95 =>
some μ95))
else
((some (g_set μ90 0 26 (μ90 0 26))).bind fun μ92 =>
some μ92))
else
((some (g_set μ75 0 23 ((μ75 0 23) + 0))).bind fun μ78 =>
(f_X12_home N μ78).bind fun x79 =>
(some (g_set μ78 0 27 ((μ78 0 27) ||| x79))).bind fun μ81 =>
if ((μ81 0 25) &&& (x79 ^^^ (-1))) = 0 then
(if a4 ≥ (μ81 0 26) then
((some (g_set μ81 0 26 (μ81 0 26))).bind fun μ85 =>
some μ85)
else
((some (g_set μ81 0 26 a4)).bind fun μ86 =>
some μ86))
else
((some (g_set μ81 0 26 (μ81 0 26))).bind fun μ83 =>
some μ83)))))
def f_X12_findsPlans (N : Nat) (a1 : Int32) (a2 : Int32) (μ : g_M) : Option g_M :=
  (some (g_set μ 0 22 (-1))).bind fun μ1 =>
(some (g_set μ1 0 23 0)).bind fun μ2 =>
(some (g_set μ2 0 24 0)).bind fun μ3 =>
(some (g_set μ3 0 25 a2)).bind fun μ4 =>
(some (g_set μ4 0 26 9)).bind fun μ5 =>
(some (g_set μ5 0 27 0)).bind fun μ6 =>
(f_X12_plans N 6 0 a1 0 0 μ6).bind fun μ9 =>
some μ9
def f_X12_isLong  (a1 : Int32) : Int32 :=
  (f_X12_isIn (Int32.toInt64 a1) 0 4)
def f_X12_best (N : Nat) (a1 : Int32) (μ : g_M) : Option (Int32 × g_M) :=
  if (f_X12_isLong a1) = 0 then
(some ((-1), μ))
else
((f_X12_findsPlans N a1 0 μ).bind fun μ4 =>
some ((μ4 0 22), μ4))
def f_X12_ith (N : Nat) (a1 : Int32) (a2 : Int32) (μ : g_M) : Option (Int32 × g_M) :=
  if (f_X12_isLong a1) = 0 then
(some ((-1), μ))
else
(if (f_X12_isIn (Int32.toInt64 a2) 0 3) = 0 then
(some ((-1), μ))
else
((f_X12_findsPlans N a1 0 μ).bind fun μ5 =>
if a2 ≥ (μ5 0 24) then
(some ((-3), μ5))
else
((g_rd μ5 10 4 a2).bind fun x7 =>
some (x7, μ5))))
def f_X12_ways (N : Nat) (a1 : Int32) (μ : g_M) : Option (Int32 × g_M) :=
  if (f_X12_isLong a1) = 0 then
(some ((-1), μ))
else
((f_X12_findsPlans N a1 0 μ).bind fun μ4 =>
some ((μ4 0 23), μ4))
def f_X12_isSet  (a1 : Int32) (μ : g_M) : Int32 :=
  (f_X12_isIn (Int32.toInt64 a1) 0 (Int32.toInt64 ((1 <<< ((μ 1 0) &&& 31)) - 1)))
def f_X12_kept (N : Nat) (a1 : Int32) (a2 : Int32) (μ : g_M) : Option (Int32 × g_M) :=
  if (f_X12_isLong a1) = 0 then
(some ((-1), μ))
else
(if (f_X12_isSet a2 μ) = 0 then
(some ((-1), μ))
else
((f_X12_findsPlans N a1 a2 μ).bind fun μ5 =>
if (μ5 0 26) ≥ 9 then
(some ((-3), μ5))
else
(some ((μ5 0 26), μ5))))
def f_X12_bars_L25 (N : Nat) : Nat → Int32 → Int32 → g_M → Option ((Int32 × g_M) ⊕ (Unit))
  | 0, _, _, _ => none
  | n + 1, x_2, x_3, μ => if x_3 ≥ (μ 1 0) then
(some (.inr ()))
else
(if (((x_2 &&& ((μ 0 27) ^^^ (-1))) >>> (x_3 &&& 31)) &&& 1) = 1 then
(some (.inl (x_3, μ)))
else
(f_X12_bars_L25 N n x_2 (x_3 + 1) μ))
def f_X12_bars (N : Nat) (a1 : Int32) (a2 : Int32) (μ : g_M) : Option (Int32 × g_M) :=
  if (f_X12_isLong a1) = 0 then
(some ((-1), μ))
else
(if (f_X12_isSet a2 μ) = 0 then
(some ((-1), μ))
else
((f_X12_findsPlans N a1 a2 μ).bind fun μ5 =>
(f_X12_bars_L25 N N a2 0 μ5).bind fun w7 => (match w7 with
  | .inl q => some q
  | .inr _ => (
some ((-3), μ5)))))
def f_X12_valueFrom_L27 (F : Int32 → Int32 → g_M → Option (Int32 × g_M)) (N : Nat) : Nat → Int32 → Int32 → Int32 → Int32 → Int32 → g_M → Option (Int32 × Int32 × g_M)
  | 0, _, _, _, _, _, _ => none
  | n + 1, x_1, x_2, x_3, x_4, x_5, μ => if x_5 > (μ 1 0) then
(some (x_3, x_4, μ))
else
((f_X12_goesWith N x_5 μ).bind fun (x7, μ9) =>
(F (x_1 + 1) x_2 μ9).bind fun (x10, μ12) =>
(some ((x7 + x10))).bind fun x13 =>
(f_X12_laysBack N x_1 μ12).bind fun μ16 =>
if x_4 < 0 then
(f_X12_valueFrom_L27 F N n x_1 x_2 x13 x_5 (x_5 + 1) μ16)
else
(if (g_rem x_1 2) = 0 then
(if x13 ≤ x_3 then
(f_X12_valueFrom_L27 F N n x_1 x_2 x_3 x_4 (x_5 + 1) μ16)
else
(f_X12_valueFrom_L27 F N n x_1 x_2 x13 x_5 (x_5 + 1) μ16))
else
(if x13 ≥ x_3 then
(f_X12_valueFrom_L27 F N n x_1 x_2 x_3 x_4 (x_5 + 1) μ16)
else
(f_X12_valueFrom_L27 F N n x_1 x_2 x13 x_5 (x_5 + 1) μ16))))
def f_X12_valueFrom (N : Nat) : Nat → Int32 → Int32 → g_M → Option (Int32 × g_M)
  | 0, _, _, _ => none
  | n + 1, a1, a2, μ => if a1 = a2 then
(some (0, μ))
else
(if (f_X12_isOver μ) = 0 then
((f_X12_laysAside N a1 μ).bind fun μ5 =>
(f_X12_valueFrom_L27 (f_X12_valueFrom N n) N N a1 a2 0 (-1) 0 μ5).bind fun (x6, x7, μ8) =>
(some (g_set μ8 0 28 x7)).bind fun μ10 =>
some (x6, μ10))
else
(some (0, μ)))
def f_X12_game (N : Nat) (a1 : Int32) (μ : g_M) : Option (Int32 × g_M) :=
  if (f_X12_isIn (Int32.toInt64 a1) 1 4) = 0 then
(some ((-1), μ))
else
((f_X12_valueFrom N 6 0 a1 μ).bind fun (x2, μ4) =>
some (x2, μ4))
def f_X12_play (N : Nat) (a1 : Int32) (μ : g_M) : Option (Int32 × g_M) :=
  if (f_X12_isIn (Int32.toInt64 a1) 1 4) = 0 then
(some ((-1), μ))
else
(if (f_X12_isOver μ) = 0 then
((f_X12_valueFrom N 6 0 a1 μ).bind fun (x3, μ5) =>
some ((μ5 0 28), μ5))
else
(some ((-3), μ)))
def f_X12_report  (a1 : Int32) (a2 : Int32) (a3 : Int32) (a4 : Int32) (μ : g_M) : Option (Int32 × g_M) :=
  if (f_X12_isIn (Int32.toInt64 a1) 1 5) = 0 then
(some ((-1), μ))
else
(if (f_X12_isIn (Int32.toInt64 a2) 0 15) = 0 then
(some ((-1), μ))
else
(if (f_X12_isIn (Int32.toInt64 a3) (-20) 20) = 0 then
(some ((-1), μ))
else
(if (f_X12_isIn (Int32.toInt64 a4) (Int32.toInt64 a3) 20) = 0 then
(some ((-1), μ))
else
(if (μ 1 6) = 6 then
(some ((-2), μ))
else
((some ((70 + (4 * (μ 1 6))))).bind fun x6 =>
(g_wr μ 1 544 x6 a1).bind fun μ7 =>
(g_wr μ7 1 544 (x6 + 1) a2).bind fun μ8 =>
(g_wr μ8 1 544 (x6 + 2) a3).bind fun μ9 =>
(g_wr μ9 1 544 (x6 + 3) a4).bind fun μ10 =>
(some (g_set μ10 1 6 ((μ10 1 6) + 1))).bind fun μ11 =>
some (((μ11 1 6) - 1), μ11))))))
def f_X12_forget  (μ : g_M) : Option (Int32 × g_M) :=
  (f_X12_becomes 6 0 μ).bind fun (x1, μ3) =>
some (x1, μ3)
def f_X12_isFit_L6 (N : Nat) : Nat → Int32 → Int32 → Int32 → Int32 → Int32 → g_M → Option (Int32)
  | 0, _, _, _, _, _, _ => none
  | n + 1, x_1, x_2, x_3, x_4, x_5, μ => if x_5 ≥ (μ 1 6) then
(some x_4)
else
((some ((70 + (4 * x_5)))).bind fun x2 =>
if x_5 = x_3 then
((some ((x_4 &&& 1))).bind fun x4 =>
f_X12_isFit_L6 N n x_1 x_2 x_3 x4 (x_5 + 1) μ)
else
((g_rd μ 1 544 x2).bind fun x5 =>
(g_rd μ 1 544 (x2 + 1)).bind fun x6 =>
(g_rd μ 1 544 (x2 + 2)).bind fun x7 =>
(g_rd μ 1 544 (x2 + 3)).bind fun x8 =>
if (f_X12_isIn (Int32.toInt64 (f_X12_longsBy x5 5 x6 x_2 x_1 0)) (Int32.toInt64 x7) (Int32.toInt64 x8)) = 0 then
((some ((x_4 &&& 0))).bind fun x10 =>
f_X12_isFit_L6 N n x_1 x_2 x_3 x10 (x_5 + 1) μ)
else
((some ((x_4 &&& 1))).bind fun x11 =>
f_X12_isFit_L6 N n x_1 x_2 x_3 x11 (x_5 + 1) μ)))
def f_X12_isFit (N : Nat) (a1 : Int32) (a2 : Int32) (a3 : Int32) (μ : g_M) : Option Int32 :=
  (f_X12_isFit_L6 N N a1 a2 a3 1 0 μ).bind fun x1 =>
(g_zc x1).bind fun x3 =>
some x3
def f_X12_findsFits_L13 (N : Nat) : Nat → Int32 → Int32 → g_M → Option (g_M)
  | 0, _, _, _ => none
  | n + 1, x_1, x_2, μ => if x_2 ≥ 160 then
(some μ)
else
((f_X12_isFit N (x_2 / 10) (g_rem x_2 10) x_1 μ).bind fun x4 =>
if x4 = 0 then
(f_X12_findsFits_L13 N n x_1 (x_2 + 1) μ)
else
(if (μ 0 29) = 0 then
((some (g_set μ 0 30 x_2)).bind fun μ10 =>
(some (g_set μ10 0 29 ((μ10 0 29) + 1))).bind fun μ11 =>
f_X12_findsFits_L13 N n x_1 (x_2 + 1) μ11)
else
((some (g_set μ 0 30 (μ 0 30))).bind fun μ8 =>
(some (g_set μ8 0 29 ((μ8 0 29) + 1))).bind fun μ9 =>
f_X12_findsFits_L13 N n x_1 (x_2 + 1) μ9)))
def f_X12_findsFits (N : Nat) (a1 : Int32) (μ : g_M) : Option g_M :=
  (some (g_set μ 0 29 0)).bind fun μ1 =>
(some (g_set μ1 0 30 (-3))).bind fun μ2 =>
(f_X12_findsFits_L13 N N a1 0 μ2).bind fun μ3 =>
some μ3
def f_X12_span (N : Nat) (a1 : Int32) (μ : g_M) : Option (Int32 × g_M) :=
  if (f_X12_isIn (Int32.toInt64 a1) 0 2) = 0 then
(some ((-1), μ))
else
((f_X12_findsFits N (-1) μ).bind fun μ4 =>
if a1 = 0 then
(some ((μ4 0 29), μ4))
else
(if (μ4 0 29) = 0 then
(some ((-3), μ4))
else
(if a1 = 1 then
(some (((μ4 0 30) / 10), μ4))
else
(some ((g_rem (μ4 0 30) 10), μ4)))))
def f_X12_liar_L23 (N : Nat) : Nat → Int32 → Int32 → Int32 → g_M → Option (Int32 × g_M)
  | 0, _, _, _, _ => none
  | n + 1, x_1, x_2, x_3, μ => if x_3 ≥ (μ 1 6) then
(some (x_1, μ))
else
(if x_2 = 0 then
(some (x_1, μ))
else
(if x_1 ≥ 0 then
(some (x_1, μ))
else
((f_X12_findsFits N x_3 μ).bind fun μ10 =>
if (μ10 0 29) ≤ 0 then
(f_X12_liar_L23 N n (-3) x_2 (x_3 + 1) μ10)
else
(f_X12_liar_L23 N n x_3 x_2 (x_3 + 1) μ10))))
def f_X12_liar (N : Nat) (μ : g_M) : Option (Int32 × g_M) :=
  (f_X12_findsFits N (-1) μ).bind fun μ3 =>
if (μ3 0 29) = 0 then
((f_X12_liar_L23 N N (-3) 1 0 μ3).bind fun (x8, μ9) =>
some (x8, μ9))
else
((f_X12_liar_L23 N N (-3) 0 0 μ3).bind fun (x5, μ6) =>
some (x5, μ6))
def f_X12_seed  (a1 : Int32) (μ : g_M) : Option (Int32 × g_M) :=
  (f_X12_becomes 4 a1 μ).bind fun (x1, μ3) =>
some (x1, μ3)
def f_X12_goesByLot (N : Nat) (μ : g_M) : Option (Int32 × g_M) :=
  (some (g_set μ 1 4 (((μ 1 4) * 1103515245) + 12345))).bind fun μ1 =>
(g_rmo (g_ush (μ1 1 4) 16) ((μ1 1 0) + 1)).bind fun x2 =>
(f_X12_goesWith N x2 μ1).bind fun (x3, μ5) =>
some (x3, μ5)
def f_X12_lot (N : Nat) (μ : g_M) : Option (Int32 × g_M) :=
  if (f_X12_isOver μ) = 0 then
((f_X12_goesByLot N μ).bind fun (x2, μ4) =>
some (x2, μ4))
else
(some ((-4), μ))
def f_X12_times_L80 (N : Nat) : Nat → Int32 → Int32 → Int32 → Int32 → Int32 → g_M → Option (Int32 × g_M)
  | 0, _, _, _, _, _, _ => none
  | n + 1, x_1, x_2, x_3, x_4, x_6, μ => if (f_X12_isOver μ) = 0 then
((f_X12_goesByLot N μ).bind fun (x13, μ15) =>
(some ((x_6 + x13))).bind fun x16 =>
f_X12_times_L80 N n x_1 x_2 x_3 x_4 x16 μ15)
else
(some (x_6, μ))
def f_X12_times_L36 (N : Nat) : Nat → Int32 → Int32 → Int32 → Int32 → g_M → Option (Int32 × g_M)
  | 0, _, _, _, _, _ => none
  | n + 1, x_1, x_2, x_3, x_4, μ => if x_4 ≥ x_1 then
(some (x_3, μ))
else
((f_X12_laysBack N 0 μ).bind fun μ9 =>
if x_4 = 0 then
((some (g_set μ9 1 4 (μ9 1 4))).bind fun μ18 =>
(f_X12_times_L80 N N x_1 x_2 x_3 x_4 0 μ18).bind fun (x19, μ20) =>
if x19 < x_2 then
((some ((x_3 + 0))).bind fun x23 =>
f_X12_times_L36 N n x_1 x_2 x23 (x_4 + 1) μ20)
else
((some ((x_3 + 1))).bind fun x24 =>
f_X12_times_L36 N n x_1 x_2 x24 (x_4 + 1) μ20))
else
((some (g_set μ9 1 4 (μ 1 4))).bind fun μ11 =>
(f_X12_times_L80 N N x_1 x_2 x_3 x_4 0 μ11).bind fun (x12, μ13) =>
if x12 < x_2 then
((some ((x_3 + 0))).bind fun x16 =>
f_X12_times_L36 N n x_1 x_2 x16 (x_4 + 1) μ13)
else
((some ((x_3 + 1))).bind fun x17 =>
f_X12_times_L36 N n x_1 x_2 x17 (x_4 + 1) μ13)))
def f_X12_times (N : Nat) (a1 : Int32) (a2 : Int32) (μ : g_M) : Option (Int32 × g_M) :=
  if (f_X12_isIn (Int32.toInt64 a1) 1 40) = 0 then
(some ((-1), μ))
else
(if (f_X12_isIn (Int32.toInt64 a2) 0 999) = 0 then
(some ((-1), μ))
else
((f_X12_laysAside N 0 μ).bind fun μ5 =>
(f_X12_times_L36 N N a1 a2 0 0 μ5).bind fun (x6, μ7) =>
(f_X12_laysBack N 0 μ7).bind fun μ11 =>
some (x6, μ11)))
def f_X12_prove_L22 (N : Nat) : Nat → Int32 → g_M → Option (g_M)
  | 0, _, _ => none
  | n + 1, x_2, μ => if x_2 ≥ (μ 0 24) then
(some μ)
else
((g_rd μ 10 4 x_2).bind fun x9 =>
(g_wr μ 11 12 (3 * x_2) x9).bind fun μ10 =>
(g_rd μ10 10 4 x_2).bind fun x11 =>
(f_X12_goesWith N x11 μ10).bind fun (x12, μ14) =>
(g_wr μ14 11 12 ((3 * x_2) + 1) x12).bind fun μ15 =>
(f_X12_home N μ15).bind fun x16 =>
(g_wr μ15 11 12 ((3 * x_2) + 2) x16).bind fun μ18 =>
f_X12_prove_L22 N n (x_2 + 1) μ18)
def f_X12_prove (N : Nat) (a1 : Int32) (μ : g_M) : Option (Int32 × g_M) :=
  if (f_X12_isLong a1) = 0 then
(some ((-1), μ))
else
((f_X12_findsPlans N a1 0 μ).bind fun μ4 =>
(f_X12_laysAside N 0 μ4).bind fun μ7 =>
(f_X12_prove_L22 N N 0 μ7).bind fun μ8 =>
(f_X12_laysBack N 0 μ8).bind fun μ12 =>
(some (g_set μ12 0 32 (μ12 0 24))).bind fun μ13 =>
some ((μ13 0 32), μ13))
def f_X12_isRow  (a1 : Int32) (a2 : Int32) (μ : g_M) : Int32 :=
  if (f_X12_isIn (Int32.toInt64 a1) 0 (Int32.toInt64 ((μ 0 32) - 1))) = 0 then
(0)
else
(if (f_X12_isIn (Int32.toInt64 a2) 0 2) = 0 then
(0)
else
(1))
def f_X12_row  (a1 : Int32) (a2 : Int32) (μ : g_M) : Option Int32 :=
  if (f_X12_isRow a1 a2 μ) = 0 then
(some (-9))
else
((g_rd μ 11 12 ((3 * a1) + a2)).bind fun x2 =>
some x2)
def f_X12_alterRow  (a1 : Int32) (a2 : Int32) (a3 : Int32) (μ : g_M) : Option (Int32 × g_M) :=
  if (f_X12_isRow a1 a2 μ) = 0 then
(some ((-9), μ))
else
((g_rd μ 11 12 ((3 * a1) + a2)).bind fun x2 =>
(g_wr μ 11 12 ((3 * a1) + a2) a3).bind fun μ3 =>
some (x2, μ3))
def f_X12_isAct  (a1 : Int32) (μ : g_M) : Int32 :=
  (f_X12_isIn (Int32.toInt64 a1) 0 (Int32.toInt64 (μ 1 0)))
def f_X12_judge_L9 (N : Nat) : Nat → Int32 → Int32 → g_M → Option (Int32 × Int32 × g_M)
  | 0, _, _, _ => none
  | n + 1, x_1, x_2, μ => if x_1 ≥ (μ 0 32) then
(some (x_1, x_2, μ))
else
(if x_2 = 0 then
(some (x_1, x_2, μ))
else
((g_rd μ 11 12 (3 * x_1)).bind fun x6 =>
if (f_X12_isAct x6 μ) = 0 then
(f_X12_judge_L9 N n (x_1 + 1) 0 μ)
else
(if (f_X12_isOver μ) = 0 then
((g_rd μ 11 12 (3 * x_1)).bind fun x9 =>
(f_X12_goesWith N x9 μ).bind fun (x10, μ12) =>
(g_rd μ12 11 12 ((3 * x_1) + 1)).bind fun x13 =>
if x10 = x13 then
((f_X12_home N μ12).bind fun x15 =>
(g_rd μ12 11 12 ((3 * x_1) + 2)).bind fun x17 =>
if x15 = x17 then
(f_X12_judge_L9 N n (x_1 + 1) 1 μ12)
else
(f_X12_judge_L9 N n (x_1 + 1) 0 μ12))
else
(f_X12_judge_L9 N n (x_1 + 1) 0 μ12))
else
(f_X12_judge_L9 N n (x_1 + 1) 0 μ))))
def f_X12_judge (N : Nat) (μ : g_M) : Option (Int32 × g_M) :=
  (f_X12_laysAside N 0 μ).bind fun μ3 =>
(f_X12_judge_L9 N N 0 1 μ3).bind fun (x4, x5, μ6) =>
(f_X12_laysBack N 0 μ6).bind fun μ10 =>
if x5 = 0 then
(some (x4, μ10))
else
(some (0, μ10))
def f_X12_isSheet  (a1 : Int32) : Int32 :=
  (f_X12_isIn (Int32.toInt64 a1) 0 3)
def f_X12_isShelf  (a1 : Int32) : Int32 :=
  (f_X12_isIn (Int32.toInt64 a1) 0 3)
def f_X12_sheet_L69 (N : Nat) : Nat → Int32 → Int32 → g_M → Option (g_M)
  | 0, _, _, _ => none
  | n + 1, x_1, x_4, μ => if x_4 ≥ 40 then
(some μ)
else
((g_wr μ 14 160 ((40 * x_1) + x_4) 0).bind fun μ8 =>
f_X12_sheet_L69 N n x_1 (x_4 + 1) μ8)
def f_X12_sheet (N : Nat) (a1 : Int32) (a2 : Int32) (a3 : Int32) (μ : g_M) : Option (Int32 × g_M) :=
  if (f_X12_isSheet a1) = 0 then
(some ((-1), μ))
else
(if (f_X12_isIn (Int32.toInt64 a2) (-1) 4) = 0 then
(some ((-1), μ))
else
(if a2 < 0 then
((g_wr μ 12 4 a1 a2).bind fun μ4 =>
if a2 ≥ 0 then
((g_wr μ4 13 4 a1 a3).bind fun μ6 =>
(f_X12_sheet_L69 N N a1 0 μ6).bind fun μ7 =>
some (1, μ7))
else
((g_wr μ4 13 4 a1 0).bind fun μ9 =>
(f_X12_sheet_L69 N N a1 0 μ9).bind fun μ10 =>
some (1, μ10)))
else
(if a3 ≤ 40 then
(if a3 ≥ 0 then
((g_wr μ 12 4 a1 a2).bind fun μ14 =>
if a2 ≥ 0 then
((g_wr μ14 13 4 a1 a3).bind fun μ16 =>
(f_X12_sheet_L69 N N a1 0 μ16).bind fun μ17 =>
some (1, μ17))
else
((g_wr μ14 13 4 a1 0).bind fun μ19 =>
(f_X12_sheet_L69 N N a1 0 μ19).bind fun μ20 =>
some (1, μ20)))
else
(some ((-14), μ)))
else
(some ((-1), μ)))))
def f_X12_write  (a1 : Int32) (a2 : Int32) (a3 : Int32) (μ : g_M) : Option (Int32 × g_M) :=
  if (f_X12_isSheet a1) = 0 then
(some ((-1), μ))
else
((g_rd μ 12 4 a1).bind fun x2 =>
if x2 ≥ 0 then
((g_rd μ 13 4 a1).bind fun x4 =>
if (f_X12_isIn (Int32.toInt64 a2) 0 (Int32.toInt64 (x4 - 1))) = 0 then
(some ((-12), μ))
else
((g_rd μ 12 4 a1).bind fun x6 =>
if x6 = 0 then
((g_wr μ 14 160 ((40 * a1) + a2) ((Int32.toInt8 a3).toInt32)).bind fun μ17 =>
some (1, μ17))
else
((g_rd μ 12 4 a1).bind fun x8 =>
if x8 = 1 then
((g_wr μ 14 160 ((40 * a1) + a2) ((Int32.toInt16 a3).toInt32)).bind fun μ16 =>
some (1, μ16))
else
((g_rd μ 12 4 a1).bind fun x10 =>
if x10 = 4 then
(if a3 = 0 then
((g_wr μ 14 160 ((40 * a1) + a2) 0).bind fun μ15 =>
some (1, μ15))
else
((g_wr μ 14 160 ((40 * a1) + a2) 1).bind fun μ14 =>
some (1, μ14)))
else
((g_wr μ 14 160 ((40 * a1) + a2) a3).bind fun μ12 =>
some (1, μ12))))))
else
(some ((-11), μ)))
def f_X12_lacks  (a1 : Int32) (a2 : Int32) (μ : g_M) : Option Int32 :=
  (g_rd μ 12 4 a1).bind fun x1 =>
if x1 ≥ 0 then
((g_rd μ 12 4 a1).bind fun x3 =>
if x3 = a2 then
(some 0)
else
(some (-13)))
else
(some (-11))
def f_X12_item  (a1 : Int32) (a2 : Int32) (a3 : Int32) (μ : g_M) : Option Int32 :=
  if (f_X12_isSheet a1) = 0 then
(some (-1))
else
(if (f_X12_isIn (Int32.toInt64 a2) 0 4) = 0 then
(some (-1))
else
((f_X12_lacks a1 a2 μ).bind fun x3 =>
if x3 = 0 then
((g_rd μ 13 4 a1).bind fun x6 =>
if (f_X12_isIn (Int32.toInt64 a3) 0 (Int32.toInt64 (x6 - 1))) = 0 then
(some (-12))
else
((g_rd μ 14 160 ((40 * a1) + a3)).bind fun x8 =>
some x8))
else
((f_X12_lacks a1 a2 μ).bind fun x9 =>
some x9)))
def f_X12_goAll_L43 (N : Nat) : Nat → Int32 → Int32 → Int32 → Int32 → Int32 → g_M → Option ((Int32 × g_M) ⊕ (Int32 × g_M))
  | 0, _, _, _, _, _, _ => none
  | n + 1, x_1, x_2, x_3, x_4, x_5, μ => if x_5 ≥ x_3 then
(some (.inr (x_4, μ)))
else
((g_rd μ 13 4 x_1).bind fun x7 =>
if (f_X12_isIn ((Int32.toInt64 x_2) + (Int32.toInt64 x_5)) 0 ((Int32.toInt64 x7) - 1)) = 0 then
(some (.inl ((-12), μ)))
else
((g_rd μ 14 160 (((40 * x_1) + x_2) + x_5)).bind fun x9 =>
if (f_X12_isAct x9 μ) = 0 then
((some ((x_4 + 0))).bind fun x11 =>
f_X12_goAll_L43 N n x_1 x_2 x_3 x11 (x_5 + 1) μ)
else
(if (f_X12_isOver μ) = 0 then
((f_X12_goesWith N x9 μ).bind fun (x14, μ16) =>
(some ((x_4 + x14))).bind fun x17 =>
f_X12_goAll_L43 N n x_1 x_2 x_3 x17 (x_5 + 1) μ16)
else
((some ((x_4 + 0))).bind fun x13 =>
f_X12_goAll_L43 N n x_1 x_2 x_3 x13 (x_5 + 1) μ))))
def f_X12_goAll (N : Nat) (a1 : Int32) (a2 : Int32) (a3 : Int32) (μ : g_M) : Option (Int32 × g_M) :=
  if (f_X12_isSheet a1) = 0 then
(some ((-1), μ))
else
(if (f_X12_isIn (Int32.toInt64 a3) 0 20) = 0 then
(some ((-1), μ))
else
((f_X12_lacks a1 0 μ).bind fun x3 =>
if x3 = 0 then
((f_X12_goAll_L43 N N a1 a2 a3 0 0 μ).bind fun w9 => (match w9 with
  | .inl q => some q
  | .inr (x6, μ7) => (
some (x6, μ7))))
else
((f_X12_lacks a1 0 μ).bind fun x10 =>
some (x10, μ))))
def f_X12_sumBy_L6 (N : Nat) : Nat → Int32 → Int32 → Int32 → Int32 → Int32 → g_M → Option ((Int32 × g_M) ⊕ (Int32 × g_M))
  | 0, _, _, _, _, _, _ => none
  | n + 1, x_1, x_2, x_3, x_4, x_5, μ => if x_5 ≥ x_3 then
(some (.inr (x_4, μ)))
else
((g_rd μ 13 4 x_1).bind fun x2 =>
if (f_X12_isIn ((Int32.toInt64 x_2) + (Int32.toInt64 x_5)) 0 ((Int32.toInt64 x2) - 1)) = 0 then
(some (.inl ((-12), μ)))
else
((g_rd μ 14 160 (((40 * x_1) + x_2) + x_5)).bind fun x4 =>
if (f_X12_isAct x4 μ) = 0 then
(some (.inl ((-4), μ)))
else
(if (f_X12_isOver μ) = 0 then
((f_X12_goesWith N x4 μ).bind fun (x7, μ9) =>
(some ((x_4 + x7))).bind fun x10 =>
f_X12_sumBy_L6 N n x_1 x_2 x_3 x10 (x_5 + 1) μ9)
else
(some (.inl ((-4), μ))))))
def f_X12_sumBy (N : Nat) (a1 : Int32) (a2 : Int32) (a3 : Int32) (μ : g_M) : Option (Int32 × g_M) :=
  (f_X12_sumBy_L6 N N a1 a2 a3 0 0 μ).bind fun w4 => (match w4 with
  | .inl q => some q
  | .inr (x1, μ2) => (
some (x1, μ2)))
def f_X12_wouldBe (N : Nat) (a1 : Int32) (a2 : Int32) (a3 : Int32) (μ : g_M) : Option (Int32 × g_M) :=
  if (f_X12_isSheet a1) = 0 then
(some ((-1), μ))
else
(if (f_X12_isIn (Int32.toInt64 a3) 0 20) = 0 then
(some ((-1), μ))
else
((f_X12_lacks a1 0 μ).bind fun x3 =>
if x3 = 0 then
((f_X12_laysAside N 0 μ).bind fun μ8 =>
(f_X12_sumBy N a1 a2 a3 μ8).bind fun (x9, μ11) =>
(f_X12_laysBack N 0 μ11).bind fun μ14 =>
some (x9, μ14))
else
((f_X12_lacks a1 0 μ).bind fun x15 =>
some (x15, μ))))
def f_X12_shelf  (a1 : Int32) (a2 : Int32) (a3 : Int32) (μ : g_M) : Option (Int32 × g_M) :=
  if (f_X12_isShelf a1) = 0 then
(some ((-1), μ))
else
(if (f_X12_isIn (Int32.toInt64 a2) 0 2) = 0 then
(some ((-1), μ))
else
(if a2 = 0 then
(if (f_X12_isOven a3 μ) = 0 then
(some ((-1), μ))
else
(if a2 = 1 then
(if (f_X12_isSheet a3) = 0 then
(some ((-1), μ))
else
((g_rd μ 12 4 a3).bind fun x25 =>
if x25 < 0 then
((g_wr μ 15 4 a1 1).bind fun μ27 =>
(g_wr μ27 16 4 a1 a3).bind fun μ28 =>
(g_wr μ28 17 4 a1 0).bind fun μ29 =>
some (1, μ29))
else
((g_wr μ 15 4 a1 1).bind fun μ30 =>
(g_wr μ30 16 4 a1 a3).bind fun μ31 =>
(g_rd μ31 13 4 a3).bind fun x32 =>
(g_wr μ31 17 4 a1 x32).bind fun μ33 =>
some (1, μ33))))
else
((g_wr μ 15 4 a1 1).bind fun μ21 =>
(g_wr μ21 16 4 a1 a3).bind fun μ22 =>
(g_wr μ22 17 4 a1 0).bind fun μ23 =>
some (1, μ23))))
else
(if a2 = 1 then
(if (f_X12_isSheet a3) = 0 then
(some ((-1), μ))
else
((g_rd μ 12 4 a3).bind fun x9 =>
if x9 < 0 then
((g_wr μ 15 4 a1 0).bind fun μ11 =>
(g_wr μ11 16 4 a1 0).bind fun μ12 =>
(g_wr μ12 17 4 a1 0).bind fun μ13 =>
some (1, μ13))
else
((g_wr μ 15 4 a1 2).bind fun μ14 =>
(g_rd μ14 12 4 a3).bind fun x15 =>
(g_wr μ14 16 4 a1 x15).bind fun μ16 =>
(g_rd μ16 13 4 a3).bind fun x17 =>
(g_wr μ16 17 4 a1 x17).bind fun μ18 =>
some (1, μ18))))
else
((g_wr μ 15 4 a1 0).bind fun μ5 =>
(g_wr μ5 16 4 a1 0).bind fun μ6 =>
(g_wr μ6 17 4 a1 0).bind fun μ7 =>
some (1, μ7)))))
def f_X12_heldOn  (a1 : Int32) (μ : g_M) : Option Int32 :=
  (g_rd μ 15 4 a1).bind fun x1 =>
if x1 = 1 then
((g_rd μ 16 4 a1).bind fun x4 =>
if (f_X12_isOven x4 μ) = 0 then
(some 0)
else
((g_rd μ 15 4 a1).bind fun x6 =>
some x6))
else
((g_rd μ 15 4 a1).bind fun x3 =>
some x3)
def f_X12_taken  (a1 : Int32) (a2 : Int32) (μ : g_M) : Option Int32 :=
  if (f_X12_isShelf a1) = 0 then
(some (-1))
else
(if (f_X12_isIn (Int32.toInt64 a2) 0 14) = 0 then
(some (-1))
else
(if (f_X12_isIn (Int32.toInt64 a2) 6 9) = 0 then
((f_X12_heldOn a1 μ).bind fun x4 =>
if x4 = 0 then
(some (-11))
else
(if a2 ≥ 10 then
(if x4 = 2 then
((g_rd μ 16 4 a1).bind fun x9 =>
if x9 = (a2 - 10) then
((g_rd μ 17 4 a1).bind fun x11 =>
some x11)
else
(some (-13)))
else
(some (-13)))
else
(if x4 = 1 then
((g_rd μ 16 4 a1).bind fun x13 =>
(f_X12_its x13 0 μ).bind fun x14 =>
if (f_X12_isUnder x14 a2) = 0 then
(some (-13))
else
((g_rd μ 16 4 a1).bind fun x17 =>
some x17))
else
(some (-13)))))
else
(some (-1))))
def f_X12_runs  (a1 : Int32) (μ : g_M) : Option g_M :=
  if (μ 0 40) ≥ 30 then
(some μ)
else
((g_wr μ 18 30 (μ 0 40) a1).bind fun μ2 =>
(some (g_set μ2 0 40 ((μ2 0 40) + 1))).bind fun μ3 =>
some μ3)
def f_X12_glowsPlain  (a1 : Int32) (μ : g_M) : Option (Int32 × g_M) :=
  (f_X12_runs 10 μ).bind fun μ3 =>
some ((a1 - ((μ3 0 42) * 3)), μ3)
def f_X12_glows  (a1 : Int32) (μ : g_M) : Option (Int32 × g_M) :=
  if (μ 0 41) = 1 then
((f_X12_runs 20 μ).bind fun μ14 =>
(f_X12_glowsPlain a1 μ14).bind fun (x15, μ17) =>
some ((x15 * 2), μ17))
else
(if (μ 0 41) = 3 then
((f_X12_runs 50 μ).bind fun μ8 =>
(f_X12_glowsPlain a1 μ8).bind fun (x9, μ11) =>
some ((x9 ^^^ 3), μ11))
else
((f_X12_glowsPlain a1 μ).bind fun (x3, μ5) =>
some (x3, μ5)))
def f_X12_longsPlain  (a1 : Int32) (μ : g_M) : Option (Int32 × g_M) :=
  (f_X12_runs 11 μ).bind fun μ3 =>
(f_X12_glows a1 μ3).bind fun (x4, μ6) =>
some ((x4 ^^^ (μ6 0 43)), μ6)
def f_X12_longsActs  (a1 : Int32) (μ : g_M) : Option (Int32 × g_M) :=
  if (μ 0 41) = 2 then
((f_X12_runs 30 μ).bind fun μ4 =>
(f_X12_longsPlain a1 μ4).bind fun (x5, μ7) =>
some ((x5 - (μ7 0 42)), μ7))
else
(if (μ 0 41) = 3 then
((f_X12_runs 30 μ).bind fun μ21 =>
(f_X12_longsPlain a1 μ21).bind fun (x22, μ24) =>
some ((x22 - (μ24 0 42)), μ24))
else
(if (μ 0 41) = 5 then
((f_X12_runs 60 μ).bind fun μ15 =>
(f_X12_longsPlain a1 μ15).bind fun (x16, μ18) =>
some ((0 - x16), μ18))
else
((f_X12_longsPlain a1 μ).bind fun (x10, μ12) =>
some (x10, μ12))))
def f_X12_partsPlain  (a1 : Int32) (μ : g_M) : Option (Int32 × g_M) :=
  (f_X12_runs 12 μ).bind fun μ3 =>
if (μ3 0 44) = 0 then
(if (μ3 0 42) = (μ3 0 43) then
((some (g_set μ3 0 44 1)).bind fun μ12 =>
if (μ12 0 44) = 0 then
((g_rmo a1 ((μ12 0 42) - (μ12 0 43))).bind fun x14 =>
some (x14, μ12))
else
(some (0, μ12)))
else
((some (g_set μ3 0 44 0)).bind fun μ9 =>
if (μ9 0 44) = 0 then
((g_rmo a1 ((μ9 0 42) - (μ9 0 43))).bind fun x11 =>
some (x11, μ9))
else
(some (0, μ9))))
else
((some (g_set μ3 0 44 1)).bind fun μ5 =>
if (μ5 0 44) = 0 then
((g_rmo a1 ((μ5 0 42) - (μ5 0 43))).bind fun x7 =>
some (x7, μ5))
else
(some (0, μ5)))
def f_X12_partsPortable  (a1 : Int32) (μ : g_M) : Option (Int32 × g_M) :=
  (f_X12_runs 40 μ).bind fun μ3 =>
(f_X12_partsPlain a1 μ3).bind fun (x4, μ6) =>
some ((x4 + (μ6 0 43)), μ6)
def f_X12_parts  (a1 : Int32) (μ : g_M) : Option (Int32 × g_M) :=
  if (μ 0 41) = 4 then
((f_X12_partsPortable a1 μ).bind fun (x16, μ18) =>
some (x16, μ18))
else
(if (μ 0 41) = 5 then
((f_X12_runs 61 μ).bind fun μ5 =>
(f_X12_partsPortable a1 μ5).bind fun (x6, μ8) =>
if (μ8 0 44) = 0 then
((f_X12_glows (μ8 0 42) μ8).bind fun (x10, μ12) =>
some ((x6 - x10), μ12))
else
(some (0, μ8)))
else
((f_X12_partsPlain a1 μ).bind fun (x13, μ15) =>
some (x13, μ15)))
def f_X12_wedsPlain  (a1 : Int32) (μ : g_M) : Option (Int32 × g_M) :=
  (f_X12_runs 13 μ).bind fun μ3 =>
(f_X12_longsActs a1 μ3).bind fun (x4, μ6) =>
some ((x4 + 1), μ6)
def f_X12_wedsActs  (a1 : Int32) (μ : g_M) : Option (Int32 × g_M) :=
  if (μ 0 41) = 3 then
((f_X12_runs 51 μ).bind fun μ4 =>
(f_X12_wedsPlain a1 μ4).bind fun (x5, μ7) =>
(f_X12_parts a1 μ7).bind fun (x8, μ10) =>
some ((x5 * x8), μ10))
else
((f_X12_wedsPlain a1 μ).bind fun (x11, μ13) =>
some (x11, μ13))
def f_X12_act  (a1 : Int32) (a2 : Int32) (a3 : Int32) (μ : g_M) : Option (Int32 × g_M) :=
  (some (g_set μ 0 40 0)).bind fun μ1 =>
if (f_X12_isShelf a1) = 0 then
(some (0, μ1))
else
(if (f_X12_isIn (Int32.toInt64 a2) 0 3) = 0 then
(some (0, μ1))
else
((f_X12_heldOn a1 μ1).bind fun x4 =>
if x4 = 1 then
((some (g_set μ1 0 44 0)).bind fun μ7 =>
(g_rd μ7 16 4 a1).bind fun x8 =>
(f_X12_its x8 0 μ7).bind fun x9 =>
(some (g_set μ7 0 41 x9)).bind fun μ11 =>
(g_rd μ11 16 4 a1).bind fun x12 =>
(some (g_set μ11 0 42 x12)).bind fun μ13 =>
(g_rd μ13 16 4 a1).bind fun x14 =>
(f_X12_its x14 3 μ13).bind fun x15 =>
(some (g_set μ13 0 43 x15)).bind fun μ17 =>
if a2 = 0 then
((f_X12_glows a3 μ17).bind fun (x33, μ35) =>
if (μ35 0 44) = 0 then
(some (x33, μ35))
else
(some ((-15), μ35)))
else
(if a2 = 1 then
((f_X12_longsActs a3 μ17).bind fun (x29, μ31) =>
if (μ31 0 44) = 0 then
(some (x29, μ31))
else
(some ((-15), μ31)))
else
(if a2 = 2 then
((f_X12_parts a3 μ17).bind fun (x25, μ27) =>
if (μ27 0 44) = 0 then
(some (x25, μ27))
else
(some ((-15), μ27)))
else
((f_X12_wedsActs a3 μ17).bind fun (x21, μ23) =>
if (μ23 0 44) = 0 then
(some (x21, μ23))
else
(some ((-15), μ23))))))
else
(some (0, μ1))))
def f_X12_trace  (a1 : Int32) (μ : g_M) : Option Int32 :=
  if (f_X12_isIn (Int32.toInt64 a1) 0 (Int32.toInt64 ((μ 0 40) - 1))) = 0 then
(some (-3))
else
((g_rd μ 18 30 a1).bind fun x2 =>
some x2)
def f_X12_many (N : Nat) (a1 : Int32) (μ : g_M) : Option Int32 :=
  if a1 = 0 then
(some (μ 1 0))
else if a1 = 1 then
(some (μ 1 5))
else if a1 = 2 then
((f_X12_home N μ).bind fun x4 =>
(f_X12_size N x4).bind fun x6 =>
some x6)
else if a1 = 3 then
(some (μ 1 6))
else if a1 = 4 then
(some (μ 0 32))
else if a1 = 5 then
(some (μ 0 5))
else if a1 = 6 then
(some (μ 0 40))
else 
(some (-1))
def f_X12_keep_L2 (N : Nat) : Nat → Int32 → g_M → Option (g_M)
  | 0, _, _ => none
  | n + 1, x_1, μ => if x_1 ≥ 544 then
(some μ)
else
((g_rd μ 1 544 x_1).bind fun x2 =>
(g_wr μ 2 544 x_1 x2).bind fun μ3 =>
f_X12_keep_L2 N n (x_1 + 1) μ3)
def f_X12_keep (N : Nat) (μ : g_M) : Option (Int32 × g_M) :=
  (f_X12_keep_L2 N N 0 μ).bind fun μ1 =>
(some (g_set μ1 0 2 1)).bind fun μ3 =>
some (1, μ3)
def f_X12_again_L12 (N : Nat) : Nat → Int32 → g_M → Option (g_M)
  | 0, _, _ => none
  | n + 1, x_1, μ => if x_1 ≥ 544 then
(some μ)
else
((g_rd μ 2 544 x_1).bind fun x3 =>
(g_wr μ 1 544 x_1 x3).bind fun μ4 =>
f_X12_again_L12 N n (x_1 + 1) μ4)
def f_X12_again (N : Nat) (μ : g_M) : Option (Int32 × g_M) :=
  if (μ 0 2) = 0 then
(some ((-3), μ))
else
((f_X12_again_L12 N N 0 μ).bind fun μ2 =>
some ((μ2 1 0), μ2))
