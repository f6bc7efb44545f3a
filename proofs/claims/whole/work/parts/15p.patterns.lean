/-! The patterns there are, their pins, their values: pure, decided over all of them. Own work. -/
def dgt (p k : Nat) : Nat := p / 4 ^ k % 4
def pats : List Nat := [6, 23, 26, 91, 94, 103, 106, 351, 363, 366, 375, 378, 411, 414, 423, 426, 1391, 1403, 1406, 1439, 1451, 1454, 1463, 1466, 1499, 1502, 1511, 1514, 1631, 1643, 1646, 1655, 1658, 1691, 1694, 1703, 1706, 5503, 5551, 5563, 5566, 5599, 5611, 5614, 5623, 5626, 5743, 5755, 5758, 5791, 5803, 5806, 5815, 5818, 5851, 5854, 5863, 5866, 5983, 5995, 5998, 6007, 6010, 6043, 6046, 6055, 6058, 6511, 6523, 6526, 6559, 6571, 6574, 6583, 6586, 6619, 6622, 6631, 6634, 6751, 6763, 6766, 6775, 6778, 6811, 6814, 6823, 6826]
theorem pats_all : (List.range 16384).all (fun p => !(decide (0 < p) && decide (¬ p % 4 = 1) && pt 17 p 1) || pats.contains p) = true := by decide +kernel
theorem pats_mem {p : Nat} (h1 : 0 < p) (h2 : p < 16384) (h3 : ¬ p % 4 = 1) (h4 : pt 17 p 1 = true) : p ∈ pats := by
  have := List.all_eq_true.mp pats_all p (List.mem_range.mpr h2)
  simp only [h1, h3, h4, decide_true, not_false_eq_true, Bool.and_self, Bool.not_true, Bool.false_or] at this
  exact List.contains_iff_mem.mp this
/-- how many of the first k places hold this digit -/
def cdg (p dg : Nat) : Nat → Nat
  | 0 => 0
  | k + 1 => cdg p dg k + (if dgt p k = dg then 1 else 0)
def pinsP (p : Nat) : Nat := cdg p 1 7
def nandsP (p : Nat) : Nat := cdg p 3 7
/-- how many digits of d are dg, from the lowest on -/
def cdr (dg : Nat) : Nat → Nat → Nat
  | 0, _ => 0
  | f + 1, d => if d = 0 then 0 else (if d % 4 = dg then 1 else 0) + cdr dg f (d / 4)
/-- the class's value: after i places from the highest on; (stack of bits, pins left) -/
def voF (p bits : Nat) : Nat → Nat × Nat
  | 0 => (0, pinsP p)
  | i + 1 => if dgt p (6 - i) = 1 then (2 * (voF p bits i).1 + bits / 2 ^ ((voF p bits i).2 - 1) % 2, (voF p bits i).2 - 1)
    else if dgt p (6 - i) = 2 then ((voF p bits i).1 ^^^ 1, (voF p bits i).2)
    else if dgt p (6 - i) = 3 then ((voF p bits i).1 / 4 * 2 + (if (voF p bits i).1 % 4 = 3 then 0 else 1), (voF p bits i).2)
    else voF p bits i
def valP (p bits : Nat) : Nat := (voF p bits 7).1 % 2
def tabP (p : Nat) : Nat → Nat
  | 0 => 0
  | k + 1 => tabP p k + valP p k * 2 ^ k
/-- the reference's value: a stack of values, the top first -/
def wkS (bits dg : Nat) (s : List Nat × Nat) : List Nat × Nat :=
  if dg = 1 then (bits / 2 ^ (s.2 - 1) % 2 :: s.1, s.2 - 1)
  else if dg = 2 then (match s.1 with | a :: r => (1 - a) :: r | [] => [], s.2)
  else if dg = 3 then (match s.1 with | b :: a :: r => (1 - a * b) :: r | l => l, s.2)
  else s
def wkF (p bits : Nat) : Nat → List Nat × Nat
  | 0 => ([], pinsP p)
  | i + 1 => wkS bits (dgt p (6 - i)) (wkF p bits i)
def wkP (p bits : Nat) : Nat := (wkF p bits 7).1.getD 0 0
/-- what is decided of each pattern -/
def patOk (p : Nat) : Bool :=
  decide (1 ≤ pinsP p) && decide (pinsP p ≤ 4) && decide (nandsP p ≤ 3) && decide (cdr 1 17 p = pinsP p) && decide (cdr 3 17 p = nandsP p) && decide (pinsP p = nandsP p + 1) &&
  (List.range 16).all fun bits => decide (valP p bits = wkP p bits) && decide ((wkF p bits 7).1.length = 1) && decide (wkP p bits ≤ 1) && decide ((voF p bits 7).1 < 2) &&
    (List.range 7).all fun i => decide ((voF p bits i).1 < 128) && decide ((voF p bits i).2 ≤ 4) && decide ((wkF p bits i).2 = (voF p bits i).2) && decide ((wkF p bits i).1.length ≤ 7) && ((wkF p bits i).1.all fun x => decide (x ≤ 1)) &&
      decide (dgt p (6 - i) = 1 → 1 ≤ (voF p bits i).2) && decide (dgt p (6 - i) = 2 → 1 ≤ (wkF p bits i).1.length) && decide (dgt p (6 - i) = 3 → 2 ≤ (wkF p bits i).1.length)
set_option maxRecDepth 100000 in
theorem pats_ok : pats.all patOk = true := by decide +kernel
theorem pats_tab : pats.all (fun p => (List.range 16).all fun k => decide (k < 2 ^ pinsP p → tabP p (2 ^ pinsP p) / 2 ^ k % 2 = valP p k)) = true := by decide +kernel
