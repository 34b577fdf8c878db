/-! all stacks of a strip, as the class makes them: the layer of each cell, cells put in one behind the other -/
def insL (lay : List Nat) (p : Nat) : List Nat := lay.map (fun l => if p ≤ l then l + 1 else l) ++ [p]
def btwL (lay : List Nat) (cell p j : Nat) : Bool :=
  let fr := lay.getD (cell - 1) 0
  decide ((if fr < p then fr + 1 else p) ≤ lay.getD j 0 ∧ lay.getD j 0 < (if fr < p then p else fr))
/-- the joint ahead of a cell put there crosses one of its side -/
def crsL (lay : List Nat) (cell p : Nat) : Bool := (List.range cell).any fun j => decide (j + 3 ≤ cell ∧ (cell - 3 - j) % 2 = 0) && (btwL lay cell p j != btwL lay cell p (j + 1))
def kbL (lay : List Nat) (cell p : Nat) : Nat := if decide ((cell - 1) % 2 = 0) = decide (lay.getD (cell - 1) 0 < p) then 0 else 2 ^ (cell - 1)
def codeL (lay : List Nat) : Nat → Nat
  | 0 => 0
  | i + 1 => codeL lay i + i * 2 ^ (7 + 3 * (7 - lay.getD i 0))
def stkF (c : Nat) : Nat → Nat → List Nat → Nat → List Nat
  | 0, _, lay, h => [h + codeL lay c]
  | k + 1, ce, lay, h => (List.range (ce + 1)).flatMap fun p => if crsL lay ce p then [] else stkF c k (ce + 1) (insL lay p) (h + kbL lay ce p)
def stkL (c : Nat) : List Nat := stkF c (c - 1) 1 [0] 0
/-- what the class's book holds -/
def BookR (s : Hp) : Prop := ∃ c : Nat, s 130 2 = (c : Int) ∧ c ≤ 8 ∧ (0 < c → s 130 1 = ((stkL c).length : Int) ∧ ∀ i, i < (stkL c).length → s 131 i = (((stkL c).getD i 0 : Nat) : Int))
