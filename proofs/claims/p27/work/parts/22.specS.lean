/-! ===== a state as one row of 49, 0 beyond ===== -/
def aD (a : Nat → Int32) : Nat → Nat := fun p => if p < 6 then nt (a p) else 0
def aN (a : Nat → Int32) : Nat → Nat := fun p => if p < 6 then nt (a (6 + p)) else 0
def aM (a : Nat → Int32) (c : Nat) : Nat := nt (a (18 + c))
def aS (a : Nat → Int32) (c : Nat) : Nat := nt (a (23 + c))
def okR (a : Nat → Int32) : Prop :=
  (∀ p, p < 6 → (a p = nI (aD a p) ∧ aD a p < 6) ∧ (a (6 + p) = nI (aN a p) ∧ aN a p < 5)) ∧ pmF (aD a) ∧ (∀ p, p < 6 → a (12 + p) = 0 ∨ a (12 + p) = 1) ∧
  (∀ c, c < 5 → (a (18 + c) = nI (aM a c) ∧ aM a c < 64 ∧ 2 ≤ pc6 (aM a c)) ∧ (a (23 + c) = nI (aS a c) ∧ aS a c < 5)) ∧ (∃ v, v < 5 ∧ a 34 = nI v) ∧ (a 36 = 0 ∨ a 36 = 1) ∧
  (a 36 = 1 → ∀ p, p < 6 → (a (37 + p) = nI (nt (a (37 + p))) ∧ nt (a (37 + p)) < 6) ∧ (a (43 + p) = nI (nt (a (43 + p))) ∧ nt (a (43 + p)) < 5))
/-- a key is stuck -/
def stU (a : Nat → Int32) (c : Nat) : Nat → Bool
  | 0 => false
  | n + 1 => stU a c n || (decide (tb (aM a c) n = 1) && decide (a (12 + n) = 1))
def aStk (a : Nat → Int32) (c : Nat) : Bool := stU a c 6
def aSK (a : Nat → Int32) : Nat := sm (fun c => if aStk a c then 1 else 0) 5
/-- how many discs are as in the secret -/
def aAs (a : Nat → Int32) (f g : Nat → Int32) : Nat := if a 36 = 0 then 0 else sm (fun p => if f p = a (37 + p) ∧ g p = a (43 + p) then 1 else 0) 6
def aRt (a : Nat → Int32) : Nat := aAs a a (fun p => a (6 + p))
def aAcc (a : Nat → Int32) (v : Nat) : Nat := (nt (a 34) + (if v < 5 then 1 else 4) * (aS a (v % 5) * pc6 (aM a (v % 5)))) % 5
/-- the discs turned, all else as it was -/
def aTr (a : Nat → Int32) (v : Nat) : Nat → Int32 := fun j =>
  if j < 6 then nI (mvD (aM a (v % 5)) (v / 5) (aD a) j) else if j < 12 then nI (mvN (aM a (v % 5)) (aS a (v % 5)) (v / 5) (aN a) (j - 6)) else a j
/-- a turn, counted -/
def aMv (a : Nat → Int32) (v : Nat) : Nat → Int32 := fun j =>
  if j = 28 + v % 5 then a j + 1 else if j = 33 then a j + 1 else if j = 34 then nI (aAcc a v) else if j = 35 then (if aRt a ≠ 6 ∧ aRt (aTr a v) = 6 then a j + 1 else a j) else aTr a v j
/-- a row of the class -/
def rowC (k : Nat) (I : wI) : Nat → Int32 := fun j =>
  if j < 6 then I (k + 2) j else if j < 12 then I (k + 3) (j - 6) else if j < 18 then nI (tb (nt (I k 4)) (j - 12)) else if j < 23 then I (k + 5) (j - 18) else if j < 28 then I (k + 6) (j - 23)
  else if j < 33 then I (k + 10) (j - 28) else if j = 33 then I k 6 else if j = 34 then I k 7 else if j = 35 then I k 8 else if j = 36 then I k 3
  else if j < 43 then (if I k 3 = 0 then 0 else I (k + 8) (j - 37)) else if j < 49 then (if I k 3 = 0 then 0 else I (k + 9) (j - 43)) else 0
/-- a state of the class is well formed -/
def okS (k : Nat) (I : wI) : Prop := okR (rowC k I) ∧ ∃ m, m < 64 ∧ I k 4 = nI m
def fr (k n : Nat) (I I' : wI) : Prop := ∀ c, c < k ∨ k + n ≤ c → I' c = I c
def dS (k k1 : Nat) : Prop := k1 + 11 ≤ k ∨ k + 11 ≤ k1
def pre_X3_allows (k : Nat) (x1 : Int32) (I : wI) : Prop := okS k I ∧ ∃ v, v < 10 ∧ x1 = nI v
def post_X3_allows (k : Nat) (x1 : Int32) (I : wI) (r : Int32) : Prop := r = if aStk (rowC k I) (nt x1 % 5) then 0 else 1
def pre_X3_copyFrom (k k1 : Nat) (I : wI) : Prop := dS k k1 ∧ (I k1 3 = 0 ∨ I k1 3 = 1)
def post_X3_copyFrom (k k1 : Nat) (I I' : wI) : Prop := rowC k I' = rowC k1 I ∧ I' k 4 = I k1 4 ∧ fr k 11 I I'
def pre_X3_asInSecret (k k1 : Nat) (I : wI) : Prop := True
def post_X3_asInSecret (k k1 : Nat) (I : wI) (r : Int32) : Prop := r = nI (aAs (rowC k I) (I (k1 + 1)) (I (k1 + 2)))
def pre_X3_opens (k : Nat) (I : wI) : Prop := True
def post_X3_opens (k : Nat) (I : wI) (r : Int32) : Prop := r = if aRt (rowC k I) = 6 then 1 else 0
def pre_X3_doMove (k : Nat) (x1 : Int32) (I : wI) : Prop := okS k I ∧ ∃ v, v < 10 ∧ x1 = nI v
def post_X3_doMove (k : Nat) (x1 : Int32) (I I' : wI) : Prop := rowC k I' = aMv (rowC k I) (nt x1) ∧ okS k I' ∧ fr k 11 I I'
def pre_X3_stuckKeys (k : Nat) (I : wI) : Prop := okS k I
def post_X3_stuckKeys (k : Nat) (I : wI) (r : Int32) : Prop := r = nI (aSK (rowC k I))
def pre_X3_usesOf (k : Nat) (x1 : Int32) (I : wI) : Prop := ∃ c, c < 5 ∧ x1 = nI c
def post_X3_usesOf (k : Nat) (x1 : Int32) (I : wI) (r : Int32) : Prop := r = rowC k I (28 + nt x1)
