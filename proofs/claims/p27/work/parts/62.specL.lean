/-! ===== the law's own rows: disc i's position, its notch at 6 + i; keys: mask, strength at 5 + c, uses at 10 + c; counts; the secret ===== -/
/-- keys as the law keeps them, in the places of a state's row -/
def aK (I : wI) : Nat → Int32 := fun j => if 18 ≤ j ∧ j < 28 then I 112 (j - 18) else 0
def okLk (I : wI) : Prop := ∀ c, c < 5 → (I 112 c = nI (nt (I 112 c)) ∧ nt (I 112 c) < 64 ∧ 2 ≤ pc6 (nt (I 112 c))) ∧ (I 112 (5 + c) = nI (nt (I 112 (5 + c))) ∧ nt (I 112 (5 + c)) < 5)
/-- a row of discs with their positions is a row of positions with their discs -/
def relD (r : Nat → Int32) (x : DN) : Prop := (∀ i, i < 6 → ∃ p, p < 6 ∧ r i = nI p ∧ r (6 + i) = nI (x.2 p) ∧ x.1 p = i) ∧ ∀ p, p < 6 → x.1 p < 6 ∧ x.2 p < 5 ∧ r (x.1 p) = nI p
def agN (x y : DN) : Nat := sm (fun p => if x.1 p = y.1 p ∧ x.2 p = y.2 p then 1 else 0) 6
def frK (k : Nat) (I I' : wI) : Prop := ∀ c, c ≠ k → I' c = I c
def lowN (x : Int32) (n : Nat) : Nat := nt (x &&& 2147483647) % n
/-- figures of a row, the highest first -/
def dgs : Nat → Nat → List Nat
  | 0, _ => []
  | m + 1, r => (r / 10 ^ m % 10) :: dgs m r
def pre_L_low (x0 x1 : Int32) (I : wI) : Prop := ∃ n, 0 < n ∧ n ≤ 16 ∧ x1 = nI n
def post_L_low (x0 x1 : Int32) (I : wI) (r : Int32) : Prop := r = nI (lowN x0 (nt x1))
def pre_L_step (x0 x1 x2 : Int32) (I : wI) : Prop := isMk x0 ∧ isN 6 x1 ∧ (x2 = nI 1 ∨ x2 = nI 5)
def post_L_step (x0 x1 x2 : Int32) (I : wI) (r : Int32) : Prop := r = nI (if nt x2 = 1 then nxp (nt x0) (nt x1) else prv (nt x0) (nt x1))
def pre_L_doTurn (k0 : Nat) (x2 : Int32) (I : wI) : Prop := okLk I ∧ isN 10 x2 ∧ k0 ≠ 112 ∧ ∃ x, relD (I k0) x
def post_L_doTurn (k0 : Nat) (x2 : Int32) (I I' : wI) : Prop := (∀ x, relD (I k0) x → relD (I' k0) (mP (aK I) (nt x2) x)) ∧ frK k0 I I'
def pre_L_first (k0 : Nat) (I : wI) : Prop := True
def post_L_first (k0 : Nat) (I I' : wI) : Prop := relD (I' k0) (idF, zF) ∧ frK k0 I I'
def pre_L_moved (k0 : Nat) (I : wI) : Prop := ∃ x, relD (I k0) x
def post_L_moved (k0 : Nat) (I : wI) (r : Int32) : Prop := ∀ x, relD (I k0) x → r = nI (rcF x.1 x.2)
def pre_L_right (k0 : Nat) (I : wI) : Prop := (∃ x, relD (I k0) x) ∧ (I 113 2 = 1 → ∃ y, relD (I 114) y)
def post_L_right (k0 : Nat) (I : wI) (r : Int32) : Prop := ∀ x y, relD (I k0) x → (I 113 2 = 1 → relD (I 114) y) → r = nI (if I 113 2 = 1 then agN x y else 0)
def pre_L_ones (x0 : Int32) (I : wI) : Prop := isN 64 x0
def post_L_ones (x0 : Int32) (I : wI) (r : Int32) : Prop := r = nI (pc6 (nt x0))
def pre_L_copy (k0 k1 : Nat) (I : wI) : Prop := k0 ≠ k1
def post_L_copy (k0 k1 : Nat) (I I' : wI) : Prop := (∀ j, j < 12 → I' k1 j = I k0 j) ∧ frK k1 I I'
def pre_L_period (x1 x2 : Int32) (I : wI) : Prop := okLk I ∧ isN 10000 x1 ∧ (x2 = nI 1 ∨ x2 = nI 4)
def post_L_period (x1 x2 : Int32) (I : wI) (r : Int32) (I' : wI) : Prop := r = nI (perF (wD (aK I) (dgs (nt x2) (nt x1)) idF) (wN (aK I) (dgs (nt x2) (nt x1)) zF)) ∧ frK 116 I I'
/-- the class's state beside the law's rows -/
def relK (a : Nat → Int32) (I : wI) : Prop := ∀ c, c < 5 → I 112 c = a (18 + c) ∧ I 112 (5 + c) = a (23 + c) ∧ I 112 (10 + c) = a (28 + c)
def relG (a : Nat → Int32) (I : wI) : Prop := I 113 0 = a 33 ∧ I 113 1 = a 35 ∧ I 113 2 = a 36 ∧ ∃ m, m < 64 ∧ I 113 3 = nI m ∧ ∀ p, p < 6 → a (12 + p) = nI (tb m p)
def relA (a : Nat → Int32) (I : wI) : Prop := relD (I 111) (posP a) ∧ relK a I ∧ relG a I ∧ (a 36 = 1 → relD (I 114) (secP a)) ∧ a 34 = nI (aNS a % 5)
/-- all that holds between the calls -/
def invL (I : wI) : Prop := okC I ∧ relA (rowC 1 I) I
/-- the class's scratch rows and the law's trial rows may change -/
def frL (I I' : wI) : Prop := (∀ c, c < 24 ∨ c = 25 ∨ 45 ≤ c ∧ c < 115 → I' c = I c) ∧ I' 24 1 = I 24 1
def pre_L_areKeys (I : wI) : Prop := invL I
def post_L_areKeys (I : wI) (r : Int32) (I' : wI) : Prop := r = 1 ∧ frL I I'
def pre_L_isSo (I : wI) : Prop := invL I
def post_L_isSo (I : wI) (r : Int32) : Prop := r = 1
def pre_L_isAhead (x5 : Int32) (I : wI) : Prop := invL I ∧ (∃ n, 1 ≤ n ∧ n ≤ 4 ∧ x5 = nI n)
def post_L_isAhead (x5 : Int32) (I : wI) (r : Int32) (I' : wI) : Prop := r = 1 ∧ frL I I'
def pre_L_act (x1 x2 : Int32) (I : wI) : Prop := invL I
def post_L_act (x1 x2 : Int32) (I : wI) (r : Int32) (I' : wI) : Prop := r = 1 ∧ invL I'
