/-! ===== what the class's parts do: discs at k (disc k+1, notch k+2), keys at k (mask k+1, strength k+2) ===== -/
def dsc (I : wI) (k : Nat) : Nat → Nat := fun p => if p < 6 then nt (I (k + 1) p) else 0
def ntc (I : wI) (k : Nat) : Nat → Nat := fun p => if p < 6 then nt (I (k + 2) p) else 0
def okD (I : wI) (k : Nat) : Prop := ∀ p, p < 6 → (I (k + 1) p = nI (dsc I k p) ∧ dsc I k p < 6) ∧ (I (k + 2) p = nI (ntc I k p) ∧ ntc I k p < 5)
def fr2 (I I' : wI) (a b : Nat) : Prop := ∀ c, c ≠ a → c ≠ b → I' c = I c
def idF : Nat → Nat := fun p => if p < 6 then p else 0
def zF : Nat → Nat := fun _ => 0
/-- all six discs are there -/
def pmF (d : Nat → Nat) : Prop := ∀ p, p < 6 → ∃ q, q < 6 ∧ d q = p
def rcB (d n : Nat → Nat) : Nat → Bool := fun p => decide (d p ≠ p ∨ n p ≠ 0)
def rcF (d n : Nat → Nat) : Nat := bits (rcB d n) 6
def agB (f g f2 g2 : Nat → Int32) : Nat → Nat := fun p => if f p = f2 p ∧ g p = g2 p then 1 else 0
def fpU (d n : Nat → Nat) : Nat → Nat
  | 0 => 0
  | i + 1 => fpU d n i * 30 + d i * 5 + n i
def plU (d : Nat → Nat) (w : Nat) : Nat → Nat
  | 0 => w
  | i + 1 => if d i = w then i else plU d w i
def plF (d : Nat → Nat) (w : Nat) : Nat := plU d w 6
/-- the position of a key ahead of p, behind p -/
def prv (M p : Nat) : Nat := if tb M ((p + 5) % 6) = 1 then (p + 5) % 6 else if tb M ((p + 4) % 6) = 1 then (p + 4) % 6 else if tb M ((p + 3) % 6) = 1 then (p + 3) % 6 else if tb M ((p + 2) % 6) = 1 then (p + 2) % 6 else if tb M ((p + 1) % 6) = 1 then (p + 1) % 6 else p
def nxp (M p : Nat) : Nat := if tb M ((p + 1) % 6) = 1 then (p + 1) % 6 else if tb M ((p + 2) % 6) = 1 then (p + 2) % 6 else if tb M ((p + 3) % 6) = 1 then (p + 3) % 6 else if tb M ((p + 4) % 6) = 1 then (p + 4) % 6 else if tb M ((p + 5) % 6) = 1 then (p + 5) % 6 else p
/-- where the disc at p comes from when a key is turned (0) or turned back (1) -/
def src (M bk p : Nat) : Nat := if tb M p = 1 then (if bk = 0 then prv M p else nxp M p) else p
def mvD (M bk : Nat) (d : Nat → Nat) : Nat → Nat := fun p => if p < 6 then d (src M bk p) else 0
def mvN (M s bk : Nat) (n : Nat → Nat) : Nat → Nat := fun p => if p < 6 then (if tb M p = 1 then (n (src M bk p) + (if bk = 0 then s else 5 - s)) % 5 else n p) else 0
/-- the least time after which a word's effect is nothing, by its rounds -/
def orbM (d : Nat → Nat) (p : Nat) : Nat → Nat
  | 0 => p
  | t + 1 => plF d (orbM d p t)
-- ---- discs
def pre_X0_discAt (k : Nat) (x1 : Int32) (I : wI) : Prop := ∃ p, p < 6 ∧ x1 = nI p
def post_X0_discAt (k : Nat) (x1 : Int32) (I : wI) (r : Int32) : Prop := r = I (k + 1) (nt x1)
def pre_X0_notchAt (k : Nat) (x1 : Int32) (I : wI) : Prop := ∃ p, p < 6 ∧ x1 = nI p
def post_X0_notchAt (k : Nat) (x1 : Int32) (I : wI) (r : Int32) : Prop := r = I (k + 2) (nt x1)
def pre_X0_agreesAt (k k1 : Nat) (x2 : Int32) (I : wI) : Prop := ∃ p, p < 6 ∧ x2 = nI p
def post_X0_agreesAt (k k1 : Nat) (x2 : Int32) (I : wI) (r : Int32) : Prop := r = if I (k + 1) (nt x2) = I (k1 + 1) (nt x2) ∧ I (k + 2) (nt x2) = I (k1 + 2) (nt x2) then 1 else 0
def pre_X0_bringHome (k : Nat) (I : wI) : Prop := True
def post_X0_bringHome (k : Nat) (I I' : wI) : Prop := (∀ p, p < 6 → I' (k + 1) p = nI p ∧ I' (k + 2) p = nI 0) ∧ fr2 I I' (k + 1) (k + 2)
def dj (k k1 : Nat) : Prop := k1 ≠ k ∧ k1 ≠ k + 1 ∧ k1 + 1 ≠ k
def pre_X0_copyFrom (k k1 : Nat) (I : wI) : Prop := dj k k1
def post_X0_copyFrom (k k1 : Nat) (I I' : wI) : Prop := (∀ p, p < 6 → I' (k + 1) p = I (k1 + 1) p ∧ I' (k + 2) p = I (k1 + 2) p) ∧ fr2 I I' (k + 1) (k + 2)
def pre_X0_rotate (k : Nat) (x1 x2 x3 : Int32) (I : wI) : Prop := okD I k ∧ (∃ M, M < 64 ∧ x1 = nI M) ∧ (∃ s, s < 5 ∧ x2 = nI s) ∧ (x3 = 0 ∨ x3 = 1)
def post_X0_rotate (k : Nat) (x1 x2 x3 : Int32) (I I' : wI) : Prop := (∀ p, p < 6 → I' (k + 1) p = nI (mvD (nt x1) (nt x3) (dsc I k) p) ∧ I' (k + 2) p = nI (mvN (nt x1) (nt x2) (nt x3) (ntc I k) p)) ∧ fr2 I I' (k + 1) (k + 2)
def pre_X0_putAhead (k k1 : Nat) (I : wI) : Prop := okD I k ∧ okD I k1 ∧ dj k k1
def post_X0_putAhead (k k1 : Nat) (I I' : wI) : Prop := (∀ p, p < 6 → I' (k + 1) p = nI (dsc I k1 (dsc I k p)) ∧ I' (k + 2) p = nI ((ntc I k p + ntc I k1 (dsc I k p)) % 5)) ∧ fr2 I I' (k + 1) (k + 2)
def pre_X0_reach (k : Nat) (I : wI) : Prop := okD I k
def post_X0_reach (k : Nat) (I : wI) (r : Int32) : Prop := r = nI (rcF (dsc I k) (ntc I k))
def pre_X0_notchSum (k : Nat) (I : wI) : Prop := okD I k
def post_X0_notchSum (k : Nat) (I : wI) (r : Int32) : Prop := r = nI (sm (ntc I k) 6)
def pre_X0_agreeing (k k1 : Nat) (I : wI) : Prop := True
def post_X0_agreeing (k k1 : Nat) (I : wI) (r : Int32) : Prop := r = nI (sm (agB (I (k + 1)) (I (k + 2)) (I (k1 + 1)) (I (k1 + 2))) 6)
def pre_X0_fingerprint (k : Nat) (I : wI) : Prop := okD I k
def post_X0_fingerprint (k : Nat) (I : wI) (r : Int32) : Prop := r = nI (fpU (dsc I k) (ntc I k) 6)
def pre_X0_placeOf (k : Nat) (x1 : Int32) (I : wI) : Prop := okD I k ∧ ∃ w, w < 6 ∧ x1 = nI w
def post_X0_placeOf (k : Nat) (x1 : Int32) (I : wI) (r : Int32) : Prop := r = nI (plF (dsc I k) (nt x1))
def pre_X0_leastMultiple (x0 x1 : Int32) (I : wI) : Prop := ∃ a c, 0 < a ∧ a ≤ 100000 ∧ 0 < c ∧ c ≤ 1000 ∧ x0 = nI a ∧ x1 = nI c
def post_X0_leastMultiple (x0 x1 : Int32) (I : wI) (r : Int32) : Prop := r = nI (Nat.lcm (nt x0) (nt x1))
-- ---- keys
def okK (I : wI) (k : Nat) : Prop := ∀ c, c < 5 → (I (k + 1) c = nI (nt (I (k + 1) c)) ∧ nt (I (k + 1) c) < 64) ∧ (I (k + 2) c = nI (nt (I (k + 2) c)) ∧ nt (I (k + 2) c) < 5)
def pre_X1_maskOf (k : Nat) (x1 : Int32) (I : wI) : Prop := ∃ c, c < 5 ∧ x1 = nI c
def post_X1_maskOf (k : Nat) (x1 : Int32) (I : wI) (r : Int32) : Prop := r = I (k + 1) (nt x1)
def pre_X1_strengthOf (k : Nat) (x1 : Int32) (I : wI) : Prop := ∃ c, c < 5 ∧ x1 = nI c
def post_X1_strengthOf (k : Nat) (x1 : Int32) (I : wI) (r : Int32) : Prop := r = I (k + 2) (nt x1)
def pre_X1_shape (k : Nat) (x1 x2 x3 : Int32) (I : wI) : Prop := ∃ c, c < 5 ∧ x1 = nI c
def post_X1_shape (k : Nat) (x1 x2 x3 : Int32) (I I' : wI) : Prop := I' = wU (wU I (k + 1) (nt x1) x2) (k + 2) (nt x1) x3
def kaB (I : wI) (k p : Nat) : Nat → Bool := fun c => decide (tb (nt (I (k + 1) c)) p = 1)
def pre_X1_keysAt (k : Nat) (x1 : Int32) (I : wI) : Prop := okK I k ∧ ∃ p, p < 6 ∧ x1 = nI p
def post_X1_keysAt (k : Nat) (x1 : Int32) (I : wI) (r : Int32) : Prop := r = nI (bits (kaB I k (nt x1)) 5)
def pre_X1_move (k k1 : Nat) (x2 : Int32) (I : wI) : Prop := okD I k1 ∧ okK I k ∧ ∃ v, v < 10 ∧ x2 = nI v
def post_X1_move (k k1 : Nat) (x2 : Int32) (I I' : wI) : Prop := (∀ p, p < 6 → I' (k1 + 1) p = nI (mvD (nt (I (k + 1) (nt x2 % 5))) (nt x2 / 5) (dsc I k1) p) ∧ I' (k1 + 2) p = nI (mvN (nt (I (k + 1) (nt x2 % 5))) (nt (I (k + 2) (nt x2 % 5))) (nt x2 / 5) (ntc I k1) p)) ∧ fr2 I I' (k1 + 1) (k1 + 2)
def pre_X1_notchesBy (k : Nat) (x1 : Int32) (I : wI) : Prop := okK I k ∧ ∃ v, v < 10 ∧ x1 = nI v
def post_X1_notchesBy (k : Nat) (x1 : Int32) (I : wI) (r : Int32) : Prop := r = if nt x1 < 5 then nI (nt (I (k + 2) (nt x1 % 5)) * pc6 (nt (I (k + 1) (nt x1 % 5)))) else -nI (nt (I (k + 2) (nt x1 % 5)) * pc6 (nt (I (k + 1) (nt x1 % 5))))
def pre_X1_copyFrom (k k1 : Nat) (I : wI) : Prop := dj k k1
def post_X1_copyFrom (k k1 : Nat) (I I' : wI) : Prop := (∀ p, p < 5 → I' (k + 1) p = I (k1 + 1) p ∧ I' (k + 2) p = I (k1 + 2) p) ∧ fr2 I I' (k + 1) (k + 2)
-- ---- moves, and the library's
def pre_X5_moveOf (x0 x1 : Int32) (I : wI) : Prop := (∃ c, c < 5 ∧ x0 = nI c) ∧ (x1 = 0 ∨ x1 = 1)
def post_X5_moveOf (x0 x1 : Int32) (I : wI) (r : Int32) : Prop := r = nI (5 * nt x1 + nt x0)
def pre_X5_isBack (x0 : Int32) (I : wI) : Prop := ∃ v, v < 10 ∧ x0 = nI v
def post_X5_isBack (x0 : Int32) (I : wI) (r : Int32) : Prop := r = nI (nt x0 / 5)
def pre_X5_keyOf (x0 : Int32) (I : wI) : Prop := ∃ v, v < 10 ∧ x0 = nI v
def post_X5_keyOf (x0 : Int32) (I : wI) (r : Int32) : Prop := r = nI (nt x0 % 5)
def pre_J_bitCount (x0 : Int32) (I : wI) : Prop := ∃ m, m < 64 ∧ x0 = nI m
def post_J_bitCount (x0 : Int32) (I : wI) (r : Int32) : Prop := r = nI (pc6 (nt x0))
def pre_J_floorMod (x0 x1 : Int32) (I : wI) : Prop := x1 = 5 ∧ ∃ m, m < 60 ∧ x0 = nI m - nI 30
def post_J_floorMod (x0 x1 : Int32) (I : wI) (r : Int32) : Prop := ∀ m, m < 60 → x0 = nI m - nI 30 → r = nI (m % 5)