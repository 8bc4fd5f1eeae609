/-! ===== shares, and the digest ===== -/
def shD (n : Nat) : UInt64 := FP.ddiv (FP.i2d (nI n)) 4618441417868443648
def shF (n : Nat) : UInt32 := FP.fdiv (FP.i2f (nI n)) 1086324736
def mx (h v : Int64) : Int64 := 31 * h + v
def dgC (A : Nat → Nat → Int32) : Nat → Int64
  | 0 => 3769
  | k + 1 => mx (dgC A k) (aCnt A k).toInt64
def dgP (A : Nat → Nat → Int32) (h : Int64) : Nat → Int64
  | 0 => h
  | i + 1 => mx (dgP A h i) (aAt (A 0) (i / 5) (i % 5)).toInt64
def dg1 (A : Nat → Nat → Int32) (c : Nat) (h : Int64) : Nat → Int64
  | 0 => h
  | k + 1 => mx (dg1 A c h k) (aKey (A 0) c k).toInt64
def dgK (A : Nat → Nat → Int32) (h : Int64) : Nat → Int64
  | 0 => h
  | c + 1 => mx (mx (dg1 A c (dgK A h c) 6) (nI (aIf (A 0) c)).toInt64) (nI (aIf (A 0) (5 + c))).toInt64
def dgR (A : Nat → Nat → Int32) (h : Int64) : Nat → Int64
  | 0 => h
  | i + 1 => mx (dgR A h i) (aOf (A 0) (prL (i / 25) (i / 5 % 5)) (i % 5)).toInt64
def dgB (A : Nat → Nat → Int32) (h : Int64) : Nat → Int64
  | 0 => h
  | j + 1 => mx (dgB A h j) (A 3 j).toInt64
def dgO (A : Nat → Nat → Int32) : Int64 := mx (mx (mx (dgR A (dgK A (dgP A (dgC A 10) 30) 5) 125) (aOp (A 0) 0).toInt64) (aOp (A 0) 1).toInt64) (aCl (A 0)).toInt64
def dgS (A : Nat → Nat → Int32) : Int64 := mx (mx (mx (dgO A) (shD (aRt (A 0))).toInt64) (shF (aNS (A 0))).toInt32.toInt64) (A 2 0).toInt64
def dgA (A : Nat → Nat → Int32) : Int64 := dgB A (mx (dgS A) (A 2 2).toInt64) (nt (A 2 2))
def pre_X5_openShare (I : wI) : Prop := okC I
def post_X5_openShare (I : wI) (r : UInt64) : Prop := r = shD (aRt (rowC 1 I))
def pre_X5_meanNotch (I : wI) : Prop := okC I
def post_X5_meanNotch (I : wI) (r : UInt32) : Prop := r = shF (aNS (rowC 1 I))
def pre_X5_mix (x0 x2 : Int64) (I : wI) : Prop := True
def post_X5_mix (x0 x2 : Int64) (I : wI) (r : Int64) : Prop := r = mx x0 x2
def pre_X5_mixPositions (x1 : Int64) (I : wI) : Prop := okC I
def post_X5_mixPositions (x1 : Int64) (I : wI) (r : Int64) : Prop := r = dgP (absC I) x1 30
def ok_X5_mixPositions (x1 : Int64) (I : wI) : Prop := True
def pre_X5_mixPositionsx (x1 : Int64) (I : wI) : Prop := False
def exc_X5_mixPositions (x1 : Int64) (I : wI) (E : String) : Prop := False
def pre_X5_mixKeys (x1 : Int64) (I : wI) : Prop := okC I
def post_X5_mixKeys (x1 : Int64) (I : wI) (r : Int64) (I' : wI) : Prop := r = dgK (absC I) x1 5 ∧ frX I I'
def ok_X5_mixKeys (x1 : Int64) (I : wI) : Prop := True
def pre_X5_mixKeysx (x1 : Int64) (I : wI) : Prop := False
def exc_X5_mixKeys (x1 : Int64) (I : wI) (E : String) (u : wI) : Prop := False
def pre_X5_mixPairs (x1 : Int64) (I : wI) : Prop := okC I
def post_X5_mixPairs (x1 : Int64) (I : wI) (r : Int64) (I' : wI) : Prop := r = dgR (absC I) x1 125 ∧ frX I I'
def ok_X5_mixPairs (x1 : Int64) (I : wI) : Prop := True
def pre_X5_mixPairsx (x1 : Int64) (I : wI) : Prop := False
def exc_X5_mixPairs (x1 : Int64) (I : wI) (E : String) (u : wI) : Prop := False
def pre_X5_doubleBits (x0 : UInt64) (I : wI) : Prop := ∃ n, n ≤ 6 ∧ x0 = shD n
def post_X5_doubleBits (x0 : UInt64) (I : wI) (r : Int64) : Prop := r = x0.toInt64
def pre_X5_floatBits (x0 : UInt32) (I : wI) : Prop := ∃ n, n ≤ 24 ∧ x0 = shF n
def post_X5_floatBits (x0 : UInt32) (I : wI) (r : Int32) : Prop := r = x0.toInt32
def pre_X5_mixBuffer (x1 : Int64) (I : wI) : Prop := okC I
def post_X5_mixBuffer (x1 : Int64) (I : wI) (r : Int64) : Prop := r = dgB (absC I) (mx x1 (absC I 2 2).toInt64) (nt (absC I 2 2))
def pre_X5_digest (I : wI) : Prop := okC I
def post_X5_digest (I : wI) (r : Int64) (I' : wI) : Prop := r = dgA (absC I) ∧ frX I I'
def ok_X5_digest (I : wI) : Prop := True
def pre_X5_digestx (I : wI) : Prop := False
def exc_X5_digest (I : wI) (E : String) (u : wI) : Prop := False
def pre_X6_openShare (I : wI) : Prop := okM I
def post_X6_openShare (I : wI) (r : UInt64) (I' : wI) : Prop := r = shD (aRt (rowM I)) ∧ mThrow I I' 0
def pre_X6_meanNotch (I : wI) : Prop := okM I
def post_X6_meanNotch (I : wI) (r : UInt32) (I' : wI) : Prop := r = shF (aNS (rowM I)) ∧ mThrow I I' 0
def pre_J_isNaN (x0 : UInt64) (I : wI) : Prop := ∃ n, n ≤ 6 ∧ x0 = shD n
def post_J_isNaN (x0 : UInt64) (I : wI) (r : Int32) : Prop := r = 0
def pre_J_isNaNf (x0 : UInt32) (I : wI) : Prop := ∃ n, n ≤ 24 ∧ x0 = shF n
def post_J_isNaNf (x0 : UInt32) (I : wI) (r : Int32) : Prop := r = 0
def pre_J_doubleToLongBits (x0 : UInt64) (I : wI) : Prop := ∃ n, n ≤ 6 ∧ x0 = shD n
def post_J_doubleToLongBits (x0 : UInt64) (I : wI) (r : Int64) : Prop := r = x0.toInt64
def pre_J_floatToIntBits (x0 : UInt32) (I : wI) : Prop := ∃ n, n ≤ 24 ∧ x0 = shF n
def post_J_floatToIntBits (x0 : UInt32) (I : wI) (r : Int32) : Prop := r = x0.toInt32
def pre_X6_digest (I : wI) : Prop := okM I
def post_X6_digest (I : wI) (r : Int64) (I' : wI) : Prop := r = dgA (absM I) ∧ mThrow I I' 0
