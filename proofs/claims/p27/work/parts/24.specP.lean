/-! ===== shares, and the digest ===== -/
def shD (n : Nat) : UInt64 := FP.ddiv (FP.i2d (nI n)) 4618441417868443648
def shF (n : Nat) : UInt32 := FP.fdiv (FP.i2f (nI n)) 1086324736
def mx (h v : Int64) : Int64 := 31 * h + v
def dgC (A : Nat → Nat → Int32) : Nat → Int64
  | 0 => 3769
  | k + 1 => mx (dgC A k) (aCnt A k).toInt64
def dgP (A : Nat → Nat → Int32) (h : Int64) : Nat → Int64
  | 0 => h
  | i + 1 => mx (dgP A h i) (aAt (A 0) (i / 5) (i % 5)).toInt64
def dg1 (A : Nat → Nat → Int32) (c : Nat) (h : Int64) : Nat → Int64
  | 0 => h
  | k + 1 => mx (dg1 A c h k) (aKey (A 0) c k).toInt64
def dgK (A : Nat → Nat → Int32) (h : Int64) : Nat → Int64
  | 0 => h
  | c + 1 => mx (mx (dg1 A c (dgK A h c) 6) (nI (aIf (A 0) c)).toInt64) (nI (aIf (A 0) (5 + c))).toInt64
def dgR (A : Nat → Nat → Int32) (h : Int64) : Nat → Int64
  | 0 => h
  | i + 1 => mx (dgR A h i) (aOf (A 0) (prL (i / 25) (i / 5 % 5)) (i % 5)).toInt64
def dgB (A : Nat → Nat → Int32) (h : Int64) : Nat → Int64
  | 0 => h
  | j + 1 => mx (dgB A h j) (A 3 j).toInt64
def dgO (A : Nat → Nat → Int32) : Int64 := mx (mx (mx (dgR A (dgK A (dgP A (dgC A 10) 30) 5) 125) (aOp (A 0) 0).toInt64) (aOp (A 0) 1).toInt64) (aCl (A 0)).toInt64
def dgS (A : Nat → Nat → Int32) : Int64 := mx (mx (mx (dgO A) (shD (aRt (A 0))).toInt64) (shF (aNS (A 0))).toInt32.toInt64) (A 2 0).toInt64
def dgA (A : Nat → Nat → Int32) : Int64 := dgB A (mx (dgS A) (A 2 2).toInt64) (nt (A 2 2))
def pre_X5_openShare (I : wI) : Prop := okC I
def post_X5_openShare (I : wI) (r : UInt64) : Prop := r = shD (aRt (rowC 1 I))
def pre_X5_meanNotch (I : wI) : Prop := okC I
def post_X5_meanNotch (I : wI) (r : UInt32) : Prop := r = shF (aNS (rowC 1 I))