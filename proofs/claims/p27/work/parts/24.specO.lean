/-! ===== the fewest turns to the secret ===== -/
def fb (p : Nat → Bool) : Nat → Nat → Nat
  | 0, i => i
  | m + 1, i => if p i then i else fb p m (i + 1)
/-- a turn that can be done -/
def al (a : Nat → Int32) (v : Nat) : Bool := !aStk a (v % 5)
def canB : Nat → (Nat → Int32) → Bool
  | 0, a => decide (aRt a = 6)
  | n + 1, a => decide (fb (fun v => al a v && canB n (aTr a v)) 10 0 < 10)
def aOpN (a : Nat → Int32) : Nat := fb (fun n => canB n a) 4 1
def aOp (a : Nat → Int32) (w : Nat) : Int32 :=
  if a 36 = 0 then -1 else if canB 0 a then (if w = 0 then 0 else -1)
  else if aOpN a < 5 then (if w = 0 then nI (aOpN a) else nI (fb (fun v => al a v && canB (aOpN a - 1) (aTr a v)) 10 0)) else -1
abbrev DN : Type := (Nat → Nat) × (Nat → Nat)
def mP (a : Nat → Int32) (v : Nat) (x : DN) : DN := (mvD (aM a (v % 5)) (v / 5) x.1, mvN (aM a (v % 5)) (aS a (v % 5)) (v / 5) x.2)
def secP (a : Nat → Int32) : DN := (fun p => if p < 6 then nt (a (37 + p)) else 0, fun p => if p < 6 then nt (a (43 + p)) else 0)
def posP (a : Nat → Int32) : DN := (aD a, aN a)
def fpP (x : DN) : Nat := fpU x.1 x.2 6
/-- the list of near states, and what it tells -/
def nlR (I : wI) (l : List (Nat × Nat)) : Prop := l.length ≤ 111 ∧ (∀ e, e ∈ l → e.1 < 2000000000 ∧ e.2 < 3) ∧ I 36 2 = nI l.length ∧ ∀ i, i < l.length → I 37 i = nI (l.getD i (0, 0)).1 ∧ I 38 i = nI (l.getD i (0, 0)).2
def lkR : List (Nat × Nat) → Nat → Int32
  | [], _ => -1
  | e :: l, f => if e.1 = f then nI e.2 else lkR l f
def L1 (a : Nat → Int32) : Nat → List (Nat × Nat)
  | 0 => []
  | v + 1 => L1 a v ++ (if al a v then [(fpP (mP a v (secP a)), 1)] else [])
def L2 (a : Nat → Int32) (x : DN) : Nat → List (Nat × Nat)
  | 0 => []
  | u + 1 => L2 a x u ++ (if al a u then [(fpP (mP a u x), 2)] else [])
def L3 (a : Nat → Int32) : Nat → List (Nat × Nat)
  | 0 => []
  | v + 1 => L3 a v ++ (if al a v then L2 a (mP a v (secP a)) 10 else [])
def nearL (a : Nat → Int32) : List (Nat × Nat) := [(fpP (secP a), 0)] ++ L1 a 10 ++ L3 a 10
def mt (a : Nat → Int32) (l : List (Nat × Nat)) (x : DN) : Bool := decide (fb (fun u => al a u && decide (lkR l (fpP (mP a u x)) ≠ -1)) 10 0 < 10)
def tfR (a : Nat → Int32) (l : List (Nat × Nat)) (v : Nat) (f : Int32) : Int32 :=
  if lkR l (fpP (mP a v (posP a))) = -1 ∧ f = -1 ∧ mt a l (mP a v (posP a)) = true then 3 else lkR l (fpP (mP a v (posP a)))
def tfS (a : Nat → Int32) (l : List (Nat × Nat)) (v : Nat) (s : Int32 × Int32) : Int32 × Int32 :=
  if tfR a l v s.1 ≠ -1 ∧ (s.1 = -1 ∨ tfR a l v s.1 + 1 < s.1) then (tfR a l v s.1 + 1, nI v) else s
def tfL (a : Nat → Int32) (l : List (Nat × Nat)) : Nat → Int32 × Int32
  | 0 => (-1, -1)
  | v + 1 => if al a v then tfS a l v (tfL a l v) else tfL a l v
/-- discs and notches that are held at k -/
def at_ (I : wI) (k : Nat) : DN := (dsc I k, ntc I k)
def frO (I I' : wI) (cs : List Nat) : Prop := ∀ c, c ∉ cs → I' c = I c
def fr36 (I I' : wI) (js : List Nat) : Prop := ∀ j, j ∉ js → I' 36 j = I 36 j
def pre_X2_list (k k1 : Nat) (x2 : Int32) (I : wI) : Prop := k = 36 ∧ okD I k1 ∧ isN 3 x2 ∧ ∃ l, nlR I l ∧ l.length < 111
def post_X2_list (k k1 : Nat) (x2 : Int32) (I I' : wI) : Prop := (∀ l, nlR I l → l.length < 111 → nlR I' (l ++ [(fpP (at_ I k1), nt x2)])) ∧ frO I I' [36, 37, 38] ∧ fr36 I I' [2]
def pre_X2_listBehindOne (k k1 : Nat) (I : wI) : Prop := k = 36 ∧ k1 = 1 ∧ okC I ∧ okD I 39 ∧ ∃ l, nlR I l ∧ l.length ≤ 101
def post_X2_listBehindOne (k k1 : Nat) (I I' : wI) : Prop := (∀ l, nlR I l → l.length ≤ 101 → nlR I' (l ++ L2 (rowC 1 I) (at_ I 39) 10)) ∧ frO I I' [36, 37, 38, 43, 44] ∧ fr36 I I' [2]
def pre_X2_listNear (k k1 : Nat) (I : wI) : Prop := k = 36 ∧ k1 = 1 ∧ okC I ∧ I 1 3 = 1
def post_X2_listNear (k k1 : Nat) (I I' : wI) : Prop := nlR I' (nearL (rowC 1 I)) ∧ frO I I' [36, 37, 38, 40, 41, 43, 44] ∧ fr36 I I' [2]
def pre_X2_listedTurns (k k1 : Nat) (I : wI) : Prop := k = 36 ∧ okD I k1 ∧ ∃ l, nlR I l
def post_X2_listedTurns (k k1 : Nat) (I : wI) (r : Int32) : Prop := ∀ l, nlR I l → r = lkR l (fpP (at_ I k1))
def pre_X2_meetsList (k k1 : Nat) (I : wI) : Prop := k = 36 ∧ k1 = 1 ∧ okC I ∧ okD I 39 ∧ ∃ l, nlR I l
def post_X2_meetsList (k k1 : Nat) (I : wI) (r : Int32) (I' : wI) : Prop := (∀ l, nlR I l → r = if mt (rowC 1 I) l (at_ I 39) then 1 else 0) ∧ frO I I' [43, 44]
def fwOk (x : Int32) : Prop := x = -1 ∨ ∃ n, 1 ≤ n ∧ n ≤ 4 ∧ x = nI n
def pre_X2_tryFirst (k k1 : Nat) (x2 : Int32) (I : wI) : Prop := k = 36 ∧ k1 = 1 ∧ okC I ∧ isN 10 x2 ∧ fwOk (I 36 5) ∧ ∃ l, nlR I l
def post_X2_tryFirst (k k1 : Nat) (x2 : Int32) (I I' : wI) : Prop := (∀ l, nlR I l → (I' 36 5, I' 36 6) = tfS (rowC 1 I) l (nt x2) (I 36 5, I 36 6)) ∧ frO I I' [36, 40, 41, 43, 44] ∧ fr36 I I' [5, 6]
def pre_X2_search (k k1 : Nat) (I : wI) : Prop := k = 36 ∧ k1 = 1 ∧ okC I
def post_X2_search (k k1 : Nat) (I I' : wI) : Prop := I' 36 5 = aOp (rowC 1 I) 0 ∧ I' 36 6 = aOp (rowC 1 I) 1 ∧ frO I I' [36, 37, 38, 40, 41, 43, 44]
def pre_X5_openIn (x1 : Int32) (I : wI) : Prop := okC I ∧ isN 2 x1
def post_X5_openIn (x1 : Int32) (I : wI) (r : Int32) (I' : wI) : Prop := r = aOp (rowC 1 I) (nt x1) ∧ frX I I'
def ok_X5_openIn (x1 : Int32) (I : wI) : Prop := isN 2 x1
def pre_X5_openInx (x1 : Int32) (I : wI) : Prop := okC I ∧ ¬ isN 2 x1
def exc_X5_openIn (x1 : Int32) (I : wI) (E : String) (u : wI) : Prop := frX I u ∧ E = wIA
/-! the model's -/
def oB : Nat → Nat → (Nat → Int32) → Bool
  | 0, _, a => decide (aRt a = 6)
  | m + 1, r, a => al a (r / 10 ^ m % 10) && oB m r (aTr a (r / 10 ^ m % 10))