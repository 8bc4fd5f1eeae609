/-! ===== words as texts: one machine of brackets. Open brackets o, their kinds, beginnings, middles; the word so far; an item is there; a figure is wanted ===== -/
def TS : Type := Nat × (Nat → Nat) × (Nat → Nat) × (Nat → Nat) × List Nat × Bool × Bool
def tO (s : TS) : Nat := s.1
def tK (s : TS) : Nat → Nat := s.2.1
def tB (s : TS) : Nat → Nat := s.2.2.1
def tE (s : TS) : Nat → Nat := s.2.2.2.1
def tW (s : TS) : List Nat := s.2.2.2.2.1
def tH (s : TS) : Bool := s.2.2.2.2.2.1
def tF (s : TS) : Bool := s.2.2.2.2.2.2
def t0 : TS := (0, zF, zF, zF, [], false, false)
def fu (f : Nat → Nat) (i v : Nat) : Nat → Nat := fun j => if j = i then v else f j
def oppV (v : Nat) : Nat := (v + 5) % 10
def opp (l : List Nat) : List Nat := (l.map oppV).reverse
def repL (l : List Nat) : Nat → List Nat
  | 0 => []
  | n + 1 => l ++ repL l n
def tMove (s : TS) (v : Nat) : TS := (tO s, tK s, tB s, tE s, tW s ++ [v], true, false)
def tOpen (s : TS) (q : Nat) : TS := (tO s + 1, fu (tK s) (tO s) q, fu (tB s) (tO s) (tW s).length, fu (tE s) (tO s) (tW s).length, tW s, false, false)
def tFig (s : TS) (c : Nat) : TS := (tO s - 1, tK s, tB s, tE s, tW s ++ repL ((tW s).drop (tB s (tO s - 1))) (c - 49), tH s, false)
def tRound (s : TS) : TS := (tO s, tK s, tB s, tE s, tW s, tH s, true)
def tComma (s : TS) : TS := (tO s, fu (tK s) (tO s - 1) 2, tB s, fu (tE s) (tO s - 1) (tW s).length, tW s, false, false)
def tPair (s : TS) : TS := (tO s - 1, tK s, tB s, tE s, tW s ++ opp (((tW s).take (tE s (tO s - 1))).drop (tB s (tO s - 1))) ++ opp ((tW s).drop (tE s (tO s - 1))), tH s, false)
def tIn (s : TS) (c : Nat) : Option TS :=
  if tO s = 0 then none
  else if tK s (tO s - 1) = 0 ∧ c = 41 then some (tRound s) else if tK s (tO s - 1) = 1 ∧ c = 44 then some (tComma s) else if tK s (tO s - 1) = 2 ∧ c = 93 then some (tPair s) else none
def tStep (s : TS) (c : Nat) : Option TS :=
  if tF s then (if 50 ≤ c ∧ c ≤ 57 ∧ tO s ≠ 0 then some (tFig s c) else none)
  else if 97 ≤ c ∧ c ≤ 101 then some (tMove s (c - 97)) else if 65 ≤ c ∧ c ≤ 69 then some (tMove s (5 + (c - 65)))
  else if c = 40 then (if tO s < 4 then some (tOpen s 0) else none) else if c = 91 then (if tO s < 4 then some (tOpen s 1) else none)
  else if tH s then tIn s c else none
/-- reading on from a place: where it ends, and how -/
def tGo (x : Nat → Nat) : Nat → Nat → TS → Nat × TS
  | 0, i, s => (i, s)
  | n + 1, i, s => match tStep s (x i) with
    | none => (i, s)
    | some s' => tGo x n (i + 1) s'
def xA (A : Nat → Nat → Int32) : Nat → Nat := fun i => nt (A 3 i)
def tRes (A : Nat → Nat → Int32) : Nat × TS := tGo (xA A) (nt (A 2 2)) 0 t0
def aErr (A : Nat → Nat → Int32) : Nat := (tRes A).1
def aWhole (A : Nat → Nat → Int32) : Prop := aErr A = nt (A 2 2) ∧ tO (tRes A).2 = 0 ∧ tH (tRes A).2 = true ∧ tF (tRes A).2 = false
def aWord (A : Nat → Nat → Int32) : List Nat := tW (tRes A).2
/-- how much a word may grow yet -/
def pot (B : Nat → Nat) : Nat → Nat → Nat
  | 0, x => x
  | o + 1, x => pot B o (B o) + (x - B o) * 9 ^ (o + 1)
def tOk (s : TS) (n : Nat) : Prop := tO s ≤ 4 ∧ (∀ v, v ∈ tW s → v < 10) ∧ (∀ i, i < tO s → tK s i ≤ 2 ∧ tB s i ≤ tE s i ∧ tE s i ≤ (tW s).length) ∧ pot (tB s) (tO s) (tW s).length ≤ 6561 * n
/-! the class shows it so -/
def lrel (I : wI) (W : List Nat) : Prop := I 24 3 = nI W.length ∧ ∀ i, i < W.length → i < 500 → I 26 i = nI (W.getD i 0)
def tRel (I : wI) (s : TS) : Prop := lrel I (tW s) ∧ I 24 8 = nI (tO s) ∧ I 24 9 = (if tH s then 1 else 0) ∧ I 24 10 = (if tF s then 1 else 0) ∧ ∀ i, i < tO s → I 27 i = nI (tK s i) ∧ I 28 i = nI (tB s i) ∧ I 29 i = nI (tE s i)
def tfr (I I' : wI) : Prop := (∀ c, c < 24 ∨ c = 25 ∨ 30 ≤ c → I' c = I c) ∧ I' 24 1 = I 24 1
/-- only the word changes -/
def wfr (I I' : wI) : Prop := (∀ c, c ≠ 24 → c ≠ 26 → I' c = I c) ∧ ∀ j, j ≠ 3 → I' 24 j = I 24 j
def pre_X4_signAt (k : Nat) (x1 : Int32) (I : wI) : Prop := ∃ i, i < 60 ∧ x1 = nI i ∧ isCd (I (k + 1) i)
def post_X4_signAt (k : Nat) (x1 : Int32) (I : wI) (r : Int32) : Prop := r = I (k + 1) (nt x1)
def pre_X4_moveAt (k : Nat) (x1 : Int32) (I : wI) : Prop := isN 500 x1
def post_X4_moveAt (k : Nat) (x1 : Int32) (I : wI) (r : Int32) : Prop := r = I (k + 2) (nt x1)
def pre_X4_addMove (k : Nat) (x1 : Int32) (I : wI) : Prop := ∃ n, n < 1000000 ∧ I k 3 = nI n
def post_X4_addMove (k : Nat) (x1 : Int32) (I I' : wI) : Prop := I' = wU (if nt (I k 3) < 500 then wU I (k + 2) (nt (I k 3)) x1 else I) k 3 (nI (nt (I k 3) + 1))
def pre_X4_repeat (k : Nat) (x1 x2 : Int32) (I : wI) : Prop := k = 24 ∧ ∃ W b t, lrel I W ∧ x1 = nI b ∧ b ≤ W.length ∧ x2 = nI t ∧ 1 ≤ t ∧ t ≤ 9 ∧ W.length < 500000 ∧ ∀ v, v ∈ W → v < 10
def post_X4_repeat (k : Nat) (x1 x2 : Int32) (I I' : wI) : Prop := ∀ W, lrel I W → W.length < 500000 → (∀ v, v ∈ W → v < 10) → lrel I' (W ++ repL (W.drop (nt x1)) (nt x2 - 1)) ∧ wfr I I'
def pre_X4_addOpposite (k : Nat) (x1 x2 x3 : Int32) (I : wI) : Prop := k = 24 ∧ ∃ W b e, lrel I W ∧ x1 = nI b ∧ x2 = nI e ∧ x3 = nI W.length ∧ b ≤ e ∧ e ≤ W.length ∧ W.length < 500000 ∧ ∀ v, v ∈ W → v < 10
def post_X4_addOpposite (k : Nat) (x1 x2 x3 : Int32) (I I' : wI) : Prop := ∀ W, lrel I W → W.length < 500000 → (∀ v, v ∈ W → v < 10) → lrel I' (W ++ opp ((W.take (nt x2)).drop (nt x1)) ++ opp (W.drop (nt x2))) ∧ wfr I I'
def pre_X4_takesMove (k : Nat) (x1 : Int32) (I : wI) : Prop := k = 24 ∧ isN 10 x1 ∧ ∃ s n, n < 60 ∧ tRel I s ∧ tOk s n ∧ tF s = false
def post_X4_takesMove (k : Nat) (x1 : Int32) (I : wI) (r : Int32) (I' : wI) : Prop := ∀ s n, n < 60 → tRel I s → tOk s n → tF s = false → r = 1 ∧ tRel I' (tMove s (nt x1)) ∧ tfr I I'
def pre_X4_takesOpening (k : Nat) (x1 : Int32) (I : wI) : Prop := k = 24 ∧ isN 2 x1 ∧ ∃ s n, n < 60 ∧ tRel I s ∧ tOk s n ∧ tF s = false
/-- what is answered, and what it becomes -/
def tAns (I : wI) (r : Int32) (I' : wI) (s : TS) (o : Option TS) : Prop := match o with
  | none => r = 0 ∧ tRel I' s ∧ tfr I I'
  | some s' => r = 1 ∧ tRel I' s' ∧ tfr I I'
def post_X4_takesOpening (k : Nat) (x1 : Int32) (I : wI) (r : Int32) (I' : wI) : Prop := ∀ s n, n < 60 → tRel I s → tOk s n → tF s = false → tAns I r I' s (if tO s < 4 then some (tOpen s (nt x1)) else none)
def pre_X4_takesInBracket (k : Nat) (x1 : Int32) (I : wI) : Prop := k = 24 ∧ isCd x1 ∧ ∃ s n, n < 60 ∧ tRel I s ∧ tOk s n ∧ tF s = false
def post_X4_takesInBracket (k : Nat) (x1 : Int32) (I : wI) (r : Int32) (I' : wI) : Prop := ∀ s n, n < 60 → tRel I s → tOk s n → tF s = false → tAns I r I' s (tIn s (nt x1))
def pre_X4_takesFigure (k : Nat) (x1 : Int32) (I : wI) : Prop := k = 24 ∧ isCd x1 ∧ ∃ s n, n < 60 ∧ tRel I s ∧ tOk s n ∧ tF s = true
def post_X4_takesFigure (k : Nat) (x1 : Int32) (I : wI) (r : Int32) (I' : wI) : Prop := ∀ s n, n < 60 → tRel I s → tOk s n → tF s = true → tAns I r I' s (if 50 ≤ nt x1 ∧ nt x1 ≤ 57 ∧ tO s ≠ 0 then some (tFig s (nt x1)) else none)
def pre_X4_takes (k : Nat) (x1 : Int32) (I : wI) : Prop := k = 24 ∧ isCd x1 ∧ ∃ s n, n < 60 ∧ tRel I s ∧ tOk s n
def post_X4_takes (k : Nat) (x1 : Int32) (I : wI) (r : Int32) (I' : wI) : Prop := ∀ s n, n < 60 → tRel I s → tOk s n → tAns I r I' s (tStep s (nt x1))
def pre_X4_read (k : Nat) (I : wI) : Prop := k = 24 ∧ okC I
def post_X4_read (k : Nat) (I : wI) (r : Int32) (I' : wI) : Prop := r = nI (aErr (absC I)) ∧ tRel I' (tRes (absC I)).2 ∧ tfr I I' ∧ (aWhole (absC I) ∧ I' 24 4 = 1 ∨ ¬ aWhole (absC I) ∧ I' 24 4 = 0)
def pre_X5_firstError (I : wI) : Prop := okC I
def post_X5_firstError (I : wI) (r : Int32) (I' : wI) : Prop := r = nI (aErr (absC I)) ∧ frX I I'
