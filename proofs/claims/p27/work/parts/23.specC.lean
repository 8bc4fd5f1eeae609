/-! ===== all that the class keeps: row 0 is the state, 1 the snapshot, 2 the flag, the count, the length, 3 the text, 4.. the saved states ===== -/
def zRow : Nat → Int32 := fun _ => 0
def absC (I : wI) : Nat → Nat → Int32 := fun c =>
  if c = 0 then rowC 1 I else if c = 1 then (if I 0 2 = 0 then zRow else rowC 12 I)
  else if c = 2 then (fun j => if j = 0 then I 0 2 else if j = 1 then I 0 4 else if j = 2 then I 24 1 else 0)
  else if c = 3 then (fun j => if j < nt (I 24 1) then I 25 j else 0)
  else if c - 4 < nt (I 0 4) then rowC (wSv (I 23 (c - 4))) I else zRow
def okC (I : wI) : Prop :=
  okS 1 I ∧ (I 0 2 = 0 ∨ I 0 2 = 1 ∧ okS 12 I) ∧ (∃ s, s ≤ 6 ∧ I 0 4 = nI s ∧ ∀ i, i < s → okS (wSv (I 23 i)) I) ∧
  (∀ i, i < 6 → ∃ t, t < 6 ∧ I 23 i = nI t) ∧ (∀ i j, i < 6 → j < 6 → I 23 i = I 23 j → i = j) ∧
  (∃ L, L ≤ 60 ∧ I 24 1 = nI L ∧ ∀ j, j < L → ∃ c, 33 ≤ c ∧ c ≤ 126 ∧ I 25 j = nI c)
/-- nothing but scratch rows changes -/
def frX (I I' : wI) : Prop := (∀ c, c < 24 ∨ c = 25 ∨ 45 ≤ c → I' c = I c) ∧ I' 24 1 = I 24 1
def frC (I I' : wI) : Prop := ∀ c, 111 ≤ c → I' c = I c
/-! what calls do -/
def aSv (A : Nat → Nat → Int32) : Nat → Nat → Int32 := fun c =>
  if c = 2 then (fun j => if j = 1 then (if nt (A 2 1) < 6 then nI (nt (A 2 1) + 1) else nI 6) else A 2 j)
  else if c < 4 then A c else if nt (A 2 1) < 6 then (if c = 4 + nt (A 2 1) then A 0 else A c) else (if c < 9 then A (c + 1) else if c = 9 then A 0 else A c)
def aNow (A : Nat → Nat → Int32) (a : Nat → Int32) : Nat → Nat → Int32 := fun c => if c = 0 then a else A c
def aLen (A : Nat → Nat → Int32) (n : Nat) : Nat → Nat → Int32 := fun c => if c = 2 then (fun j => if j = 2 then nI n else A 2 j) else if c = 3 then (fun j => if j < n then A 3 j else 0) else A c
def aHome (a : Nat → Int32) : Nat → Int32 := fun j => if j < 6 then nI j else if j < 12 then 0 else if j = 34 then 0 else a j
def aCut (a : Nat → Int32) (c : Nat) (m s : Int32) : Nat → Int32 := fun j => if j = 18 + c then m else if j = 23 + c then s else a j
def aStick (a : Nat → Int32) (p : Nat) : Nat → Int32 := fun j => if j = 12 + p then 1 - a j else a j
def aLearn (a : Nat → Int32) : Nat → Int32 := fun j => if j = 36 then 1 else if 37 ≤ j ∧ j < 49 then a (j - 37) else a j
def aApp (A : Nat → Nat → Int32) (x : Int32) : Nat → Nat → Int32 := fun c =>
  if c = 2 then (fun j => if j = 2 then nI (nt (A 2 2) + 1) else A 2 j) else if c = 3 then (fun j => if j = nt (A 2 2) then x else A 3 j) else A c
def aKeep (A : Nat → Nat → Int32) : Nat → Nat → Int32 := fun c => if c = 1 then A 0 else if c = 2 then (fun j => if j = 0 then 1 else A 2 j) else A c
def aUndo (A : Nat → Nat → Int32) : Nat → Nat → Int32 := fun c =>
  if c = 0 then A (3 + nt (A 2 1)) else if c = 2 then (fun j => if j = 1 then nI (nt (A 2 1) - 1) else A 2 j) else if c = 3 + nt (A 2 1) then zRow else A c
def aNS (a : Nat → Int32) : Nat := sm (aN a) 6
def aRc (a : Nat → Int32) : Nat := rcF (aD a) (aN a)
def aKA (a : Nat → Int32) (p : Nat) : Nat := bits (fun c => decide (tb (aM a c) p = 1)) 5
def aAt (a : Nat → Int32) (p w : Nat) : Int32 :=
  if w = 0 then a p else if w = 1 then a (6 + p) else if w = 2 then a (12 + p) else if w = 3 then (if a 36 = 1 ∧ a p = a (37 + p) ∧ a (6 + p) = a (43 + p) then 1 else 0) else nI (aKA a p)
def aCnt (A : Nat → Nat → Int32) (w : Nat) : Int32 :=
  if w = 0 then A 0 33 else if w = 1 then nI (aNS (A 0) % 5) else if w = 2 then A 0 34 else if w = 3 then nI (6 - pc6 (aRc (A 0))) else if w = 4 then (if aRt (A 0) = 6 then 1 else 0) else if w = 5 then nI (aRt (A 0))
  else if w = 6 then nI (sm (fun p => nt (A 0 (12 + p))) 6) else if w = 7 then nI (aSK (A 0)) else if w = 8 then A 0 35 else A 2 1
/-- what words do -/
def wD (a : Nat → Int32) : List Nat → (Nat → Nat) → Nat → Nat
  | [], d => d
  | v :: l, d => wD a l (mvD (aM a (v % 5)) (v / 5) d)
def wN (a : Nat → Int32) : List Nat → (Nat → Nat) → Nat → Nat
  | [], n => n
  | v :: l, n => wN a l (mvN (aM a (v % 5)) (aS a (v % 5)) (v / 5) n)
def prL (c c2 : Nat) : List Nat := [c, c2, 5 + c, 5 + c2]
/-- rounds: how many positions, and the notches of their discs -/
def cL (d : Nat → Nat) (p : Nat) : Nat := if orbM d p 1 = p then 1 else if orbM d p 2 = p then 2 else if orbM d p 3 = p then 3 else if orbM d p 4 = p then 4 else if orbM d p 5 = p then 5 else 6
def cS (d n : Nat → Nat) (p : Nat) : Nat := sm (fun t => n (orbM d p (t + 1))) (cL d p)
def itsF (d n : Nat → Nat) (p : Nat) : Nat := if cS d n p % 5 = 0 then cL d p else 5 * cL d p
def perU (d n : Nat → Nat) : Nat → Nat
  | 0 => 1
  | p + 1 => Nat.lcm (perU d n p) (itsF d n p)
def perF (d n : Nat → Nat) : Nat := perU d n 6
def aKey (a : Nat → Int32) (c w : Nat) : Int32 :=
  if w = 0 then a (18 + c) else if w = 1 then a (23 + c) else if w = 2 ∨ w = 3 then nI (perF (wD a [c] idF) (wN a [c] zF)) else if w = 4 then (if aStk a c then 1 else 0) else a (28 + c)
def aOf (a : Nat → Int32) (l : List Nat) (w : Nat) : Int32 :=
  if w = 0 then nI (rcF (wD a l idF) (wN a l zF)) else if w = 1 then nI (pc6 (rcF (wD a l idF) (wN a l zF))) else if w = 2 ∨ w = 3 then nI (perF (wD a l idF) (wN a l zF)) else (if rcF (wD a l idF) (wN a l zF) = 0 then 1 else 0)
/-- how many discs would be right behind a turn -/
def aIf (a : Nat → Int32) (v : Nat) : Nat := aRt (aTr a v)
/-- the pair of keys with the least reach, by index -/
def clS (a : Nat → Int32) : Nat → Int32 × Nat
  | 0 => (-1, 7)
  | t + 1 => if t / 5 < t % 5 ∧ pc6 (rcF (wD a (prL (t / 5) (t % 5)) idF) (wN a (prL (t / 5) (t % 5)) zF)) < (clS a t).2 then (nI t, pc6 (rcF (wD a (prL (t / 5) (t % 5)) idF) (wN a (prL (t / 5) (t % 5)) zF))) else clS a t
def aCl (a : Nat → Int32) : Int32 := (clS a 25).1
/-! ===== the class's methods ===== -/
def isN (n : Nat) (x : Int32) : Prop := ∃ c, c < n ∧ x = nI c
def okP (I I' : wI) (A : Nat → Nat → Int32) : Prop := absC I' = A ∧ okC I' ∧ frC I I'
def pre_X5_requireKey (x0 : Int32) (I : wI) : Prop := isN 5 x0
def post_X5_requireKey (x0 : Int32) (I : wI) : Prop := True
def ok_X5_requireKey (x0 : Int32) (I : wI) : Prop := isN 5 x0
def pre_X5_requireKeyx (x0 : Int32) (I : wI) : Prop := ¬ isN 5 x0
def exc_X5_requireKey (x0 : Int32) (I : wI) (E : String) : Prop := E = wIO
def pre_X5_requirePosition (x0 : Int32) (I : wI) : Prop := isN 6 x0
def post_X5_requirePosition (x0 : Int32) (I : wI) : Prop := True
def ok_X5_requirePosition (x0 : Int32) (I : wI) : Prop := isN 6 x0
def pre_X5_requirePositionx (x0 : Int32) (I : wI) : Prop := ¬ isN 6 x0
def exc_X5_requirePosition (x0 : Int32) (I : wI) (E : String) : Prop := E = wIO
def isMk (x : Int32) : Prop := ∃ m, m < 64 ∧ x = nI m ∧ 2 ≤ pc6 m
def pre_X5_isKeyMask (x0 : Int32) (I : wI) : Prop := True
def post_X5_isKeyMask (x0 : Int32) (I : wI) (r : Int32) : Prop := (isMk x0 ∧ r = 1) ∨ (¬ isMk x0 ∧ r = 0)
def pre_X5_dropOldest (I : wI) : Prop := okC I ∧ I 0 4 = nI 6
def post_X5_dropOldest (I I' : wI) : Prop := (∀ i, i < 5 → I' 23 i = I 23 (i + 1)) ∧ I' 23 5 = I 23 0 ∧ I' 0 4 = nI 5 ∧ (∀ j, j ≠ 4 → I' 0 j = I 0 j) ∧ (∀ c, c ≠ 0 → c ≠ 23 → I' c = I c)
def pre_X5_writeSaved (k1 : Nat) (I : wI) : Prop := okS 1 I ∧ (∃ s, s < 6 ∧ I 0 4 = nI s) ∧ 45 ≤ k1
def post_X5_writeSaved (k1 : Nat) (I I' : wI) : Prop := rowC k1 I' = rowC 1 I ∧ okS k1 I' ∧ I' 0 4 = nI (nt (I 0 4) + 1) ∧ (∀ j, j ≠ 4 → I' 0 j = I 0 j) ∧ (∀ c, c ≠ 0 → c < k1 ∨ k1 + 11 ≤ c → I' c = I c)
def pre_X5_save (I : wI) : Prop := okC I
def post_X5_save (I I' : wI) : Prop := okP I I' (aSv (absC I)) ∧ (∀ c, 0 < c → c < 23 → I' c = I c) ∧ (∀ c, 23 < c → c < 45 → I' c = I c) ∧ ∀ j, j ≠ 4 → I' 0 j = I 0 j
/-- a key that can be turned -/
def fK (I : wI) (x : Int32) : Prop := isN 5 x ∧ aStk (rowC 1 I) (nt x) = false
def pre_X5_turnOnce (x1 x2 : Int32) (I : wI) : Prop := okC I ∧ fK I x1 ∧ (x2 = 0 ∨ x2 = 1)
def post_X5_turnOnce (x1 x2 : Int32) (I : wI) (r : Int32) (I' : wI) : Prop := r = nI (aRt (aMv (rowC 1 I) (5 * nt x2 + nt x1))) ∧ okP I I' (aNow (aSv (absC I)) (aMv (rowC 1 I) (5 * nt x2 + nt x1)))
def ok_X5_turnOnce (x1 x2 : Int32) (I : wI) : Prop := fK I x1
def pre_X5_turnOncex (x1 x2 : Int32) (I : wI) : Prop := okC I ∧ ¬ fK I x1 ∧ (x2 = 0 ∨ x2 = 1)
def exc_X5_turnOnce (x1 x2 : Int32) (I : wI) (E : String) (u : wI) : Prop := frX I u ∧ ((¬ isN 5 x1 ∧ E = wIO) ∨ (isN 5 x1 ∧ E = wIS))
def pre_X5_turn (x1 : Int32) (I : wI) : Prop := okC I ∧ fK I x1
def post_X5_turn (x1 : Int32) (I : wI) (r : Int32) (I' : wI) : Prop := r = nI (aRt (aMv (rowC 1 I) (nt x1))) ∧ okP I I' (aNow (aSv (absC I)) (aMv (rowC 1 I) (nt x1)))
def ok_X5_turn (x1 : Int32) (I : wI) : Prop := fK I x1
def pre_X5_turnx (x1 : Int32) (I : wI) : Prop := okC I ∧ ¬ fK I x1
def exc_X5_turn (x1 : Int32) (I : wI) (E : String) (u : wI) : Prop := frX I u ∧ ((¬ isN 5 x1 ∧ E = wIO) ∨ (isN 5 x1 ∧ E = wIS))
def pre_X5_back (x1 : Int32) (I : wI) : Prop := okC I ∧ fK I x1
def post_X5_back (x1 : Int32) (I : wI) (r : Int32) (I' : wI) : Prop := r = nI (aRt (aMv (rowC 1 I) (5 + nt x1))) ∧ okP I I' (aNow (aSv (absC I)) (aMv (rowC 1 I) (5 + nt x1)))
def ok_X5_back (x1 : Int32) (I : wI) : Prop := fK I x1
def pre_X5_backx (x1 : Int32) (I : wI) : Prop := okC I ∧ ¬ fK I x1
def exc_X5_back (x1 : Int32) (I : wI) (E : String) (u : wI) : Prop := frX I u ∧ ((¬ isN 5 x1 ∧ E = wIO) ∨ (isN 5 x1 ∧ E = wIS))
def pre_X5_home (I : wI) : Prop := okC I
def post_X5_home (I : wI) (r : Int32) (I' : wI) : Prop := r = nI (pc6 (aRc (rowC 1 I))) ∧ okP I I' (aNow (aSv (absC I)) (aHome (rowC 1 I)))
def okCut (x2 x3 : Int32) : Prop := isMk x2 ∧ isN 5 x3
def pre_X5_cut (x1 x2 x3 : Int32) (I : wI) : Prop := okC I ∧ isN 5 x1 ∧ okCut x2 x3
def post_X5_cut (x1 x2 x3 : Int32) (I : wI) (r : Int32) (I' : wI) : Prop := r = rowC 1 I (18 + nt x1) ∧ okP I I' (aNow (aSv (absC I)) (aCut (rowC 1 I) (nt x1) x2 x3))
def ok_X5_cut (x1 x2 x3 : Int32) (I : wI) : Prop := isN 5 x1 ∧ okCut x2 x3
def pre_X5_cutx (x1 x2 x3 : Int32) (I : wI) : Prop := okC I ∧ ¬ (isN 5 x1 ∧ okCut x2 x3)
def exc_X5_cut (x1 x2 x3 : Int32) (I : wI) (E : String) (u : wI) : Prop := frX I u ∧ ((¬ isN 5 x1 ∧ E = wIO) ∨ (isN 5 x1 ∧ E = wIA))
def pre_X5_stick (x1 : Int32) (I : wI) : Prop := okC I ∧ isN 6 x1
def post_X5_stick (x1 : Int32) (I : wI) (r : Int32) (I' : wI) : Prop := r = nI (aSK (aStick (rowC 1 I) (nt x1))) ∧ okP I I' (aNow (aSv (absC I)) (aStick (rowC 1 I) (nt x1)))
def ok_X5_stick (x1 : Int32) (I : wI) : Prop := isN 6 x1
def pre_X5_stickx (x1 : Int32) (I : wI) : Prop := okC I ∧ ¬ isN 6 x1
def exc_X5_stick (x1 : Int32) (I : wI) (E : String) (u : wI) : Prop := frX I u ∧ E = wIO
def pre_X5_learn (I : wI) : Prop := okC I
def post_X5_learn (I : wI) (r : Int32) (I' : wI) : Prop := r = nI (aNS (rowC 1 I)) ∧ okP I I' (aNow (aSv (absC I)) (aLearn (rowC 1 I)))
def isCd (x : Int32) : Prop := ∃ c, 33 ≤ c ∧ c ≤ 126 ∧ x = nI c
def pre_X5_goBack (I : wI) : Prop := okC I ∧ I 0 2 = 1
def post_X5_goBack (I : wI) (r : Int32) (I' : wI) : Prop := r = absC I 1 33 ∧ okP I I' (aNow (aSv (absC I)) (absC I 1))
def ok_X5_goBack (I : wI) : Prop := I 0 2 = 1
def pre_X5_goBackx (I : wI) : Prop := okC I ∧ ¬ I 0 2 = 1
def exc_X5_goBack (I : wI) (E : String) (u : wI) : Prop := frX I u ∧ E = wIS
def pre_X5_undo (I : wI) : Prop := okC I ∧ ¬ I 0 4 = 0
def post_X5_undo (I : wI) (r : Int32) (I' : wI) : Prop := r = nI (nt (absC I 2 1) - 1) ∧ okP I I' (aUndo (absC I))
def ok_X5_undo (I : wI) : Prop := ¬ I 0 4 = 0
def pre_X5_undox (I : wI) : Prop := okC I ∧ I 0 4 = 0
def exc_X5_undo (I : wI) (E : String) (u : wI) : Prop := frX I u ∧ E = wIS
def pre_X5_at (x1 x2 : Int32) (I : wI) : Prop := okC I ∧ isN 6 x1 ∧ isN 5 x2
def post_X5_at (x1 x2 : Int32) (I : wI) (r : Int32) : Prop := r = aAt (rowC 1 I) (nt x1) (nt x2)
def ok_X5_at (x1 x2 : Int32) (I : wI) : Prop := isN 6 x1 ∧ isN 5 x2
def pre_X5_atx (x1 x2 : Int32) (I : wI) : Prop := okC I ∧ ¬ (isN 6 x1 ∧ isN 5 x2)
def exc_X5_at (x1 x2 : Int32) (I : wI) (E : String) : Prop := (¬ isN 6 x1 ∧ E = wIO) ∨ (isN 6 x1 ∧ E = wIA)
/-- what the effect shows: discs at 31, notches at 32; the trial's at 34, 35 -/
def ef (I : wI) (k : Nat) (d n : Nat → Nat) : Prop := ∀ p, p < 6 → I (k + 1) p = nI (d p) ∧ I (k + 2) p = nI (n p)
def pre_X5_showKey (x1 : Int32) (I : wI) : Prop := okC I ∧ isN 5 x1
def post_X5_showKey (x1 : Int32) (I I' : wI) : Prop := ef I' 30 (wD (rowC 1 I) [nt x1] idF) (wN (rowC 1 I) [nt x1] zF) ∧ fr2 I I' 31 32
def pre_X5_showPair (x1 x2 : Int32) (I : wI) : Prop := okC I ∧ isN 5 x1 ∧ isN 5 x2
def post_X5_showPair (x1 x2 : Int32) (I I' : wI) : Prop := ef I' 30 (wD (rowC 1 I) (prL (nt x1) (nt x2)) idF) (wN (rowC 1 I) (prL (nt x1) (nt x2)) zF) ∧ fr2 I I' 31 32
/-- discs that can be: a row of six each once, notches 0 to 4 -/
def okE (d n : Nat → Nat) : Prop := (∀ p, p < 6 → d p < 6) ∧ (∀ p, p < 6 → n p < 5) ∧ pmF d
def pre_X5_periodByDoing (I : wI) : Prop := okD I 30 ∧ pmF (dsc I 30)
def post_X5_periodByDoing (I : wI) (r : Int32) (I' : wI) : Prop := r = nI (perF (dsc I 30) (ntc I 30)) ∧ fr2 I I' 34 35
def pre_X0_periodByRounds (k : Nat) (I : wI) : Prop := okD I k ∧ pmF (dsc I k)
def post_X0_periodByRounds (k : Nat) (I : wI) (r : Int32) : Prop := r = nI (perF (dsc I k) (ntc I k))
def pre_X5_key (x1 x2 : Int32) (I : wI) : Prop := okC I ∧ isN 5 x1 ∧ isN 6 x2
def post_X5_key (x1 x2 : Int32) (I : wI) (r : Int32) (I' : wI) : Prop := r = aKey (rowC 1 I) (nt x1) (nt x2) ∧ frX I I'
def ok_X5_key (x1 x2 : Int32) (I : wI) : Prop := isN 5 x1 ∧ isN 6 x2
def pre_X5_keyx (x1 x2 : Int32) (I : wI) : Prop := okC I ∧ ¬ (isN 5 x1 ∧ isN 6 x2)
def exc_X5_key (x1 x2 : Int32) (I : wI) (E : String) (u : wI) : Prop := frX I u ∧ ((¬ isN 5 x1 ∧ E = wIO) ∨ (isN 5 x1 ∧ E = wIA))
def pre_X5_pair (x1 x2 x3 : Int32) (I : wI) : Prop := okC I ∧ (isN 5 x1 ∧ isN 5 x2) ∧ isN 5 x3
def post_X5_pair (x1 x2 x3 : Int32) (I : wI) (r : Int32) (I' : wI) : Prop := r = aOf (rowC 1 I) (prL (nt x1) (nt x2)) (nt x3) ∧ frX I I'
def ok_X5_pair (x1 x2 x3 : Int32) (I : wI) : Prop := (isN 5 x1 ∧ isN 5 x2) ∧ isN 5 x3
def pre_X5_pairx (x1 x2 x3 : Int32) (I : wI) : Prop := okC I ∧ ¬ ((isN 5 x1 ∧ isN 5 x2) ∧ isN 5 x3)
def exc_X5_pair (x1 x2 x3 : Int32) (I : wI) (E : String) (u : wI) : Prop := frX I u ∧ ((¬ (isN 5 x1 ∧ isN 5 x2) ∧ E = wIO) ∨ ((isN 5 x1 ∧ isN 5 x2) ∧ E = wIA))
def pre_X5_count (x1 : Int32) (I : wI) : Prop := okC I ∧ isN 10 x1
def post_X5_count (x1 : Int32) (I : wI) (r : Int32) : Prop := r = aCnt (absC I) (nt x1)
def ok_X5_count (x1 : Int32) (I : wI) : Prop := isN 10 x1
def pre_X5_countx (x1 : Int32) (I : wI) : Prop := okC I ∧ ¬ isN 10 x1
def exc_X5_count (x1 : Int32) (I : wI) (E : String) : Prop := E = wIA
def pre_X5_ifTurned (x1 x2 : Int32) (I : wI) : Prop := okC I ∧ isN 5 x1 ∧ isN 2 x2
def post_X5_ifTurned (x1 x2 : Int32) (I : wI) (r : Int32) (I' : wI) : Prop := r = nI (aIf (rowC 1 I) (5 * nt x2 + nt x1)) ∧ frX I I'
def ok_X5_ifTurned (x1 x2 : Int32) (I : wI) : Prop := isN 5 x1 ∧ isN 2 x2
def pre_X5_ifTurnedx (x1 x2 : Int32) (I : wI) : Prop := okC I ∧ ¬ (isN 5 x1 ∧ isN 2 x2)
def exc_X5_ifTurned (x1 x2 : Int32) (I : wI) (E : String) (u : wI) : Prop := frX I u ∧ ((¬ isN 5 x1 ∧ E = wIO) ∨ (isN 5 x1 ∧ E = wIA))
def pre_X5_closest (I : wI) : Prop := okC I
def post_X5_closest (I : wI) (r : Int32) (I' : wI) : Prop := r = aCl (rowC 1 I) ∧ frX I I'
