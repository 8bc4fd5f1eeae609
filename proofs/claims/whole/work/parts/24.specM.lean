/-! ===== the model: its row of 49, and all that it keeps ===== -/
def rowX (c o : Nat) (I : wI) : Nat → Int32 := fun j => if j < 49 then I c (o + j) else 0
def rowM (I : wI) : Nat → Int32 := fun j => if j < 49 then I 112 j else 0
def absM (I : wI) : Nat → Nat → Int32 := fun c =>
  if c = 0 then rowM I else if c = 1 then (if I 111 6 = 0 then zRow else rowX 115 0 I)
  else if c = 2 then (fun j => if j = 0 then I 111 6 else if j = 1 then I 111 4 else if j = 2 then I 111 8 else 0)
  else if c = 3 then (fun j => if j < nt (I 111 8) then I 116 j else 0)
  else if c - 4 < nt (I 111 4) then rowX 114 (49 * (c - 4)) I else zRow
def okM (I : wI) : Prop :=
  okR (rowM I) ∧ (I 111 6 = 0 ∨ I 111 6 = 1 ∧ okR (rowX 115 0 I)) ∧ (∃ s, s ≤ 6 ∧ I 111 4 = nI s ∧ ∀ i, i < s → okR (rowX 114 (49 * i) I)) ∧
  (∃ L, L ≤ 60 ∧ I 111 8 = nI L ∧ ∀ j, j < L → ∃ c, 33 ≤ c ∧ c ≤ 126 ∧ I 116 j = nI c)
def frM (I I' : wI) : Prop := ∀ c, c < 111 ∨ 123 < c → I' c = I c
/-- nothing that the model keeps changes -/
def frS (I I' : wI) : Prop := (∀ c, c < 111 ∨ c = 112 ∨ c = 114 ∨ c = 115 ∨ c = 116 ∨ 123 < c → I' c = I c) ∧ I' 111 4 = I 111 4 ∧ I' 111 6 = I 111 6 ∧ I' 111 8 = I 111 8
def okQ (I I' : wI) (A : Nat → Nat → Int32) : Prop := absM I' = A ∧ okM I' ∧ frM I I'
def aFst (a : Nat → Int32) : Nat → Int32 := fun j => if j < 6 then nI j else if j < 12 then 0 else a j
def fKr (a : Nat → Int32) (x : Int32) : Prop := isN 5 x ∧ aStk a (nt x) = false
def pre_X6_thrown (I : wI) : Prop := True
def post_X6_thrown (I : wI) (r : Int32) : Prop := r = I 111 0
def pre_X6_in (x0 x1 x2 : Int32) (I : wI) : Prop := True
def post_X6_in (x0 x1 x2 : Int32) (I : wI) (r : Int32) : Prop := (x1 ≤ x0 ∧ x0 ≤ x2) ∧ r = 1 ∨ ¬ (x1 ≤ x0 ∧ x0 ≤ x2) ∧ r = 0
def pre_X6_isKey (x0 : Int32) (I : wI) : Prop := True
def post_X6_isKey (x0 : Int32) (I : wI) (r : Int32) : Prop := isN 5 x0 ∧ r = 1 ∨ ¬ isN 5 x0 ∧ r = 0
def pre_X6_isPlace (x0 : Int32) (I : wI) : Prop := True
def post_X6_isPlace (x0 : Int32) (I : wI) (r : Int32) : Prop := isN 6 x0 ∧ r = 1 ∨ ¬ isN 6 x0 ∧ r = 0
def okMk (a : Nat → Int32) : Prop := ∀ c, c < 5 → a (18 + c) = nI (aM a c) ∧ aM a c < 64
def pre_X6_has (x1 x2 : Int32) (I : wI) : Prop := okMk (rowM I) ∧ isN 5 x1 ∧ isN 6 x2
def post_X6_has (x1 x2 : Int32) (I : wI) (r : Int32) : Prop := r = nI (tb (aM (rowM I) (nt x1)) (nt x2))
def pre_X6_ones (x0 : Int32) (I : wI) : Prop := isN 64 x0
def post_X6_ones (x0 : Int32) (I : wI) (r : Int32) : Prop := r = nI (pc6 (nt x0))
def pre_X6_record (I : wI) : Prop := okM I
def post_X6_record (I I' : wI) : Prop := absM I' = aSv (absM I) ∧ okM I' ∧ (∀ c, c ≠ 111 → c ≠ 114 → I' c = I c) ∧ ∀ j, j ≠ 4 → I' 111 j = I 111 j
def pre_X6_undo (I : wI) : Prop := okM I
def post_X6_undo (I : wI) (r : Int32) (I' : wI) : Prop := (I 111 4 ≠ 0 ∧ I' 111 0 = 0 ∧ r = nI (nt (absM I 2 1) - 1) ∧ okQ I I' (aUndo (absM I))) ∨ (I 111 4 = 0 ∧ I' 111 0 = 1 ∧ frS I I')
def pre_X6_keep (I : wI) : Prop := okM I
def post_X6_keep (I : wI) (r : Int32) (I' : wI) : Prop := I' 111 0 = 0 ∧ r = rowM I 33 ∧ okQ I I' (aKeep (absM I))
def pre_X6_goBack (I : wI) : Prop := okM I
def post_X6_goBack (I : wI) (r : Int32) (I' : wI) : Prop := (I 111 6 = 1 ∧ I' 111 0 = 0 ∧ r = absM I 1 33 ∧ okQ I I' (aNow (aSv (absM I)) (absM I 1))) ∨ (¬ I 111 6 = 1 ∧ I' 111 0 = 1 ∧ frS I I')
def pre_X6_putAside (I : wI) : Prop := True
def post_X6_putAside (I I' : wI) : Prop := (∀ j, j < 49 → I' 113 j = I 112 j) ∧ ∀ c, c ≠ 113 → I' c = I c
def pre_X6_putBack (I : wI) : Prop := True
def post_X6_putBack (I I' : wI) : Prop := (∀ j, j < 49 → I' 112 j = I 113 j) ∧ (∀ j, 49 ≤ j → I' 112 j = I 112 j) ∧ ∀ c, c ≠ 112 → I' c = I c
/-- the row changes, and nothing beyond it -/
def fr1 (I I' : wI) : Prop := (∀ c, c ≠ 112 → c ≠ 117 → I' c = I c) ∧ ∀ j, 49 ≤ j → I' 112 j = I 112 j
def pre_X6_toFirst (I : wI) : Prop := True
def post_X6_toFirst (I I' : wI) : Prop := rowM I' = aFst (rowM I) ∧ fr1 I I'
def pre_X6_next (x1 x2 : Int32) (I : wI) : Prop := okMk (rowM I) ∧ isN 5 x1 ∧ isN 6 x2 ∧ tb (aM (rowM I) (nt x1)) (nt x2) = 1
def post_X6_next (x1 x2 : Int32) (I : wI) (r : Int32) : Prop := r = nI (nxp (aM (rowM I) (nt x1)) (nt x2))
def pre_X6_doTurn (x1 : Int32) (I : wI) : Prop := okR (rowM I) ∧ isN 10 x1
def post_X6_doTurn (x1 : Int32) (I I' : wI) : Prop := rowM I' = aTr (rowM I) (nt x1) ∧ fr1 I I'
def pre_X6_isStuck (x1 : Int32) (I : wI) : Prop := okR (rowM I) ∧ isN 5 x1
def post_X6_isStuck (x1 : Int32) (I : wI) (r : Int32) : Prop := r = if aStk (rowM I) (nt x1) then 1 else 0
def aIR (a : Nat → Int32) (p : Nat) : Prop := a 36 = 1 ∧ a p = a (37 + p) ∧ a (6 + p) = a (43 + p)
def pre_X6_isRight (x1 : Int32) (I : wI) : Prop := isN 6 x1
def post_X6_isRight (x1 : Int32) (I : wI) (r : Int32) : Prop := aIR (rowM I) (nt x1) ∧ r = 1 ∨ ¬ aIR (rowM I) (nt x1) ∧ r = 0
def pre_X6_right (I : wI) : Prop := okR (rowM I)
def post_X6_right (I : wI) (r : Int32) : Prop := r = nI (aRt (rowM I))
def pre_X6_opens (I : wI) : Prop := okR (rowM I)
def post_X6_opens (I : wI) (r : Int32) : Prop := r = if aRt (rowM I) = 6 then 1 else 0
def pre_X6_countTurn (x1 : Int32) (I : wI) : Prop := okR (rowM I) ∧ isN 10 x1
def post_X6_countTurn (x1 : Int32) (I I' : wI) : Prop := rowM I' = aMv (rowM I) (nt x1) ∧ fr1 I I'
def bkOf (x1 x2 : Int32) : Prop := x2 = x1 ∨ x2 = 5 + x1
def pre_X6_turnNow (x1 x2 : Int32) (I : wI) : Prop := okM I ∧ bkOf x1 x2
def mThrow (I I' : wI) (k : Int32) : Prop := I' 111 0 = k ∧ frS I I'
def post_X6_turnNow (x1 x2 : Int32) (I : wI) (r : Int32) (I' : wI) : Prop :=
  (fKr (rowM I) x1 ∧ I' 111 0 = 0 ∧ r = nI (aRt (aMv (rowM I) (nt x2))) ∧ okQ I I' (aNow (aSv (absM I)) (aMv (rowM I) (nt x2)))) ∨ (¬ isN 5 x1 ∧ mThrow I I' 1) ∨ (isN 5 x1 ∧ ¬ fKr (rowM I) x1 ∧ mThrow I I' 2)
def pre_X6_turn (x1 : Int32) (I : wI) : Prop := okM I
def post_X6_turn (x1 : Int32) (I : wI) (r : Int32) (I' : wI) : Prop :=
  (fKr (rowM I) x1 ∧ I' 111 0 = 0 ∧ r = nI (aRt (aMv (rowM I) (nt x1))) ∧ okQ I I' (aNow (aSv (absM I)) (aMv (rowM I) (nt x1)))) ∨ (¬ isN 5 x1 ∧ mThrow I I' 1) ∨ (isN 5 x1 ∧ ¬ fKr (rowM I) x1 ∧ mThrow I I' 2)
def pre_X6_back (x1 : Int32) (I : wI) : Prop := okM I
def post_X6_back (x1 : Int32) (I : wI) (r : Int32) (I' : wI) : Prop :=
  (fKr (rowM I) x1 ∧ I' 111 0 = 0 ∧ r = nI (aRt (aMv (rowM I) (5 + nt x1))) ∧ okQ I I' (aNow (aSv (absM I)) (aMv (rowM I) (5 + nt x1)))) ∨ (¬ isN 5 x1 ∧ mThrow I I' 1) ∨ (isN 5 x1 ∧ ¬ fKr (rowM I) x1 ∧ mThrow I I' 2)
def pre_X6_away (I : wI) : Prop := okR (rowM I)
def post_X6_away (I : wI) (r : Int32) : Prop := r = nI (pc6 (aRc (rowM I)))
def pre_X6_home (I : wI) : Prop := okM I
def post_X6_home (I : wI) (r : Int32) (I' : wI) : Prop := I' 111 0 = 0 ∧ r = nI (pc6 (aRc (rowM I))) ∧ okQ I I' (aNow (aSv (absM I)) (aHome (rowM I)))
def pre_X6_cut (x1 x2 x3 : Int32) (I : wI) : Prop := okM I
def post_X6_cut (x1 x2 x3 : Int32) (I : wI) (r : Int32) (I' : wI) : Prop :=
  ((isN 5 x1 ∧ okCut x2 x3) ∧ I' 111 0 = 0 ∧ r = rowM I (18 + nt x1) ∧ okQ I I' (aNow (aSv (absM I)) (aCut (rowM I) (nt x1) x2 x3))) ∨ (¬ isN 5 x1 ∧ mThrow I I' 1) ∨ (isN 5 x1 ∧ ¬ okCut x2 x3 ∧ mThrow I I' 2)
def pre_X6_stuckKeys (I : wI) : Prop := okR (rowM I)
def post_X6_stuckKeys (I : wI) (r : Int32) : Prop := r = nI (aSK (rowM I))
def pre_X6_stick (x1 : Int32) (I : wI) : Prop := okM I
def post_X6_stick (x1 : Int32) (I : wI) (r : Int32) (I' : wI) : Prop :=
  (isN 6 x1 ∧ I' 111 0 = 0 ∧ r = nI (aSK (aStick (rowM I) (nt x1))) ∧ okQ I I' (aNow (aSv (absM I)) (aStick (rowM I) (nt x1)))) ∨ (¬ isN 6 x1 ∧ mThrow I I' 1)
def pre_X6_notches (I : wI) : Prop := okR (rowM I)
def post_X6_notches (I : wI) (r : Int32) : Prop := r = nI (aNS (rowM I))
def pre_X6_learn (I : wI) : Prop := okM I
def post_X6_learn (I : wI) (r : Int32) (I' : wI) : Prop := I' 111 0 = 0 ∧ r = nI (aNS (rowM I)) ∧ okQ I I' (aNow (aSv (absM I)) (aLearn (rowM I)))
def pre_X6_append (x1 : Int32) (I : wI) : Prop := okM I
def post_X6_append (x1 : Int32) (I : wI) (r : Int32) (I' : wI) : Prop :=
  ((isCd x1 ∧ nt (I 111 8) < 60) ∧ I' 111 0 = 0 ∧ r = nI (nt (absM I 2 2) + 1) ∧ okQ I I' (aApp (absM I) x1)) ∨ (¬ isCd x1 ∧ mThrow I I' 1) ∨ (isCd x1 ∧ ¬ nt (I 111 8) < 60 ∧ mThrow I I' 2)
def pre_X6_clearBuffer (I : wI) : Prop := okM I
def post_X6_clearBuffer (I : wI) (r : Int32) (I' : wI) : Prop := I' 111 0 = 0 ∧ r = absM I 2 2 ∧ okQ I I' (aLen (absM I) 0)
/-! looks -/
def pre_X6_keysAt (x1 : Int32) (I : wI) : Prop := okR (rowM I) ∧ isN 6 x1
def post_X6_keysAt (x1 : Int32) (I : wI) (r : Int32) : Prop := r = nI (aKA (rowM I) (nt x1))
def pre_X6_atNow (x1 x2 : Int32) (I : wI) : Prop := okR (rowM I) ∧ isN 6 x1 ∧ isN 5 x2
def post_X6_atNow (x1 x2 : Int32) (I : wI) (r : Int32) : Prop := r = aAt (rowM I) (nt x1) (nt x2)
def pre_X6_at (x1 x2 : Int32) (I : wI) : Prop := okM I
def post_X6_at (x1 x2 : Int32) (I : wI) (r : Int32) (I' : wI) : Prop :=
  ((isN 6 x1 ∧ isN 5 x2) ∧ mThrow I I' 0 ∧ r = aAt (rowM I) (nt x1) (nt x2)) ∨ (¬ isN 6 x1 ∧ mThrow I I' 1) ∨ (isN 6 x1 ∧ ¬ isN 5 x2 ∧ mThrow I I' 2)
def pre_X6_reach (I : wI) : Prop := okR (rowM I)
def post_X6_reach (I : wI) (r : Int32) : Prop := r = nI (aRc (rowM I))
def pre_X6_common (x0 x1 : Int32) (I : wI) : Prop := isN 1000000 x0 ∧ isN 1000000 x1
def post_X6_common (x0 x1 : Int32) (I : wI) (r : Int32) : Prop := r = nI (Nat.gcd (nt x0) (nt x1))
def pre_X6_period (I : wI) : Prop := okR (rowM I)
def post_X6_period (I : wI) (r : Int32) : Prop := r = nI (perF (aD (rowM I)) (aN (rowM I)))
/-- as frS, and what has been thrown is kept -/
def frT (I I' : wI) : Prop := frS I I' ∧ I' 111 0 = I 111 0
def pre_X6_keyPeriod (x1 : Int32) (I : wI) : Prop := okR (rowM I) ∧ isN 5 x1
def post_X6_keyPeriod (x1 : Int32) (I : wI) (r : Int32) (I' : wI) : Prop := r = nI (perF (wD (rowM I) [nt x1] idF) (wN (rowM I) [nt x1] zF)) ∧ frT I I'
def pre_X6_keyNow (x1 x2 : Int32) (I : wI) : Prop := okR (rowM I) ∧ isN 5 x1 ∧ isN 6 x2
def post_X6_keyNow (x1 x2 : Int32) (I : wI) (r : Int32) (I' : wI) : Prop := r = aKey (rowM I) (nt x1) (nt x2) ∧ frT I I'
def pre_X6_key (x1 x2 : Int32) (I : wI) : Prop := okM I
def post_X6_key (x1 x2 : Int32) (I : wI) (r : Int32) (I' : wI) : Prop :=
  ((isN 5 x1 ∧ isN 6 x2) ∧ mThrow I I' 0 ∧ r = aKey (rowM I) (nt x1) (nt x2)) ∨ (¬ isN 5 x1 ∧ mThrow I I' 1) ∨ (isN 5 x1 ∧ ¬ isN 6 x2 ∧ mThrow I I' 2)
def pre_X6_pairNow (x1 x2 x3 : Int32) (I : wI) : Prop := okR (rowM I) ∧ (isN 5 x1 ∧ isN 5 x2) ∧ isN 5 x3
def post_X6_pairNow (x1 x2 x3 : Int32) (I : wI) (r : Int32) (I' : wI) : Prop := r = aOf (rowM I) (prL (nt x1) (nt x2)) (nt x3) ∧ frT I I'
def pre_X6_pair (x1 x2 x3 : Int32) (I : wI) : Prop := okM I
def post_X6_pair (x1 x2 x3 : Int32) (I : wI) (r : Int32) (I' : wI) : Prop :=
  (((isN 5 x1 ∧ isN 5 x2) ∧ isN 5 x3) ∧ mThrow I I' 0 ∧ r = aOf (rowM I) (prL (nt x1) (nt x2)) (nt x3)) ∨ (¬ (isN 5 x1 ∧ isN 5 x2) ∧ mThrow I I' 1) ∨ ((isN 5 x1 ∧ isN 5 x2) ∧ ¬ isN 5 x3 ∧ mThrow I I' 2)
def pre_X6_stuckPlaces (I : wI) : Prop := okR (rowM I)
def post_X6_stuckPlaces (I : wI) (r : Int32) : Prop := r = nI (sm (fun p => nt (rowM I (12 + p))) 6)
def pre_X6_countNow (x1 : Int32) (I : wI) : Prop := okM I ∧ isN 10 x1
def post_X6_countNow (x1 : Int32) (I : wI) (r : Int32) : Prop := r = aCnt (absM I) (nt x1)
def pre_X6_count (x1 : Int32) (I : wI) : Prop := okM I
def post_X6_count (x1 : Int32) (I : wI) (r : Int32) (I' : wI) : Prop := (isN 10 x1 ∧ mThrow I I' 0 ∧ r = aCnt (absM I) (nt x1)) ∨ (¬ isN 10 x1 ∧ mThrow I I' 1)
def pre_X6_rightIf (x1 x2 : Int32) (I : wI) : Prop := okR (rowM I) ∧ isN 5 x1 ∧ isN 2 x2
def post_X6_rightIf (x1 x2 : Int32) (I : wI) (r : Int32) (I' : wI) : Prop := r = nI (aIf (rowM I) (5 * nt x2 + nt x1)) ∧ frT I I'
def pre_X6_ifTurned (x1 x2 : Int32) (I : wI) : Prop := okM I
def post_X6_ifTurned (x1 x2 : Int32) (I : wI) (r : Int32) (I' : wI) : Prop :=
  ((isN 5 x1 ∧ isN 2 x2) ∧ mThrow I I' 0 ∧ r = nI (aIf (rowM I) (5 * nt x2 + nt x1))) ∨ (¬ isN 5 x1 ∧ mThrow I I' 1) ∨ (isN 5 x1 ∧ ¬ isN 2 x2 ∧ mThrow I I' 2)
def pre_X6_findClosest (I : wI) : Prop := okR (rowM I)
def post_X6_findClosest (I : wI) (r : Int32) (I' : wI) : Prop := r = aCl (rowM I) ∧ frT I I'
def pre_X6_closest (I : wI) : Prop := okM I
def post_X6_closest (I : wI) (r : Int32) (I' : wI) : Prop := r = aCl (rowM I) ∧ mThrow I I' 0
