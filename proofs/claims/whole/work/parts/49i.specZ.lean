/-! ===== the model's words: what its row of turns shows, as far as 501 ===== -/
def mwR (I : wI) (T : List Nat) : Prop := I 111 11 = nI (T.take 501).length ∧ (∀ i, i < T.length → i < 500 → I 118 i = nI (T.getD i 0)) ∧ I 111 12 = ssU T (T.take 501).length
def mwf (I I' : wI) : Prop := (∀ c, c ≠ 111 → c ≠ 118 → I' c = I c) ∧ ∀ j, j ≠ 11 → j ≠ 12 → I' 111 j = I 111 j
def slM (I : wI) (a b : Nat) : List Nat := (List.range (b - a)).map (fun j => nt (I 118 (a + j)))
def pre_X6_addTurn (x1 : Int32) (I : wI) : Prop := isN 10 x1 ∧ isN 501 (I 111 11)
def post_X6_addTurn (x1 : Int32) (I I' : wI) : Prop := I' = wU (wU (if nt (I 111 11) < 500 then wU I 118 (nt (I 111 11)) x1 else I) 111 11 (nI (nt (I 111 11) + 1))) 111 12 (I 111 12 + (if nt x1 < 5 then 1 else -1))
def pre_X6_addAgain (x1 x2 x3 : Int32) (I : wI) : Prop := (∃ n a b, n ≤ 501 ∧ I 111 11 = nI n ∧ x1 = nI a ∧ x2 = nI b ∧ a ≤ b ∧ b ≤ 500 ∧ b ≤ n ∧ ∀ i, i < b → isN 10 (I 118 i)) ∧ (x3 = 0 ∨ x3 = 1)
def post_X6_addAgain (x1 x2 x3 : Int32) (I I' : wI) : Prop := (∀ T, mwR I T → mwR I' (T ++ (if x3 = 0 then slM I (nt x1) (nt x2) else opp (slM I (nt x1) (nt x2))))) ∧ mwf I I'
def rwf (I I' : wI) : Prop := (∀ c, c ≠ 111 → c ≠ 118 → c ≠ 120 → c ≠ 121 → I' c = I c) ∧ ∀ j, j ≠ 11 → j ≠ 12 → j ≠ 18 → I' 111 j = I 111 j
def pre_X6_readWord (I : wI) : Prop := okM I ∧ aWhole (absM I)
def post_X6_readWord (I : wI) (r : Int32) (I' : wI) : Prop := rwf I I' ∧ (((aWord (absM I)).length ≤ 500 ∧ r = nI (aWord (absM I)).length ∧ mwR I' (aWord (absM I))) ∨ (500 < (aWord (absM I)).length ∧ r = 501))
def cwf (I I' : wI) : Prop := (∀ c, c ≠ 111 → c ≠ 122 → c ≠ 123 → I' c = I c) ∧ ∀ j, j ≠ 18 → I' 111 j = I 111 j
def pre_X6_countTurns (I : wI) : Prop := okM I ∧ aWhole (absM I)
def post_X6_countTurns (I : wI) (r : Int32) (I' : wI) : Prop := r = nI (if (aWord (absM I)).length ≤ 9999 then (aWord (absM I)).length else 9999) ∧ cwf I I'
def pre_X6_word (I : wI) : Prop := okM I
def post_X6_word (I : wI) (r : Int32) (I' : wI) : Prop :=
  (fW (absM I) ∧ I' 111 0 = 0 ∧ r = nI (dwN (rowM I) (aWord (absM I))) ∧ okQ I I' (aLen (aNow (aSv (absM I)) (dwR (rowM I) (aWord (absM I)))) 0)) ∨ (¬ aWhole (absM I) ∧ mThrow I I' 1) ∨ (aWhole (absM I) ∧ ¬ fW (absM I) ∧ mThrow I I' 2)
def pre_X6_wordNow (x1 : Int32) (I : wI) : Prop := okM I ∧ aWhole (absM I) ∧ isN 5 x1
def post_X6_wordNow (x1 : Int32) (I : wI) (r : Int32) (I' : wI) : Prop := r = aOW (absM I) (nt x1) ∧ frT I I'
def pre_X6_ofWord (x1 : Int32) (I : wI) : Prop := okM I
def post_X6_ofWord (x1 : Int32) (I : wI) (r : Int32) (I' : wI) : Prop := ((isN 5 x1 ∧ aWhole (absM I)) ∧ mThrow I I' 0 ∧ r = aOW (absM I) (nt x1)) ∨ (¬ (isN 5 x1 ∧ aWhole (absM I)) ∧ mThrow I I' 1)
