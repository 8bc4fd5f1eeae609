/-! ===== the model's text: its open brackets are popped at ')' already; its kinds are more by one ===== -/
def mOp (s : TS) : Nat := if tF s then tO s - 1 else tO s
def mRel (I : wI) (s : TS) : Prop := I 111 18 = nI (mOp s) ∧ I 111 19 = (if tH s then 1 else 0) ∧ I 111 20 = (if tF s then 1 else 0) ∧ ∀ i, i < mOp s → I 119 i = nI (tK s i + 1)
/-- only the syntax's fields and kinds change -/
def mfr (I I' : wI) : Prop := (∀ c, c ≠ 111 → c ≠ 119 → I' c = I c) ∧ ∀ j, j ≠ 18 → j ≠ 19 → j ≠ 20 → I' 111 j = I 111 j
def tFo (s : TS) : Prop := tF s = true → tO s ≠ 0
def mAns (r : Int32) (I' : wI) (o : Option TS) : Prop := match o with
  | none => r = 0
  | some s' => r = 1 ∧ mRel I' s'
def pre_X6_takeSign (x1 : Int32) (I : wI) : Prop := isCd x1 ∧ ∃ s n, n < 60 ∧ mRel I s ∧ tOk s n ∧ tFo s
def post_X6_takeSign (x1 : Int32) (I : wI) (r : Int32) (I' : wI) : Prop := (∀ s n, n < 60 → mRel I s → tOk s n → tFo s → mAns r I' (tStep s (nt x1))) ∧ mfr I I'
def pre_X6_findError (I : wI) : Prop := okM I
def post_X6_findError (I : wI) (r : Int32) (I' : wI) : Prop := r = nI (aErr (absM I)) ∧ (aErr (absM I) = nt (absM I 2 2) → mRel I' (tRes (absM I)).2) ∧ mfr I I'
def pre_X6_isWhole (I : wI) : Prop := okM I
def post_X6_isWhole (I : wI) (r : Int32) (I' : wI) : Prop := (aWhole (absM I) ∧ r = 1 ∨ ¬ aWhole (absM I) ∧ r = 0) ∧ mfr I I'
def pre_X6_firstError (I : wI) : Prop := okM I
def post_X6_firstError (I : wI) (r : Int32) (I' : wI) : Prop := r = nI (aErr (absM I)) ∧ mThrow I I' 0
