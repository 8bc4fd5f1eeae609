/-! ===== words done, and told of ===== -/
def dwR (a : Nat → Int32) : List Nat → Nat → Int32
  | [] => a
  | v :: l => if aStk a (v % 5) then a else dwR (aMv a v) l
def dwN (a : Nat → Int32) : List Nat → Nat
  | [] => 0
  | v :: l => if aStk a (v % 5) then 0 else dwN (aMv a v) l + 1
/-- turns less turns back, of the first i -/
def ssU (W : List Nat) : Nat → Int32
  | 0 => 0
  | i + 1 => ssU W i + (if W.getD i 0 < 5 then 1 else -1)
def aOfW (a : Nat → Int32) (W : List Nat) (w : Nat) : Int32 :=
  if w = 4 then ssU W W.length else if w = 1 then nI (rcF (wD a W idF) (wN a W zF)) else nI (perF (wD a W idF) (wN a W zF))
def aOW (A : Nat → Nat → Int32) (w : Nat) : Int32 :=
  if w = 0 then nI (if (aWord A).length ≤ 9999 then (aWord A).length else 9999) else if 500 < (aWord A).length then -1 else aOfW (A 0) (aWord A) w
/-- a word of the buffer that is kept whole -/
def shW (I : wI) (W : List Nat) : Prop := lrel I W ∧ W.length ≤ 500 ∧ ∀ v, v ∈ W → v < 10
def fW (A : Nat → Nat → Int32) : Prop := aWhole A ∧ (aWord A).length ≤ 500
def pre_X4_turnsLessBacks (k : Nat) (I : wI) : Prop := k = 24 ∧ ∃ W, shW I W
def post_X4_turnsLessBacks (k : Nat) (I : wI) (r : Int32) : Prop := ∀ W, shW I W → r = ssU W W.length
def pre_X5_showWord (I : wI) : Prop := okC I ∧ ∃ W, shW I W
def post_X5_showWord (I I' : wI) : Prop := (∀ W, shW I W → ef I' 30 (wD (rowC 1 I) W idF) (wN (rowC 1 I) W zF)) ∧ fr2 I I' 31 32
def pre_X5_ofShortWord (x1 : Int32) (I : wI) : Prop := okC I ∧ (∃ W, shW I W) ∧ ∃ w, 1 ≤ w ∧ w ≤ 4 ∧ x1 = nI w
def post_X5_ofShortWord (x1 : Int32) (I : wI) (r : Int32) (I' : wI) : Prop := (∀ W, shW I W → r = aOfW (rowC 1 I) W (nt x1)) ∧ frX I I'
def pre_X5_ofWord (x1 : Int32) (I : wI) : Prop := okC I ∧ isN 5 x1 ∧ aWhole (absC I)
def post_X5_ofWord (x1 : Int32) (I : wI) (r : Int32) (I' : wI) : Prop := r = aOW (absC I) (nt x1) ∧ frX I I'
def ok_X5_ofWord (x1 : Int32) (I : wI) : Prop := isN 5 x1 ∧ aWhole (absC I)
def pre_X5_ofWordx (x1 : Int32) (I : wI) : Prop := okC I ∧ ¬ (isN 5 x1 ∧ aWhole (absC I))
def exc_X5_ofWord (x1 : Int32) (I : wI) (E : String) (u : wI) : Prop := frX I u ∧ E = wIA
def pre_X5_word (I : wI) : Prop := okC I ∧ fW (absC I)
def post_X5_word (I : wI) (r : Int32) (I' : wI) : Prop := r = nI (dwN (rowC 1 I) (aWord (absC I))) ∧ okP I I' (aLen (aNow (aSv (absC I)) (dwR (rowC 1 I) (aWord (absC I)))) 0)
def ok_X5_word (I : wI) : Prop := fW (absC I)
def pre_X5_wordx (I : wI) : Prop := okC I ∧ ¬ fW (absC I)
def exc_X5_word (I : wI) (E : String) (u : wI) : Prop := frX I u ∧ ((¬ aWhole (absC I) ∧ E = wIA) ∨ (aWhole (absC I) ∧ E = wIS))
