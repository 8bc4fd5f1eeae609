/-! ===== the law's calls that may throw ===== -/
def pre_L_turn (x1 : Int32) (I : wI) : Prop := okC I
def post_L_turn (x1 : Int32) (I : wI) (r : Int32) (I' : wI) : Prop := ((ok_X5_turn x1 I) ∧ post_X5_turn x1 I r I') ∨ (¬ (ok_X5_turn x1 I) ∧ ∃ E : String, exc_X5_turn x1 I E I' ∧ ((E = wIO ∧ r = -31) ∨ (E = wIS ∧ r = -33)))
def pre_L_back (x1 : Int32) (I : wI) : Prop := okC I
def post_L_back (x1 : Int32) (I : wI) (r : Int32) (I' : wI) : Prop := ((ok_X5_back x1 I) ∧ post_X5_back x1 I r I') ∨ (¬ (ok_X5_back x1 I) ∧ ∃ E : String, exc_X5_back x1 I E I' ∧ ((E = wIO ∧ r = -31) ∨ (E = wIS ∧ r = -33)))
def pre_L_cut (x1 : Int32) (x2 : Int32) (x3 : Int32) (I : wI) : Prop := okC I
def post_L_cut (x1 : Int32) (x2 : Int32) (x3 : Int32) (I : wI) (r : Int32) (I' : wI) : Prop := ((ok_X5_cut x1 x2 x3 I) ∧ post_X5_cut x1 x2 x3 I r I') ∨ (¬ (ok_X5_cut x1 x2 x3 I) ∧ ∃ E : String, exc_X5_cut x1 x2 x3 I E I' ∧ ((E = wIO ∧ r = -31) ∨ (E = wIA ∧ r = -32)))
def pre_L_stick (x1 : Int32) (I : wI) : Prop := okC I
def post_L_stick (x1 : Int32) (I : wI) (r : Int32) (I' : wI) : Prop := ((ok_X5_stick x1 I) ∧ post_X5_stick x1 I r I') ∨ (¬ (ok_X5_stick x1 I) ∧ ∃ E : String, exc_X5_stick x1 I E I' ∧ ((E = wIO ∧ r = -31)))
def pre_L_undo  (I : wI) : Prop := okC I
def post_L_undo  (I : wI) (r : Int32) (I' : wI) : Prop := ((ok_X5_undo  I) ∧ post_X5_undo  I r I') ∨ (¬ (ok_X5_undo  I) ∧ ∃ E : String, exc_X5_undo  I E I' ∧ ((E = wIS ∧ r = -33)))
def pre_L_goBack  (I : wI) : Prop := okC I
def post_L_goBack  (I : wI) (r : Int32) (I' : wI) : Prop := ((ok_X5_goBack  I) ∧ post_X5_goBack  I r I') ∨ (¬ (ok_X5_goBack  I) ∧ ∃ E : String, exc_X5_goBack  I E I' ∧ ((E = wIS ∧ r = -33)))
def pre_L_at (x1 : Int32) (x2 : Int32) (I : wI) : Prop := okC I
def post_L_at (x1 : Int32) (x2 : Int32) (I : wI) (r : Int32) : Prop := ((ok_X5_at x1 x2 I) ∧ post_X5_at x1 x2 I r) ∨ (¬ (ok_X5_at x1 x2 I) ∧ ∃ E : String, exc_X5_at x1 x2 I E ∧ ((E = wIO ∧ r = -31) ∨ (E = wIA ∧ r = -32)))
def pre_L_key (x1 : Int32) (x2 : Int32) (I : wI) : Prop := okC I
def post_L_key (x1 : Int32) (x2 : Int32) (I : wI) (r : Int32) (I' : wI) : Prop := ((ok_X5_key x1 x2 I) ∧ post_X5_key x1 x2 I r I') ∨ (¬ (ok_X5_key x1 x2 I) ∧ ∃ E : String, exc_X5_key x1 x2 I E I' ∧ ((E = wIO ∧ r = -31) ∨ (E = wIA ∧ r = -32)))
def pre_L_pair (x1 : Int32) (x2 : Int32) (x3 : Int32) (I : wI) : Prop := okC I
def post_L_pair (x1 : Int32) (x2 : Int32) (x3 : Int32) (I : wI) (r : Int32) (I' : wI) : Prop := ((ok_X5_pair x1 x2 x3 I) ∧ post_X5_pair x1 x2 x3 I r I') ∨ (¬ (ok_X5_pair x1 x2 x3 I) ∧ ∃ E : String, exc_X5_pair x1 x2 x3 I E I' ∧ ((E = wIO ∧ r = -31) ∨ (E = wIA ∧ r = -32)))
def pre_L_count (x1 : Int32) (I : wI) : Prop := okC I
def post_L_count (x1 : Int32) (I : wI) (r : Int32) : Prop := ((ok_X5_count x1 I) ∧ post_X5_count x1 I r) ∨ (¬ (ok_X5_count x1 I) ∧ ∃ E : String, exc_X5_count x1 I E ∧ ((E = wIA ∧ r = -32)))
def pre_L_openIn (x1 : Int32) (I : wI) : Prop := okC I
def post_L_openIn (x1 : Int32) (I : wI) (r : Int32) (I' : wI) : Prop := ((ok_X5_openIn x1 I) ∧ post_X5_openIn x1 I r I') ∨ (¬ (ok_X5_openIn x1 I) ∧ ∃ E : String, exc_X5_openIn x1 I E I' ∧ ((E = wIA ∧ r = -32)))
def pre_L_ifTurned (x1 : Int32) (x2 : Int32) (I : wI) : Prop := okC I
def post_L_ifTurned (x1 : Int32) (x2 : Int32) (I : wI) (r : Int32) (I' : wI) : Prop := ((ok_X5_ifTurned x1 x2 I) ∧ post_X5_ifTurned x1 x2 I r I') ∨ (¬ (ok_X5_ifTurned x1 x2 I) ∧ ∃ E : String, exc_X5_ifTurned x1 x2 I E I' ∧ ((E = wIO ∧ r = -31) ∨ (E = wIA ∧ r = -32)))
