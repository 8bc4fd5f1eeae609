def pre_X5_requireKey (x0 : Int32) (I : wI) : Prop := 0 ≤ I 0 0
def post_X5_requireKey (x0 : Int32) (I : wI) : Prop := I 0 0 ≤ 0
def pre_X5_requireKeyx (x0 : Int32) (I : wI) : Prop := 0 ≤ I 0 0
def ok_X5_requireKey (x0 : Int32) (I : wI) : Prop := 0 ≤ I 0 1
def exc_X5_requireKey (x0 : Int32) (I : wI) (E : String) : Prop := 0 ≤ I 1 1
def pre_X5_moveOf (x0 : Int32) (x1 : Int32) (I : wI) : Prop := 0 ≤ I 0 0
def post_X5_moveOf (x0 : Int32) (x1 : Int32) (I : wI) (r : Int32) : Prop := I 0 0 ≤ 0
def pre_X5_keyOf (x0 : Int32) (I : wI) : Prop := 0 ≤ I 0 0
def post_X5_keyOf (x0 : Int32) (I : wI) (r : Int32) : Prop := I 0 0 ≤ 0
def pre_X1_maskOf (k : Nat) (x1 : Int32) (I : wI) : Prop := 0 ≤ I 0 0
def post_X1_maskOf (k : Nat) (x1 : Int32) (I : wI) (r : Int32) : Prop := I 0 0 ≤ 0
def pre_X3_allows (k : Nat) (x1 : Int32) (I : wI) : Prop := 0 ≤ I 0 0
def post_X3_allows (k : Nat) (x1 : Int32) (I : wI) (r : Int32) : Prop := I 0 0 ≤ 0
def pre_X5_dropOldest  (I : wI) : Prop := 0 ≤ I 0 0
def post_X5_dropOldest  (I : wI) (I' : wI) : Prop := I 0 0 ≤ 0
def pre_X0_copyFrom (k : Nat) (k1 : Nat) (I : wI) : Prop := 0 ≤ I 0 0
def post_X0_copyFrom (k : Nat) (k1 : Nat) (I : wI) (I' : wI) : Prop := I 0 0 ≤ 0
def pre_X1_copyFrom (k : Nat) (k1 : Nat) (I : wI) : Prop := 0 ≤ I 0 0
def post_X1_copyFrom (k : Nat) (k1 : Nat) (I : wI) (I' : wI) : Prop := I 0 0 ≤ 0
def pre_X3_copyFrom (k : Nat) (k1 : Nat) (I : wI) : Prop := 0 ≤ I 0 0
def post_X3_copyFrom (k : Nat) (k1 : Nat) (I : wI) (I' : wI) : Prop := I 0 0 ≤ 0
def pre_X5_writeSaved (k1 : Nat) (I : wI) : Prop := 0 ≤ I 0 0
def post_X5_writeSaved (k1 : Nat) (I : wI) (I' : wI) : Prop := I 0 0 ≤ 0
def pre_X5_save  (I : wI) : Prop := 0 ≤ I 0 0
def post_X5_save  (I : wI) (I' : wI) : Prop := I 0 0 ≤ 0
def pre_X0_agreeing (k : Nat) (k1 : Nat) (I : wI) : Prop := 0 ≤ I 0 0
def post_X0_agreeing (k : Nat) (k1 : Nat) (I : wI) (r : Int32) : Prop := I 0 0 ≤ 0
def pre_X3_asInSecret (k : Nat) (k1 : Nat) (I : wI) : Prop := 0 ≤ I 0 0
def post_X3_asInSecret (k : Nat) (k1 : Nat) (I : wI) (r : Int32) : Prop := I 0 0 ≤ 0
def pre_X3_opens (k : Nat) (I : wI) : Prop := 0 ≤ I 0 0
def post_X3_opens (k : Nat) (I : wI) (r : Int32) : Prop := I 0 0 ≤ 0
def pre_X1_strengthOf (k : Nat) (x1 : Int32) (I : wI) : Prop := 0 ≤ I 0 0
def post_X1_strengthOf (k : Nat) (x1 : Int32) (I : wI) (r : Int32) : Prop := I 0 0 ≤ 0
def pre_X5_isBack (x0 : Int32) (I : wI) : Prop := 0 ≤ I 0 0
def post_X5_isBack (x0 : Int32) (I : wI) (r : Int32) : Prop := I 0 0 ≤ 0
def pre_X0_rotate (k : Nat) (x1 : Int32) (x2 : Int32) (x3 : Int32) (I : wI) : Prop := 0 ≤ I 0 0
def post_X0_rotate (k : Nat) (x1 : Int32) (x2 : Int32) (x3 : Int32) (I : wI) (I' : wI) : Prop := I 0 0 ≤ 0
def pre_X1_move (k : Nat) (k1 : Nat) (x2 : Int32) (I : wI) : Prop := 0 ≤ I 0 0
def post_X1_move (k : Nat) (k1 : Nat) (x2 : Int32) (I : wI) (I' : wI) : Prop := I 0 0 ≤ 0
def pre_J_bitCount (x0 : Int32) (I : wI) : Prop := 0 ≤ I 0 0
def post_J_bitCount (x0 : Int32) (I : wI) (r : Int32) : Prop := I 0 0 ≤ 0
def pre_X1_notchesBy (k : Nat) (x1 : Int32) (I : wI) : Prop := 0 ≤ I 0 0
def post_X1_notchesBy (k : Nat) (x1 : Int32) (I : wI) (r : Int32) : Prop := I 0 0 ≤ 0
def pre_J_floorMod (x0 : Int32) (x1 : Int32) (I : wI) : Prop := 0 ≤ I 0 0
def post_J_floorMod (x0 : Int32) (x1 : Int32) (I : wI) (r : Int32) : Prop := I 0 0 ≤ 0
def pre_X3_doMove (k : Nat) (x1 : Int32) (I : wI) : Prop := 0 ≤ I 0 0
def post_X3_doMove (k : Nat) (x1 : Int32) (I : wI) (I' : wI) : Prop := I 0 0 ≤ 0
def pre_X5_turnOnce (x1 : Int32) (x2 : Int32) (I : wI) : Prop := 0 ≤ I 0 0
def post_X5_turnOnce (x1 : Int32) (x2 : Int32) (I : wI) (r : Int32) (I' : wI) : Prop := I 0 0 ≤ 0
def pre_X5_turnOncex (x1 : Int32) (x2 : Int32) (I : wI) : Prop := 0 ≤ I 0 0
def ok_X5_turnOnce (x1 : Int32) (x2 : Int32) (I : wI) : Prop := 0 ≤ I 0 1
def exc_X5_turnOnce (x1 : Int32) (x2 : Int32) (I : wI) (E : String) (u : wI) : Prop := 0 ≤ I 1 1
def pre_X5_turn (x1 : Int32) (I : wI) : Prop := 0 ≤ I 0 0
def post_X5_turn (x1 : Int32) (I : wI) (r : Int32) (I' : wI) : Prop := I 0 0 ≤ 0
def pre_X5_turnx (x1 : Int32) (I : wI) : Prop := 0 ≤ I 0 0
def ok_X5_turn (x1 : Int32) (I : wI) : Prop := 0 ≤ I 0 1
def exc_X5_turn (x1 : Int32) (I : wI) (E : String) (u : wI) : Prop := 0 ≤ I 1 1
def pre_X5_back (x1 : Int32) (I : wI) : Prop := 0 ≤ I 0 0
def post_X5_back (x1 : Int32) (I : wI) (r : Int32) (I' : wI) : Prop := I 0 0 ≤ 0
def pre_X5_backx (x1 : Int32) (I : wI) : Prop := 0 ≤ I 0 0
def ok_X5_back (x1 : Int32) (I : wI) : Prop := 0 ≤ I 0 1
def exc_X5_back (x1 : Int32) (I : wI) (E : String) (u : wI) : Prop := 0 ≤ I 1 1
def pre_X4_signAt (k : Nat) (x1 : Int32) (I : wI) : Prop := 0 ≤ I 0 0
def post_X4_signAt (k : Nat) (x1 : Int32) (I : wI) (r : Int32) : Prop := I 0 0 ≤ 0
def pre_X4_moveAt (k : Nat) (x1 : Int32) (I : wI) : Prop := 0 ≤ I 0 0
def post_X4_moveAt (k : Nat) (x1 : Int32) (I : wI) (r : Int32) : Prop := I 0 0 ≤ 0
def pre_X4_addMove (k : Nat) (x1 : Int32) (I : wI) : Prop := 0 ≤ I 0 0
def post_X4_addMove (k : Nat) (x1 : Int32) (I : wI) (I' : wI) : Prop := I 0 0 ≤ 0
def pre_X4_repeat (k : Nat) (x1 : Int32) (x2 : Int32) (I : wI) : Prop := 0 ≤ I 0 0
def post_X4_repeat (k : Nat) (x1 : Int32) (x2 : Int32) (I : wI) (I' : wI) : Prop := I 0 0 ≤ 0
def pre_X4_takesFigure (k : Nat) (x1 : Int32) (I : wI) : Prop := 0 ≤ I 0 0
def post_X4_takesFigure (k : Nat) (x1 : Int32) (I : wI) (r : Int32) (I' : wI) : Prop := I 0 0 ≤ 0
def pre_X4_takesMove (k : Nat) (x1 : Int32) (I : wI) : Prop := 0 ≤ I 0 0
def post_X4_takesMove (k : Nat) (x1 : Int32) (I : wI) (r : Int32) (I' : wI) : Prop := I 0 0 ≤ 0
def pre_X4_takesOpening (k : Nat) (x1 : Int32) (I : wI) : Prop := 0 ≤ I 0 0
def post_X4_takesOpening (k : Nat) (x1 : Int32) (I : wI) (r : Int32) (I' : wI) : Prop := I 0 0 ≤ 0
def pre_X5_opposite (x0 : Int32) (I : wI) : Prop := 0 ≤ I 0 0
def post_X5_opposite (x0 : Int32) (I : wI) (r : Int32) : Prop := I 0 0 ≤ 0
def pre_X4_addOpposite (k : Nat) (x1 : Int32) (x2 : Int32) (x3 : Int32) (I : wI) : Prop := 0 ≤ I 0 0
def post_X4_addOpposite (k : Nat) (x1 : Int32) (x2 : Int32) (x3 : Int32) (I : wI) (I' : wI) : Prop := I 0 0 ≤ 0
def pre_X4_takesInBracket (k : Nat) (x1 : Int32) (I : wI) : Prop := 0 ≤ I 0 0
def post_X4_takesInBracket (k : Nat) (x1 : Int32) (I : wI) (r : Int32) (I' : wI) : Prop := I 0 0 ≤ 0
def pre_X4_takes (k : Nat) (x1 : Int32) (I : wI) : Prop := 0 ≤ I 0 0
def post_X4_takes (k : Nat) (x1 : Int32) (I : wI) (r : Int32) (I' : wI) : Prop := I 0 0 ≤ 0
def pre_X4_read (k : Nat) (I : wI) : Prop := 0 ≤ I 0 0
def post_X4_read (k : Nat) (I : wI) (r : Int32) (I' : wI) : Prop := I 0 0 ≤ 0
def pre_X5_word  (I : wI) : Prop := 0 ≤ I 0 0
def post_X5_word  (I : wI) (r : Int32) (I' : wI) : Prop := I 0 0 ≤ 0
def pre_X5_wordx  (I : wI) : Prop := 0 ≤ I 0 0
def ok_X5_word  (I : wI) : Prop := 0 ≤ I 0 1
def exc_X5_word  (I : wI) (E : String) (u : wI) : Prop := 0 ≤ I 1 1
def pre_X0_reach (k : Nat) (I : wI) : Prop := 0 ≤ I 0 0
def post_X0_reach (k : Nat) (I : wI) (r : Int32) : Prop := I 0 0 ≤ 0
def pre_X0_bringHome (k : Nat) (I : wI) : Prop := 0 ≤ I 0 0
def post_X0_bringHome (k : Nat) (I : wI) (I' : wI) : Prop := I 0 0 ≤ 0
def pre_X5_home  (I : wI) : Prop := 0 ≤ I 0 0
def post_X5_home  (I : wI) (r : Int32) (I' : wI) : Prop := I 0 0 ≤ 0
def pre_X5_isKeyMask (x0 : Int32) (I : wI) : Prop := 0 ≤ I 0 0
def post_X5_isKeyMask (x0 : Int32) (I : wI) (r : Int32) : Prop := I 0 0 ≤ 0
def pre_X1_shape (k : Nat) (x1 : Int32) (x2 : Int32) (x3 : Int32) (I : wI) : Prop := 0 ≤ I 0 0
def post_X1_shape (k : Nat) (x1 : Int32) (x2 : Int32) (x3 : Int32) (I : wI) (I' : wI) : Prop := I 0 0 ≤ 0
def pre_X5_cut (x1 : Int32) (x2 : Int32) (x3 : Int32) (I : wI) : Prop := 0 ≤ I 0 0
def post_X5_cut (x1 : Int32) (x2 : Int32) (x3 : Int32) (I : wI) (r : Int32) (I' : wI) : Prop := I 0 0 ≤ 0
def pre_X5_cutx (x1 : Int32) (x2 : Int32) (x3 : Int32) (I : wI) : Prop := 0 ≤ I 0 0
def ok_X5_cut (x1 : Int32) (x2 : Int32) (x3 : Int32) (I : wI) : Prop := 0 ≤ I 0 1
def exc_X5_cut (x1 : Int32) (x2 : Int32) (x3 : Int32) (I : wI) (E : String) (u : wI) : Prop := 0 ≤ I 1 1
def pre_X5_requirePosition (x0 : Int32) (I : wI) : Prop := 0 ≤ I 0 0
def post_X5_requirePosition (x0 : Int32) (I : wI) : Prop := I 0 0 ≤ 0
def pre_X5_requirePositionx (x0 : Int32) (I : wI) : Prop := 0 ≤ I 0 0
def ok_X5_requirePosition (x0 : Int32) (I : wI) : Prop := 0 ≤ I 0 1
def exc_X5_requirePosition (x0 : Int32) (I : wI) (E : String) : Prop := 0 ≤ I 1 1
def pre_X3_stuckKeys (k : Nat) (I : wI) : Prop := 0 ≤ I 0 0
def post_X3_stuckKeys (k : Nat) (I : wI) (r : Int32) : Prop := I 0 0 ≤ 0
def pre_X5_stick (x1 : Int32) (I : wI) : Prop := 0 ≤ I 0 0
def post_X5_stick (x1 : Int32) (I : wI) (r : Int32) (I' : wI) : Prop := I 0 0 ≤ 0
def pre_X5_stickx (x1 : Int32) (I : wI) : Prop := 0 ≤ I 0 0
def ok_X5_stick (x1 : Int32) (I : wI) : Prop := 0 ≤ I 0 1
def exc_X5_stick (x1 : Int32) (I : wI) (E : String) (u : wI) : Prop := 0 ≤ I 1 1
def pre_X0_notchSum (k : Nat) (I : wI) : Prop := 0 ≤ I 0 0
def post_X0_notchSum (k : Nat) (I : wI) (r : Int32) : Prop := I 0 0 ≤ 0
def pre_X5_learn  (I : wI) : Prop := 0 ≤ I 0 0
def post_X5_learn  (I : wI) (r : Int32) (I' : wI) : Prop := I 0 0 ≤ 0
def pre_X4_addSign (k : Nat) (x1 : Int32) (I : wI) : Prop := 0 ≤ I 0 0
def post_X4_addSign (k : Nat) (x1 : Int32) (I : wI) (I' : wI) : Prop := I 0 0 ≤ 0
def pre_X5_append (x1 : Int32) (I : wI) : Prop := 0 ≤ I 0 0
def post_X5_append (x1 : Int32) (I : wI) (r : Int32) (I' : wI) : Prop := I 0 0 ≤ 0
def pre_X5_appendx (x1 : Int32) (I : wI) : Prop := 0 ≤ I 0 0
def ok_X5_append (x1 : Int32) (I : wI) : Prop := 0 ≤ I 0 1
def exc_X5_append (x1 : Int32) (I : wI) (E : String) (u : wI) : Prop := 0 ≤ I 1 1
def pre_X5_clearBuffer  (I : wI) : Prop := 0 ≤ I 0 0
def post_X5_clearBuffer  (I : wI) (r : Int32) (I' : wI) : Prop := I 0 0 ≤ 0
def pre_X5_firstError  (I : wI) : Prop := 0 ≤ I 0 0
def post_X5_firstError  (I : wI) (r : Int32) (I' : wI) : Prop := I 0 0 ≤ 0
def pre_X5_keep  (I : wI) : Prop := 0 ≤ I 0 0
def post_X5_keep  (I : wI) (r : Int32) (I' : wI) : Prop := I 0 0 ≤ 0
def pre_X5_goBack  (I : wI) : Prop := 0 ≤ I 0 0
def post_X5_goBack  (I : wI) (r : Int32) (I' : wI) : Prop := I 0 0 ≤ 0
def pre_X5_goBackx  (I : wI) : Prop := 0 ≤ I 0 0
def ok_X5_goBack  (I : wI) : Prop := 0 ≤ I 0 1
def exc_X5_goBack  (I : wI) (E : String) (u : wI) : Prop := 0 ≤ I 1 1
def pre_X5_undo  (I : wI) : Prop := 0 ≤ I 0 0
def post_X5_undo  (I : wI) (r : Int32) (I' : wI) : Prop := I 0 0 ≤ 0
def pre_X5_undox  (I : wI) : Prop := 0 ≤ I 0 0
def ok_X5_undo  (I : wI) : Prop := 0 ≤ I 0 1
def exc_X5_undo  (I : wI) (E : String) (u : wI) : Prop := 0 ≤ I 1 1
def pre_X0_discAt (k : Nat) (x1 : Int32) (I : wI) : Prop := 0 ≤ I 0 0
def post_X0_discAt (k : Nat) (x1 : Int32) (I : wI) (r : Int32) : Prop := I 0 0 ≤ 0
def pre_X0_notchAt (k : Nat) (x1 : Int32) (I : wI) : Prop := 0 ≤ I 0 0
def post_X0_notchAt (k : Nat) (x1 : Int32) (I : wI) (r : Int32) : Prop := I 0 0 ≤ 0
def pre_X0_agreesAt (k : Nat) (k1 : Nat) (x2 : Int32) (I : wI) : Prop := 0 ≤ I 0 0
def post_X0_agreesAt (k : Nat) (k1 : Nat) (x2 : Int32) (I : wI) (r : Int32) : Prop := I 0 0 ≤ 0
def pre_X1_keysAt (k : Nat) (x1 : Int32) (I : wI) : Prop := 0 ≤ I 0 0
def post_X1_keysAt (k : Nat) (x1 : Int32) (I : wI) (r : Int32) : Prop := I 0 0 ≤ 0
def pre_X5_at (x1 : Int32) (x2 : Int32) (I : wI) : Prop := 0 ≤ I 0 0
def post_X5_at (x1 : Int32) (x2 : Int32) (I : wI) (r : Int32) : Prop := I 0 0 ≤ 0
def pre_X5_atx (x1 : Int32) (x2 : Int32) (I : wI) : Prop := 0 ≤ I 0 0
def ok_X5_at (x1 : Int32) (x2 : Int32) (I : wI) : Prop := 0 ≤ I 0 1
def exc_X5_at (x1 : Int32) (x2 : Int32) (I : wI) (E : String) : Prop := 0 ≤ I 1 1
def pre_X5_showKey (x1 : Int32) (I : wI) : Prop := 0 ≤ I 0 0
def post_X5_showKey (x1 : Int32) (I : wI) (I' : wI) : Prop := I 0 0 ≤ 0
def pre_X0_putAhead (k : Nat) (k1 : Nat) (I : wI) : Prop := 0 ≤ I 0 0
def post_X0_putAhead (k : Nat) (k1 : Nat) (I : wI) (I' : wI) : Prop := I 0 0 ≤ 0
def pre_X5_periodByDoing  (I : wI) : Prop := 0 ≤ I 0 0
def post_X5_periodByDoing  (I : wI) (r : Int32) (I' : wI) : Prop := I 0 0 ≤ 0
def pre_X0_placeOf (k : Nat) (x1 : Int32) (I : wI) : Prop := 0 ≤ I 0 0
def post_X0_placeOf (k : Nat) (x1 : Int32) (I : wI) (r : Int32) : Prop := I 0 0 ≤ 0
def pre_X0_leastMultiple (x0 : Int32) (x1 : Int32) (I : wI) : Prop := 0 ≤ I 0 0
def post_X0_leastMultiple (x0 : Int32) (x1 : Int32) (I : wI) (r : Int32) : Prop := I 0 0 ≤ 0
def pre_X0_periodByRounds (k : Nat) (I : wI) : Prop := 0 ≤ I 0 0
def post_X0_periodByRounds (k : Nat) (I : wI) (r : Int32) : Prop := I 0 0 ≤ 0
def pre_X3_usesOf (k : Nat) (x1 : Int32) (I : wI) : Prop := 0 ≤ I 0 0
def post_X3_usesOf (k : Nat) (x1 : Int32) (I : wI) (r : Int32) : Prop := I 0 0 ≤ 0
def pre_X5_key (x1 : Int32) (x2 : Int32) (I : wI) : Prop := 0 ≤ I 0 0
def post_X5_key (x1 : Int32) (x2 : Int32) (I : wI) (r : Int32) (I' : wI) : Prop := I 0 0 ≤ 0
def pre_X5_keyx (x1 : Int32) (x2 : Int32) (I : wI) : Prop := 0 ≤ I 0 0
def ok_X5_key (x1 : Int32) (x2 : Int32) (I : wI) : Prop := 0 ≤ I 0 1
def exc_X5_key (x1 : Int32) (x2 : Int32) (I : wI) (E : String) (u : wI) : Prop := 0 ≤ I 1 1
def pre_X5_showPair (x1 : Int32) (x2 : Int32) (I : wI) : Prop := 0 ≤ I 0 0
def post_X5_showPair (x1 : Int32) (x2 : Int32) (I : wI) (I' : wI) : Prop := I 0 0 ≤ 0
def pre_X5_pair (x1 : Int32) (x2 : Int32) (x3 : Int32) (I : wI) : Prop := 0 ≤ I 0 0
def post_X5_pair (x1 : Int32) (x2 : Int32) (x3 : Int32) (I : wI) (r : Int32) (I' : wI) : Prop := I 0 0 ≤ 0
def pre_X5_pairx (x1 : Int32) (x2 : Int32) (x3 : Int32) (I : wI) : Prop := 0 ≤ I 0 0
def ok_X5_pair (x1 : Int32) (x2 : Int32) (x3 : Int32) (I : wI) : Prop := 0 ≤ I 0 1
def exc_X5_pair (x1 : Int32) (x2 : Int32) (x3 : Int32) (I : wI) (E : String) (u : wI) : Prop := 0 ≤ I 1 1
def pre_J_min (x0 : Int32) (x1 : Int32) (I : wI) : Prop := 0 ≤ I 0 0
def post_J_min (x0 : Int32) (x1 : Int32) (I : wI) (r : Int32) : Prop := I 0 0 ≤ 0
def pre_X4_turnsLessBacks (k : Nat) (I : wI) : Prop := 0 ≤ I 0 0
def post_X4_turnsLessBacks (k : Nat) (I : wI) (r : Int32) : Prop := I 0 0 ≤ 0
def pre_X5_showWord  (I : wI) : Prop := 0 ≤ I 0 0
def post_X5_showWord  (I : wI) (I' : wI) : Prop := I 0 0 ≤ 0
def pre_X5_ofShortWord (x1 : Int32) (I : wI) : Prop := 0 ≤ I 0 0
def post_X5_ofShortWord (x1 : Int32) (I : wI) (r : Int32) (I' : wI) : Prop := I 0 0 ≤ 0
def pre_X5_ofWord (x1 : Int32) (I : wI) : Prop := 0 ≤ I 0 0
def post_X5_ofWord (x1 : Int32) (I : wI) (r : Int32) (I' : wI) : Prop := I 0 0 ≤ 0
def pre_X5_ofWordx (x1 : Int32) (I : wI) : Prop := 0 ≤ I 0 0
def ok_X5_ofWord (x1 : Int32) (I : wI) : Prop := 0 ≤ I 0 1
def exc_X5_ofWord (x1 : Int32) (I : wI) (E : String) (u : wI) : Prop := 0 ≤ I 1 1
def pre_X5_count (x1 : Int32) (I : wI) : Prop := 0 ≤ I 0 0
def post_X5_count (x1 : Int32) (I : wI) (r : Int32) : Prop := I 0 0 ≤ 0
def pre_X5_countx (x1 : Int32) (I : wI) : Prop := 0 ≤ I 0 0
def ok_X5_count (x1 : Int32) (I : wI) : Prop := 0 ≤ I 0 1
def exc_X5_count (x1 : Int32) (I : wI) (E : String) : Prop := 0 ≤ I 1 1
def pre_X0_fingerprint (k : Nat) (I : wI) : Prop := 0 ≤ I 0 0
def post_X0_fingerprint (k : Nat) (I : wI) (r : Int32) : Prop := I 0 0 ≤ 0
def pre_X2_list (k : Nat) (k1 : Nat) (x2 : Int32) (I : wI) : Prop := 0 ≤ I 0 0
def post_X2_list (k : Nat) (k1 : Nat) (x2 : Int32) (I : wI) (I' : wI) : Prop := I 0 0 ≤ 0
def pre_X2_listBehindOne (k : Nat) (k1 : Nat) (I : wI) : Prop := 0 ≤ I 0 0
def post_X2_listBehindOne (k : Nat) (k1 : Nat) (I : wI) (I' : wI) : Prop := I 0 0 ≤ 0
def pre_X2_listNear (k : Nat) (k1 : Nat) (I : wI) : Prop := 0 ≤ I 0 0
def post_X2_listNear (k : Nat) (k1 : Nat) (I : wI) (I' : wI) : Prop := I 0 0 ≤ 0
def pre_X2_listedTurns (k : Nat) (k1 : Nat) (I : wI) : Prop := 0 ≤ I 0 0
def post_X2_listedTurns (k : Nat) (k1 : Nat) (I : wI) (r : Int32) : Prop := I 0 0 ≤ 0
def pre_X2_meetsList (k : Nat) (k1 : Nat) (I : wI) : Prop := 0 ≤ I 0 0
def post_X2_meetsList (k : Nat) (k1 : Nat) (I : wI) (r : Int32) (I' : wI) : Prop := I 0 0 ≤ 0
def pre_X2_tryFirst (k : Nat) (k1 : Nat) (x2 : Int32) (I : wI) : Prop := 0 ≤ I 0 0
def post_X2_tryFirst (k : Nat) (k1 : Nat) (x2 : Int32) (I : wI) (I' : wI) : Prop := I 0 0 ≤ 0
def pre_X2_search (k : Nat) (k1 : Nat) (I : wI) : Prop := 0 ≤ I 0 0
def post_X2_search (k : Nat) (k1 : Nat) (I : wI) (I' : wI) : Prop := I 0 0 ≤ 0
def pre_X5_openIn (x1 : Int32) (I : wI) : Prop := 0 ≤ I 0 0
def post_X5_openIn (x1 : Int32) (I : wI) (r : Int32) (I' : wI) : Prop := I 0 0 ≤ 0
def pre_X5_openInx (x1 : Int32) (I : wI) : Prop := 0 ≤ I 0 0
def ok_X5_openIn (x1 : Int32) (I : wI) : Prop := 0 ≤ I 0 1
def exc_X5_openIn (x1 : Int32) (I : wI) (E : String) (u : wI) : Prop := 0 ≤ I 1 1
def pre_X5_ifTurned (x1 : Int32) (x2 : Int32) (I : wI) : Prop := 0 ≤ I 0 0
def post_X5_ifTurned (x1 : Int32) (x2 : Int32) (I : wI) (r : Int32) (I' : wI) : Prop := I 0 0 ≤ 0
def pre_X5_ifTurnedx (x1 : Int32) (x2 : Int32) (I : wI) : Prop := 0 ≤ I 0 0
def ok_X5_ifTurned (x1 : Int32) (x2 : Int32) (I : wI) : Prop := 0 ≤ I 0 1
def exc_X5_ifTurned (x1 : Int32) (x2 : Int32) (I : wI) (E : String) (u : wI) : Prop := 0 ≤ I 1 1
def pre_X5_closest  (I : wI) : Prop := 0 ≤ I 0 0
def post_X5_closest  (I : wI) (r : Int32) (I' : wI) : Prop := I 0 0 ≤ 0
def pre_X5_openShare  (I : wI) : Prop := 0 ≤ I 0 0
def post_X5_openShare  (I : wI) (r : UInt64) : Prop := I 0 0 ≤ 0
def pre_X5_meanNotch  (I : wI) : Prop := 0 ≤ I 0 0
def post_X5_meanNotch  (I : wI) (r : UInt32) : Prop := I 0 0 ≤ 0
def pre_X5_mix (x0 : Int64) (x2 : Int64) (I : wI) : Prop := 0 ≤ I 0 0
def post_X5_mix (x0 : Int64) (x2 : Int64) (I : wI) (r : Int64) : Prop := I 0 0 ≤ 0
def pre_X5_mixPositions (x1 : Int64) (I : wI) : Prop := 0 ≤ I 0 0
def post_X5_mixPositions (x1 : Int64) (I : wI) (r : Int64) : Prop := I 0 0 ≤ 0
def pre_X5_mixPositionsx (x1 : Int64) (I : wI) : Prop := 0 ≤ I 0 0
def ok_X5_mixPositions (x1 : Int64) (I : wI) : Prop := 0 ≤ I 0 1
def exc_X5_mixPositions (x1 : Int64) (I : wI) (E : String) : Prop := 0 ≤ I 1 1
def pre_X5_mixKeys (x1 : Int64) (I : wI) : Prop := 0 ≤ I 0 0
def post_X5_mixKeys (x1 : Int64) (I : wI) (r : Int64) (I' : wI) : Prop := I 0 0 ≤ 0
def pre_X5_mixKeysx (x1 : Int64) (I : wI) : Prop := 0 ≤ I 0 0
def ok_X5_mixKeys (x1 : Int64) (I : wI) : Prop := 0 ≤ I 0 1
def exc_X5_mixKeys (x1 : Int64) (I : wI) (E : String) (u : wI) : Prop := 0 ≤ I 1 1
def pre_X5_mixPairs (x1 : Int64) (I : wI) : Prop := 0 ≤ I 0 0
def post_X5_mixPairs (x1 : Int64) (I : wI) (r : Int64) (I' : wI) : Prop := I 0 0 ≤ 0
def pre_X5_mixPairsx (x1 : Int64) (I : wI) : Prop := 0 ≤ I 0 0
def ok_X5_mixPairs (x1 : Int64) (I : wI) : Prop := 0 ≤ I 0 1
def exc_X5_mixPairs (x1 : Int64) (I : wI) (E : String) (u : wI) : Prop := 0 ≤ I 1 1
def pre_X5_doubleBits (x0 : UInt64) (I : wI) : Prop := 0 ≤ I 0 0
def post_X5_doubleBits (x0 : UInt64) (I : wI) (r : Int64) : Prop := I 0 0 ≤ 0
def pre_X5_floatBits (x0 : UInt32) (I : wI) : Prop := 0 ≤ I 0 0
def post_X5_floatBits (x0 : UInt32) (I : wI) (r : Int32) : Prop := I 0 0 ≤ 0
def pre_X5_mixBuffer (x1 : Int64) (I : wI) : Prop := 0 ≤ I 0 0
def post_X5_mixBuffer (x1 : Int64) (I : wI) (r : Int64) : Prop := I 0 0 ≤ 0
def pre_X5_digest  (I : wI) : Prop := 0 ≤ I 0 0
def post_X5_digest  (I : wI) (r : Int64) (I' : wI) : Prop := I 0 0 ≤ 0
def pre_X5_digestx  (I : wI) : Prop := 0 ≤ I 0 0
def ok_X5_digest  (I : wI) : Prop := 0 ≤ I 0 1
def exc_X5_digest  (I : wI) (E : String) (u : wI) : Prop := 0 ≤ I 1 1
def pre_X6_thrown  (I : wI) : Prop := 0 ≤ I 0 0
def post_X6_thrown  (I : wI) (r : Int32) : Prop := I 0 0 ≤ 0
def pre_X6_in (x0 : Int32) (x1 : Int32) (x2 : Int32) (I : wI) : Prop := 0 ≤ I 0 0
def post_X6_in (x0 : Int32) (x1 : Int32) (x2 : Int32) (I : wI) (r : Int32) : Prop := I 0 0 ≤ 0
def pre_X6_isKey (x0 : Int32) (I : wI) : Prop := 0 ≤ I 0 0
def post_X6_isKey (x0 : Int32) (I : wI) (r : Int32) : Prop := I 0 0 ≤ 0
def pre_X6_isPlace (x0 : Int32) (I : wI) : Prop := 0 ≤ I 0 0
def post_X6_isPlace (x0 : Int32) (I : wI) (r : Int32) : Prop := I 0 0 ≤ 0
def pre_X6_has (x1 : Int32) (x2 : Int32) (I : wI) : Prop := 0 ≤ I 0 0
def post_X6_has (x1 : Int32) (x2 : Int32) (I : wI) (r : Int32) : Prop := I 0 0 ≤ 0
def pre_X6_ones (x0 : Int32) (I : wI) : Prop := 0 ≤ I 0 0
def post_X6_ones (x0 : Int32) (I : wI) (r : Int32) : Prop := I 0 0 ≤ 0
def pre_X6_record  (I : wI) : Prop := 0 ≤ I 0 0
def post_X6_record  (I : wI) (I' : wI) : Prop := I 0 0 ≤ 0
def pre_X6_undo  (I : wI) : Prop := 0 ≤ I 0 0
def post_X6_undo  (I : wI) (r : Int32) (I' : wI) : Prop := I 0 0 ≤ 0
def pre_X6_keep  (I : wI) : Prop := 0 ≤ I 0 0
def post_X6_keep  (I : wI) (r : Int32) (I' : wI) : Prop := I 0 0 ≤ 0
def pre_X6_goBack  (I : wI) : Prop := 0 ≤ I 0 0
def post_X6_goBack  (I : wI) (r : Int32) (I' : wI) : Prop := I 0 0 ≤ 0
def pre_X6_putAside  (I : wI) : Prop := 0 ≤ I 0 0
def post_X6_putAside  (I : wI) (I' : wI) : Prop := I 0 0 ≤ 0
def pre_X6_putBack  (I : wI) : Prop := 0 ≤ I 0 0
def post_X6_putBack  (I : wI) (I' : wI) : Prop := I 0 0 ≤ 0
def pre_X6_toFirst  (I : wI) : Prop := 0 ≤ I 0 0
def post_X6_toFirst  (I : wI) (I' : wI) : Prop := I 0 0 ≤ 0
def pre_X6_next (x1 : Int32) (x2 : Int32) (I : wI) : Prop := 0 ≤ I 0 0
def post_X6_next (x1 : Int32) (x2 : Int32) (I : wI) (r : Int32) : Prop := I 0 0 ≤ 0
def pre_X6_doTurn (x1 : Int32) (I : wI) : Prop := 0 ≤ I 0 0
def post_X6_doTurn (x1 : Int32) (I : wI) (I' : wI) : Prop := I 0 0 ≤ 0
def pre_X6_isStuck (x1 : Int32) (I : wI) : Prop := 0 ≤ I 0 0
def post_X6_isStuck (x1 : Int32) (I : wI) (r : Int32) : Prop := I 0 0 ≤ 0
def pre_X6_isRight (x1 : Int32) (I : wI) : Prop := 0 ≤ I 0 0
def post_X6_isRight (x1 : Int32) (I : wI) (r : Int32) : Prop := I 0 0 ≤ 0
def pre_X6_right  (I : wI) : Prop := 0 ≤ I 0 0
def post_X6_right  (I : wI) (r : Int32) : Prop := I 0 0 ≤ 0
def pre_X6_opens  (I : wI) : Prop := 0 ≤ I 0 0
def post_X6_opens  (I : wI) (r : Int32) : Prop := I 0 0 ≤ 0
def pre_X6_countTurn (x1 : Int32) (I : wI) : Prop := 0 ≤ I 0 0
def post_X6_countTurn (x1 : Int32) (I : wI) (I' : wI) : Prop := I 0 0 ≤ 0
def pre_X6_turnNow (x1 : Int32) (x2 : Int32) (I : wI) : Prop := 0 ≤ I 0 0
def post_X6_turnNow (x1 : Int32) (x2 : Int32) (I : wI) (r : Int32) (I' : wI) : Prop := I 0 0 ≤ 0
def pre_X6_turn (x1 : Int32) (I : wI) : Prop := 0 ≤ I 0 0
def post_X6_turn (x1 : Int32) (I : wI) (r : Int32) (I' : wI) : Prop := I 0 0 ≤ 0
def pre_X6_back (x1 : Int32) (I : wI) : Prop := 0 ≤ I 0 0
def post_X6_back (x1 : Int32) (I : wI) (r : Int32) (I' : wI) : Prop := I 0 0 ≤ 0
def pre_X6_takeSign (x1 : Int32) (I : wI) : Prop := 0 ≤ I 0 0
def post_X6_takeSign (x1 : Int32) (I : wI) (r : Int32) (I' : wI) : Prop := I 0 0 ≤ 0
def pre_X6_findError  (I : wI) : Prop := 0 ≤ I 0 0
def post_X6_findError  (I : wI) (r : Int32) (I' : wI) : Prop := I 0 0 ≤ 0
def pre_X6_isWhole  (I : wI) : Prop := 0 ≤ I 0 0
def post_X6_isWhole  (I : wI) (r : Int32) (I' : wI) : Prop := I 0 0 ≤ 0
def pre_X6_addTurn (x1 : Int32) (I : wI) : Prop := 0 ≤ I 0 0
def post_X6_addTurn (x1 : Int32) (I : wI) (I' : wI) : Prop := I 0 0 ≤ 0
def pre_X6_addAgain (x1 : Int32) (x2 : Int32) (x3 : Int32) (I : wI) : Prop := 0 ≤ I 0 0
def post_X6_addAgain (x1 : Int32) (x2 : Int32) (x3 : Int32) (I : wI) (I' : wI) : Prop := I 0 0 ≤ 0
def pre_X6_readWord  (I : wI) : Prop := 0 ≤ I 0 0
def post_X6_readWord  (I : wI) (r : Int32) (I' : wI) : Prop := I 0 0 ≤ 0
def pre_X6_word  (I : wI) : Prop := 0 ≤ I 0 0
def post_X6_word  (I : wI) (r : Int32) (I' : wI) : Prop := I 0 0 ≤ 0
def pre_X6_away  (I : wI) : Prop := 0 ≤ I 0 0
def post_X6_away  (I : wI) (r : Int32) : Prop := I 0 0 ≤ 0
def pre_X6_home  (I : wI) : Prop := 0 ≤ I 0 0
def post_X6_home  (I : wI) (r : Int32) (I' : wI) : Prop := I 0 0 ≤ 0
def pre_X6_cut (x1 : Int32) (x2 : Int32) (x3 : Int32) (I : wI) : Prop := 0 ≤ I 0 0
def post_X6_cut (x1 : Int32) (x2 : Int32) (x3 : Int32) (I : wI) (r : Int32) (I' : wI) : Prop := I 0 0 ≤ 0
def pre_X6_stuckKeys  (I : wI) : Prop := 0 ≤ I 0 0
def post_X6_stuckKeys  (I : wI) (r : Int32) : Prop := I 0 0 ≤ 0
def pre_X6_stick (x1 : Int32) (I : wI) : Prop := 0 ≤ I 0 0
def post_X6_stick (x1 : Int32) (I : wI) (r : Int32) (I' : wI) : Prop := I 0 0 ≤ 0
def pre_X6_notches  (I : wI) : Prop := 0 ≤ I 0 0
def post_X6_notches  (I : wI) (r : Int32) : Prop := I 0 0 ≤ 0
def pre_X6_learn  (I : wI) : Prop := 0 ≤ I 0 0
def post_X6_learn  (I : wI) (r : Int32) (I' : wI) : Prop := I 0 0 ≤ 0
def pre_X6_append (x1 : Int32) (I : wI) : Prop := 0 ≤ I 0 0
def post_X6_append (x1 : Int32) (I : wI) (r : Int32) (I' : wI) : Prop := I 0 0 ≤ 0
def pre_X6_clearBuffer  (I : wI) : Prop := 0 ≤ I 0 0
def post_X6_clearBuffer  (I : wI) (r : Int32) (I' : wI) : Prop := I 0 0 ≤ 0
def pre_X6_firstError  (I : wI) : Prop := 0 ≤ I 0 0
def post_X6_firstError  (I : wI) (r : Int32) (I' : wI) : Prop := I 0 0 ≤ 0
def pre_X6_countTurns  (I : wI) : Prop := 0 ≤ I 0 0
def post_X6_countTurns  (I : wI) (r : Int32) (I' : wI) : Prop := I 0 0 ≤ 0
def pre_X6_keysAt (x1 : Int32) (I : wI) : Prop := 0 ≤ I 0 0
def post_X6_keysAt (x1 : Int32) (I : wI) (r : Int32) : Prop := I 0 0 ≤ 0
def pre_X6_atNow (x1 : Int32) (x2 : Int32) (I : wI) : Prop := 0 ≤ I 0 0
def post_X6_atNow (x1 : Int32) (x2 : Int32) (I : wI) (r : Int32) : Prop := I 0 0 ≤ 0
def pre_X6_at (x1 : Int32) (x2 : Int32) (I : wI) : Prop := 0 ≤ I 0 0
def post_X6_at (x1 : Int32) (x2 : Int32) (I : wI) (r : Int32) (I' : wI) : Prop := I 0 0 ≤ 0
def pre_X6_reach  (I : wI) : Prop := 0 ≤ I 0 0
def post_X6_reach  (I : wI) (r : Int32) : Prop := I 0 0 ≤ 0
def pre_X6_common (x0 : Int32) (x1 : Int32) (I : wI) : Prop := 0 ≤ I 0 0
def post_X6_common (x0 : Int32) (x1 : Int32) (I : wI) (r : Int32) : Prop := I 0 0 ≤ 0
def pre_X6_period  (I : wI) : Prop := 0 ≤ I 0 0
def post_X6_period  (I : wI) (r : Int32) : Prop := I 0 0 ≤ 0
def pre_X6_keyPeriod (x1 : Int32) (I : wI) : Prop := 0 ≤ I 0 0
def post_X6_keyPeriod (x1 : Int32) (I : wI) (r : Int32) (I' : wI) : Prop := I 0 0 ≤ 0
def pre_X6_keyNow (x1 : Int32) (x2 : Int32) (I : wI) : Prop := 0 ≤ I 0 0
def post_X6_keyNow (x1 : Int32) (x2 : Int32) (I : wI) (r : Int32) (I' : wI) : Prop := I 0 0 ≤ 0
def pre_X6_key (x1 : Int32) (x2 : Int32) (I : wI) : Prop := 0 ≤ I 0 0
def post_X6_key (x1 : Int32) (x2 : Int32) (I : wI) (r : Int32) (I' : wI) : Prop := I 0 0 ≤ 0
def pre_X6_pairNow (x1 : Int32) (x2 : Int32) (x3 : Int32) (I : wI) : Prop := 0 ≤ I 0 0
def post_X6_pairNow (x1 : Int32) (x2 : Int32) (x3 : Int32) (I : wI) (r : Int32) (I' : wI) : Prop := I 0 0 ≤ 0
def pre_X6_pair (x1 : Int32) (x2 : Int32) (x3 : Int32) (I : wI) : Prop := 0 ≤ I 0 0
def post_X6_pair (x1 : Int32) (x2 : Int32) (x3 : Int32) (I : wI) (r : Int32) (I' : wI) : Prop := I 0 0 ≤ 0
def pre_X6_wordNow (x1 : Int32) (I : wI) : Prop := 0 ≤ I 0 0
def post_X6_wordNow (x1 : Int32) (I : wI) (r : Int32) (I' : wI) : Prop := I 0 0 ≤ 0
def pre_X6_ofWord (x1 : Int32) (I : wI) : Prop := 0 ≤ I 0 0
def post_X6_ofWord (x1 : Int32) (I : wI) (r : Int32) (I' : wI) : Prop := I 0 0 ≤ 0
def pre_X6_stuckPlaces  (I : wI) : Prop := 0 ≤ I 0 0
def post_X6_stuckPlaces  (I : wI) (r : Int32) : Prop := I 0 0 ≤ 0
def pre_X6_countNow (x1 : Int32) (I : wI) : Prop := 0 ≤ I 0 0
def post_X6_countNow (x1 : Int32) (I : wI) (r : Int32) : Prop := I 0 0 ≤ 0
def pre_X6_count (x1 : Int32) (I : wI) : Prop := 0 ≤ I 0 0
def post_X6_count (x1 : Int32) (I : wI) (r : Int32) (I' : wI) : Prop := I 0 0 ≤ 0
def pre_X6_power (x0 : Int32) (I : wI) : Prop := 0 ≤ I 0 0
def post_X6_power (x0 : Int32) (I : wI) (r : Int32) : Prop := I 0 0 ≤ 0
def pre_X6_opensBy (x1 : Int32) (x2 : Int32) (I : wI) : Prop := 0 ≤ I 0 0
def post_X6_opensBy (x1 : Int32) (x2 : Int32) (I : wI) (r : Int32) (I' : wI) : Prop := I 0 0 ≤ 0
def pre_X6_findOpen (x1 : Int32) (I : wI) : Prop := 0 ≤ I 0 0
def post_X6_findOpen (x1 : Int32) (I : wI) (r : Int32) (I' : wI) : Prop := I 0 0 ≤ 0
def pre_X6_openIn (x1 : Int32) (I : wI) : Prop := 0 ≤ I 0 0
def post_X6_openIn (x1 : Int32) (I : wI) (r : Int32) (I' : wI) : Prop := I 0 0 ≤ 0
def pre_X6_rightIf (x1 : Int32) (x2 : Int32) (I : wI) : Prop := 0 ≤ I 0 0
def post_X6_rightIf (x1 : Int32) (x2 : Int32) (I : wI) (r : Int32) (I' : wI) : Prop := I 0 0 ≤ 0
def pre_X6_ifTurned (x1 : Int32) (x2 : Int32) (I : wI) : Prop := 0 ≤ I 0 0
def post_X6_ifTurned (x1 : Int32) (x2 : Int32) (I : wI) (r : Int32) (I' : wI) : Prop := I 0 0 ≤ 0
def pre_X6_findClosest  (I : wI) : Prop := 0 ≤ I 0 0
def post_X6_findClosest  (I : wI) (r : Int32) (I' : wI) : Prop := I 0 0 ≤ 0
def pre_X6_closest  (I : wI) : Prop := 0 ≤ I 0 0
def post_X6_closest  (I : wI) (r : Int32) (I' : wI) : Prop := I 0 0 ≤ 0
def pre_X6_openShare  (I : wI) : Prop := 0 ≤ I 0 0
def post_X6_openShare  (I : wI) (r : UInt64) (I' : wI) : Prop := I 0 0 ≤ 0
def pre_X6_meanNotch  (I : wI) : Prop := 0 ≤ I 0 0
def post_X6_meanNotch  (I : wI) (r : UInt32) (I' : wI) : Prop := I 0 0 ≤ 0
def pre_J_isNaN (x0 : UInt64) (I : wI) : Prop := 0 ≤ I 0 0
def post_J_isNaN (x0 : UInt64) (I : wI) (r : Int32) : Prop := I 0 0 ≤ 0
def pre_J_doubleToLongBits (x0 : UInt64) (I : wI) : Prop := 0 ≤ I 0 0
def post_J_doubleToLongBits (x0 : UInt64) (I : wI) (r : Int64) : Prop := I 0 0 ≤ 0
def pre_J_isNaNf (x0 : UInt32) (I : wI) : Prop := 0 ≤ I 0 0
def post_J_isNaNf (x0 : UInt32) (I : wI) (r : Int32) : Prop := I 0 0 ≤ 0
def pre_J_floatToIntBits (x0 : UInt32) (I : wI) : Prop := 0 ≤ I 0 0
def post_J_floatToIntBits (x0 : UInt32) (I : wI) (r : Int32) : Prop := I 0 0 ≤ 0
def pre_X6_digest  (I : wI) : Prop := 0 ≤ I 0 0
def post_X6_digest  (I : wI) (r : Int64) (I' : wI) : Prop := I 0 0 ≤ 0
def v_X5_requireKey_9 (x0 : Int32) (I : wI) (Q : Prop)  : Prop :=
  False
def v_X5_requireKey (x0 : Int32) (I : wI) (Q : Prop) : Prop :=
  ((x0 < 0) → (v_X5_requireKey_9 x0 I Q  )) ∧ ((¬ (x0 < 0)) → (((x0 < (5 : Int32)) → (Q)) ∧ ((¬ (x0 < (5 : Int32))) → (v_X5_requireKey_9 x0 I Q  ))))
theorem vc_X5_requireKey (x0 : Int32)  (I : wI) (hp : pre_X5_requireKey x0 I) : v_X5_requireKey x0 I (post_X5_requireKey x0 I) := sorry
def v_X5_requireKeyx_9 (x0 : Int32) (I : wI) (X : String → Prop)  : Prop :=
  X "java/lang/IndexOutOfBoundsException"
def v_X5_requireKeyx (x0 : Int32) (I : wI) (X : String → Prop) : Prop :=
  ((x0 < 0) → (v_X5_requireKeyx_9 x0 I X  )) ∧ ((¬ (x0 < 0)) → (((x0 < (5 : Int32)) → (False)) ∧ ((¬ (x0 < (5 : Int32))) → (v_X5_requireKeyx_9 x0 I X  ))))
theorem vc_X5_requireKeyx (x0 : Int32)  (I : wI) (hp : pre_X5_requireKeyx x0 I) : v_X5_requireKeyx x0 I (exc_X5_requireKey x0 I) := sorry
def v_X5_moveOf_11 (x0 : Int32) (x1 : Int32) (I : wI) (Q : Int32 → Prop) (t0 : Int32) : Prop :=
  Q t0
def v_X5_moveOf (x0 : Int32) (x1 : Int32) (I : wI) (Q : Int32 → Prop) : Prop :=
  ((x1 = 0) → (v_X5_moveOf_11 x0 x1 I Q  x0)) ∧ ((¬ (x1 = 0)) → (v_X5_moveOf_11 x0 x1 I Q  ((5 : Int32) + x0)))
theorem vc_X5_moveOf (x0 : Int32) (x1 : Int32)  (I : wI) (hp : pre_X5_moveOf x0 x1 I) : v_X5_moveOf x0 x1 I (post_X5_moveOf x0 x1 I) := sorry
def v_X5_keyOf_12 (x0 : Int32) (I : wI) (Q : Int32 → Prop) (t0 : Int32) : Prop :=
  Q t0
def v_X5_keyOf (x0 : Int32) (I : wI) (Q : Int32 → Prop) : Prop :=
  ((x0 < (5 : Int32)) → (v_X5_keyOf_12 x0 I Q  x0)) ∧ ((¬ (x0 < (5 : Int32))) → (v_X5_keyOf_12 x0 I Q  (x0 - (5 : Int32))))
theorem vc_X5_keyOf (x0 : Int32)  (I : wI) (hp : pre_X5_keyOf x0 I) : v_X5_keyOf x0 I (post_X5_keyOf x0 I) := sorry
def v_X1_maskOf_19 (k : Nat) (x1 : Int32) (I : wI) (Q : Int32 → Prop) (t0 : Int32) : Prop :=
  Q t0
def v_X1_maskOf_18 (k : Nat) (x1 : Int32) (I : wI) (Q : Int32 → Prop)  : Prop :=
  v_X1_maskOf_19 k x1 I Q  (0 : Int32)
def v_X1_maskOf (k : Nat) (x1 : Int32) (I : wI) (Q : Int32 → Prop) : Prop :=
  ((x1 < 0) → (v_X1_maskOf_18 k x1 I Q  )) ∧ ((¬ (x1 < 0)) → ((((5 : Int32) ≤ x1) → (v_X1_maskOf_18 k x1 I Q  )) ∧ ((¬ ((5 : Int32) ≤ x1)) → (vp_in x1 5 ∧ (v_X1_maskOf_19 k x1 I Q  (I (k + 1) (x1).toNatClampNeg))))))
theorem vc_X1_maskOf (k : Nat) (x1 : Int32) (hs : wSh k = (0, 1)) (I : wI) (hp : pre_X1_maskOf k x1 I) : v_X1_maskOf k x1 I (post_X1_maskOf k x1 I) := sorry
def v_X3_allows_24 (k : Nat) (x1 : Int32) (I : wI) (Q : Int32 → Prop) (t0 : Int32) : Prop :=
  (t0 = 0 ∨ t0 = 1) ∧ Q t0
def v_X3_allows (k : Nat) (x1 : Int32) (I : wI) (Q : Int32 → Prop) : Prop :=
  (pre_X5_keyOf x1 I) ∧ (∀ r1 : Int32, (post_X5_keyOf x1 I r1) → ((pre_X1_maskOf (k + 4) r1 I) ∧ (∀ r2 : Int32, (post_X1_maskOf (k + 4) r1 I r2) → (((¬ (r2 &&& (I k 4)) = 0) → (v_X3_allows_24 k x1 I Q  (0 : Int32))) ∧ (((r2 &&& (I k 4)) = 0) → (v_X3_allows_24 k x1 I Q  (1 : Int32)))))))
theorem vc_X3_allows (k : Nat) (x1 : Int32) (hs : wSh k = (0, 3)) (I : wI) (hp : pre_X3_allows k x1 I) : v_X3_allows k x1 I (post_X3_allows k x1 I) := sorry
def g_X5_dropOldest_9  (Q : wI → Prop) (K9 : Int32 → Int32 → wI → Prop) (v1 : Int32) (v2 : Int32) (I : wI) : Prop :=
  (((6 : Int32) ≤ v2) → ((vp_in (5 : Int32) 6 ∧ (v1).toNatClampNeg < 6) ∧ ∀ I1 : wI, I1 = wU I 23 ((5 : Int32)).toNatClampNeg v1 → (∀ I2 : wI, I2 = wU I1 0 4 (5 : Int32) → (Q I2)))) ∧ ((¬ ((6 : Int32) ≤ v2)) → (vp_in v2 6 ∧ ((vp_in (v2 - (1 : Int32)) 6 ∧ ((I 23 (v2).toNatClampNeg)).toNatClampNeg < 6) ∧ ∀ I3 : wI, I3 = wU I 23 ((v2 - (1 : Int32))).toNatClampNeg (I 23 (v2).toNatClampNeg) → (K9 v1 (v2 + (1 : Int32)) I3))))
def v_X5_dropOldest_9  (Q : wI → Prop) : Nat → Int32 → Int32 → wI → Prop
  | 0 => fun _ _ _ => False
  | f + 1 => g_X5_dropOldest_9 Q (v_X5_dropOldest_9 Q f)
def v_X5_dropOldest  (I : wI) (Q : wI → Prop) : Prop :=
  vp_in (0 : Int32) 6 ∧ (∃ f : Nat, v_X5_dropOldest_9  Q  f (I 23 ((0 : Int32)).toNatClampNeg) (1 : Int32) I)
theorem vc_X5_dropOldest   (I : wI) (hp : pre_X5_dropOldest  I) : v_X5_dropOldest  I (post_X5_dropOldest  I) := sorry
def g_X0_copyFrom_2 (k : Nat) (k1 : Nat) (Q : wI → Prop) (K2 : Int32 → wI → Prop) (v2 : Int32) (I : wI) : Prop :=
  (((6 : Int32) ≤ v2) → (Q I)) ∧ ((¬ ((6 : Int32) ≤ v2)) → (vp_in v2 6 ∧ (vp_in v2 6 ∧ ∀ I1 : wI, I1 = wU I (k + 1) (v2).toNatClampNeg (I (k1 + 1) (v2).toNatClampNeg) → (vp_in v2 6 ∧ (vp_in v2 6 ∧ ∀ I2 : wI, I2 = wU I1 (k + 2) (v2).toNatClampNeg (I1 (k1 + 2) (v2).toNatClampNeg) → (K2 (v2 + (1 : Int32)) I2))))))
def v_X0_copyFrom_2 (k : Nat) (k1 : Nat) (Q : wI → Prop) : Nat → Int32 → wI → Prop
  | 0 => fun _ _ => False
  | f + 1 => g_X0_copyFrom_2 k k1 Q (v_X0_copyFrom_2 k k1 Q f)
def v_X0_copyFrom (k : Nat) (k1 : Nat) (I : wI) (Q : wI → Prop) : Prop :=
  ∃ f : Nat, v_X0_copyFrom_2 k k1 Q  f (0 : Int32) I
theorem vc_X0_copyFrom (k : Nat) (k1 : Nat) (hs : wSh k = (0, 0)) (hs1 : wSh k1 = (0, 0)) (I : wI) (hp : pre_X0_copyFrom k k1 I) : v_X0_copyFrom k k1 I (post_X0_copyFrom k k1 I) := sorry
def g_X1_copyFrom_2 (k : Nat) (k1 : Nat) (Q : wI → Prop) (K2 : Int32 → wI → Prop) (v2 : Int32) (I : wI) : Prop :=
  (((5 : Int32) ≤ v2) → (Q I)) ∧ ((¬ ((5 : Int32) ≤ v2)) → (vp_in v2 5 ∧ (vp_in v2 5 ∧ ∀ I1 : wI, I1 = wU I (k + 1) (v2).toNatClampNeg (I (k1 + 1) (v2).toNatClampNeg) → (vp_in v2 5 ∧ (vp_in v2 5 ∧ ∀ I2 : wI, I2 = wU I1 (k + 2) (v2).toNatClampNeg (I1 (k1 + 2) (v2).toNatClampNeg) → (K2 (v2 + (1 : Int32)) I2))))))
def v_X1_copyFrom_2 (k : Nat) (k1 : Nat) (Q : wI → Prop) : Nat → Int32 → wI → Prop
  | 0 => fun _ _ => False
  | f + 1 => g_X1_copyFrom_2 k k1 Q (v_X1_copyFrom_2 k k1 Q f)
def v_X1_copyFrom (k : Nat) (k1 : Nat) (I : wI) (Q : wI → Prop) : Prop :=
  ∃ f : Nat, v_X1_copyFrom_2 k k1 Q  f (0 : Int32) I
theorem vc_X1_copyFrom (k : Nat) (k1 : Nat) (hs : wSh k = (0, 1)) (hs1 : wSh k1 = (0, 1)) (I : wI) (hp : pre_X1_copyFrom k k1 I) : v_X1_copyFrom k k1 I (post_X1_copyFrom k k1 I) := sorry
def g_X3_copyFrom_51 (k : Nat) (k1 : Nat) (Q : wI → Prop) (K51 : Int32 → wI → Prop) (v2 : Int32) (I : wI) : Prop :=
  (((5 : Int32) ≤ v2) → (∀ I1 : wI, I1 = wU I k 6 (I k1 6) → (∀ I2 : wI, I2 = wU I1 k 7 (I1 k1 7) → (∀ I3 : wI, I3 = wU I2 k 8 (I2 k1 8) → (Q I3))))) ∧ ((¬ ((5 : Int32) ≤ v2)) → (vp_in v2 5 ∧ (vp_in v2 5 ∧ ∀ I4 : wI, I4 = wU I (k + 10) (v2).toNatClampNeg (I (k1 + 10) (v2).toNatClampNeg) → (K51 (v2 + (1 : Int32)) I4))))
def v_X3_copyFrom_51 (k : Nat) (k1 : Nat) (Q : wI → Prop) : Nat → Int32 → wI → Prop
  | 0 => fun _ _ => False
  | f + 1 => g_X3_copyFrom_51 k k1 Q (v_X3_copyFrom_51 k k1 Q f)
def v_X3_copyFrom (k : Nat) (k1 : Nat) (I : wI) (Q : wI → Prop) : Prop :=
  (pre_X0_copyFrom (k + 1) (k1 + 1) I) ∧ (∀ I1 : wI, (post_X0_copyFrom (k + 1) (k1 + 1) I I1) → ((pre_X1_copyFrom (k + 4) (k1 + 4) I1) ∧ (∀ I2 : wI, (post_X1_copyFrom (k + 4) (k1 + 4) I1 I2) → ((pre_X0_copyFrom (k + 7) (k1 + 7) I2) ∧ (∀ I3 : wI, (post_X0_copyFrom (k + 7) (k1 + 7) I2 I3) → (((I3 k1 3) = 0 ∨ (I3 k1 3) = 1) ∧ (∀ I4 : wI, I4 = wU I3 k 3 (I3 k1 3) → (∀ I5 : wI, I5 = wU I4 k 4 (I4 k1 4) → (∃ f : Nat, v_X3_copyFrom_51 k k1 Q  f (0 : Int32) I5)))))))))
theorem vc_X3_copyFrom (k : Nat) (k1 : Nat) (hs : wSh k = (0, 3)) (hs1 : wSh k1 = (0, 3)) (I : wI) (hp : pre_X3_copyFrom k k1 I) : v_X3_copyFrom k k1 I (post_X3_copyFrom k k1 I) := sorry
def v_X5_writeSaved_22 (k1 : Nat) (Q : wI → Prop)  (I : wI) : Prop :=
  Q I
def v_X5_writeSaved (k1 : Nat) (I : wI) (Q : wI → Prop) : Prop :=
  (pre_X3_copyFrom k1 1 I) ∧ (∀ I1 : wI, (post_X3_copyFrom k1 1 I I1) → (∀ I2 : wI, I2 = wU I1 0 4 ((I1 0 4) + (1 : Int32)) → (v_X5_writeSaved_22 k1 Q   I2)))
theorem vc_X5_writeSaved (k1 : Nat) (hs1 : wSh k1 = (0, 3)) (I : wI) (hp : pre_X5_writeSaved k1 I) : v_X5_writeSaved k1 I (post_X5_writeSaved k1 I) := sorry
def v_X5_save_42  (Q : wI → Prop)  (I : wI) : Prop :=
  Q I
def v_X5_save_13  (Q : wI → Prop)  (I : wI) : Prop :=
  (((I 0 4) < 0) → (v_X5_save_42  Q   I)) ∧ ((¬ ((I 0 4) < 0)) → ((((6 : Int32) ≤ (I 0 4)) → (v_X5_save_42  Q   I)) ∧ ((¬ ((6 : Int32) ≤ (I 0 4))) → (vp_in (I 0 4) 6 ∧ (((I 23 ((I 0 4)).toNatClampNeg)).toNatClampNeg < 6 ∧ ((pre_X5_writeSaved (wSv (I 23 ((I 0 4)).toNatClampNeg)) I) ∧ (∀ I1 : wI, (post_X5_writeSaved (wSv (I 23 ((I 0 4)).toNatClampNeg)) I I1) → (v_X5_save_42  Q   I1))))))))
def v_X5_save  (I : wI) (Q : wI → Prop) : Prop :=
  (((I 0 4) < (6 : Int32)) → (v_X5_save_13  Q   I)) ∧ ((¬ ((I 0 4) < (6 : Int32))) → ((pre_X5_dropOldest  I) ∧ (∀ I1 : wI, (post_X5_dropOldest  I I1) → (v_X5_save_13  Q   I1))))
theorem vc_X5_save   (I : wI) (hp : pre_X5_save  I) : v_X5_save  I (post_X5_save  I) := sorry
def v_X0_agreeing_43 (k : Nat) (k1 : Nat) (I : wI) (Q : Int32 → Prop) (K4 : Int32 → Int32 → Prop) (v2 : Int32) (v3 : Int32) : Prop :=
  K4 v2 (v3 + (1 : Int32))
def g_X0_agreeing_4 (k : Nat) (k1 : Nat) (I : wI) (Q : Int32 → Prop) (K4 : Int32 → Int32 → Prop) (v2 : Int32) (v3 : Int32) : Prop :=
  (((6 : Int32) ≤ v3) → (Q v2)) ∧ ((¬ ((6 : Int32) ≤ v3)) → (vp_in v3 6 ∧ (vp_in v3 6 ∧ (((¬ (I (k + 1) (v3).toNatClampNeg) = (I (k1 + 1) (v3).toNatClampNeg)) → (v_X0_agreeing_43 k k1 I Q K4 v2 v3)) ∧ (((I (k + 1) (v3).toNatClampNeg) = (I (k1 + 1) (v3).toNatClampNeg)) → (vp_in v3 6 ∧ (vp_in v3 6 ∧ (((¬ (I (k + 2) (v3).toNatClampNeg) = (I (k1 + 2) (v3).toNatClampNeg)) → (v_X0_agreeing_43 k k1 I Q K4 v2 v3)) ∧ (((I (k + 2) (v3).toNatClampNeg) = (I (k1 + 2) (v3).toNatClampNeg)) → (v_X0_agreeing_43 k k1 I Q K4 (v2 + (1 : Int32)) v3))))))))))
def v_X0_agreeing_4 (k : Nat) (k1 : Nat) (I : wI) (Q : Int32 → Prop) : Nat → Int32 → Int32 → Prop
  | 0 => fun _ _ => False
  | f + 1 => g_X0_agreeing_4 k k1 I Q (v_X0_agreeing_4 k k1 I Q f)
def v_X0_agreeing (k : Nat) (k1 : Nat) (I : wI) (Q : Int32 → Prop) : Prop :=
  ∃ f : Nat, v_X0_agreeing_4 k k1 I Q  f (0 : Int32) (0 : Int32)
theorem vc_X0_agreeing (k : Nat) (k1 : Nat) (hs : wSh k = (0, 0)) (hs1 : wSh k1 = (0, 0)) (I : wI) (hp : pre_X0_agreeing k k1 I) : v_X0_agreeing k k1 I (post_X0_agreeing k k1 I) := sorry
def v_X3_asInSecret_19 (k : Nat) (k1 : Nat) (I : wI) (Q : Int32 → Prop) (t0 : Int32) : Prop :=
  Q t0
def v_X3_asInSecret (k : Nat) (k1 : Nat) (I : wI) (Q : Int32 → Prop) : Prop :=
  (((I k 3) = 0) → (v_X3_asInSecret_19 k k1 I Q  (0 : Int32))) ∧ ((¬ ((I k 3) = 0)) → ((pre_X0_agreeing k1 (k + 7) I) ∧ (∀ r1 : Int32, (post_X0_agreeing k1 (k + 7) I r1) → (v_X3_asInSecret_19 k k1 I Q  r1))))
theorem vc_X3_asInSecret (k : Nat) (k1 : Nat) (hs : wSh k = (0, 3)) (hs1 : wSh k1 = (0, 0)) (I : wI) (hp : pre_X3_asInSecret k k1 I) : v_X3_asInSecret k k1 I (post_X3_asInSecret k k1 I) := sorry
def v_X3_opens_18 (k : Nat) (I : wI) (Q : Int32 → Prop) (t0 : Int32) : Prop :=
  (t0 = 0 ∨ t0 = 1) ∧ Q t0
def v_X3_opens (k : Nat) (I : wI) (Q : Int32 → Prop) : Prop :=
  (pre_X3_asInSecret k (k + 1) I) ∧ (∀ r1 : Int32, (post_X3_asInSecret k (k + 1) I r1) → (((¬ r1 = (6 : Int32)) → (v_X3_opens_18 k I Q  (0 : Int32))) ∧ ((r1 = (6 : Int32)) → (v_X3_opens_18 k I Q  (1 : Int32)))))
theorem vc_X3_opens (k : Nat) (hs : wSh k = (0, 3)) (I : wI) (hp : pre_X3_opens k I) : v_X3_opens k I (post_X3_opens k I) := sorry
def v_X1_strengthOf_19 (k : Nat) (x1 : Int32) (I : wI) (Q : Int32 → Prop) (t0 : Int32) : Prop :=
  Q t0
def v_X1_strengthOf_18 (k : Nat) (x1 : Int32) (I : wI) (Q : Int32 → Prop)  : Prop :=
  v_X1_strengthOf_19 k x1 I Q  (0 : Int32)
def v_X1_strengthOf (k : Nat) (x1 : Int32) (I : wI) (Q : Int32 → Prop) : Prop :=
  ((x1 < 0) → (v_X1_strengthOf_18 k x1 I Q  )) ∧ ((¬ (x1 < 0)) → ((((5 : Int32) ≤ x1) → (v_X1_strengthOf_18 k x1 I Q  )) ∧ ((¬ ((5 : Int32) ≤ x1)) → (vp_in x1 5 ∧ (v_X1_strengthOf_19 k x1 I Q  (I (k + 2) (x1).toNatClampNeg))))))
theorem vc_X1_strengthOf (k : Nat) (x1 : Int32) (hs : wSh k = (0, 1)) (I : wI) (hp : pre_X1_strengthOf k x1 I) : v_X1_strengthOf k x1 I (post_X1_strengthOf k x1 I) := sorry
def v_X5_isBack_10 (x0 : Int32) (I : wI) (Q : Int32 → Prop) (t0 : Int32) : Prop :=
  (t0 = 0 ∨ t0 = 1) ∧ Q t0
def v_X5_isBack (x0 : Int32) (I : wI) (Q : Int32 → Prop) : Prop :=
  ((x0 < (5 : Int32)) → (v_X5_isBack_10 x0 I Q  (0 : Int32))) ∧ ((¬ (x0 < (5 : Int32))) → (v_X5_isBack_10 x0 I Q  (1 : Int32)))
theorem vc_X5_isBack (x0 : Int32)  (I : wI) (hp : pre_X5_isBack x0 I) : v_X5_isBack x0 I (post_X5_isBack x0 I) := sorry
def v_X0_rotate_155 (k : Nat) (x1 : Int32) (x2 : Int32) (x3 : Int32) (Q : wI → Prop)  (I : wI) : Prop :=
  Q I
def v_X0_rotate_119 (k : Nat) (x1 : Int32) (x2 : Int32) (x3 : Int32) (Q : wI → Prop) (K25 : Int32 → Int32 → Int32 → Int32 → Int32 → wI → Prop) (v4 : Int32) (v5 : Int32) (v6 : Int32) (v7 : Int32) (v8 : Int32) (I : wI) : Prop :=
  K25 v4 v5 v6 v7 (v8 + (1 : Int32)) I
def v_X0_rotate_111 (k : Nat) (x1 : Int32) (x2 : Int32) (x3 : Int32) (Q : wI → Prop) (K25 : Int32 → Int32 → Int32 → Int32 → Int32 → wI → Prop) (v4 : Int32) (v5 : Int32) (v8 : Int32) (v10 : Int32) (v11 : Int32) (I : wI) : Prop :=
  v_X0_rotate_119 k x1 x2 x3 Q K25 v4 v5 v10 v11 v8 I
def v_X0_rotate_45 (k : Nat) (x1 : Int32) (x2 : Int32) (x3 : Int32) (Q : wI → Prop) (K25 : Int32 → Int32 → Int32 → Int32 → Int32 → wI → Prop) (v4 : Int32) (v5 : Int32) (v6 : Int32) (v7 : Int32) (v8 : Int32) (t0 : Int32) (I : wI) : Prop :=
  ((¬ ((x1 >>> (t0 &&& 31)) &&& (1 : Int32)) = (1 : Int32)) → (v_X0_rotate_119 k x1 x2 x3 Q K25 v4 v5 v6 v7 v8 I)) ∧ ((((x1 >>> (t0 &&& 31)) &&& (1 : Int32)) = (1 : Int32)) → (vp_in t0 6 ∧ (vp_in t0 6 ∧ (((¬ v5 = (-1 : Int32)) → (vp_in t0 6 ∧ ∀ I1 : wI, I1 = wU I (k + 1) (t0).toNatClampNeg v6 → (vp_in t0 6 ∧ ∀ I2 : wI, I2 = wU I1 (k + 2) (t0).toNatClampNeg v7 → (v_X0_rotate_111 k x1 x2 x3 Q K25 v4 v5 v8 (I (k + 1) (t0).toNatClampNeg) (((I (k + 2) (t0).toNatClampNeg) + v4) - ((I (k + 2) (t0).toNatClampNeg) + v4) / (5 : Int32) * (5 : Int32)) I2)))) ∧ ((v5 = (-1 : Int32)) → (v_X0_rotate_111 k x1 x2 x3 Q K25 v4 t0 v8 (I (k + 1) (t0).toNatClampNeg) (((I (k + 2) (t0).toNatClampNeg) + v4) - ((I (k + 2) (t0).toNatClampNeg) + v4) / (5 : Int32) * (5 : Int32)) I))))))
def g_X0_rotate_25 (k : Nat) (x1 : Int32) (x2 : Int32) (x3 : Int32) (Q : wI → Prop) (K25 : Int32 → Int32 → Int32 → Int32 → Int32 → wI → Prop) (v4 : Int32) (v5 : Int32) (v6 : Int32) (v7 : Int32) (v8 : Int32) (I : wI) : Prop :=
  (((6 : Int32) ≤ v8) → (((v5 < 0) → (v_X0_rotate_155 k x1 x2 x3 Q   I)) ∧ ((¬ (v5 < 0)) → ((((6 : Int32) ≤ v5) → (v_X0_rotate_155 k x1 x2 x3 Q   I)) ∧ ((¬ ((6 : Int32) ≤ v5)) → (vp_in v5 6 ∧ ∀ I1 : wI, I1 = wU I (k + 1) (v5).toNatClampNeg v6 → (vp_in v5 6 ∧ ∀ I2 : wI, I2 = wU I1 (k + 2) (v5).toNatClampNeg v7 → (v_X0_rotate_155 k x1 x2 x3 Q   I2)))))))) ∧ ((¬ ((6 : Int32) ≤ v8)) → (((x3 = 0) → (v_X0_rotate_45 k x1 x2 x3 Q K25 v4 v5 v6 v7 v8 v8 I)) ∧ ((¬ (x3 = 0)) → (v_X0_rotate_45 k x1 x2 x3 Q K25 v4 v5 v6 v7 v8 ((5 : Int32) - v8) I))))
def v_X0_rotate_25 (k : Nat) (x1 : Int32) (x2 : Int32) (x3 : Int32) (Q : wI → Prop) : Nat → Int32 → Int32 → Int32 → Int32 → Int32 → wI → Prop
  | 0 => fun _ _ _ _ _ _ => False
  | f + 1 => g_X0_rotate_25 k x1 x2 x3 Q (v_X0_rotate_25 k x1 x2 x3 Q f)
def v_X0_rotate_11 (k : Nat) (x1 : Int32) (x2 : Int32) (x3 : Int32) (Q : wI → Prop) (t0 : Int32) (I : wI) : Prop :=
  ∃ f : Nat, v_X0_rotate_25 k x1 x2 x3 Q  f t0 (-1 : Int32) (0 : Int32) (0 : Int32) (0 : Int32) I
def v_X0_rotate (k : Nat) (x1 : Int32) (x2 : Int32) (x3 : Int32) (I : wI) (Q : wI → Prop) : Prop :=
  ((x3 = 0) → (v_X0_rotate_11 k x1 x2 x3 Q  x2 I)) ∧ ((¬ (x3 = 0)) → (v_X0_rotate_11 k x1 x2 x3 Q  ((5 : Int32) - x2) I))
theorem vc_X0_rotate (k : Nat) (x1 : Int32) (x2 : Int32) (x3 : Int32) (hs : wSh k = (0, 0)) (I : wI) (hp : pre_X0_rotate k x1 x2 x3 I) : v_X0_rotate k x1 x2 x3 I (post_X0_rotate k x1 x2 x3 I) := sorry
def v_X1_move (k : Nat) (k1 : Nat) (x2 : Int32) (I : wI) (Q : wI → Prop) : Prop :=
  (pre_X5_keyOf x2 I) ∧ (∀ r1 : Int32, (post_X5_keyOf x2 I r1) → ((pre_X1_maskOf k r1 I) ∧ (∀ r2 : Int32, (post_X1_maskOf k r1 I r2) → ((pre_X1_strengthOf k r1 I) ∧ (∀ r3 : Int32, (post_X1_strengthOf k r1 I r3) → ((pre_X5_isBack x2 I) ∧ (∀ r4 : Int32, (post_X5_isBack x2 I r4) → ((pre_X0_rotate k1 r2 r3 r4 I) ∧ (∀ I5 : wI, (post_X0_rotate k1 r2 r3 r4 I I5) → (Q I5))))))))))
theorem vc_X1_move (k : Nat) (k1 : Nat) (x2 : Int32) (hs : wSh k = (0, 1)) (hs1 : wSh k1 = (0, 0)) (I : wI) (hp : pre_X1_move k k1 x2 I) : v_X1_move k k1 x2 I (post_X1_move k k1 x2 I) := sorry
def v_J_bitCount (x0 : Int32) (I : wI) (Q : Int32 → Prop) : Prop :=
  Q ((((((((x0 - (((x0).toUInt32 >>> (((1 : Int32)).toUInt32 &&& Int32.toUInt32 31)).toInt32 &&& (1431655765 : Int32))) &&& (858993459 : Int32)) + ((((x0 - (((x0).toUInt32 >>> (((1 : Int32)).toUInt32 &&& Int32.toUInt32 31)).toInt32 &&& (1431655765 : Int32)))).toUInt32 >>> (((2 : Int32)).toUInt32 &&& Int32.toUInt32 31)).toInt32 &&& (858993459 : Int32))) + (((((x0 - (((x0).toUInt32 >>> (((1 : Int32)).toUInt32 &&& Int32.toUInt32 31)).toInt32 &&& (1431655765 : Int32))) &&& (858993459 : Int32)) + ((((x0 - (((x0).toUInt32 >>> (((1 : Int32)).toUInt32 &&& Int32.toUInt32 31)).toInt32 &&& (1431655765 : Int32)))).toUInt32 >>> (((2 : Int32)).toUInt32 &&& Int32.toUInt32 31)).toInt32 &&& (858993459 : Int32)))).toUInt32 >>> (((4 : Int32)).toUInt32 &&& Int32.toUInt32 31)).toInt32) &&& (252645135 : Int32)) + (((((((x0 - (((x0).toUInt32 >>> (((1 : Int32)).toUInt32 &&& Int32.toUInt32 31)).toInt32 &&& (1431655765 : Int32))) &&& (858993459 : Int32)) + ((((x0 - (((x0).toUInt32 >>> (((1 : Int32)).toUInt32 &&& Int32.toUInt32 31)).toInt32 &&& (1431655765 : Int32)))).toUInt32 >>> (((2 : Int32)).toUInt32 &&& Int32.toUInt32 31)).toInt32 &&& (858993459 : Int32))) + (((((x0 - (((x0).toUInt32 >>> (((1 : Int32)).toUInt32 &&& Int32.toUInt32 31)).toInt32 &&& (1431655765 : Int32))) &&& (858993459 : Int32)) + ((((x0 - (((x0).toUInt32 >>> (((1 : Int32)).toUInt32 &&& Int32.toUInt32 31)).toInt32 &&& (1431655765 : Int32)))).toUInt32 >>> (((2 : Int32)).toUInt32 &&& Int32.toUInt32 31)).toInt32 &&& (858993459 : Int32)))).toUInt32 >>> (((4 : Int32)).toUInt32 &&& Int32.toUInt32 31)).toInt32) &&& (252645135 : Int32))).toUInt32 >>> (((8 : Int32)).toUInt32 &&& Int32.toUInt32 31)).toInt32) + ((((((((x0 - (((x0).toUInt32 >>> (((1 : Int32)).toUInt32 &&& Int32.toUInt32 31)).toInt32 &&& (1431655765 : Int32))) &&& (858993459 : Int32)) + ((((x0 - (((x0).toUInt32 >>> (((1 : Int32)).toUInt32 &&& Int32.toUInt32 31)).toInt32 &&& (1431655765 : Int32)))).toUInt32 >>> (((2 : Int32)).toUInt32 &&& Int32.toUInt32 31)).toInt32 &&& (858993459 : Int32))) + (((((x0 - (((x0).toUInt32 >>> (((1 : Int32)).toUInt32 &&& Int32.toUInt32 31)).toInt32 &&& (1431655765 : Int32))) &&& (858993459 : Int32)) + ((((x0 - (((x0).toUInt32 >>> (((1 : Int32)).toUInt32 &&& Int32.toUInt32 31)).toInt32 &&& (1431655765 : Int32)))).toUInt32 >>> (((2 : Int32)).toUInt32 &&& Int32.toUInt32 31)).toInt32 &&& (858993459 : Int32)))).toUInt32 >>> (((4 : Int32)).toUInt32 &&& Int32.toUInt32 31)).toInt32) &&& (252645135 : Int32)) + (((((((x0 - (((x0).toUInt32 >>> (((1 : Int32)).toUInt32 &&& Int32.toUInt32 31)).toInt32 &&& (1431655765 : Int32))) &&& (858993459 : Int32)) + ((((x0 - (((x0).toUInt32 >>> (((1 : Int32)).toUInt32 &&& Int32.toUInt32 31)).toInt32 &&& (1431655765 : Int32)))).toUInt32 >>> (((2 : Int32)).toUInt32 &&& Int32.toUInt32 31)).toInt32 &&& (858993459 : Int32))) + (((((x0 - (((x0).toUInt32 >>> (((1 : Int32)).toUInt32 &&& Int32.toUInt32 31)).toInt32 &&& (1431655765 : Int32))) &&& (858993459 : Int32)) + ((((x0 - (((x0).toUInt32 >>> (((1 : Int32)).toUInt32 &&& Int32.toUInt32 31)).toInt32 &&& (1431655765 : Int32)))).toUInt32 >>> (((2 : Int32)).toUInt32 &&& Int32.toUInt32 31)).toInt32 &&& (858993459 : Int32)))).toUInt32 >>> (((4 : Int32)).toUInt32 &&& Int32.toUInt32 31)).toInt32) &&& (252645135 : Int32))).toUInt32 >>> (((8 : Int32)).toUInt32 &&& Int32.toUInt32 31)).toInt32)).toUInt32 >>> (((16 : Int32)).toUInt32 &&& Int32.toUInt32 31)).toInt32) &&& (63 : Int32))
theorem vc_J_bitCount (x0 : Int32)  (I : wI) (hp : pre_J_bitCount x0 I) : v_J_bitCount x0 I (post_J_bitCount x0 I) := sorry
def v_X1_notchesBy_33 (k : Nat) (x1 : Int32) (I : wI) (Q : Int32 → Prop) (t0 : Int32) : Prop :=
  Q t0
def v_X1_notchesBy (k : Nat) (x1 : Int32) (I : wI) (Q : Int32 → Prop) : Prop :=
  (pre_X5_keyOf x1 I) ∧ (∀ r1 : Int32, (post_X5_keyOf x1 I r1) → ((pre_X1_strengthOf k r1 I) ∧ (∀ r2 : Int32, (post_X1_strengthOf k r1 I r2) → ((pre_X1_maskOf k r1 I) ∧ (∀ r3 : Int32, (post_X1_maskOf k r1 I r3) → ((pre_J_bitCount r3 I) ∧ (∀ r4 : Int32, (post_J_bitCount r3 I r4) → ((pre_X5_isBack x1 I) ∧ (∀ r5 : Int32, (post_X5_isBack x1 I r5) → (((r5 = 0) → (v_X1_notchesBy_33 k x1 I Q  (r2 * r4))) ∧ ((¬ (r5 = 0)) → (v_X1_notchesBy_33 k x1 I Q  (-(r2 * r4))))))))))))))
theorem vc_X1_notchesBy (k : Nat) (x1 : Int32) (hs : wSh k = (0, 1)) (I : wI) (hp : pre_X1_notchesBy k x1 I) : v_X1_notchesBy k x1 I (post_X1_notchesBy k x1 I) := sorry
def v_J_floorMod_18 (x0 : Int32) (x1 : Int32) (I : wI) (Q : Int32 → Prop) (v2 : Int32) : Prop :=
  Q v2
def v_J_floorMod (x0 : Int32) (x1 : Int32) (I : wI) (Q : Int32 → Prop) : Prop :=
  (¬ x1 = 0) ∧ (((0 ≤ (x0 ^^^ x1)) → (v_J_floorMod_18 x0 x1 I Q  (x0 - x0 / x1 * x1))) ∧ ((¬ (0 ≤ (x0 ^^^ x1))) → ((((x0 - x0 / x1 * x1) = 0) → (v_J_floorMod_18 x0 x1 I Q  (x0 - x0 / x1 * x1))) ∧ ((¬ ((x0 - x0 / x1 * x1) = 0)) → (Q ((x0 - x0 / x1 * x1) + x1))))))
theorem vc_J_floorMod (x0 : Int32) (x1 : Int32)  (I : wI) (hp : pre_J_floorMod x0 x1 I) : v_J_floorMod x0 x1 I (post_J_floorMod x0 x1 I) := sorry
def v_X3_doMove_93 (k : Nat) (x1 : Int32) (Q : wI → Prop)  (I : wI) : Prop :=
  Q I
def v_X3_doMove_72 (k : Nat) (x1 : Int32) (Q : wI → Prop) (v2 : Int32) (I : wI) : Prop :=
  ((¬ v2 = 0) → (v_X3_doMove_93 k x1 Q   I)) ∧ ((v2 = 0) → ((pre_X3_opens k I) ∧ (∀ r1 : Int32, (post_X3_opens k I r1) → (((r1 = 0) → (v_X3_doMove_93 k x1 Q   I)) ∧ ((¬ (r1 = 0)) → (∀ I2 : wI, I2 = wU I k 8 ((I k 8) + (1 : Int32)) → (v_X3_doMove_93 k x1 Q   I2)))))))
def v_X3_doMove (k : Nat) (x1 : Int32) (I : wI) (Q : wI → Prop) : Prop :=
  (pre_X3_opens k I) ∧ (∀ r1 : Int32, (post_X3_opens k I r1) → ((pre_X1_move (k + 4) (k + 1) x1 I) ∧ (∀ I2 : wI, (post_X1_move (k + 4) (k + 1) x1 I I2) → ((pre_X1_notchesBy (k + 4) x1 I2) ∧ (∀ r3 : Int32, (post_X1_notchesBy (k + 4) x1 I2 r3) → ((pre_J_floorMod ((I2 k 7) + r3) (5 : Int32) I2) ∧ (∀ r4 : Int32, (post_J_floorMod ((I2 k 7) + r3) (5 : Int32) I2 r4) → (∀ I5 : wI, I5 = wU I2 k 7 r4 → (∀ I6 : wI, I6 = wU I5 k 6 ((I5 k 6) + (1 : Int32)) → ((pre_X5_keyOf x1 I6) ∧ (∀ r7 : Int32, (post_X5_keyOf x1 I6 r7) → (((r7 < 0) → (v_X3_doMove_72 k x1 Q  r1 I6)) ∧ ((¬ (r7 < 0)) → ((((5 : Int32) ≤ r7) → (v_X3_doMove_72 k x1 Q  r1 I6)) ∧ ((¬ ((5 : Int32) ≤ r7)) → (vp_in r7 5 ∧ (vp_in r7 5 ∧ ∀ I8 : wI, I8 = wU I6 (k + 10) (r7).toNatClampNeg ((I6 (k + 10) (r7).toNatClampNeg) + (1 : Int32)) → (v_X3_doMove_72 k x1 Q  r1 I8))))))))))))))))))
theorem vc_X3_doMove (k : Nat) (x1 : Int32) (hs : wSh k = (0, 3)) (I : wI) (hp : pre_X3_doMove k x1 I) : v_X3_doMove k x1 I (post_X3_doMove k x1 I) := sorry
def v_X5_turnOnce (x1 : Int32) (x2 : Int32) (I : wI) (Q : Int32 → wI → Prop) : Prop :=
  (pre_X5_requireKey x1 I) ∧ ((post_X5_requireKey x1 I) → ((pre_X5_moveOf x1 x2 I) ∧ (∀ r1 : Int32, (post_X5_moveOf x1 x2 I r1) → ((pre_X3_allows 1 r1 I) ∧ (∀ r2 : Int32, (post_X3_allows 1 r1 I r2) → (((¬ r2 = 0) → ((pre_X5_save  I) ∧ (∀ I3 : wI, (post_X5_save  I I3) → ((pre_X3_doMove 1 r1 I3) ∧ (∀ I4 : wI, (post_X3_doMove 1 r1 I3 I4) → ((pre_X3_asInSecret 1 2 I4) ∧ (∀ r5 : Int32, (post_X3_asInSecret 1 2 I4 r5) → (Q r5 I4)))))))) ∧ ((r2 = 0) → (False))))))))
theorem vc_X5_turnOnce (x1 : Int32) (x2 : Int32)  (I : wI) (hp : pre_X5_turnOnce x1 x2 I) : v_X5_turnOnce x1 x2 I (post_X5_turnOnce x1 x2 I) := sorry
def v_X5_turnOncex (x1 : Int32) (x2 : Int32) (I : wI) (X : String → wI → Prop) : Prop :=
  ((ok_X5_requireKey x1 I) → ((pre_X5_requireKey x1 I) ∧ ((post_X5_requireKey x1 I) → ((pre_X5_moveOf x1 x2 I) ∧ (∀ r1 : Int32, (post_X5_moveOf x1 x2 I r1) → ((pre_X3_allows 1 r1 I) ∧ (∀ r2 : Int32, (post_X3_allows 1 r1 I r2) → (((¬ r2 = 0) → ((pre_X5_save  I) ∧ (∀ I3 : wI, (post_X5_save  I I3) → ((pre_X3_doMove 1 r1 I3) ∧ (∀ I4 : wI, (post_X3_doMove 1 r1 I3 I4) → ((pre_X3_asInSecret 1 2 I4) ∧ (∀ r5 : Int32, (post_X3_asInSecret 1 2 I4 r5) → (False)))))))) ∧ ((r2 = 0) → (X "java/lang/IllegalStateException" I)))))))))) ∧ ((¬ (ok_X5_requireKey x1 I)) → ((pre_X5_requireKeyx x1 I) ∧ (∀ E : String, (exc_X5_requireKey x1 I E) → X E I)))
theorem vc_X5_turnOncex (x1 : Int32) (x2 : Int32)  (I : wI) (hp : pre_X5_turnOncex x1 x2 I) : v_X5_turnOncex x1 x2 I (exc_X5_turnOnce x1 x2 I) := sorry
def v_X5_turn (x1 : Int32) (I : wI) (Q : Int32 → wI → Prop) : Prop :=
  (pre_X5_turnOnce x1 (0 : Int32) I) ∧ (∀ r1 : Int32, ∀ I2 : wI, (post_X5_turnOnce x1 (0 : Int32) I r1 I2) → (Q r1 I2))
theorem vc_X5_turn (x1 : Int32)  (I : wI) (hp : pre_X5_turn x1 I) : v_X5_turn x1 I (post_X5_turn x1 I) := sorry
def v_X5_turnx (x1 : Int32) (I : wI) (X : String → wI → Prop) : Prop :=
  ((ok_X5_turnOnce x1 (0 : Int32) I) → ((pre_X5_turnOnce x1 (0 : Int32) I) ∧ (∀ r3 : Int32, ∀ I4 : wI, (post_X5_turnOnce x1 (0 : Int32) I r3 I4) → (False)))) ∧ ((¬ (ok_X5_turnOnce x1 (0 : Int32) I)) → ((pre_X5_turnOncex x1 (0 : Int32) I) ∧ (∀ (E : String) (u : wI), (exc_X5_turnOnce x1 (0 : Int32) I E u) → X E u)))
theorem vc_X5_turnx (x1 : Int32)  (I : wI) (hp : pre_X5_turnx x1 I) : v_X5_turnx x1 I (exc_X5_turn x1 I) := sorry
def v_X5_back (x1 : Int32) (I : wI) (Q : Int32 → wI → Prop) : Prop :=
  (pre_X5_turnOnce x1 (1 : Int32) I) ∧ (∀ r1 : Int32, ∀ I2 : wI, (post_X5_turnOnce x1 (1 : Int32) I r1 I2) → (Q r1 I2))
theorem vc_X5_back (x1 : Int32)  (I : wI) (hp : pre_X5_back x1 I) : v_X5_back x1 I (post_X5_back x1 I) := sorry
def v_X5_backx (x1 : Int32) (I : wI) (X : String → wI → Prop) : Prop :=
  ((ok_X5_turnOnce x1 (1 : Int32) I) → ((pre_X5_turnOnce x1 (1 : Int32) I) ∧ (∀ r3 : Int32, ∀ I4 : wI, (post_X5_turnOnce x1 (1 : Int32) I r3 I4) → (False)))) ∧ ((¬ (ok_X5_turnOnce x1 (1 : Int32) I)) → ((pre_X5_turnOncex x1 (1 : Int32) I) ∧ (∀ (E : String) (u : wI), (exc_X5_turnOnce x1 (1 : Int32) I E u) → X E u)))
theorem vc_X5_backx (x1 : Int32)  (I : wI) (hp : pre_X5_backx x1 I) : v_X5_backx x1 I (exc_X5_back x1 I) := sorry
def v_X4_signAt_20 (k : Nat) (x1 : Int32) (I : wI) (Q : Int32 → Prop) (t0 : Int32) : Prop :=
  (narrow .char (.int t0) = .int t0) ∧ Q t0
def v_X4_signAt_19 (k : Nat) (x1 : Int32) (I : wI) (Q : Int32 → Prop)  : Prop :=
  v_X4_signAt_20 k x1 I Q  (0 : Int32)
def v_X4_signAt (k : Nat) (x1 : Int32) (I : wI) (Q : Int32 → Prop) : Prop :=
  ((x1 < 0) → (v_X4_signAt_19 k x1 I Q  )) ∧ ((¬ (x1 < 0)) → ((((60 : Int32) ≤ x1) → (v_X4_signAt_19 k x1 I Q  )) ∧ ((¬ ((60 : Int32) ≤ x1)) → (vp_in x1 60 ∧ (v_X4_signAt_20 k x1 I Q  (I (k + 1) (x1).toNatClampNeg))))))
theorem vc_X4_signAt (k : Nat) (x1 : Int32) (hs : wSh k = (0, 4)) (I : wI) (hp : pre_X4_signAt k x1 I) : v_X4_signAt k x1 I (post_X4_signAt k x1 I) := sorry
def v_X4_moveAt_21 (k : Nat) (x1 : Int32) (I : wI) (Q : Int32 → Prop) (t0 : Int32) : Prop :=
  Q t0
def v_X4_moveAt_20 (k : Nat) (x1 : Int32) (I : wI) (Q : Int32 → Prop)  : Prop :=
  v_X4_moveAt_21 k x1 I Q  (0 : Int32)
def v_X4_moveAt (k : Nat) (x1 : Int32) (I : wI) (Q : Int32 → Prop) : Prop :=
  ((x1 < 0) → (v_X4_moveAt_20 k x1 I Q  )) ∧ ((¬ (x1 < 0)) → ((((500 : Int32) ≤ x1) → (v_X4_moveAt_20 k x1 I Q  )) ∧ ((¬ ((500 : Int32) ≤ x1)) → (vp_in x1 500 ∧ (v_X4_moveAt_21 k x1 I Q  (I (k + 2) (x1).toNatClampNeg))))))
theorem vc_X4_moveAt (k : Nat) (x1 : Int32) (hs : wSh k = (0, 4)) (I : wI) (hp : pre_X4_moveAt k x1 I) : v_X4_moveAt k x1 I (post_X4_moveAt k x1 I) := sorry
def v_X4_addMove_27 (k : Nat) (x1 : Int32) (Q : wI → Prop)  (I : wI) : Prop :=
  ∀ I1 : wI, I1 = wU I k 3 ((I k 3) + (1 : Int32)) → (Q I1)
def v_X4_addMove (k : Nat) (x1 : Int32) (I : wI) (Q : wI → Prop) : Prop :=
  (((I k 3) < 0) → (v_X4_addMove_27 k x1 Q   I)) ∧ ((¬ ((I k 3) < 0)) → ((((500 : Int32) ≤ (I k 3)) → (v_X4_addMove_27 k x1 Q   I)) ∧ ((¬ ((500 : Int32) ≤ (I k 3))) → (vp_in (I k 3) 500 ∧ ∀ I1 : wI, I1 = wU I (k + 2) ((I k 3)).toNatClampNeg x1 → (v_X4_addMove_27 k x1 Q   I1)))))
theorem vc_X4_addMove (k : Nat) (x1 : Int32) (hs : wSh k = (0, 4)) (I : wI) (hp : pre_X4_addMove k x1 I) : v_X4_addMove k x1 I (post_X4_addMove k x1 I) := sorry
def v_X4_repeat_53 (k : Nat) (x1 : Int32) (x2 : Int32) (Q : wI → Prop) (v4 : Int32) (I : wI) : Prop :=
  ∀ I1 : wI, I1 = wU I k 3 v4 → (Q I1)
def g_X4_repeat_20 (k : Nat) (x1 : Int32) (x2 : Int32) (Q : wI → Prop) (K20 : Int32 → Int32 → Int32 → wI → Prop) (v3 : Int32) (v4 : Int32) (v5 : Int32) (I : wI) : Prop :=
  ((v4 ≤ v5) → (v_X4_repeat_53 k x1 x2 Q  v4 I)) ∧ ((¬ (v4 ≤ v5)) → ((((500 : Int32) ≤ v5) → (v_X4_repeat_53 k x1 x2 Q  v4 I)) ∧ ((¬ ((500 : Int32) ≤ v5)) → ((pre_X4_moveAt k (v5 - v3) I) ∧ (∀ r1 : Int32, (post_X4_moveAt k (v5 - v3) I r1) → ((pre_X4_addMove k r1 I) ∧ (∀ I2 : wI, (post_X4_addMove k r1 I I2) → (K20 v3 v4 (v5 + (1 : Int32)) I2))))))))
def v_X4_repeat_20 (k : Nat) (x1 : Int32) (x2 : Int32) (Q : wI → Prop) : Nat → Int32 → Int32 → Int32 → wI → Prop
  | 0 => fun _ _ _ _ => False
  | f + 1 => g_X4_repeat_20 k x1 x2 Q (v_X4_repeat_20 k x1 x2 Q f)
def v_X4_repeat (k : Nat) (x1 : Int32) (x2 : Int32) (I : wI) (Q : wI → Prop) : Prop :=
  ∃ f : Nat, v_X4_repeat_20 k x1 x2 Q  f ((I k 3) - x1) (x1 + (((I k 3) - x1) * x2)) (I k 3) I
theorem vc_X4_repeat (k : Nat) (x1 : Int32) (x2 : Int32) (hs : wSh k = (0, 4)) (I : wI) (hp : pre_X4_repeat k x1 x2 I) : v_X4_repeat k x1 x2 I (post_X4_repeat k x1 x2 I) := sorry
def v_X4_takesFigure_28 (k : Nat) (x1 : Int32) (Q : Int32 → wI → Prop)  (I : wI) : Prop :=
  Q (0 : Int32) I
def v_X4_takesFigure (k : Nat) (x1 : Int32) (I : wI) (Q : Int32 → wI → Prop) : Prop :=
  ((x1 < (50 : Int32)) → (v_X4_takesFigure_28 k x1 Q   I)) ∧ ((¬ (x1 < (50 : Int32))) → ((((57 : Int32) < x1) → (v_X4_takesFigure_28 k x1 Q   I)) ∧ ((¬ ((57 : Int32) < x1)) → (((((I k 8) - (1 : Int32)) < 0) → (v_X4_takesFigure_28 k x1 Q   I)) ∧ ((¬ (((I k 8) - (1 : Int32)) < 0)) → (((((I k 8) - (1 : Int32)) < (4 : Int32)) → (∀ I1 : wI, I1 = wU I k 10 (0 : Int32) → (∀ I2 : wI, I2 = wU I1 k 8 ((I k 8) - (1 : Int32)) → (vp_in ((I k 8) - (1 : Int32)) 4 ∧ ((pre_X4_repeat k (I2 (k + 4) (((I k 8) - (1 : Int32))).toNatClampNeg) (x1 - (48 : Int32)) I2) ∧ (∀ I3 : wI, (post_X4_repeat k (I2 (k + 4) (((I k 8) - (1 : Int32))).toNatClampNeg) (x1 - (48 : Int32)) I2 I3) → (Q (1 : Int32) I3))))))) ∧ ((¬ (((I k 8) - (1 : Int32)) < (4 : Int32))) → (v_X4_takesFigure_28 k x1 Q   I))))))))
theorem vc_X4_takesFigure (k : Nat) (x1 : Int32) (hs : wSh k = (0, 4)) (I : wI) (hp : pre_X4_takesFigure k x1 I) : v_X4_takesFigure k x1 I (post_X4_takesFigure k x1 I) := sorry
def v_X4_takesMove (k : Nat) (x1 : Int32) (I : wI) (Q : Int32 → wI → Prop) : Prop :=
  (pre_X4_addMove k x1 I) ∧ (∀ I1 : wI, (post_X4_addMove k x1 I I1) → (∀ I2 : wI, I2 = wU I1 k 9 (1 : Int32) → (Q (1 : Int32) I2)))
theorem vc_X4_takesMove (k : Nat) (x1 : Int32) (hs : wSh k = (0, 4)) (I : wI) (hp : pre_X4_takesMove k x1 I) : v_X4_takesMove k x1 I (post_X4_takesMove k x1 I) := sorry
def v_X4_takesOpening_15 (k : Nat) (x1 : Int32) (Q : Int32 → wI → Prop)  (I : wI) : Prop :=
  Q (0 : Int32) I
def v_X4_takesOpening (k : Nat) (x1 : Int32) (I : wI) (Q : Int32 → wI → Prop) : Prop :=
  (((I k 8) < 0) → (v_X4_takesOpening_15 k x1 Q   I)) ∧ ((¬ ((I k 8) < 0)) → ((((I k 8) < (4 : Int32)) → (vp_in (I k 8) 4 ∧ ∀ I1 : wI, I1 = wU I (k + 3) ((I k 8)).toNatClampNeg x1 → (vp_in (I1 k 8) 4 ∧ ∀ I2 : wI, I2 = wU I1 (k + 4) ((I1 k 8)).toNatClampNeg (I1 k 3) → (vp_in (I2 k 8) 4 ∧ ∀ I3 : wI, I3 = wU I2 (k + 5) ((I2 k 8)).toNatClampNeg (I2 k 3) → (∀ I4 : wI, I4 = wU I3 k 8 ((I3 k 8) + (1 : Int32)) → (∀ I5 : wI, I5 = wU I4 k 9 (0 : Int32) → (Q (1 : Int32) I5))))))) ∧ ((¬ ((I k 8) < (4 : Int32))) → (v_X4_takesOpening_15 k x1 Q   I))))
theorem vc_X4_takesOpening (k : Nat) (x1 : Int32) (hs : wSh k = (0, 4)) (I : wI) (hp : pre_X4_takesOpening k x1 I) : v_X4_takesOpening k x1 I (post_X4_takesOpening k x1 I) := sorry
def v_X5_opposite_16 (x0 : Int32) (I : wI) (Q : Int32 → Prop) (t0 : Int32) (t1 : Int32) : Prop :=
  (pre_X5_moveOf t1 t0 I) ∧ (∀ r1 : Int32, (post_X5_moveOf t1 t0 I r1) → (Q r1))
def v_X5_opposite (x0 : Int32) (I : wI) (Q : Int32 → Prop) : Prop :=
  (pre_X5_keyOf x0 I) ∧ (∀ r1 : Int32, (post_X5_keyOf x0 I r1) → ((pre_X5_isBack x0 I) ∧ (∀ r2 : Int32, (post_X5_isBack x0 I r2) → (((¬ r2 = 0) → (v_X5_opposite_16 x0 I Q  (0 : Int32) r1)) ∧ ((r2 = 0) → (v_X5_opposite_16 x0 I Q  (1 : Int32) r1))))))
theorem vc_X5_opposite (x0 : Int32)  (I : wI) (hp : pre_X5_opposite x0 I) : v_X5_opposite x0 I (post_X5_opposite x0 I) := sorry
def v_X4_addOpposite_87 (k : Nat) (x1 : Int32) (x2 : Int32) (x3 : Int32) (Q : wI → Prop) (v4 : Int32) (I : wI) : Prop :=
  ∀ I1 : wI, I1 = wU I k 3 v4 → (Q I1)
def g_X4_addOpposite_52 (k : Nat) (x1 : Int32) (x2 : Int32) (x3 : Int32) (Q : wI → Prop) (K52 : Int32 → Int32 → wI → Prop) (v4 : Int32) (v5 : Int32) (I : wI) : Prop :=
  ((v5 < x2) → (v_X4_addOpposite_87 k x1 x2 x3 Q  v4 I)) ∧ ((¬ (v5 < x2)) → ((((500 : Int32) ≤ (I k 3)) → (v_X4_addOpposite_87 k x1 x2 x3 Q  v4 I)) ∧ ((¬ ((500 : Int32) ≤ (I k 3))) → ((pre_X4_moveAt k v5 I) ∧ (∀ r1 : Int32, (post_X4_moveAt k v5 I r1) → ((pre_X5_opposite r1 I) ∧ (∀ r2 : Int32, (post_X5_opposite r1 I r2) → ((pre_X4_addMove k r2 I) ∧ (∀ I3 : wI, (post_X4_addMove k r2 I I3) → (K52 v4 (v5 + (-1 : Int32)) I3))))))))))
def v_X4_addOpposite_52 (k : Nat) (x1 : Int32) (x2 : Int32) (x3 : Int32) (Q : wI → Prop) : Nat → Int32 → Int32 → wI → Prop
  | 0 => fun _ _ _ => False
  | f + 1 => g_X4_addOpposite_52 k x1 x2 x3 Q (v_X4_addOpposite_52 k x1 x2 x3 Q f)
def v_X4_addOpposite_47 (k : Nat) (x1 : Int32) (x2 : Int32) (x3 : Int32) (Q : wI → Prop) (v4 : Int32) (I : wI) : Prop :=
  ∃ f : Nat, v_X4_addOpposite_52 k x1 x2 x3 Q  f v4 (x3 - (1 : Int32)) I
def g_X4_addOpposite_12 (k : Nat) (x1 : Int32) (x2 : Int32) (x3 : Int32) (Q : wI → Prop) (K12 : Int32 → Int32 → wI → Prop) (v4 : Int32) (v5 : Int32) (I : wI) : Prop :=
  ((v5 < x1) → (v_X4_addOpposite_47 k x1 x2 x3 Q  v4 I)) ∧ ((¬ (v5 < x1)) → ((((500 : Int32) ≤ (I k 3)) → (v_X4_addOpposite_47 k x1 x2 x3 Q  v4 I)) ∧ ((¬ ((500 : Int32) ≤ (I k 3))) → ((pre_X4_moveAt k v5 I) ∧ (∀ r1 : Int32, (post_X4_moveAt k v5 I r1) → ((pre_X5_opposite r1 I) ∧ (∀ r2 : Int32, (post_X5_opposite r1 I r2) → ((pre_X4_addMove k r2 I) ∧ (∀ I3 : wI, (post_X4_addMove k r2 I I3) → (K12 v4 (v5 + (-1 : Int32)) I3))))))))))
def v_X4_addOpposite_12 (k : Nat) (x1 : Int32) (x2 : Int32) (x3 : Int32) (Q : wI → Prop) : Nat → Int32 → Int32 → wI → Prop
  | 0 => fun _ _ _ => False
  | f + 1 => g_X4_addOpposite_12 k x1 x2 x3 Q (v_X4_addOpposite_12 k x1 x2 x3 Q f)
def v_X4_addOpposite (k : Nat) (x1 : Int32) (x2 : Int32) (x3 : Int32) (I : wI) (Q : wI → Prop) : Prop :=
  ∃ f : Nat, v_X4_addOpposite_12 k x1 x2 x3 Q  f ((x3 + x3) - x1) (x2 - (1 : Int32)) I
theorem vc_X4_addOpposite (k : Nat) (x1 : Int32) (x2 : Int32) (x3 : Int32) (hs : wSh k = (0, 4)) (I : wI) (hp : pre_X4_addOpposite k x1 x2 x3 I) : v_X4_addOpposite k x1 x2 x3 I (post_X4_addOpposite k x1 x2 x3 I) := sorry
def v_X4_takesInBracket_123 (k : Nat) (x1 : Int32) (Q : Int32 → wI → Prop)  (I : wI) : Prop :=
  Q (0 : Int32) I
def v_X4_takesInBracket_80 (k : Nat) (x1 : Int32) (Q : Int32 → wI → Prop) (v2 : Int32) (I : wI) : Prop :=
  vp_in v2 4 ∧ (((¬ (I (k + 3) (v2).toNatClampNeg) = (2 : Int32)) → (v_X4_takesInBracket_123 k x1 Q   I)) ∧ (((I (k + 3) (v2).toNatClampNeg) = (2 : Int32)) → (((¬ x1 = (93 : Int32)) → (v_X4_takesInBracket_123 k x1 Q   I)) ∧ ((x1 = (93 : Int32)) → (∀ I1 : wI, I1 = wU I k 8 v2 → (vp_in v2 4 ∧ (vp_in v2 4 ∧ ((pre_X4_addOpposite k (I1 (k + 4) (v2).toNatClampNeg) (I1 (k + 5) (v2).toNatClampNeg) (I1 k 3) I1) ∧ (∀ I2 : wI, (post_X4_addOpposite k (I1 (k + 4) (v2).toNatClampNeg) (I1 (k + 5) (v2).toNatClampNeg) (I1 k 3) I1 I2) → (Q (1 : Int32) I2))))))))))
def v_X4_takesInBracket_40 (k : Nat) (x1 : Int32) (Q : Int32 → wI → Prop) (v2 : Int32) (I : wI) : Prop :=
  vp_in v2 4 ∧ (((¬ (I (k + 3) (v2).toNatClampNeg) = (1 : Int32)) → (v_X4_takesInBracket_80 k x1 Q  v2 I)) ∧ (((I (k + 3) (v2).toNatClampNeg) = (1 : Int32)) → (((¬ x1 = (44 : Int32)) → (v_X4_takesInBracket_80 k x1 Q  v2 I)) ∧ ((x1 = (44 : Int32)) → (vp_in v2 4 ∧ ∀ I1 : wI, I1 = wU I (k + 3) (v2).toNatClampNeg (2 : Int32) → (vp_in v2 4 ∧ ∀ I2 : wI, I2 = wU I1 (k + 5) (v2).toNatClampNeg (I1 k 3) → (∀ I3 : wI, I3 = wU I2 k 9 (0 : Int32) → (Q (1 : Int32) I3))))))))
def v_X4_takesInBracket_16 (k : Nat) (x1 : Int32) (Q : Int32 → wI → Prop)  (I : wI) : Prop :=
  Q (0 : Int32) I
def v_X4_takesInBracket (k : Nat) (x1 : Int32) (I : wI) (Q : Int32 → wI → Prop) : Prop :=
  ((((I k 8) - (1 : Int32)) < 0) → (v_X4_takesInBracket_16 k x1 Q   I)) ∧ ((¬ (((I k 8) - (1 : Int32)) < 0)) → (((((I k 8) - (1 : Int32)) < (4 : Int32)) → (vp_in ((I k 8) - (1 : Int32)) 4 ∧ (((¬ (I (k + 3) (((I k 8) - (1 : Int32))).toNatClampNeg) = 0) → (v_X4_takesInBracket_40 k x1 Q  ((I k 8) - (1 : Int32)) I)) ∧ (((I (k + 3) (((I k 8) - (1 : Int32))).toNatClampNeg) = 0) → (((¬ x1 = (41 : Int32)) → (v_X4_takesInBracket_40 k x1 Q  ((I k 8) - (1 : Int32)) I)) ∧ ((x1 = (41 : Int32)) → (∀ I1 : wI, I1 = wU I k 10 (1 : Int32) → (Q (1 : Int32) I1)))))))) ∧ ((¬ (((I k 8) - (1 : Int32)) < (4 : Int32))) → (v_X4_takesInBracket_16 k x1 Q   I))))
theorem vc_X4_takesInBracket (k : Nat) (x1 : Int32) (hs : wSh k = (0, 4)) (I : wI) (hp : pre_X4_takesInBracket k x1 I) : v_X4_takesInBracket k x1 I (post_X4_takesInBracket k x1 I) := sorry
def v_X4_takes_107 (k : Nat) (x1 : Int32) (Q : Int32 → wI → Prop) (t0 : Int32) (I : wI) : Prop :=
  (t0 = 0 ∨ t0 = 1) ∧ Q t0 I
def v_X4_takes_106 (k : Nat) (x1 : Int32) (Q : Int32 → wI → Prop)  (I : wI) : Prop :=
  v_X4_takes_107 k x1 Q  (0 : Int32) I
def v_X4_takes_63 (k : Nat) (x1 : Int32) (Q : Int32 → wI → Prop)  (I : wI) : Prop :=
  ((¬ x1 = (40 : Int32)) → (((¬ x1 = (91 : Int32)) → ((((I k 9) = 0) → (v_X4_takes_106 k x1 Q   I)) ∧ ((¬ ((I k 9) = 0)) → ((pre_X4_takesInBracket k x1 I) ∧ (∀ r1 : Int32, ∀ I2 : wI, (post_X4_takesInBracket k x1 I r1 I2) → (((r1 = 0) → (v_X4_takes_106 k x1 Q   I2)) ∧ ((¬ (r1 = 0)) → (v_X4_takes_107 k x1 Q  (1 : Int32) I2)))))))) ∧ ((x1 = (91 : Int32)) → ((pre_X4_takesOpening k (1 : Int32) I) ∧ (∀ r3 : Int32, ∀ I4 : wI, (post_X4_takesOpening k (1 : Int32) I r3 I4) → ((r3 = 0 ∨ r3 = 1) ∧ Q r3 I4)))))) ∧ ((x1 = (40 : Int32)) → ((pre_X4_takesOpening k (0 : Int32) I) ∧ (∀ r5 : Int32, ∀ I6 : wI, (post_X4_takesOpening k (0 : Int32) I r5 I6) → ((r5 = 0 ∨ r5 = 1) ∧ Q r5 I6))))
def v_X4_takes_38 (k : Nat) (x1 : Int32) (Q : Int32 → wI → Prop)  (I : wI) : Prop :=
  ((x1 < (65 : Int32)) → (v_X4_takes_63 k x1 Q   I)) ∧ ((¬ (x1 < (65 : Int32))) → ((((69 : Int32) < x1) → (v_X4_takes_63 k x1 Q   I)) ∧ ((¬ ((69 : Int32) < x1)) → ((pre_X5_moveOf (x1 - (65 : Int32)) (1 : Int32) I) ∧ (∀ r1 : Int32, (post_X5_moveOf (x1 - (65 : Int32)) (1 : Int32) I r1) → ((pre_X4_takesMove k r1 I) ∧ (∀ r2 : Int32, ∀ I3 : wI, (post_X4_takesMove k r1 I r2 I3) → ((r2 = 0 ∨ r2 = 1) ∧ Q r2 I3))))))))
def v_X4_takes (k : Nat) (x1 : Int32) (I : wI) (Q : Int32 → wI → Prop) : Prop :=
  (((I k 10) = 0) → (((x1 < (97 : Int32)) → (v_X4_takes_38 k x1 Q   I)) ∧ ((¬ (x1 < (97 : Int32))) → ((((101 : Int32) < x1) → (v_X4_takes_38 k x1 Q   I)) ∧ ((¬ ((101 : Int32) < x1)) → ((pre_X5_moveOf (x1 - (97 : Int32)) (0 : Int32) I) ∧ (∀ r1 : Int32, (post_X5_moveOf (x1 - (97 : Int32)) (0 : Int32) I r1) → ((pre_X4_takesMove k r1 I) ∧ (∀ r2 : Int32, ∀ I3 : wI, (post_X4_takesMove k r1 I r2 I3) → ((r2 = 0 ∨ r2 = 1) ∧ Q r2 I3)))))))))) ∧ ((¬ ((I k 10) = 0)) → ((pre_X4_takesFigure k x1 I) ∧ (∀ r4 : Int32, ∀ I5 : wI, (post_X4_takesFigure k x1 I r4 I5) → ((r4 = 0 ∨ r4 = 1) ∧ Q r4 I5))))
theorem vc_X4_takes (k : Nat) (x1 : Int32) (hs : wSh k = (0, 4)) (I : wI) (hp : pre_X4_takes k x1 I) : v_X4_takes k x1 I (post_X4_takes k x1 I) := sorry
def v_X4_read_83 (k : Nat) (Q : Int32 → wI → Prop) (v1 : Int32) (t0 : Int32) (I : wI) : Prop :=
  (t0 = 0 ∨ t0 = 1) ∧ (∀ I1 : wI, I1 = wU I k 4 t0 → (Q v1 I1))
def v_X4_read_82 (k : Nat) (Q : Int32 → wI → Prop) (v1 : Int32) (I : wI) : Prop :=
  v_X4_read_83 k Q  v1 (0 : Int32) I
def v_X4_read_48 (k : Nat) (Q : Int32 → wI → Prop) (v1 : Int32) (I : wI) : Prop :=
  ((¬ v1 = (I k 1)) → (v_X4_read_82 k Q  v1 I)) ∧ ((v1 = (I k 1)) → (((¬ (I k 8) = 0) → (v_X4_read_82 k Q  v1 I)) ∧ (((I k 8) = 0) → ((((I k 9) = 0) → (v_X4_read_82 k Q  v1 I)) ∧ ((¬ ((I k 9) = 0)) → (((¬ (I k 10) = 0) → (v_X4_read_82 k Q  v1 I)) ∧ (((I k 10) = 0) → (v_X4_read_83 k Q  v1 (1 : Int32) I))))))))
def g_X4_read_22 (k : Nat) (Q : Int32 → wI → Prop) (K22 : Int32 → wI → Prop) (v1 : Int32) (I : wI) : Prop :=
  (((I k 1) ≤ v1) → (v_X4_read_48 k Q  v1 I)) ∧ ((¬ ((I k 1) ≤ v1)) → ((pre_X4_signAt k v1 I) ∧ (∀ r1 : Int32, (post_X4_signAt k v1 I r1) → ((pre_X4_takes k r1 I) ∧ (∀ r2 : Int32, ∀ I3 : wI, (post_X4_takes k r1 I r2 I3) → (((r2 = 0) → (v_X4_read_48 k Q  v1 I3)) ∧ ((¬ (r2 = 0)) → (K22 (v1 + (1 : Int32)) I3))))))))
def v_X4_read_22 (k : Nat) (Q : Int32 → wI → Prop) : Nat → Int32 → wI → Prop
  | 0 => fun _ _ => False
  | f + 1 => g_X4_read_22 k Q (v_X4_read_22 k Q f)
def v_X4_read (k : Nat) (I : wI) (Q : Int32 → wI → Prop) : Prop :=
  ∀ I1 : wI, I1 = wU I k 3 (0 : Int32) → (∀ I2 : wI, I2 = wU I1 k 8 (0 : Int32) → (∀ I3 : wI, I3 = wU I2 k 9 (0 : Int32) → (∀ I4 : wI, I4 = wU I3 k 10 (0 : Int32) → (∃ f : Nat, v_X4_read_22 k Q  f (0 : Int32) I4))))
theorem vc_X4_read (k : Nat) (hs : wSh k = (0, 4)) (I : wI) (hp : pre_X4_read k I) : v_X4_read k I (post_X4_read k I) := sorry
def v_X5_word_107  (Q : Int32 → wI → Prop) (v1 : Int32) (I : wI) : Prop :=
  ∀ I1 : wI, I1 = wU I 24 1 (0 : Int32) → (Q v1 I1)
def g_X5_word_57  (Q : Int32 → wI → Prop) (K57 : Int32 → wI → Prop) (v1 : Int32) (I : wI) : Prop :=
  (((I 24 3) ≤ v1) → (v_X5_word_107  Q  v1 I)) ∧ ((¬ ((I 24 3) ≤ v1)) → ((pre_X4_moveAt 24 v1 I) ∧ (∀ r1 : Int32, (post_X4_moveAt 24 v1 I r1) → ((pre_X3_allows 1 r1 I) ∧ (∀ r2 : Int32, (post_X3_allows 1 r1 I r2) → (((r2 = 0) → (v_X5_word_107  Q  v1 I)) ∧ ((¬ (r2 = 0)) → ((pre_X4_moveAt 24 v1 I) ∧ (∀ r3 : Int32, (post_X4_moveAt 24 v1 I r3) → ((pre_X3_doMove 1 r3 I) ∧ (∀ I4 : wI, (post_X3_doMove 1 r3 I I4) → (K57 (v1 + (1 : Int32)) I4))))))))))))
def v_X5_word_57  (Q : Int32 → wI → Prop) : Nat → Int32 → wI → Prop
  | 0 => fun _ _ => False
  | f + 1 => g_X5_word_57 Q (v_X5_word_57 Q f)
def v_X5_word  (I : wI) (Q : Int32 → wI → Prop) : Prop :=
  (pre_X4_read 24 I) ∧ (∀ r1 : Int32, ∀ I2 : wI, (post_X4_read 24 I r1 I2) → (((¬ (I2 24 4) = 0) → ((((I2 24 3) ≤ (500 : Int32)) → ((pre_X5_save  I2) ∧ (∀ I3 : wI, (post_X5_save  I2 I3) → (∃ f : Nat, v_X5_word_57  Q  f (0 : Int32) I3)))) ∧ ((¬ ((I2 24 3) ≤ (500 : Int32))) → (False)))) ∧ (((I2 24 4) = 0) → (False))))
theorem vc_X5_word   (I : wI) (hp : pre_X5_word  I) : v_X5_word  I (post_X5_word  I) := sorry
def v_X5_wordx_107  (X : String → wI → Prop) (v1 : Int32) (I : wI) : Prop :=
  ∀ I1 : wI, I1 = wU I 24 1 (0 : Int32) → (False)
def g_X5_wordx_57  (X : String → wI → Prop) (K57 : Int32 → wI → Prop) (v1 : Int32) (I : wI) : Prop :=
  (((I 24 3) ≤ v1) → (v_X5_wordx_107  X  v1 I)) ∧ ((¬ ((I 24 3) ≤ v1)) → ((pre_X4_moveAt 24 v1 I) ∧ (∀ r1 : Int32, (post_X4_moveAt 24 v1 I r1) → ((pre_X3_allows 1 r1 I) ∧ (∀ r2 : Int32, (post_X3_allows 1 r1 I r2) → (((r2 = 0) → (v_X5_wordx_107  X  v1 I)) ∧ ((¬ (r2 = 0)) → ((pre_X4_moveAt 24 v1 I) ∧ (∀ r3 : Int32, (post_X4_moveAt 24 v1 I r3) → ((pre_X3_doMove 1 r3 I) ∧ (∀ I4 : wI, (post_X3_doMove 1 r3 I I4) → (K57 (v1 + (1 : Int32)) I4))))))))))))
def v_X5_wordx_57  (X : String → wI → Prop) : Nat → Int32 → wI → Prop
  | 0 => fun _ _ => False
  | f + 1 => g_X5_wordx_57 X (v_X5_wordx_57 X f)
def v_X5_wordx  (I : wI) (X : String → wI → Prop) : Prop :=
  (pre_X4_read 24 I) ∧ (∀ r1 : Int32, ∀ I2 : wI, (post_X4_read 24 I r1 I2) → (((¬ (I2 24 4) = 0) → ((((I2 24 3) ≤ (500 : Int32)) → ((pre_X5_save  I2) ∧ (∀ I3 : wI, (post_X5_save  I2 I3) → (∃ f : Nat, v_X5_wordx_57  X  f (0 : Int32) I3)))) ∧ ((¬ ((I2 24 3) ≤ (500 : Int32))) → (X "java/lang/IllegalStateException" I2)))) ∧ (((I2 24 4) = 0) → (X "java/lang/IllegalArgumentException" I2))))
theorem vc_X5_wordx   (I : wI) (hp : pre_X5_wordx  I) : v_X5_wordx  I (exc_X5_word  I) := sorry
def v_X0_reach_35 (k : Nat) (I : wI) (Q : Int32 → Prop) (K4 : Int32 → Int32 → Prop) (v1 : Int32) (v2 : Int32) : Prop :=
  K4 v1 (v2 + (1 : Int32))
def v_X0_reach_29 (k : Nat) (I : wI) (Q : Int32 → Prop) (K4 : Int32 → Int32 → Prop) (v1 : Int32) (v2 : Int32) : Prop :=
  v_X0_reach_35 k I Q K4 (v1 ||| ((1 : Int32) <<< (v2 &&& 31))) v2
def g_X0_reach_4 (k : Nat) (I : wI) (Q : Int32 → Prop) (K4 : Int32 → Int32 → Prop) (v1 : Int32) (v2 : Int32) : Prop :=
  (((6 : Int32) ≤ v2) → (Q v1)) ∧ ((¬ ((6 : Int32) ≤ v2)) → (vp_in v2 6 ∧ (((¬ (I (k + 1) (v2).toNatClampNeg) = v2) → (v_X0_reach_29 k I Q K4 v1 v2)) ∧ (((I (k + 1) (v2).toNatClampNeg) = v2) → (vp_in v2 6 ∧ ((((I (k + 2) (v2).toNatClampNeg) = 0) → (v_X0_reach_35 k I Q K4 v1 v2)) ∧ ((¬ ((I (k + 2) (v2).toNatClampNeg) = 0)) → (v_X0_reach_29 k I Q K4 v1 v2))))))))
def v_X0_reach_4 (k : Nat) (I : wI) (Q : Int32 → Prop) : Nat → Int32 → Int32 → Prop
  | 0 => fun _ _ => False
  | f + 1 => g_X0_reach_4 k I Q (v_X0_reach_4 k I Q f)
def v_X0_reach (k : Nat) (I : wI) (Q : Int32 → Prop) : Prop :=
  ∃ f : Nat, v_X0_reach_4 k I Q  f (0 : Int32) (0 : Int32)
theorem vc_X0_reach (k : Nat) (hs : wSh k = (0, 0)) (I : wI) (hp : pre_X0_reach k I) : v_X0_reach k I (post_X0_reach k I) := sorry
def g_X0_bringHome_2 (k : Nat) (Q : wI → Prop) (K2 : Int32 → wI → Prop) (v1 : Int32) (I : wI) : Prop :=
  (((6 : Int32) ≤ v1) → (Q I)) ∧ ((¬ ((6 : Int32) ≤ v1)) → (vp_in v1 6 ∧ ∀ I1 : wI, I1 = wU I (k + 1) (v1).toNatClampNeg v1 → (vp_in v1 6 ∧ ∀ I2 : wI, I2 = wU I1 (k + 2) (v1).toNatClampNeg (0 : Int32) → (K2 (v1 + (1 : Int32)) I2))))
def v_X0_bringHome_2 (k : Nat) (Q : wI → Prop) : Nat → Int32 → wI → Prop
  | 0 => fun _ _ => False
  | f + 1 => g_X0_bringHome_2 k Q (v_X0_bringHome_2 k Q f)
def v_X0_bringHome (k : Nat) (I : wI) (Q : wI → Prop) : Prop :=
  ∃ f : Nat, v_X0_bringHome_2 k Q  f (0 : Int32) I
theorem vc_X0_bringHome (k : Nat) (hs : wSh k = (0, 0)) (I : wI) (hp : pre_X0_bringHome k I) : v_X0_bringHome k I (post_X0_bringHome k I) := sorry
def v_X5_home  (I : wI) (Q : Int32 → wI → Prop) : Prop :=
  (pre_X5_save  I) ∧ (∀ I1 : wI, (post_X5_save  I I1) → ((pre_X0_reach 2 I1) ∧ (∀ r2 : Int32, (post_X0_reach 2 I1 r2) → ((pre_J_bitCount r2 I1) ∧ (∀ r3 : Int32, (post_J_bitCount r2 I1 r3) → ((pre_X0_bringHome 2 I1) ∧ (∀ I4 : wI, (post_X0_bringHome 2 I1 I4) → (∀ I5 : wI, I5 = wU I4 1 7 (0 : Int32) → (Q r3 I5)))))))))
theorem vc_X5_home   (I : wI) (hp : pre_X5_home  I) : v_X5_home  I (post_X5_home  I) := sorry
def v_X5_isKeyMask_23 (x0 : Int32) (I : wI) (Q : Int32 → Prop) (t0 : Int32) : Prop :=
  (t0 = 0 ∨ t0 = 1) ∧ Q t0
def v_X5_isKeyMask_22 (x0 : Int32) (I : wI) (Q : Int32 → Prop)  : Prop :=
  v_X5_isKeyMask_23 x0 I Q  (0 : Int32)
def v_X5_isKeyMask (x0 : Int32) (I : wI) (Q : Int32 → Prop) : Prop :=
  ((x0 < 0) → (v_X5_isKeyMask_22 x0 I Q  )) ∧ ((¬ (x0 < 0)) → ((((64 : Int32) ≤ x0) → (v_X5_isKeyMask_22 x0 I Q  )) ∧ ((¬ ((64 : Int32) ≤ x0)) → ((pre_J_bitCount x0 I) ∧ (∀ r1 : Int32, (post_J_bitCount x0 I r1) → (((r1 < (2 : Int32)) → (v_X5_isKeyMask_22 x0 I Q  )) ∧ ((¬ (r1 < (2 : Int32))) → (v_X5_isKeyMask_23 x0 I Q  (1 : Int32)))))))))
theorem vc_X5_isKeyMask (x0 : Int32)  (I : wI) (hp : pre_X5_isKeyMask x0 I) : v_X5_isKeyMask x0 I (post_X5_isKeyMask x0 I) := sorry
def v_X1_shape_23 (k : Nat) (x1 : Int32) (x2 : Int32) (x3 : Int32) (Q : wI → Prop)  (I : wI) : Prop :=
  Q I
def v_X1_shape (k : Nat) (x1 : Int32) (x2 : Int32) (x3 : Int32) (I : wI) (Q : wI → Prop) : Prop :=
  ((x1 < 0) → (v_X1_shape_23 k x1 x2 x3 Q   I)) ∧ ((¬ (x1 < 0)) → ((((5 : Int32) ≤ x1) → (v_X1_shape_23 k x1 x2 x3 Q   I)) ∧ ((¬ ((5 : Int32) ≤ x1)) → (vp_in x1 5 ∧ ∀ I1 : wI, I1 = wU I (k + 1) (x1).toNatClampNeg x2 → (vp_in x1 5 ∧ ∀ I2 : wI, I2 = wU I1 (k + 2) (x1).toNatClampNeg x3 → (v_X1_shape_23 k x1 x2 x3 Q   I2))))))
theorem vc_X1_shape (k : Nat) (x1 : Int32) (x2 : Int32) (x3 : Int32) (hs : wSh k = (0, 1)) (I : wI) (hp : pre_X1_shape k x1 x2 x3 I) : v_X1_shape k x1 x2 x3 I (post_X1_shape k x1 x2 x3 I) := sorry
def v_X5_cut_20 (x1 : Int32) (x2 : Int32) (x3 : Int32) (Q : Int32 → wI → Prop)  (I : wI) : Prop :=
  False
def v_X5_cut (x1 : Int32) (x2 : Int32) (x3 : Int32) (I : wI) (Q : Int32 → wI → Prop) : Prop :=
  (pre_X5_requireKey x1 I) ∧ ((post_X5_requireKey x1 I) → ((pre_X5_isKeyMask x2 I) ∧ (∀ r1 : Int32, (post_X5_isKeyMask x2 I r1) → (((r1 = 0) → (v_X5_cut_20 x1 x2 x3 Q   I)) ∧ ((¬ (r1 = 0)) → (((x3 < 0) → (v_X5_cut_20 x1 x2 x3 Q   I)) ∧ ((¬ (x3 < 0)) → (((x3 < (5 : Int32)) → ((pre_X5_save  I) ∧ (∀ I2 : wI, (post_X5_save  I I2) → ((pre_X1_maskOf 5 x1 I2) ∧ (∀ r3 : Int32, (post_X1_maskOf 5 x1 I2 r3) → ((pre_X1_shape 5 x1 x2 x3 I2) ∧ (∀ I4 : wI, (post_X1_shape 5 x1 x2 x3 I2 I4) → (Q r3 I4)))))))) ∧ ((¬ (x3 < (5 : Int32))) → (v_X5_cut_20 x1 x2 x3 Q   I))))))))))
theorem vc_X5_cut (x1 : Int32) (x2 : Int32) (x3 : Int32)  (I : wI) (hp : pre_X5_cut x1 x2 x3 I) : v_X5_cut x1 x2 x3 I (post_X5_cut x1 x2 x3 I) := sorry
def v_X5_cutx_20 (x1 : Int32) (x2 : Int32) (x3 : Int32) (X : String → wI → Prop)  (I : wI) : Prop :=
  X "java/lang/IllegalArgumentException" I
def v_X5_cutx (x1 : Int32) (x2 : Int32) (x3 : Int32) (I : wI) (X : String → wI → Prop) : Prop :=
  ((ok_X5_requireKey x1 I) → ((pre_X5_requireKey x1 I) ∧ ((post_X5_requireKey x1 I) → ((pre_X5_isKeyMask x2 I) ∧ (∀ r1 : Int32, (post_X5_isKeyMask x2 I r1) → (((r1 = 0) → (v_X5_cutx_20 x1 x2 x3 X   I)) ∧ ((¬ (r1 = 0)) → (((x3 < 0) → (v_X5_cutx_20 x1 x2 x3 X   I)) ∧ ((¬ (x3 < 0)) → (((x3 < (5 : Int32)) → ((pre_X5_save  I) ∧ (∀ I2 : wI, (post_X5_save  I I2) → ((pre_X1_maskOf 5 x1 I2) ∧ (∀ r3 : Int32, (post_X1_maskOf 5 x1 I2 r3) → ((pre_X1_shape 5 x1 x2 x3 I2) ∧ (∀ I4 : wI, (post_X1_shape 5 x1 x2 x3 I2 I4) → (False)))))))) ∧ ((¬ (x3 < (5 : Int32))) → (v_X5_cutx_20 x1 x2 x3 X   I)))))))))))) ∧ ((¬ (ok_X5_requireKey x1 I)) → ((pre_X5_requireKeyx x1 I) ∧ (∀ E : String, (exc_X5_requireKey x1 I E) → X E I)))
theorem vc_X5_cutx (x1 : Int32) (x2 : Int32) (x3 : Int32)  (I : wI) (hp : pre_X5_cutx x1 x2 x3 I) : v_X5_cutx x1 x2 x3 I (exc_X5_cut x1 x2 x3 I) := sorry
def v_X5_requirePosition_10 (x0 : Int32) (I : wI) (Q : Prop)  : Prop :=
  False
def v_X5_requirePosition (x0 : Int32) (I : wI) (Q : Prop) : Prop :=
  ((x0 < 0) → (v_X5_requirePosition_10 x0 I Q  )) ∧ ((¬ (x0 < 0)) → (((x0 < (6 : Int32)) → (Q)) ∧ ((¬ (x0 < (6 : Int32))) → (v_X5_requirePosition_10 x0 I Q  ))))
theorem vc_X5_requirePosition (x0 : Int32)  (I : wI) (hp : pre_X5_requirePosition x0 I) : v_X5_requirePosition x0 I (post_X5_requirePosition x0 I) := sorry
def v_X5_requirePositionx_10 (x0 : Int32) (I : wI) (X : String → Prop)  : Prop :=
  X "java/lang/IndexOutOfBoundsException"
def v_X5_requirePositionx (x0 : Int32) (I : wI) (X : String → Prop) : Prop :=
  ((x0 < 0) → (v_X5_requirePositionx_10 x0 I X  )) ∧ ((¬ (x0 < 0)) → (((x0 < (6 : Int32)) → (False)) ∧ ((¬ (x0 < (6 : Int32))) → (v_X5_requirePositionx_10 x0 I X  ))))
theorem vc_X5_requirePositionx (x0 : Int32)  (I : wI) (hp : pre_X5_requirePositionx x0 I) : v_X5_requirePositionx x0 I (exc_X5_requirePosition x0 I) := sorry
def v_X3_stuckKeys_20 (k : Nat) (I : wI) (Q : Int32 → Prop) (K4 : Int32 → Int32 → Prop) (v1 : Int32) (v2 : Int32) : Prop :=
  K4 v1 (v2 + (1 : Int32))
def g_X3_stuckKeys_4 (k : Nat) (I : wI) (Q : Int32 → Prop) (K4 : Int32 → Int32 → Prop) (v1 : Int32) (v2 : Int32) : Prop :=
  (((5 : Int32) ≤ v2) → (Q v1)) ∧ ((¬ ((5 : Int32) ≤ v2)) → ((pre_X3_allows k v2 I) ∧ (∀ r1 : Int32, (post_X3_allows k v2 I r1) → (((¬ r1 = 0) → (v_X3_stuckKeys_20 k I Q K4 v1 v2)) ∧ ((r1 = 0) → (v_X3_stuckKeys_20 k I Q K4 (v1 + (1 : Int32)) v2))))))
def v_X3_stuckKeys_4 (k : Nat) (I : wI) (Q : Int32 → Prop) : Nat → Int32 → Int32 → Prop
  | 0 => fun _ _ => False
  | f + 1 => g_X3_stuckKeys_4 k I Q (v_X3_stuckKeys_4 k I Q f)
def v_X3_stuckKeys (k : Nat) (I : wI) (Q : Int32 → Prop) : Prop :=
  ∃ f : Nat, v_X3_stuckKeys_4 k I Q  f (0 : Int32) (0 : Int32)
theorem vc_X3_stuckKeys (k : Nat) (hs : wSh k = (0, 3)) (I : wI) (hp : pre_X3_stuckKeys k I) : v_X3_stuckKeys k I (post_X3_stuckKeys k I) := sorry
def v_X5_stick (x1 : Int32) (I : wI) (Q : Int32 → wI → Prop) : Prop :=
  (pre_X5_requirePosition x1 I) ∧ ((post_X5_requirePosition x1 I) → ((pre_X5_save  I) ∧ (∀ I1 : wI, (post_X5_save  I I1) → (∀ I2 : wI, I2 = wU I1 1 4 ((I1 1 4) ^^^ ((1 : Int32) <<< (x1 &&& 31))) → ((pre_X3_stuckKeys 1 I2) ∧ (∀ r3 : Int32, (post_X3_stuckKeys 1 I2 r3) → (Q r3 I2)))))))
theorem vc_X5_stick (x1 : Int32)  (I : wI) (hp : pre_X5_stick x1 I) : v_X5_stick x1 I (post_X5_stick x1 I) := sorry
def v_X5_stickx (x1 : Int32) (I : wI) (X : String → wI → Prop) : Prop :=
  ((ok_X5_requirePosition x1 I) → ((pre_X5_requirePosition x1 I) ∧ ((post_X5_requirePosition x1 I) → ((pre_X5_save  I) ∧ (∀ I1 : wI, (post_X5_save  I I1) → (∀ I2 : wI, I2 = wU I1 1 4 ((I1 1 4) ^^^ ((1 : Int32) <<< (x1 &&& 31))) → ((pre_X3_stuckKeys 1 I2) ∧ (∀ r3 : Int32, (post_X3_stuckKeys 1 I2 r3) → (False))))))))) ∧ ((¬ (ok_X5_requirePosition x1 I)) → ((pre_X5_requirePositionx x1 I) ∧ (∀ E : String, (exc_X5_requirePosition x1 I E) → X E I)))
theorem vc_X5_stickx (x1 : Int32)  (I : wI) (hp : pre_X5_stickx x1 I) : v_X5_stickx x1 I (exc_X5_stick x1 I) := sorry
def g_X0_notchSum_4 (k : Nat) (I : wI) (Q : Int32 → Prop) (K4 : Int32 → Int32 → Prop) (v1 : Int32) (v2 : Int32) : Prop :=
  (((6 : Int32) ≤ v2) → (Q v1)) ∧ ((¬ ((6 : Int32) ≤ v2)) → (vp_in v2 6 ∧ (K4 (v1 + (I (k + 2) (v2).toNatClampNeg)) (v2 + (1 : Int32)))))
def v_X0_notchSum_4 (k : Nat) (I : wI) (Q : Int32 → Prop) : Nat → Int32 → Int32 → Prop
  | 0 => fun _ _ => False
  | f + 1 => g_X0_notchSum_4 k I Q (v_X0_notchSum_4 k I Q f)
def v_X0_notchSum (k : Nat) (I : wI) (Q : Int32 → Prop) : Prop :=
  ∃ f : Nat, v_X0_notchSum_4 k I Q  f (0 : Int32) (0 : Int32)
theorem vc_X0_notchSum (k : Nat) (hs : wSh k = (0, 0)) (I : wI) (hp : pre_X0_notchSum k I) : v_X0_notchSum k I (post_X0_notchSum k I) := sorry
def v_X5_learn  (I : wI) (Q : Int32 → wI → Prop) : Prop :=
  (pre_X5_save  I) ∧ (∀ I1 : wI, (post_X5_save  I I1) → ((pre_X0_copyFrom 8 2 I1) ∧ (∀ I2 : wI, (post_X0_copyFrom 8 2 I1 I2) → (∀ I3 : wI, I3 = wU I2 1 3 (1 : Int32) → ((pre_X0_notchSum 2 I3) ∧ (∀ r4 : Int32, (post_X0_notchSum 2 I3 r4) → (Q r4 I3)))))))
theorem vc_X5_learn   (I : wI) (hp : pre_X5_learn  I) : v_X5_learn  I (post_X5_learn  I) := sorry
def v_X4_addSign_36 (k : Nat) (x1 : Int32) (Q : wI → Prop)  (I : wI) : Prop :=
  Q I
def v_X4_addSign (k : Nat) (x1 : Int32) (I : wI) (Q : wI → Prop) : Prop :=
  (((I k 1) < 0) → (v_X4_addSign_36 k x1 Q   I)) ∧ ((¬ ((I k 1) < 0)) → ((((60 : Int32) ≤ (I k 1)) → (v_X4_addSign_36 k x1 Q   I)) ∧ ((¬ ((60 : Int32) ≤ (I k 1))) → (vp_in (I k 1) 60 ∧ ∀ I1 : wI, I1 = wU I (k + 1) ((I k 1)).toNatClampNeg (vp_nar .char x1) → (∀ I2 : wI, I2 = wU I1 k 1 ((I1 k 1) + (1 : Int32)) → (v_X4_addSign_36 k x1 Q   I2))))))
theorem vc_X4_addSign (k : Nat) (x1 : Int32) (hs : wSh k = (0, 4)) (I : wI) (hp : pre_X4_addSign k x1 I) : v_X4_addSign k x1 I (post_X4_addSign k x1 I) := sorry
def v_X5_append_12 (x1 : Int32) (Q : Int32 → wI → Prop)  (I : wI) : Prop :=
  False
def v_X5_append (x1 : Int32) (I : wI) (Q : Int32 → wI → Prop) : Prop :=
  ((x1 < (33 : Int32)) → (v_X5_append_12 x1 Q   I)) ∧ ((¬ (x1 < (33 : Int32))) → (((x1 ≤ (126 : Int32)) → ((((I 24 1) < (60 : Int32)) → ((pre_X4_addSign 24 ((x1).toUInt32 % 65536).toInt32 I) ∧ (∀ I1 : wI, (post_X4_addSign 24 ((x1).toUInt32 % 65536).toInt32 I I1) → (Q (I1 24 1) I1)))) ∧ ((¬ ((I 24 1) < (60 : Int32))) → (False)))) ∧ ((¬ (x1 ≤ (126 : Int32))) → (v_X5_append_12 x1 Q   I))))
theorem vc_X5_append (x1 : Int32)  (I : wI) (hp : pre_X5_append x1 I) : v_X5_append x1 I (post_X5_append x1 I) := sorry
def v_X5_appendx_12 (x1 : Int32) (X : String → wI → Prop)  (I : wI) : Prop :=
  X "java/lang/IllegalArgumentException" I
def v_X5_appendx (x1 : Int32) (I : wI) (X : String → wI → Prop) : Prop :=
  ((x1 < (33 : Int32)) → (v_X5_appendx_12 x1 X   I)) ∧ ((¬ (x1 < (33 : Int32))) → (((x1 ≤ (126 : Int32)) → ((((I 24 1) < (60 : Int32)) → ((pre_X4_addSign 24 ((x1).toUInt32 % 65536).toInt32 I) ∧ (∀ I1 : wI, (post_X4_addSign 24 ((x1).toUInt32 % 65536).toInt32 I I1) → (False)))) ∧ ((¬ ((I 24 1) < (60 : Int32))) → (X "java/lang/IllegalStateException" I)))) ∧ ((¬ (x1 ≤ (126 : Int32))) → (v_X5_appendx_12 x1 X   I))))
theorem vc_X5_appendx (x1 : Int32)  (I : wI) (hp : pre_X5_appendx x1 I) : v_X5_appendx x1 I (exc_X5_append x1 I) := sorry
def v_X5_clearBuffer  (I : wI) (Q : Int32 → wI → Prop) : Prop :=
  ∀ I1 : wI, I1 = wU I 24 1 (0 : Int32) → (Q (I 24 1) I1)
theorem vc_X5_clearBuffer   (I : wI) (hp : pre_X5_clearBuffer  I) : v_X5_clearBuffer  I (post_X5_clearBuffer  I) := sorry
def v_X5_firstError  (I : wI) (Q : Int32 → wI → Prop) : Prop :=
  (pre_X4_read 24 I) ∧ (∀ r1 : Int32, ∀ I2 : wI, (post_X4_read 24 I r1 I2) → (Q r1 I2))
theorem vc_X5_firstError   (I : wI) (hp : pre_X5_firstError  I) : v_X5_firstError  I (post_X5_firstError  I) := sorry
def v_X5_keep  (I : wI) (Q : Int32 → wI → Prop) : Prop :=
  (pre_X3_copyFrom 12 1 I) ∧ (∀ I1 : wI, (post_X3_copyFrom 12 1 I I1) → (∀ I2 : wI, I2 = wU I1 0 2 (1 : Int32) → (Q (I2 1 6) I2)))
theorem vc_X5_keep   (I : wI) (hp : pre_X5_keep  I) : v_X5_keep  I (post_X5_keep  I) := sorry
def v_X5_goBack  (I : wI) (Q : Int32 → wI → Prop) : Prop :=
  ((¬ (I 0 2) = 0) → ((pre_X5_save  I) ∧ (∀ I1 : wI, (post_X5_save  I I1) → ((pre_X3_copyFrom 1 12 I1) ∧ (∀ I2 : wI, (post_X3_copyFrom 1 12 I1 I2) → (Q (I2 1 6) I2)))))) ∧ (((I 0 2) = 0) → (False))
theorem vc_X5_goBack   (I : wI) (hp : pre_X5_goBack  I) : v_X5_goBack  I (post_X5_goBack  I) := sorry
def v_X5_goBackx  (I : wI) (X : String → wI → Prop) : Prop :=
  ((¬ (I 0 2) = 0) → ((pre_X5_save  I) ∧ (∀ I1 : wI, (post_X5_save  I I1) → ((pre_X3_copyFrom 1 12 I1) ∧ (∀ I2 : wI, (post_X3_copyFrom 1 12 I1 I2) → (False)))))) ∧ (((I 0 2) = 0) → (X "java/lang/IllegalStateException" I))
theorem vc_X5_goBackx   (I : wI) (hp : pre_X5_goBackx  I) : v_X5_goBackx  I (exc_X5_goBack  I) := sorry
def v_X5_undo_58  (Q : Int32 → wI → Prop)  (I : wI) : Prop :=
  Q (I 0 4) I
def v_X5_undo_16  (Q : Int32 → wI → Prop)  (I : wI) : Prop :=
  False
def v_X5_undo  (I : wI) (Q : Int32 → wI → Prop) : Prop :=
  (((I 0 4) ≤ 0) → (v_X5_undo_16  Q   I)) ∧ ((¬ ((I 0 4) ≤ 0)) → ((((I 0 4) ≤ (6 : Int32)) → (∀ I1 : wI, I1 = wU I 0 4 ((I 0 4) - (1 : Int32)) → (vp_in (I1 0 4) 6 ∧ (((I1 23 ((I1 0 4)).toNatClampNeg)).toNatClampNeg < 6 ∧ ((pre_X3_copyFrom 1 (wSv (I1 23 ((I1 0 4)).toNatClampNeg)) I1) ∧ (∀ I2 : wI, (post_X3_copyFrom 1 (wSv (I1 23 ((I1 0 4)).toNatClampNeg)) I1 I2) → (v_X5_undo_58  Q   I2))))))) ∧ ((¬ ((I 0 4) ≤ (6 : Int32))) → (v_X5_undo_16  Q   I))))
theorem vc_X5_undo   (I : wI) (hp : pre_X5_undo  I) : v_X5_undo  I (post_X5_undo  I) := sorry
def v_X5_undox_58  (X : String → wI → Prop)  (I : wI) : Prop :=
  False
def v_X5_undox_16  (X : String → wI → Prop)  (I : wI) : Prop :=
  X "java/lang/IllegalStateException" I
def v_X5_undox  (I : wI) (X : String → wI → Prop) : Prop :=
  (((I 0 4) ≤ 0) → (v_X5_undox_16  X   I)) ∧ ((¬ ((I 0 4) ≤ 0)) → ((((I 0 4) ≤ (6 : Int32)) → (∀ I1 : wI, I1 = wU I 0 4 ((I 0 4) - (1 : Int32)) → (vp_in (I1 0 4) 6 ∧ (((I1 23 ((I1 0 4)).toNatClampNeg)).toNatClampNeg < 6 ∧ ((pre_X3_copyFrom 1 (wSv (I1 23 ((I1 0 4)).toNatClampNeg)) I1) ∧ (∀ I2 : wI, (post_X3_copyFrom 1 (wSv (I1 23 ((I1 0 4)).toNatClampNeg)) I1 I2) → (v_X5_undox_58  X   I2))))))) ∧ ((¬ ((I 0 4) ≤ (6 : Int32))) → (v_X5_undox_16  X   I))))
theorem vc_X5_undox   (I : wI) (hp : pre_X5_undox  I) : v_X5_undox  I (exc_X5_undo  I) := sorry
def v_X0_discAt_20 (k : Nat) (x1 : Int32) (I : wI) (Q : Int32 → Prop) (t0 : Int32) : Prop :=
  Q t0
def v_X0_discAt_19 (k : Nat) (x1 : Int32) (I : wI) (Q : Int32 → Prop)  : Prop :=
  v_X0_discAt_20 k x1 I Q  (-1 : Int32)
def v_X0_discAt (k : Nat) (x1 : Int32) (I : wI) (Q : Int32 → Prop) : Prop :=
  ((x1 < 0) → (v_X0_discAt_19 k x1 I Q  )) ∧ ((¬ (x1 < 0)) → ((((6 : Int32) ≤ x1) → (v_X0_discAt_19 k x1 I Q  )) ∧ ((¬ ((6 : Int32) ≤ x1)) → (vp_in x1 6 ∧ (v_X0_discAt_20 k x1 I Q  (I (k + 1) (x1).toNatClampNeg))))))
theorem vc_X0_discAt (k : Nat) (x1 : Int32) (hs : wSh k = (0, 0)) (I : wI) (hp : pre_X0_discAt k x1 I) : v_X0_discAt k x1 I (post_X0_discAt k x1 I) := sorry
def v_X0_notchAt_20 (k : Nat) (x1 : Int32) (I : wI) (Q : Int32 → Prop) (t0 : Int32) : Prop :=
  Q t0
def v_X0_notchAt_19 (k : Nat) (x1 : Int32) (I : wI) (Q : Int32 → Prop)  : Prop :=
  v_X0_notchAt_20 k x1 I Q  (0 : Int32)
def v_X0_notchAt (k : Nat) (x1 : Int32) (I : wI) (Q : Int32 → Prop) : Prop :=
  ((x1 < 0) → (v_X0_notchAt_19 k x1 I Q  )) ∧ ((¬ (x1 < 0)) → ((((6 : Int32) ≤ x1) → (v_X0_notchAt_19 k x1 I Q  )) ∧ ((¬ ((6 : Int32) ≤ x1)) → (vp_in x1 6 ∧ (v_X0_notchAt_20 k x1 I Q  (I (k + 2) (x1).toNatClampNeg))))))
theorem vc_X0_notchAt (k : Nat) (x1 : Int32) (hs : wSh k = (0, 0)) (I : wI) (hp : pre_X0_notchAt k x1 I) : v_X0_notchAt k x1 I (post_X0_notchAt k x1 I) := sorry
def v_X0_agreesAt_31 (k : Nat) (k1 : Nat) (x2 : Int32) (I : wI) (Q : Int32 → Prop) (t0 : Int32) : Prop :=
  (t0 = 0 ∨ t0 = 1) ∧ Q t0
def v_X0_agreesAt_30 (k : Nat) (k1 : Nat) (x2 : Int32) (I : wI) (Q : Int32 → Prop)  : Prop :=
  v_X0_agreesAt_31 k k1 x2 I Q  (0 : Int32)
def v_X0_agreesAt (k : Nat) (k1 : Nat) (x2 : Int32) (I : wI) (Q : Int32 → Prop) : Prop :=
  (pre_X0_discAt k x2 I) ∧ (∀ r1 : Int32, (post_X0_discAt k x2 I r1) → ((pre_X0_discAt k1 x2 I) ∧ (∀ r2 : Int32, (post_X0_discAt k1 x2 I r2) → (((¬ r1 = r2) → (v_X0_agreesAt_30 k k1 x2 I Q  )) ∧ ((r1 = r2) → ((pre_X0_notchAt k x2 I) ∧ (∀ r3 : Int32, (post_X0_notchAt k x2 I r3) → ((pre_X0_notchAt k1 x2 I) ∧ (∀ r4 : Int32, (post_X0_notchAt k1 x2 I r4) → (((¬ r3 = r4) → (v_X0_agreesAt_30 k k1 x2 I Q  )) ∧ ((r3 = r4) → (v_X0_agreesAt_31 k k1 x2 I Q  (1 : Int32)))))))))))))
theorem vc_X0_agreesAt (k : Nat) (k1 : Nat) (x2 : Int32) (hs : wSh k = (0, 0)) (hs1 : wSh k1 = (0, 0)) (I : wI) (hp : pre_X0_agreesAt k k1 x2 I) : v_X0_agreesAt k k1 x2 I (post_X0_agreesAt k k1 x2 I) := sorry
def v_X1_keysAt_29 (k : Nat) (x1 : Int32) (I : wI) (Q : Int32 → Prop) (K4 : Int32 → Int32 → Prop) (v2 : Int32) (v3 : Int32) : Prop :=
  K4 v2 (v3 + (1 : Int32))
def g_X1_keysAt_4 (k : Nat) (x1 : Int32) (I : wI) (Q : Int32 → Prop) (K4 : Int32 → Int32 → Prop) (v2 : Int32) (v3 : Int32) : Prop :=
  (((5 : Int32) ≤ v3) → (Q v2)) ∧ ((¬ ((5 : Int32) ≤ v3)) → (vp_in v3 5 ∧ (((¬ (((I (k + 1) (v3).toNatClampNeg) >>> (x1 &&& 31)) &&& (1 : Int32)) = (1 : Int32)) → (v_X1_keysAt_29 k x1 I Q K4 v2 v3)) ∧ (((((I (k + 1) (v3).toNatClampNeg) >>> (x1 &&& 31)) &&& (1 : Int32)) = (1 : Int32)) → (v_X1_keysAt_29 k x1 I Q K4 (v2 ||| ((1 : Int32) <<< (v3 &&& 31))) v3)))))
def v_X1_keysAt_4 (k : Nat) (x1 : Int32) (I : wI) (Q : Int32 → Prop) : Nat → Int32 → Int32 → Prop
  | 0 => fun _ _ => False
  | f + 1 => g_X1_keysAt_4 k x1 I Q (v_X1_keysAt_4 k x1 I Q f)
def v_X1_keysAt (k : Nat) (x1 : Int32) (I : wI) (Q : Int32 → Prop) : Prop :=
  ∃ f : Nat, v_X1_keysAt_4 k x1 I Q  f (0 : Int32) (0 : Int32)
theorem vc_X1_keysAt (k : Nat) (x1 : Int32) (hs : wSh k = (0, 1)) (I : wI) (hp : pre_X1_keysAt k x1 I) : v_X1_keysAt k x1 I (post_X1_keysAt k x1 I) := sorry
def v_X5_at_112 (x1 : Int32) (x2 : Int32) (I : wI) (Q : Int32 → Prop) (t0 : Int32) : Prop :=
  Q t0
def v_X5_at_111 (x1 : Int32) (x2 : Int32) (I : wI) (Q : Int32 → Prop)  : Prop :=
  v_X5_at_112 x1 x2 I Q  (0 : Int32)
def v_X5_at (x1 : Int32) (x2 : Int32) (I : wI) (Q : Int32 → Prop) : Prop :=
  (pre_X5_requirePosition x1 I) ∧ ((post_X5_requirePosition x1 I) → ((x2 = (0 : Int32) → ((pre_X0_discAt 2 x1 I) ∧ (∀ r1 : Int32, (post_X0_discAt 2 x1 I r1) → (Q r1)))) ∧ (x2 = (1 : Int32) → ((pre_X0_notchAt 2 x1 I) ∧ (∀ r2 : Int32, (post_X0_notchAt 2 x1 I r2) → (Q r2)))) ∧ (x2 = (2 : Int32) → (Q (((I 1 4) >>> (x1 &&& 31)) &&& (1 : Int32)))) ∧ (x2 = (3 : Int32) → ((((I 1 3) = 0) → (v_X5_at_111 x1 x2 I Q  )) ∧ ((¬ ((I 1 3) = 0)) → ((pre_X0_agreesAt 2 8 x1 I) ∧ (∀ r3 : Int32, (post_X0_agreesAt 2 8 x1 I r3) → (((r3 = 0) → (v_X5_at_111 x1 x2 I Q  )) ∧ ((¬ (r3 = 0)) → (v_X5_at_112 x1 x2 I Q  (1 : Int32))))))))) ∧ (x2 = (4 : Int32) → ((pre_X1_keysAt 5 x1 I) ∧ (∀ r4 : Int32, (post_X1_keysAt 5 x1 I r4) → (Q r4)))) ∧ ((¬ x2 = (0 : Int32) ∧ ¬ x2 = (1 : Int32) ∧ ¬ x2 = (2 : Int32) ∧ ¬ x2 = (3 : Int32) ∧ ¬ x2 = (4 : Int32)) → (False))))
theorem vc_X5_at (x1 : Int32) (x2 : Int32)  (I : wI) (hp : pre_X5_at x1 x2 I) : v_X5_at x1 x2 I (post_X5_at x1 x2 I) := sorry
def v_X5_atx_112 (x1 : Int32) (x2 : Int32) (I : wI) (X : String → Prop) (t0 : Int32) : Prop :=
  False
def v_X5_atx_111 (x1 : Int32) (x2 : Int32) (I : wI) (X : String → Prop)  : Prop :=
  v_X5_atx_112 x1 x2 I X  (0 : Int32)
def v_X5_atx (x1 : Int32) (x2 : Int32) (I : wI) (X : String → Prop) : Prop :=
  ((ok_X5_requirePosition x1 I) → ((pre_X5_requirePosition x1 I) ∧ ((post_X5_requirePosition x1 I) → ((x2 = (0 : Int32) → ((pre_X0_discAt 2 x1 I) ∧ (∀ r1 : Int32, (post_X0_discAt 2 x1 I r1) → (False)))) ∧ (x2 = (1 : Int32) → ((pre_X0_notchAt 2 x1 I) ∧ (∀ r2 : Int32, (post_X0_notchAt 2 x1 I r2) → (False)))) ∧ (x2 = (2 : Int32) → (False)) ∧ (x2 = (3 : Int32) → ((((I 1 3) = 0) → (v_X5_atx_111 x1 x2 I X  )) ∧ ((¬ ((I 1 3) = 0)) → ((pre_X0_agreesAt 2 8 x1 I) ∧ (∀ r3 : Int32, (post_X0_agreesAt 2 8 x1 I r3) → (((r3 = 0) → (v_X5_atx_111 x1 x2 I X  )) ∧ ((¬ (r3 = 0)) → (v_X5_atx_112 x1 x2 I X  (1 : Int32))))))))) ∧ (x2 = (4 : Int32) → ((pre_X1_keysAt 5 x1 I) ∧ (∀ r4 : Int32, (post_X1_keysAt 5 x1 I r4) → (False)))) ∧ ((¬ x2 = (0 : Int32) ∧ ¬ x2 = (1 : Int32) ∧ ¬ x2 = (2 : Int32) ∧ ¬ x2 = (3 : Int32) ∧ ¬ x2 = (4 : Int32)) → (X "java/lang/IllegalArgumentException")))))) ∧ ((¬ (ok_X5_requirePosition x1 I)) → ((pre_X5_requirePositionx x1 I) ∧ (∀ E : String, (exc_X5_requirePosition x1 I E) → X E)))
theorem vc_X5_atx (x1 : Int32) (x2 : Int32)  (I : wI) (hp : pre_X5_atx x1 x2 I) : v_X5_atx x1 x2 I (exc_X5_at x1 x2 I) := sorry
def v_X5_showKey (x1 : Int32) (I : wI) (Q : wI → Prop) : Prop :=
  (pre_X0_bringHome 30 I) ∧ (∀ I1 : wI, (post_X0_bringHome 30 I I1) → ((pre_X5_moveOf x1 (0 : Int32) I1) ∧ (∀ r2 : Int32, (post_X5_moveOf x1 (0 : Int32) I1 r2) → ((pre_X1_move 5 30 r2 I1) ∧ (∀ I3 : wI, (post_X1_move 5 30 r2 I1 I3) → (Q I3))))))
theorem vc_X5_showKey (x1 : Int32)  (I : wI) (hp : pre_X5_showKey x1 I) : v_X5_showKey x1 I (post_X5_showKey x1 I) := sorry
def g_X0_putAhead_2 (k : Nat) (k1 : Nat) (Q : wI → Prop) (K2 : Int32 → wI → Prop) (v2 : Int32) (I : wI) : Prop :=
  (((6 : Int32) ≤ v2) → (Q I)) ∧ ((¬ ((6 : Int32) ≤ v2)) → (vp_in v2 6 ∧ ((pre_X0_discAt k1 (I (k + 1) (v2).toNatClampNeg) I) ∧ (∀ r1 : Int32, (post_X0_discAt k1 (I (k + 1) (v2).toNatClampNeg) I r1) → (vp_in v2 6 ∧ ∀ I2 : wI, I2 = wU I (k + 1) (v2).toNatClampNeg r1 → (vp_in v2 6 ∧ ((pre_X0_notchAt k1 (I (k + 1) (v2).toNatClampNeg) I2) ∧ (∀ r3 : Int32, (post_X0_notchAt k1 (I (k + 1) (v2).toNatClampNeg) I2 r3) → (vp_in v2 6 ∧ ∀ I4 : wI, I4 = wU I2 (k + 2) (v2).toNatClampNeg (((I2 (k + 2) (v2).toNatClampNeg) + r3) - ((I2 (k + 2) (v2).toNatClampNeg) + r3) / (5 : Int32) * (5 : Int32)) → (K2 (v2 + (1 : Int32)) I4))))))))))
def v_X0_putAhead_2 (k : Nat) (k1 : Nat) (Q : wI → Prop) : Nat → Int32 → wI → Prop
  | 0 => fun _ _ => False
  | f + 1 => g_X0_putAhead_2 k k1 Q (v_X0_putAhead_2 k k1 Q f)
def v_X0_putAhead (k : Nat) (k1 : Nat) (I : wI) (Q : wI → Prop) : Prop :=
  ∃ f : Nat, v_X0_putAhead_2 k k1 Q  f (0 : Int32) I
theorem vc_X0_putAhead (k : Nat) (k1 : Nat) (hs : wSh k = (0, 0)) (hs1 : wSh k1 = (0, 0)) (I : wI) (hp : pre_X0_putAhead k k1 I) : v_X0_putAhead k k1 I (post_X0_putAhead k k1 I) := sorry
def v_X5_periodByDoing_47  (Q : Int32 → wI → Prop) (v1 : Int32) (I : wI) : Prop :=
  Q v1 I
def g_X5_periodByDoing_13  (Q : Int32 → wI → Prop) (K13 : Int32 → wI → Prop) (v1 : Int32) (I : wI) : Prop :=
  (((1000000 : Int32) ≤ v1) → (v_X5_periodByDoing_47  Q  v1 I)) ∧ ((¬ ((1000000 : Int32) ≤ v1)) → ((pre_X0_reach 33 I) ∧ (∀ r1 : Int32, (post_X0_reach 33 I r1) → (((r1 = 0) → (v_X5_periodByDoing_47  Q  v1 I)) ∧ ((¬ (r1 = 0)) → ((pre_X0_putAhead 33 30 I) ∧ (∀ I2 : wI, (post_X0_putAhead 33 30 I I2) → (K13 (v1 + (1 : Int32)) I2))))))))
def v_X5_periodByDoing_13  (Q : Int32 → wI → Prop) : Nat → Int32 → wI → Prop
  | 0 => fun _ _ => False
  | f + 1 => g_X5_periodByDoing_13 Q (v_X5_periodByDoing_13 Q f)
def v_X5_periodByDoing  (I : wI) (Q : Int32 → wI → Prop) : Prop :=
  (pre_X0_copyFrom 33 30 I) ∧ (∀ I1 : wI, (post_X0_copyFrom 33 30 I I1) → (∃ f : Nat, v_X5_periodByDoing_13  Q  f (1 : Int32) I1))
theorem vc_X5_periodByDoing   (I : wI) (hp : pre_X5_periodByDoing  I) : v_X5_periodByDoing  I (post_X5_periodByDoing  I) := sorry
def v_X0_placeOf_22 (k : Nat) (x1 : Int32) (I : wI) (Q : Int32 → Prop) (K4 : Int32 → Int32 → Prop) (v2 : Int32) (v3 : Int32) : Prop :=
  K4 v2 (v3 + (1 : Int32))
def g_X0_placeOf_4 (k : Nat) (x1 : Int32) (I : wI) (Q : Int32 → Prop) (K4 : Int32 → Int32 → Prop) (v2 : Int32) (v3 : Int32) : Prop :=
  (((6 : Int32) ≤ v3) → (Q v2)) ∧ ((¬ ((6 : Int32) ≤ v3)) → (vp_in v3 6 ∧ (((¬ (I (k + 1) (v3).toNatClampNeg) = x1) → (v_X0_placeOf_22 k x1 I Q K4 v2 v3)) ∧ (((I (k + 1) (v3).toNatClampNeg) = x1) → (v_X0_placeOf_22 k x1 I Q K4 v3 v3)))))
def v_X0_placeOf_4 (k : Nat) (x1 : Int32) (I : wI) (Q : Int32 → Prop) : Nat → Int32 → Int32 → Prop
  | 0 => fun _ _ => False
  | f + 1 => g_X0_placeOf_4 k x1 I Q (v_X0_placeOf_4 k x1 I Q f)
def v_X0_placeOf (k : Nat) (x1 : Int32) (I : wI) (Q : Int32 → Prop) : Prop :=
  ∃ f : Nat, v_X0_placeOf_4 k x1 I Q  f x1 (0 : Int32)
theorem vc_X0_placeOf (k : Nat) (x1 : Int32) (hs : wSh k = (0, 0)) (I : wI) (hp : pre_X0_placeOf k x1 I) : v_X0_placeOf k x1 I (post_X0_placeOf k x1 I) := sorry
def v_X0_leastMultiple_25 (x0 : Int32) (x1 : Int32) (I : wI) (Q : Int32 → Prop) (v2 : Int32) : Prop :=
  Q v2
def g_X0_leastMultiple_4 (x0 : Int32) (x1 : Int32) (I : wI) (Q : Int32 → Prop) (K4 : Int32 → Int32 → Prop) (v2 : Int32) (v3 : Int32) : Prop :=
  ((x1 ≤ v3) → (v_X0_leastMultiple_25 x0 x1 I Q  v2)) ∧ ((¬ (x1 ≤ v3)) → ((¬ x1 = 0) ∧ ((((v2 - v2 / x1 * x1) = 0) → (v_X0_leastMultiple_25 x0 x1 I Q  v2)) ∧ ((¬ ((v2 - v2 / x1 * x1) = 0)) → (K4 (v2 + x0) (v3 + (1 : Int32)))))))
def v_X0_leastMultiple_4 (x0 : Int32) (x1 : Int32) (I : wI) (Q : Int32 → Prop) : Nat → Int32 → Int32 → Prop
  | 0 => fun _ _ => False
  | f + 1 => g_X0_leastMultiple_4 x0 x1 I Q (v_X0_leastMultiple_4 x0 x1 I Q f)
def v_X0_leastMultiple (x0 : Int32) (x1 : Int32) (I : wI) (Q : Int32 → Prop) : Prop :=
  ∃ f : Nat, v_X0_leastMultiple_4 x0 x1 I Q  f x0 (1 : Int32)
theorem vc_X0_leastMultiple (x0 : Int32) (x1 : Int32)  (I : wI) (hp : pre_X0_leastMultiple x0 x1 I) : v_X0_leastMultiple x0 x1 I (post_X0_leastMultiple x0 x1 I) := sorry
def v_X0_periodByRounds_95 (k : Nat) (I : wI) (Q : Int32 → Prop) (K6 : Int32 → Int32 → Int32 → Prop) (v1 : Int32) (v2 : Int32) (v3 : Int32) : Prop :=
  K6 v1 v2 (v3 + (1 : Int32))
def v_X0_periodByRounds_91 (k : Nat) (I : wI) (Q : Int32 → Prop) (K6 : Int32 → Int32 → Int32 → Prop) (v2 : Int32) (v3 : Int32) (t0 : Int32) (t1 : Int32) : Prop :=
  (pre_X0_leastMultiple t1 t0 I) ∧ (∀ r1 : Int32, (post_X0_leastMultiple t1 t0 I r1) → (v_X0_periodByRounds_95 k I Q K6 r1 v2 v3))
def v_X0_periodByRounds_69 (k : Nat) (I : wI) (Q : Int32 → Prop) (K6 : Int32 → Int32 → Int32 → Prop) (v1 : Int32) (v2 : Int32) (v3 : Int32) (v4 : Int32) (v5 : Int32) : Prop :=
  ((v4 ≤ 0) → (v_X0_periodByRounds_95 k I Q K6 v1 v2 v3)) ∧ ((¬ (v4 ≤ 0)) → (((¬ (v5 - v5 / (5 : Int32) * (5 : Int32)) = 0) → (v_X0_periodByRounds_91 k I Q K6 v2 v3 ((5 : Int32) * v4) v1)) ∧ (((v5 - v5 / (5 : Int32) * (5 : Int32)) = 0) → (v_X0_periodByRounds_91 k I Q K6 v2 v3 v4 v1))))
def g_X0_periodByRounds_21 (k : Nat) (I : wI) (Q : Int32 → Prop) (K6 : Int32 → Int32 → Int32 → Prop) (K21 : Int32 → Int32 → Int32 → Int32 → Int32 → Int32 → Prop) (v1 : Int32) (v2 : Int32) (v3 : Int32) (v4 : Int32) (v5 : Int32) (v6 : Int32) : Prop :=
  (((6 : Int32) ≤ v4) → (v_X0_periodByRounds_69 k I Q K6 v1 v2 v3 v4 v5)) ∧ ((¬ ((6 : Int32) ≤ v4)) → (((¬ ((v2 >>> (v6 &&& 31)) &&& (1 : Int32)) = 0) → (v_X0_periodByRounds_69 k I Q K6 v1 v2 v3 v4 v5)) ∧ ((((v2 >>> (v6 &&& 31)) &&& (1 : Int32)) = 0) → ((pre_X0_placeOf k v6 I) ∧ (∀ r1 : Int32, (post_X0_placeOf k v6 I r1) → ((pre_X0_notchAt k r1 I) ∧ (∀ r2 : Int32, (post_X0_notchAt k r1 I r2) → (K21 v1 (v2 ||| ((1 : Int32) <<< (v6 &&& 31))) v3 (v4 + (1 : Int32)) (v5 + r2) r1))))))))
def v_X0_periodByRounds_21 (k : Nat) (I : wI) (Q : Int32 → Prop) (K6 : Int32 → Int32 → Int32 → Prop) : Nat → Int32 → Int32 → Int32 → Int32 → Int32 → Int32 → Prop
  | 0 => fun _ _ _ _ _ _ => False
  | f + 1 => g_X0_periodByRounds_21 k I Q K6 (v_X0_periodByRounds_21 k I Q K6 f)
def g_X0_periodByRounds_6 (k : Nat) (I : wI) (Q : Int32 → Prop) (K6 : Int32 → Int32 → Int32 → Prop) (v1 : Int32) (v2 : Int32) (v3 : Int32) : Prop :=
  (((6 : Int32) ≤ v3) → (Q v1)) ∧ ((¬ ((6 : Int32) ≤ v3)) → (∃ f : Nat, v_X0_periodByRounds_21 k I Q K6 f v1 v2 v3 (0 : Int32) (0 : Int32) v3))
def v_X0_periodByRounds_6 (k : Nat) (I : wI) (Q : Int32 → Prop) : Nat → Int32 → Int32 → Int32 → Prop
  | 0 => fun _ _ _ => False
  | f + 1 => g_X0_periodByRounds_6 k I Q (v_X0_periodByRounds_6 k I Q f)
def v_X0_periodByRounds (k : Nat) (I : wI) (Q : Int32 → Prop) : Prop :=
  ∃ f : Nat, v_X0_periodByRounds_6 k I Q  f (1 : Int32) (0 : Int32) (0 : Int32)
theorem vc_X0_periodByRounds (k : Nat) (hs : wSh k = (0, 0)) (I : wI) (hp : pre_X0_periodByRounds k I) : v_X0_periodByRounds k I (post_X0_periodByRounds k I) := sorry
def v_X3_usesOf_19 (k : Nat) (x1 : Int32) (I : wI) (Q : Int32 → Prop) (t0 : Int32) : Prop :=
  Q t0
def v_X3_usesOf_18 (k : Nat) (x1 : Int32) (I : wI) (Q : Int32 → Prop)  : Prop :=
  v_X3_usesOf_19 k x1 I Q  (0 : Int32)
def v_X3_usesOf (k : Nat) (x1 : Int32) (I : wI) (Q : Int32 → Prop) : Prop :=
  ((x1 < 0) → (v_X3_usesOf_18 k x1 I Q  )) ∧ ((¬ (x1 < 0)) → ((((5 : Int32) ≤ x1) → (v_X3_usesOf_18 k x1 I Q  )) ∧ ((¬ ((5 : Int32) ≤ x1)) → (vp_in x1 5 ∧ (v_X3_usesOf_19 k x1 I Q  (I (k + 10) (x1).toNatClampNeg))))))
theorem vc_X3_usesOf (k : Nat) (x1 : Int32) (hs : wSh k = (0, 3)) (I : wI) (hp : pre_X3_usesOf k x1 I) : v_X3_usesOf k x1 I (post_X3_usesOf k x1 I) := sorry
def v_X5_key_107 (x1 : Int32) (x2 : Int32) (Q : Int32 → wI → Prop) (t0 : Int32) (I : wI) : Prop :=
  Q t0 I
def v_X5_key (x1 : Int32) (x2 : Int32) (I : wI) (Q : Int32 → wI → Prop) : Prop :=
  (pre_X5_requireKey x1 I) ∧ ((post_X5_requireKey x1 I) → ((x2 = (0 : Int32) → ((pre_X1_maskOf 5 x1 I) ∧ (∀ r1 : Int32, (post_X1_maskOf 5 x1 I r1) → (Q r1 I)))) ∧ (x2 = (1 : Int32) → ((pre_X1_strengthOf 5 x1 I) ∧ (∀ r2 : Int32, (post_X1_strengthOf 5 x1 I r2) → (Q r2 I)))) ∧ (x2 = (2 : Int32) → ((pre_X5_showKey x1 I) ∧ (∀ I3 : wI, (post_X5_showKey x1 I I3) → ((pre_X5_periodByDoing  I3) ∧ (∀ r4 : Int32, ∀ I5 : wI, (post_X5_periodByDoing  I3 r4 I5) → (Q r4 I5)))))) ∧ (x2 = (3 : Int32) → ((pre_X5_showKey x1 I) ∧ (∀ I6 : wI, (post_X5_showKey x1 I I6) → ((pre_X0_periodByRounds 30 I6) ∧ (∀ r7 : Int32, (post_X0_periodByRounds 30 I6 r7) → (Q r7 I6)))))) ∧ (x2 = (4 : Int32) → ((pre_X3_allows 1 x1 I) ∧ (∀ r8 : Int32, (post_X3_allows 1 x1 I r8) → (((r8 = 0) → (v_X5_key_107 x1 x2 Q  (1 : Int32) I)) ∧ ((¬ (r8 = 0)) → (v_X5_key_107 x1 x2 Q  (0 : Int32) I)))))) ∧ (x2 = (5 : Int32) → ((pre_X3_usesOf 1 x1 I) ∧ (∀ r9 : Int32, (post_X3_usesOf 1 x1 I r9) → (Q r9 I)))) ∧ ((¬ x2 = (0 : Int32) ∧ ¬ x2 = (1 : Int32) ∧ ¬ x2 = (2 : Int32) ∧ ¬ x2 = (3 : Int32) ∧ ¬ x2 = (4 : Int32) ∧ ¬ x2 = (5 : Int32)) → (False))))
theorem vc_X5_key (x1 : Int32) (x2 : Int32)  (I : wI) (hp : pre_X5_key x1 x2 I) : v_X5_key x1 x2 I (post_X5_key x1 x2 I) := sorry
def v_X5_keyx_107 (x1 : Int32) (x2 : Int32) (X : String → wI → Prop) (t0 : Int32) (I : wI) : Prop :=
  False
def v_X5_keyx (x1 : Int32) (x2 : Int32) (I : wI) (X : String → wI → Prop) : Prop :=
  ((ok_X5_requireKey x1 I) → ((pre_X5_requireKey x1 I) ∧ ((post_X5_requireKey x1 I) → ((x2 = (0 : Int32) → ((pre_X1_maskOf 5 x1 I) ∧ (∀ r1 : Int32, (post_X1_maskOf 5 x1 I r1) → (False)))) ∧ (x2 = (1 : Int32) → ((pre_X1_strengthOf 5 x1 I) ∧ (∀ r2 : Int32, (post_X1_strengthOf 5 x1 I r2) → (False)))) ∧ (x2 = (2 : Int32) → ((pre_X5_showKey x1 I) ∧ (∀ I3 : wI, (post_X5_showKey x1 I I3) → ((pre_X5_periodByDoing  I3) ∧ (∀ r4 : Int32, ∀ I5 : wI, (post_X5_periodByDoing  I3 r4 I5) → (False)))))) ∧ (x2 = (3 : Int32) → ((pre_X5_showKey x1 I) ∧ (∀ I6 : wI, (post_X5_showKey x1 I I6) → ((pre_X0_periodByRounds 30 I6) ∧ (∀ r7 : Int32, (post_X0_periodByRounds 30 I6 r7) → (False)))))) ∧ (x2 = (4 : Int32) → ((pre_X3_allows 1 x1 I) ∧ (∀ r8 : Int32, (post_X3_allows 1 x1 I r8) → (((r8 = 0) → (v_X5_keyx_107 x1 x2 X  (1 : Int32) I)) ∧ ((¬ (r8 = 0)) → (v_X5_keyx_107 x1 x2 X  (0 : Int32) I)))))) ∧ (x2 = (5 : Int32) → ((pre_X3_usesOf 1 x1 I) ∧ (∀ r9 : Int32, (post_X3_usesOf 1 x1 I r9) → (False)))) ∧ ((¬ x2 = (0 : Int32) ∧ ¬ x2 = (1 : Int32) ∧ ¬ x2 = (2 : Int32) ∧ ¬ x2 = (3 : Int32) ∧ ¬ x2 = (4 : Int32) ∧ ¬ x2 = (5 : Int32)) → (X "java/lang/IllegalArgumentException" I)))))) ∧ ((¬ (ok_X5_requireKey x1 I)) → ((pre_X5_requireKeyx x1 I) ∧ (∀ E : String, (exc_X5_requireKey x1 I E) → X E I)))
theorem vc_X5_keyx (x1 : Int32) (x2 : Int32)  (I : wI) (hp : pre_X5_keyx x1 x2 I) : v_X5_keyx x1 x2 I (exc_X5_key x1 x2 I) := sorry
def v_X5_showPair (x1 : Int32) (x2 : Int32) (I : wI) (Q : wI → Prop) : Prop :=
  (pre_X0_bringHome 30 I) ∧ (∀ I1 : wI, (post_X0_bringHome 30 I I1) → ((pre_X5_moveOf x1 (0 : Int32) I1) ∧ (∀ r2 : Int32, (post_X5_moveOf x1 (0 : Int32) I1 r2) → ((pre_X1_move 5 30 r2 I1) ∧ (∀ I3 : wI, (post_X1_move 5 30 r2 I1 I3) → ((pre_X5_moveOf x2 (0 : Int32) I3) ∧ (∀ r4 : Int32, (post_X5_moveOf x2 (0 : Int32) I3 r4) → ((pre_X1_move 5 30 r4 I3) ∧ (∀ I5 : wI, (post_X1_move 5 30 r4 I3 I5) → ((pre_X5_moveOf x1 (1 : Int32) I5) ∧ (∀ r6 : Int32, (post_X5_moveOf x1 (1 : Int32) I5 r6) → ((pre_X1_move 5 30 r6 I5) ∧ (∀ I7 : wI, (post_X1_move 5 30 r6 I5 I7) → ((pre_X5_moveOf x2 (1 : Int32) I7) ∧ (∀ r8 : Int32, (post_X5_moveOf x2 (1 : Int32) I7 r8) → ((pre_X1_move 5 30 r8 I7) ∧ (∀ I9 : wI, (post_X1_move 5 30 r8 I7 I9) → (Q I9))))))))))))))))))
theorem vc_X5_showPair (x1 : Int32) (x2 : Int32)  (I : wI) (hp : pre_X5_showPair x1 x2 I) : v_X5_showPair x1 x2 I (post_X5_showPair x1 x2 I) := sorry
def v_X5_pair_111 (x1 : Int32) (x2 : Int32) (x3 : Int32) (Q : Int32 → wI → Prop) (t0 : Int32) (I : wI) : Prop :=
  Q t0 I
def v_X5_pair_17 (x1 : Int32) (x2 : Int32) (x3 : Int32) (Q : Int32 → wI → Prop)  (I : wI) : Prop :=
  False
def v_X5_pair (x1 : Int32) (x2 : Int32) (x3 : Int32) (I : wI) (Q : Int32 → wI → Prop) : Prop :=
  (pre_X5_requireKey x1 I) ∧ ((post_X5_requireKey x1 I) → ((pre_X5_requireKey x2 I) ∧ ((post_X5_requireKey x2 I) → (((x3 < 0) → (v_X5_pair_17 x1 x2 x3 Q   I)) ∧ ((¬ (x3 < 0)) → (((x3 ≤ (4 : Int32)) → ((pre_X5_showPair x1 x2 I) ∧ (∀ I1 : wI, (post_X5_showPair x1 x2 I I1) → ((x3 = (0 : Int32) → ((pre_X0_reach 30 I1) ∧ (∀ r2 : Int32, (post_X0_reach 30 I1 r2) → (Q r2 I1)))) ∧ (x3 = (1 : Int32) → ((pre_X0_reach 30 I1) ∧ (∀ r3 : Int32, (post_X0_reach 30 I1 r3) → ((pre_J_bitCount r3 I1) ∧ (∀ r4 : Int32, (post_J_bitCount r3 I1 r4) → (Q r4 I1)))))) ∧ (x3 = (2 : Int32) → ((pre_X5_periodByDoing  I1) ∧ (∀ r5 : Int32, ∀ I6 : wI, (post_X5_periodByDoing  I1 r5 I6) → (Q r5 I6)))) ∧ (x3 = (3 : Int32) → ((pre_X0_periodByRounds 30 I1) ∧ (∀ r7 : Int32, (post_X0_periodByRounds 30 I1 r7) → (Q r7 I1)))) ∧ ((¬ x3 = (0 : Int32) ∧ ¬ x3 = (1 : Int32) ∧ ¬ x3 = (2 : Int32) ∧ ¬ x3 = (3 : Int32)) → ((pre_X0_reach 30 I1) ∧ (∀ r8 : Int32, (post_X0_reach 30 I1 r8) → (((¬ r8 = 0) → (v_X5_pair_111 x1 x2 x3 Q  (0 : Int32) I1)) ∧ ((r8 = 0) → (v_X5_pair_111 x1 x2 x3 Q  (1 : Int32) I1)))))))))) ∧ ((¬ (x3 ≤ (4 : Int32))) → (v_X5_pair_17 x1 x2 x3 Q   I))))))))
theorem vc_X5_pair (x1 : Int32) (x2 : Int32) (x3 : Int32)  (I : wI) (hp : pre_X5_pair x1 x2 x3 I) : v_X5_pair x1 x2 x3 I (post_X5_pair x1 x2 x3 I) := sorry
def v_X5_pairx_111 (x1 : Int32) (x2 : Int32) (x3 : Int32) (X : String → wI → Prop) (t0 : Int32) (I : wI) : Prop :=
  False
def v_X5_pairx_17 (x1 : Int32) (x2 : Int32) (x3 : Int32) (X : String → wI → Prop)  (I : wI) : Prop :=
  X "java/lang/IllegalArgumentException" I
def v_X5_pairx (x1 : Int32) (x2 : Int32) (x3 : Int32) (I : wI) (X : String → wI → Prop) : Prop :=
  ((ok_X5_requireKey x1 I) → ((pre_X5_requireKey x1 I) ∧ ((post_X5_requireKey x1 I) → (((ok_X5_requireKey x2 I) → ((pre_X5_requireKey x2 I) ∧ ((post_X5_requireKey x2 I) → (((x3 < 0) → (v_X5_pairx_17 x1 x2 x3 X   I)) ∧ ((¬ (x3 < 0)) → (((x3 ≤ (4 : Int32)) → ((pre_X5_showPair x1 x2 I) ∧ (∀ I1 : wI, (post_X5_showPair x1 x2 I I1) → ((x3 = (0 : Int32) → ((pre_X0_reach 30 I1) ∧ (∀ r2 : Int32, (post_X0_reach 30 I1 r2) → (False)))) ∧ (x3 = (1 : Int32) → ((pre_X0_reach 30 I1) ∧ (∀ r3 : Int32, (post_X0_reach 30 I1 r3) → ((pre_J_bitCount r3 I1) ∧ (∀ r4 : Int32, (post_J_bitCount r3 I1 r4) → (False)))))) ∧ (x3 = (2 : Int32) → ((pre_X5_periodByDoing  I1) ∧ (∀ r5 : Int32, ∀ I6 : wI, (post_X5_periodByDoing  I1 r5 I6) → (False)))) ∧ (x3 = (3 : Int32) → ((pre_X0_periodByRounds 30 I1) ∧ (∀ r7 : Int32, (post_X0_periodByRounds 30 I1 r7) → (False)))) ∧ ((¬ x3 = (0 : Int32) ∧ ¬ x3 = (1 : Int32) ∧ ¬ x3 = (2 : Int32) ∧ ¬ x3 = (3 : Int32)) → ((pre_X0_reach 30 I1) ∧ (∀ r8 : Int32, (post_X0_reach 30 I1 r8) → (((¬ r8 = 0) → (v_X5_pairx_111 x1 x2 x3 X  (0 : Int32) I1)) ∧ ((r8 = 0) → (v_X5_pairx_111 x1 x2 x3 X  (1 : Int32) I1)))))))))) ∧ ((¬ (x3 ≤ (4 : Int32))) → (v_X5_pairx_17 x1 x2 x3 X   I)))))))) ∧ ((¬ (ok_X5_requireKey x2 I)) → ((pre_X5_requireKeyx x2 I) ∧ (∀ E : String, (exc_X5_requireKey x2 I E) → X E I))))))) ∧ ((¬ (ok_X5_requireKey x1 I)) → ((pre_X5_requireKeyx x1 I) ∧ (∀ E : String, (exc_X5_requireKey x1 I E) → X E I)))
theorem vc_X5_pairx (x1 : Int32) (x2 : Int32) (x3 : Int32)  (I : wI) (hp : pre_X5_pairx x1 x2 x3 I) : v_X5_pairx x1 x2 x3 I (exc_X5_pair x1 x2 x3 I) := sorry
def v_J_min_10 (x0 : Int32) (x1 : Int32) (I : wI) (Q : Int32 → Prop) (t0 : Int32) : Prop :=
  Q t0
def v_J_min (x0 : Int32) (x1 : Int32) (I : wI) (Q : Int32 → Prop) : Prop :=
  ((x1 < x0) → (v_J_min_10 x0 x1 I Q  x1)) ∧ ((¬ (x1 < x0)) → (v_J_min_10 x0 x1 I Q  x0))
theorem vc_J_min (x0 : Int32) (x1 : Int32)  (I : wI) (hp : pre_J_min x0 x1 I) : v_J_min x0 x1 I (post_J_min x0 x1 I) := sorry
def v_X4_turnsLessBacks_45 (k : Nat) (I : wI) (Q : Int32 → Prop) (v1 : Int32) : Prop :=
  Q v1
def v_X4_turnsLessBacks_37 (k : Nat) (I : wI) (Q : Int32 → Prop) (K4 : Int32 → Int32 → Prop) (v2 : Int32) (t0 : Int32) (t1 : Int32) : Prop :=
  K4 (t1 + t0) (v2 + (1 : Int32))
def g_X4_turnsLessBacks_4 (k : Nat) (I : wI) (Q : Int32 → Prop) (K4 : Int32 → Int32 → Prop) (v1 : Int32) (v2 : Int32) : Prop :=
  (((I k 3) ≤ v2) → (v_X4_turnsLessBacks_45 k I Q  v1)) ∧ ((¬ ((I k 3) ≤ v2)) → ((((500 : Int32) ≤ v2) → (v_X4_turnsLessBacks_45 k I Q  v1)) ∧ ((¬ ((500 : Int32) ≤ v2)) → (vp_in v2 500 ∧ ((pre_X5_isBack (I (k + 2) (v2).toNatClampNeg) I) ∧ (∀ r1 : Int32, (post_X5_isBack (I (k + 2) (v2).toNatClampNeg) I r1) → (((r1 = 0) → (v_X4_turnsLessBacks_37 k I Q K4 v2 (1 : Int32) v1)) ∧ ((¬ (r1 = 0)) → (v_X4_turnsLessBacks_37 k I Q K4 v2 (-1 : Int32) v1)))))))))
def v_X4_turnsLessBacks_4 (k : Nat) (I : wI) (Q : Int32 → Prop) : Nat → Int32 → Int32 → Prop
  | 0 => fun _ _ => False
  | f + 1 => g_X4_turnsLessBacks_4 k I Q (v_X4_turnsLessBacks_4 k I Q f)
def v_X4_turnsLessBacks (k : Nat) (I : wI) (Q : Int32 → Prop) : Prop :=
  ∃ f : Nat, v_X4_turnsLessBacks_4 k I Q  f (0 : Int32) (0 : Int32)
theorem vc_X4_turnsLessBacks (k : Nat) (hs : wSh k = (0, 4)) (I : wI) (hp : pre_X4_turnsLessBacks k I) : v_X4_turnsLessBacks k I (post_X4_turnsLessBacks k I) := sorry
def v_X5_showWord_55  (Q : wI → Prop)  (I : wI) : Prop :=
  Q I
def g_X5_showWord_9  (Q : wI → Prop) (K9 : Int32 → wI → Prop) (v1 : Int32) (I : wI) : Prop :=
  (((I 24 3) ≤ v1) → (v_X5_showWord_55  Q   I)) ∧ ((¬ ((I 24 3) ≤ v1)) → ((((500 : Int32) ≤ v1) → (v_X5_showWord_55  Q   I)) ∧ ((¬ ((500 : Int32) ≤ v1)) → ((pre_X4_moveAt 24 v1 I) ∧ (∀ r1 : Int32, (post_X4_moveAt 24 v1 I r1) → ((pre_X1_move 5 30 r1 I) ∧ (∀ I2 : wI, (post_X1_move 5 30 r1 I I2) → (K9 (v1 + (1 : Int32)) I2))))))))
def v_X5_showWord_9  (Q : wI → Prop) : Nat → Int32 → wI → Prop
  | 0 => fun _ _ => False
  | f + 1 => g_X5_showWord_9 Q (v_X5_showWord_9 Q f)
def v_X5_showWord  (I : wI) (Q : wI → Prop) : Prop :=
  (pre_X0_bringHome 30 I) ∧ (∀ I1 : wI, (post_X0_bringHome 30 I I1) → (∃ f : Nat, v_X5_showWord_9  Q  f (0 : Int32) I1))
theorem vc_X5_showWord   (I : wI) (hp : pre_X5_showWord  I) : v_X5_showWord  I (post_X5_showWord  I) := sorry
def v_X5_ofShortWord (x1 : Int32) (I : wI) (Q : Int32 → wI → Prop) : Prop :=
  ((¬ x1 = (4 : Int32)) → ((pre_X5_showWord  I) ∧ (∀ I1 : wI, (post_X5_showWord  I I1) → ((x1 = (1 : Int32) → ((pre_X0_reach 30 I1) ∧ (∀ r2 : Int32, (post_X0_reach 30 I1 r2) → (Q r2 I1)))) ∧ (x1 = (2 : Int32) → ((pre_X5_periodByDoing  I1) ∧ (∀ r3 : Int32, ∀ I4 : wI, (post_X5_periodByDoing  I1 r3 I4) → (Q r3 I4)))) ∧ ((¬ x1 = (1 : Int32) ∧ ¬ x1 = (2 : Int32)) → ((pre_X0_periodByRounds 30 I1) ∧ (∀ r5 : Int32, (post_X0_periodByRounds 30 I1 r5) → (Q r5 I1)))))))) ∧ ((x1 = (4 : Int32)) → ((pre_X4_turnsLessBacks 24 I) ∧ (∀ r6 : Int32, (post_X4_turnsLessBacks 24 I r6) → (Q r6 I))))
theorem vc_X5_ofShortWord (x1 : Int32)  (I : wI) (hp : pre_X5_ofShortWord x1 I) : v_X5_ofShortWord x1 I (post_X5_ofShortWord x1 I) := sorry
def v_X5_ofWord_9 (x1 : Int32) (Q : Int32 → wI → Prop)  (I : wI) : Prop :=
  False
def v_X5_ofWord (x1 : Int32) (I : wI) (Q : Int32 → wI → Prop) : Prop :=
  ((x1 < 0) → (v_X5_ofWord_9 x1 Q   I)) ∧ ((¬ (x1 < 0)) → (((x1 ≤ (4 : Int32)) → ((pre_X4_read 24 I) ∧ (∀ r1 : Int32, ∀ I2 : wI, (post_X4_read 24 I r1 I2) → (((¬ (I2 24 4) = 0) → (((¬ x1 = 0) → ((((I2 24 3) ≤ (500 : Int32)) → ((pre_X5_ofShortWord x1 I2) ∧ (∀ r3 : Int32, ∀ I4 : wI, (post_X5_ofShortWord x1 I2 r3 I4) → (Q r3 I4)))) ∧ ((¬ ((I2 24 3) ≤ (500 : Int32))) → (Q (-1 : Int32) I2)))) ∧ ((x1 = 0) → ((pre_J_min (I2 24 3) (9999 : Int32) I2) ∧ (∀ r5 : Int32, (post_J_min (I2 24 3) (9999 : Int32) I2 r5) → (Q r5 I2)))))) ∧ (((I2 24 4) = 0) → (False)))))) ∧ ((¬ (x1 ≤ (4 : Int32))) → (v_X5_ofWord_9 x1 Q   I))))
theorem vc_X5_ofWord (x1 : Int32)  (I : wI) (hp : pre_X5_ofWord x1 I) : v_X5_ofWord x1 I (post_X5_ofWord x1 I) := sorry
def v_X5_ofWordx_9 (x1 : Int32) (X : String → wI → Prop)  (I : wI) : Prop :=
  X "java/lang/IllegalArgumentException" I
def v_X5_ofWordx (x1 : Int32) (I : wI) (X : String → wI → Prop) : Prop :=
  ((x1 < 0) → (v_X5_ofWordx_9 x1 X   I)) ∧ ((¬ (x1 < 0)) → (((x1 ≤ (4 : Int32)) → ((pre_X4_read 24 I) ∧ (∀ r1 : Int32, ∀ I2 : wI, (post_X4_read 24 I r1 I2) → (((¬ (I2 24 4) = 0) → (((¬ x1 = 0) → ((((I2 24 3) ≤ (500 : Int32)) → ((pre_X5_ofShortWord x1 I2) ∧ (∀ r3 : Int32, ∀ I4 : wI, (post_X5_ofShortWord x1 I2 r3 I4) → (False)))) ∧ ((¬ ((I2 24 3) ≤ (500 : Int32))) → (False)))) ∧ ((x1 = 0) → ((pre_J_min (I2 24 3) (9999 : Int32) I2) ∧ (∀ r5 : Int32, (post_J_min (I2 24 3) (9999 : Int32) I2 r5) → (False)))))) ∧ (((I2 24 4) = 0) → (X "java/lang/IllegalArgumentException" I2)))))) ∧ ((¬ (x1 ≤ (4 : Int32))) → (v_X5_ofWordx_9 x1 X   I))))
theorem vc_X5_ofWordx (x1 : Int32)  (I : wI) (hp : pre_X5_ofWordx x1 I) : v_X5_ofWordx x1 I (exc_X5_ofWord x1 I) := sorry
def v_X5_count_117 (x1 : Int32) (I : wI) (Q : Int32 → Prop) (t0 : Int32) : Prop :=
  Q t0
def v_X5_count (x1 : Int32) (I : wI) (Q : Int32 → Prop) : Prop :=
  (x1 = (0 : Int32) → (Q (I 1 6))) ∧ (x1 = (1 : Int32) → ((pre_X0_notchSum 2 I) ∧ (∀ r1 : Int32, (post_X0_notchSum 2 I r1) → (Q (r1 - r1 / (5 : Int32) * (5 : Int32)))))) ∧ (x1 = (2 : Int32) → (Q (I 1 7))) ∧ (x1 = (3 : Int32) → ((pre_X0_reach 2 I) ∧ (∀ r2 : Int32, (post_X0_reach 2 I r2) → ((pre_J_bitCount r2 I) ∧ (∀ r3 : Int32, (post_J_bitCount r2 I r3) → (Q ((6 : Int32) - r3))))))) ∧ (x1 = (4 : Int32) → ((pre_X3_opens 1 I) ∧ (∀ r4 : Int32, (post_X3_opens 1 I r4) → (((r4 = 0) → (v_X5_count_117 x1 I Q  (0 : Int32))) ∧ ((¬ (r4 = 0)) → (v_X5_count_117 x1 I Q  (1 : Int32))))))) ∧ (x1 = (5 : Int32) → ((pre_X3_asInSecret 1 2 I) ∧ (∀ r5 : Int32, (post_X3_asInSecret 1 2 I r5) → (Q r5)))) ∧ (x1 = (6 : Int32) → ((pre_J_bitCount (I 1 4) I) ∧ (∀ r6 : Int32, (post_J_bitCount (I 1 4) I r6) → (Q r6)))) ∧ (x1 = (7 : Int32) → ((pre_X3_stuckKeys 1 I) ∧ (∀ r7 : Int32, (post_X3_stuckKeys 1 I r7) → (Q r7)))) ∧ (x1 = (8 : Int32) → (Q (I 1 8))) ∧ (x1 = (9 : Int32) → (Q (I 0 4))) ∧ ((¬ x1 = (0 : Int32) ∧ ¬ x1 = (1 : Int32) ∧ ¬ x1 = (2 : Int32) ∧ ¬ x1 = (3 : Int32) ∧ ¬ x1 = (4 : Int32) ∧ ¬ x1 = (5 : Int32) ∧ ¬ x1 = (6 : Int32) ∧ ¬ x1 = (7 : Int32) ∧ ¬ x1 = (8 : Int32) ∧ ¬ x1 = (9 : Int32)) → (False))
theorem vc_X5_count (x1 : Int32)  (I : wI) (hp : pre_X5_count x1 I) : v_X5_count x1 I (post_X5_count x1 I) := sorry
def v_X5_countx_117 (x1 : Int32) (I : wI) (X : String → Prop) (t0 : Int32) : Prop :=
  False
def v_X5_countx (x1 : Int32) (I : wI) (X : String → Prop) : Prop :=
  (x1 = (0 : Int32) → (False)) ∧ (x1 = (1 : Int32) → ((pre_X0_notchSum 2 I) ∧ (∀ r1 : Int32, (post_X0_notchSum 2 I r1) → (False)))) ∧ (x1 = (2 : Int32) → (False)) ∧ (x1 = (3 : Int32) → ((pre_X0_reach 2 I) ∧ (∀ r2 : Int32, (post_X0_reach 2 I r2) → ((pre_J_bitCount r2 I) ∧ (∀ r3 : Int32, (post_J_bitCount r2 I r3) → (False)))))) ∧ (x1 = (4 : Int32) → ((pre_X3_opens 1 I) ∧ (∀ r4 : Int32, (post_X3_opens 1 I r4) → (((r4 = 0) → (v_X5_countx_117 x1 I X  (0 : Int32))) ∧ ((¬ (r4 = 0)) → (v_X5_countx_117 x1 I X  (1 : Int32))))))) ∧ (x1 = (5 : Int32) → ((pre_X3_asInSecret 1 2 I) ∧ (∀ r5 : Int32, (post_X3_asInSecret 1 2 I r5) → (False)))) ∧ (x1 = (6 : Int32) → ((pre_J_bitCount (I 1 4) I) ∧ (∀ r6 : Int32, (post_J_bitCount (I 1 4) I r6) → (False)))) ∧ (x1 = (7 : Int32) → ((pre_X3_stuckKeys 1 I) ∧ (∀ r7 : Int32, (post_X3_stuckKeys 1 I r7) → (False)))) ∧ (x1 = (8 : Int32) → (False)) ∧ (x1 = (9 : Int32) → (False)) ∧ ((¬ x1 = (0 : Int32) ∧ ¬ x1 = (1 : Int32) ∧ ¬ x1 = (2 : Int32) ∧ ¬ x1 = (3 : Int32) ∧ ¬ x1 = (4 : Int32) ∧ ¬ x1 = (5 : Int32) ∧ ¬ x1 = (6 : Int32) ∧ ¬ x1 = (7 : Int32) ∧ ¬ x1 = (8 : Int32) ∧ ¬ x1 = (9 : Int32)) → (X "java/lang/IllegalArgumentException"))
theorem vc_X5_countx (x1 : Int32)  (I : wI) (hp : pre_X5_countx x1 I) : v_X5_countx x1 I (exc_X5_count x1 I) := sorry
def g_X0_fingerprint_4 (k : Nat) (I : wI) (Q : Int32 → Prop) (K4 : Int32 → Int32 → Prop) (v1 : Int32) (v2 : Int32) : Prop :=
  (((6 : Int32) ≤ v2) → (Q v1)) ∧ ((¬ ((6 : Int32) ≤ v2)) → (vp_in v2 6 ∧ (vp_in v2 6 ∧ (K4 (((v1 * (30 : Int32)) + ((I (k + 1) (v2).toNatClampNeg) * (5 : Int32))) + (I (k + 2) (v2).toNatClampNeg)) (v2 + (1 : Int32))))))
def v_X0_fingerprint_4 (k : Nat) (I : wI) (Q : Int32 → Prop) : Nat → Int32 → Int32 → Prop
  | 0 => fun _ _ => False
  | f + 1 => g_X0_fingerprint_4 k I Q (v_X0_fingerprint_4 k I Q f)
def v_X0_fingerprint (k : Nat) (I : wI) (Q : Int32 → Prop) : Prop :=
  ∃ f : Nat, v_X0_fingerprint_4 k I Q  f (0 : Int32) (0 : Int32)
theorem vc_X0_fingerprint (k : Nat) (hs : wSh k = (0, 0)) (I : wI) (hp : pre_X0_fingerprint k I) : v_X0_fingerprint k I (post_X0_fingerprint k I) := sorry
def v_X2_list_49 (k : Nat) (k1 : Nat) (x2 : Int32) (Q : wI → Prop)  (I : wI) : Prop :=
  Q I
def v_X2_list (k : Nat) (k1 : Nat) (x2 : Int32) (I : wI) (Q : wI → Prop) : Prop :=
  (((I k 2) < 0) → (v_X2_list_49 k k1 x2 Q   I)) ∧ ((¬ ((I k 2) < 0)) → ((((111 : Int32) ≤ (I k 2)) → (v_X2_list_49 k k1 x2 Q   I)) ∧ ((¬ ((111 : Int32) ≤ (I k 2))) → ((pre_X0_fingerprint k1 I) ∧ (∀ r1 : Int32, (post_X0_fingerprint k1 I r1) → (vp_in (I k 2) 111 ∧ ∀ I2 : wI, I2 = wU I (k + 1) ((I k 2)).toNatClampNeg r1 → (vp_in (I2 k 2) 111 ∧ ∀ I3 : wI, I3 = wU I2 (k + 2) ((I2 k 2)).toNatClampNeg x2 → (∀ I4 : wI, I4 = wU I3 k 2 ((I3 k 2) + (1 : Int32)) → (v_X2_list_49 k k1 x2 Q   I4)))))))))
theorem vc_X2_list (k : Nat) (k1 : Nat) (x2 : Int32) (hs : wSh k = (0, 2)) (hs1 : wSh k1 = (0, 0)) (I : wI) (hp : pre_X2_list k k1 x2 I) : v_X2_list k k1 x2 I (post_X2_list k k1 x2 I) := sorry
def v_X2_listBehindOne_48 (k : Nat) (k1 : Nat) (Q : wI → Prop) (K2 : Int32 → wI → Prop) (v2 : Int32) (I : wI) : Prop :=
  K2 (v2 + (1 : Int32)) I
def g_X2_listBehindOne_2 (k : Nat) (k1 : Nat) (Q : wI → Prop) (K2 : Int32 → wI → Prop) (v2 : Int32) (I : wI) : Prop :=
  (((10 : Int32) ≤ v2) → (Q I)) ∧ ((¬ ((10 : Int32) ≤ v2)) → ((pre_X3_allows k1 v2 I) ∧ (∀ r1 : Int32, (post_X3_allows k1 v2 I r1) → (((r1 = 0) → (v_X2_listBehindOne_48 k k1 Q K2 v2 I)) ∧ ((¬ (r1 = 0)) → ((pre_X0_copyFrom (k + 6) (k + 3) I) ∧ (∀ I2 : wI, (post_X0_copyFrom (k + 6) (k + 3) I I2) → ((pre_X1_move (k1 + 4) (k + 6) v2 I2) ∧ (∀ I3 : wI, (post_X1_move (k1 + 4) (k + 6) v2 I2 I3) → ((pre_X2_list k (k + 6) (2 : Int32) I3) ∧ (∀ I4 : wI, (post_X2_list k (k + 6) (2 : Int32) I3 I4) → (v_X2_listBehindOne_48 k k1 Q K2 v2 I4))))))))))))
def v_X2_listBehindOne_2 (k : Nat) (k1 : Nat) (Q : wI → Prop) : Nat → Int32 → wI → Prop
  | 0 => fun _ _ => False
  | f + 1 => g_X2_listBehindOne_2 k k1 Q (v_X2_listBehindOne_2 k k1 Q f)
def v_X2_listBehindOne (k : Nat) (k1 : Nat) (I : wI) (Q : wI → Prop) : Prop :=
  ∃ f : Nat, v_X2_listBehindOne_2 k k1 Q  f (0 : Int32) I
theorem vc_X2_listBehindOne (k : Nat) (k1 : Nat) (hs : wSh k = (0, 2)) (hs1 : wSh k1 = (0, 3)) (I : wI) (hp : pre_X2_listBehindOne k k1 I) : v_X2_listBehindOne k k1 I (post_X2_listBehindOne k k1 I) := sorry
def v_X2_listNear_112 (k : Nat) (k1 : Nat) (Q : wI → Prop) (K70 : Int32 → wI → Prop) (v2 : Int32) (I : wI) : Prop :=
  K70 (v2 + (1 : Int32)) I
def g_X2_listNear_70 (k : Nat) (k1 : Nat) (Q : wI → Prop) (K70 : Int32 → wI → Prop) (v2 : Int32) (I : wI) : Prop :=
  (((10 : Int32) ≤ v2) → (Q I)) ∧ ((¬ ((10 : Int32) ≤ v2)) → ((pre_X3_allows k1 v2 I) ∧ (∀ r1 : Int32, (post_X3_allows k1 v2 I r1) → (((r1 = 0) → (v_X2_listNear_112 k k1 Q K70 v2 I)) ∧ ((¬ (r1 = 0)) → ((pre_X0_copyFrom (k + 3) (k1 + 7) I) ∧ (∀ I2 : wI, (post_X0_copyFrom (k + 3) (k1 + 7) I I2) → ((pre_X1_move (k1 + 4) (k + 3) v2 I2) ∧ (∀ I3 : wI, (post_X1_move (k1 + 4) (k + 3) v2 I2 I3) → ((pre_X2_listBehindOne k k1 I3) ∧ (∀ I4 : wI, (post_X2_listBehindOne k k1 I3 I4) → (v_X2_listNear_112 k k1 Q K70 v2 I4))))))))))))
def v_X2_listNear_70 (k : Nat) (k1 : Nat) (Q : wI → Prop) : Nat → Int32 → wI → Prop
  | 0 => fun _ _ => False
  | f + 1 => g_X2_listNear_70 k k1 Q (v_X2_listNear_70 k k1 Q f)
def v_X2_listNear_62 (k : Nat) (k1 : Nat) (Q : wI → Prop) (K16 : Int32 → wI → Prop) (v2 : Int32) (I : wI) : Prop :=
  K16 (v2 + (1 : Int32)) I
def g_X2_listNear_16 (k : Nat) (k1 : Nat) (Q : wI → Prop) (K16 : Int32 → wI → Prop) (v2 : Int32) (I : wI) : Prop :=
  (((10 : Int32) ≤ v2) → (∃ f : Nat, v_X2_listNear_70 k k1 Q  f (0 : Int32) I)) ∧ ((¬ ((10 : Int32) ≤ v2)) → ((pre_X3_allows k1 v2 I) ∧ (∀ r1 : Int32, (post_X3_allows k1 v2 I r1) → (((r1 = 0) → (v_X2_listNear_62 k k1 Q K16 v2 I)) ∧ ((¬ (r1 = 0)) → ((pre_X0_copyFrom (k + 3) (k1 + 7) I) ∧ (∀ I2 : wI, (post_X0_copyFrom (k + 3) (k1 + 7) I I2) → ((pre_X1_move (k1 + 4) (k + 3) v2 I2) ∧ (∀ I3 : wI, (post_X1_move (k1 + 4) (k + 3) v2 I2 I3) → ((pre_X2_list k (k + 3) (1 : Int32) I3) ∧ (∀ I4 : wI, (post_X2_list k (k + 3) (1 : Int32) I3 I4) → (v_X2_listNear_62 k k1 Q K16 v2 I4))))))))))))
def v_X2_listNear_16 (k : Nat) (k1 : Nat) (Q : wI → Prop) : Nat → Int32 → wI → Prop
  | 0 => fun _ _ => False
  | f + 1 => g_X2_listNear_16 k k1 Q (v_X2_listNear_16 k k1 Q f)
def v_X2_listNear (k : Nat) (k1 : Nat) (I : wI) (Q : wI → Prop) : Prop :=
  ∀ I1 : wI, I1 = wU I k 2 (0 : Int32) → ((pre_X2_list k (k1 + 7) (0 : Int32) I1) ∧ (∀ I2 : wI, (post_X2_list k (k1 + 7) (0 : Int32) I1 I2) → (∃ f : Nat, v_X2_listNear_16 k k1 Q  f (0 : Int32) I2)))
theorem vc_X2_listNear (k : Nat) (k1 : Nat) (hs : wSh k = (0, 2)) (hs1 : wSh k1 = (0, 3)) (I : wI) (hp : pre_X2_listNear k k1 I) : v_X2_listNear k k1 I (post_X2_listNear k k1 I) := sorry
def v_X2_listedTurns_44 (k : Nat) (k1 : Nat) (I : wI) (Q : Int32 → Prop)  : Prop :=
  Q (-1 : Int32)
def g_X2_listedTurns_7 (k : Nat) (k1 : Nat) (I : wI) (Q : Int32 → Prop) (K7 : Int32 → Int32 → Prop) (v2 : Int32) (v3 : Int32) : Prop :=
  (((I k 2) ≤ v3) → (v_X2_listedTurns_44 k k1 I Q  )) ∧ ((¬ ((I k 2) ≤ v3)) → ((((111 : Int32) ≤ v3) → (v_X2_listedTurns_44 k k1 I Q  )) ∧ ((¬ ((111 : Int32) ≤ v3)) → (vp_in v3 111 ∧ (((¬ (I (k + 1) (v3).toNatClampNeg) = v2) → (K7 v2 (v3 + (1 : Int32)))) ∧ (((I (k + 1) (v3).toNatClampNeg) = v2) → (vp_in v3 111 ∧ (Q (I (k + 2) (v3).toNatClampNeg)))))))))
def v_X2_listedTurns_7 (k : Nat) (k1 : Nat) (I : wI) (Q : Int32 → Prop) : Nat → Int32 → Int32 → Prop
  | 0 => fun _ _ => False
  | f + 1 => g_X2_listedTurns_7 k k1 I Q (v_X2_listedTurns_7 k k1 I Q f)
def v_X2_listedTurns (k : Nat) (k1 : Nat) (I : wI) (Q : Int32 → Prop) : Prop :=
  (pre_X0_fingerprint k1 I) ∧ (∀ r1 : Int32, (post_X0_fingerprint k1 I r1) → (∃ f : Nat, v_X2_listedTurns_7 k k1 I Q  f r1 (0 : Int32)))
theorem vc_X2_listedTurns (k : Nat) (k1 : Nat) (hs : wSh k = (0, 2)) (hs1 : wSh k1 = (0, 0)) (I : wI) (hp : pre_X2_listedTurns k k1 I) : v_X2_listedTurns k k1 I (post_X2_listedTurns k k1 I) := sorry
def v_X2_meetsList_53 (k : Nat) (k1 : Nat) (Q : Int32 → wI → Prop) (K2 : Int32 → wI → Prop) (v2 : Int32) (I : wI) : Prop :=
  K2 (v2 + (1 : Int32)) I
def g_X2_meetsList_2 (k : Nat) (k1 : Nat) (Q : Int32 → wI → Prop) (K2 : Int32 → wI → Prop) (v2 : Int32) (I : wI) : Prop :=
  (((10 : Int32) ≤ v2) → (Q (0 : Int32) I)) ∧ ((¬ ((10 : Int32) ≤ v2)) → ((pre_X3_allows k1 v2 I) ∧ (∀ r1 : Int32, (post_X3_allows k1 v2 I r1) → (((r1 = 0) → (v_X2_meetsList_53 k k1 Q K2 v2 I)) ∧ ((¬ (r1 = 0)) → ((pre_X0_copyFrom (k + 6) (k + 3) I) ∧ (∀ I2 : wI, (post_X0_copyFrom (k + 6) (k + 3) I I2) → ((pre_X1_move (k1 + 4) (k + 6) v2 I2) ∧ (∀ I3 : wI, (post_X1_move (k1 + 4) (k + 6) v2 I2 I3) → ((pre_X2_listedTurns k (k + 6) I3) ∧ (∀ r4 : Int32, (post_X2_listedTurns k (k + 6) I3 r4) → (((r4 = (-1 : Int32)) → (v_X2_meetsList_53 k k1 Q K2 v2 I3)) ∧ ((¬ (r4 = (-1 : Int32))) → (Q (1 : Int32) I3))))))))))))))
def v_X2_meetsList_2 (k : Nat) (k1 : Nat) (Q : Int32 → wI → Prop) : Nat → Int32 → wI → Prop
  | 0 => fun _ _ => False
  | f + 1 => g_X2_meetsList_2 k k1 Q (v_X2_meetsList_2 k k1 Q f)
def v_X2_meetsList (k : Nat) (k1 : Nat) (I : wI) (Q : Int32 → wI → Prop) : Prop :=
  ∃ f : Nat, v_X2_meetsList_2 k k1 Q  f (0 : Int32) I
theorem vc_X2_meetsList (k : Nat) (k1 : Nat) (hs : wSh k = (0, 2)) (hs1 : wSh k1 = (0, 3)) (I : wI) (hp : pre_X2_meetsList k k1 I) : v_X2_meetsList k k1 I (post_X2_meetsList k k1 I) := sorry
def v_X2_tryFirst_90 (k : Nat) (k1 : Nat) (x2 : Int32) (Q : wI → Prop)  (I : wI) : Prop :=
  Q I
def v_X2_tryFirst_78 (k : Nat) (k1 : Nat) (x2 : Int32) (Q : wI → Prop) (v3 : Int32) (I : wI) : Prop :=
  ∀ I1 : wI, I1 = wU I k 5 (v3 + (1 : Int32)) → (∀ I2 : wI, I2 = wU I1 k 6 x2 → (v_X2_tryFirst_90 k k1 x2 Q   I2))
def v_X2_tryFirst_55 (k : Nat) (k1 : Nat) (x2 : Int32) (Q : wI → Prop) (v3 : Int32) (I : wI) : Prop :=
  ((v3 = (-1 : Int32)) → (v_X2_tryFirst_90 k k1 x2 Q   I)) ∧ ((¬ (v3 = (-1 : Int32))) → ((((I k 5) = (-1 : Int32)) → (v_X2_tryFirst_78 k k1 x2 Q  v3 I)) ∧ ((¬ ((I k 5) = (-1 : Int32))) → ((((I k 5) ≤ (v3 + (1 : Int32))) → (v_X2_tryFirst_90 k k1 x2 Q   I)) ∧ ((¬ ((I k 5) ≤ (v3 + (1 : Int32)))) → (v_X2_tryFirst_78 k k1 x2 Q  v3 I))))))
def v_X2_tryFirst (k : Nat) (k1 : Nat) (x2 : Int32) (I : wI) (Q : wI → Prop) : Prop :=
  (pre_X0_copyFrom (k + 3) (k1 + 1) I) ∧ (∀ I1 : wI, (post_X0_copyFrom (k + 3) (k1 + 1) I I1) → ((pre_X1_move (k1 + 4) (k + 3) x2 I1) ∧ (∀ I2 : wI, (post_X1_move (k1 + 4) (k + 3) x2 I1 I2) → ((pre_X2_listedTurns k (k + 3) I2) ∧ (∀ r3 : Int32, (post_X2_listedTurns k (k + 3) I2 r3) → (((¬ r3 = (-1 : Int32)) → (v_X2_tryFirst_55 k k1 x2 Q  r3 I2)) ∧ ((r3 = (-1 : Int32)) → (((¬ (I2 k 5) = (-1 : Int32)) → (v_X2_tryFirst_55 k k1 x2 Q  r3 I2)) ∧ (((I2 k 5) = (-1 : Int32)) → ((pre_X2_meetsList k k1 I2) ∧ (∀ r4 : Int32, ∀ I5 : wI, (post_X2_meetsList k k1 I2 r4 I5) → (((r4 = 0) → (v_X2_tryFirst_55 k k1 x2 Q  r3 I5)) ∧ ((¬ (r4 = 0)) → (v_X2_tryFirst_55 k k1 x2 Q  (3 : Int32) I5))))))))))))))
theorem vc_X2_tryFirst (k : Nat) (k1 : Nat) (x2 : Int32) (hs : wSh k = (0, 2)) (hs1 : wSh k1 = (0, 3)) (I : wI) (hp : pre_X2_tryFirst k k1 x2 I) : v_X2_tryFirst k k1 x2 I (post_X2_tryFirst k k1 x2 I) := sorry
def v_X2_search_58 (k : Nat) (k1 : Nat) (Q : wI → Prop) (K38 : Int32 → wI → Prop) (v2 : Int32) (I : wI) : Prop :=
  K38 (v2 + (1 : Int32)) I
def g_X2_search_38 (k : Nat) (k1 : Nat) (Q : wI → Prop) (K38 : Int32 → wI → Prop) (v2 : Int32) (I : wI) : Prop :=
  (((10 : Int32) ≤ v2) → (Q I)) ∧ ((¬ ((10 : Int32) ≤ v2)) → ((pre_X3_allows k1 v2 I) ∧ (∀ r1 : Int32, (post_X3_allows k1 v2 I r1) → (((r1 = 0) → (v_X2_search_58 k k1 Q K38 v2 I)) ∧ ((¬ (r1 = 0)) → ((pre_X2_tryFirst k k1 v2 I) ∧ (∀ I2 : wI, (post_X2_tryFirst k k1 v2 I I2) → (v_X2_search_58 k k1 Q K38 v2 I2))))))))
def v_X2_search_38 (k : Nat) (k1 : Nat) (Q : wI → Prop) : Nat → Int32 → wI → Prop
  | 0 => fun _ _ => False
  | f + 1 => g_X2_search_38 k k1 Q (v_X2_search_38 k k1 Q f)
def v_X2_search (k : Nat) (k1 : Nat) (I : wI) (Q : wI → Prop) : Prop :=
  ∀ I1 : wI, I1 = wU I k 5 (-1 : Int32) → (∀ I2 : wI, I2 = wU I1 k 6 (-1 : Int32) → (((¬ (I2 k1 3) = 0) → ((pre_X3_opens k1 I2) ∧ (∀ r3 : Int32, (post_X3_opens k1 I2 r3) → (((r3 = 0) → ((pre_X2_listNear k k1 I2) ∧ (∀ I4 : wI, (post_X2_listNear k k1 I2 I4) → (∃ f : Nat, v_X2_search_38 k k1 Q  f (0 : Int32) I4)))) ∧ ((¬ (r3 = 0)) → (∀ I5 : wI, I5 = wU I2 k 5 (0 : Int32) → (Q I5))))))) ∧ (((I2 k1 3) = 0) → (Q I2))))
theorem vc_X2_search (k : Nat) (k1 : Nat) (hs : wSh k = (0, 2)) (hs1 : wSh k1 = (0, 3)) (I : wI) (hp : pre_X2_search k k1 I) : v_X2_search k k1 I (post_X2_search k k1 I) := sorry
def v_X5_openIn_51 (x1 : Int32) (Q : Int32 → wI → Prop) (t0 : Int32) (I : wI) : Prop :=
  Q t0 I
def v_X5_openIn_9 (x1 : Int32) (Q : Int32 → wI → Prop)  (I : wI) : Prop :=
  False
def v_X5_openIn (x1 : Int32) (I : wI) (Q : Int32 → wI → Prop) : Prop :=
  ((x1 < 0) → (v_X5_openIn_9 x1 Q   I)) ∧ ((¬ (x1 < 0)) → (((x1 ≤ (1 : Int32)) → ((pre_X2_search 36 1 I) ∧ (∀ I1 : wI, (post_X2_search 36 1 I I1) → (((¬ x1 = 0) → (v_X5_openIn_51 x1 Q  (I1 36 6) I1)) ∧ ((x1 = 0) → (v_X5_openIn_51 x1 Q  (I1 36 5) I1)))))) ∧ ((¬ (x1 ≤ (1 : Int32))) → (v_X5_openIn_9 x1 Q   I))))
theorem vc_X5_openIn (x1 : Int32)  (I : wI) (hp : pre_X5_openIn x1 I) : v_X5_openIn x1 I (post_X5_openIn x1 I) := sorry
def v_X5_openInx_51 (x1 : Int32) (X : String → wI → Prop) (t0 : Int32) (I : wI) : Prop :=
  False
def v_X5_openInx_9 (x1 : Int32) (X : String → wI → Prop)  (I : wI) : Prop :=
  X "java/lang/IllegalArgumentException" I
def v_X5_openInx (x1 : Int32) (I : wI) (X : String → wI → Prop) : Prop :=
  ((x1 < 0) → (v_X5_openInx_9 x1 X   I)) ∧ ((¬ (x1 < 0)) → (((x1 ≤ (1 : Int32)) → ((pre_X2_search 36 1 I) ∧ (∀ I1 : wI, (post_X2_search 36 1 I I1) → (((¬ x1 = 0) → (v_X5_openInx_51 x1 X  (I1 36 6) I1)) ∧ ((x1 = 0) → (v_X5_openInx_51 x1 X  (I1 36 5) I1)))))) ∧ ((¬ (x1 ≤ (1 : Int32))) → (v_X5_openInx_9 x1 X   I))))
theorem vc_X5_openInx (x1 : Int32)  (I : wI) (hp : pre_X5_openInx x1 I) : v_X5_openInx x1 I (exc_X5_openIn x1 I) := sorry
def v_X5_ifTurned_59 (x1 : Int32) (x2 : Int32) (Q : Int32 → wI → Prop) (t0 : Int32) (t1 : Int32) (I : wI) : Prop :=
  (pre_X5_moveOf t1 t0 I) ∧ (∀ r1 : Int32, (post_X5_moveOf t1 t0 I r1) → ((pre_X1_move 5 33 r1 I) ∧ (∀ I2 : wI, (post_X1_move 5 33 r1 I I2) → ((pre_X3_asInSecret 1 33 I2) ∧ (∀ r3 : Int32, (post_X3_asInSecret 1 33 I2 r3) → (Q r3 I2))))))
def v_X5_ifTurned_13 (x1 : Int32) (x2 : Int32) (Q : Int32 → wI → Prop)  (I : wI) : Prop :=
  False
def v_X5_ifTurned (x1 : Int32) (x2 : Int32) (I : wI) (Q : Int32 → wI → Prop) : Prop :=
  (pre_X5_requireKey x1 I) ∧ ((post_X5_requireKey x1 I) → (((x2 < 0) → (v_X5_ifTurned_13 x1 x2 Q   I)) ∧ ((¬ (x2 < 0)) → (((x2 ≤ (1 : Int32)) → ((pre_X0_copyFrom 33 2 I) ∧ (∀ I1 : wI, (post_X0_copyFrom 33 2 I I1) → (((¬ x2 = (1 : Int32)) → (v_X5_ifTurned_59 x1 x2 Q  (0 : Int32) x1 I1)) ∧ ((x2 = (1 : Int32)) → (v_X5_ifTurned_59 x1 x2 Q  (1 : Int32) x1 I1)))))) ∧ ((¬ (x2 ≤ (1 : Int32))) → (v_X5_ifTurned_13 x1 x2 Q   I))))))
theorem vc_X5_ifTurned (x1 : Int32) (x2 : Int32)  (I : wI) (hp : pre_X5_ifTurned x1 x2 I) : v_X5_ifTurned x1 x2 I (post_X5_ifTurned x1 x2 I) := sorry
def v_X5_ifTurnedx_59 (x1 : Int32) (x2 : Int32) (X : String → wI → Prop) (t0 : Int32) (t1 : Int32) (I : wI) : Prop :=
  (pre_X5_moveOf t1 t0 I) ∧ (∀ r1 : Int32, (post_X5_moveOf t1 t0 I r1) → ((pre_X1_move 5 33 r1 I) ∧ (∀ I2 : wI, (post_X1_move 5 33 r1 I I2) → ((pre_X3_asInSecret 1 33 I2) ∧ (∀ r3 : Int32, (post_X3_asInSecret 1 33 I2 r3) → (False))))))
def v_X5_ifTurnedx_13 (x1 : Int32) (x2 : Int32) (X : String → wI → Prop)  (I : wI) : Prop :=
  X "java/lang/IllegalArgumentException" I
def v_X5_ifTurnedx (x1 : Int32) (x2 : Int32) (I : wI) (X : String → wI → Prop) : Prop :=
  ((ok_X5_requireKey x1 I) → ((pre_X5_requireKey x1 I) ∧ ((post_X5_requireKey x1 I) → (((x2 < 0) → (v_X5_ifTurnedx_13 x1 x2 X   I)) ∧ ((¬ (x2 < 0)) → (((x2 ≤ (1 : Int32)) → ((pre_X0_copyFrom 33 2 I) ∧ (∀ I1 : wI, (post_X0_copyFrom 33 2 I I1) → (((¬ x2 = (1 : Int32)) → (v_X5_ifTurnedx_59 x1 x2 X  (0 : Int32) x1 I1)) ∧ ((x2 = (1 : Int32)) → (v_X5_ifTurnedx_59 x1 x2 X  (1 : Int32) x1 I1)))))) ∧ ((¬ (x2 ≤ (1 : Int32))) → (v_X5_ifTurnedx_13 x1 x2 X   I)))))))) ∧ ((¬ (ok_X5_requireKey x1 I)) → ((pre_X5_requireKeyx x1 I) ∧ (∀ E : String, (exc_X5_requireKey x1 I E) → X E I)))
theorem vc_X5_ifTurnedx (x1 : Int32) (x2 : Int32)  (I : wI) (hp : pre_X5_ifTurnedx x1 x2 I) : v_X5_ifTurnedx x1 x2 I (exc_X5_ifTurned x1 x2 I) := sorry
def v_X5_closest_58  (Q : Int32 → wI → Prop) (K7 : Int32 → Int32 → Int32 → wI → Prop) (K17 : Int32 → Int32 → Int32 → Int32 → wI → Prop) (v1 : Int32) (v2 : Int32) (v3 : Int32) (v4 : Int32) (I : wI) : Prop :=
  K17 v1 v2 v3 (v4 + (1 : Int32)) I
def g_X5_closest_17  (Q : Int32 → wI → Prop) (K7 : Int32 → Int32 → Int32 → wI → Prop) (K17 : Int32 → Int32 → Int32 → Int32 → wI → Prop) (v1 : Int32) (v2 : Int32) (v3 : Int32) (v4 : Int32) (I : wI) : Prop :=
  (((5 : Int32) ≤ v4) → (K7 v1 v2 (v3 + (1 : Int32)) I)) ∧ ((¬ ((5 : Int32) ≤ v4)) → ((pre_X5_showPair v3 v4 I) ∧ (∀ I1 : wI, (post_X5_showPair v3 v4 I I1) → ((pre_X0_reach 30 I1) ∧ (∀ r2 : Int32, (post_X0_reach 30 I1 r2) → ((pre_J_bitCount r2 I1) ∧ (∀ r3 : Int32, (post_J_bitCount r2 I1 r3) → (((v2 ≤ r3) → (v_X5_closest_58  Q K7 K17 v1 v2 v3 v4 I1)) ∧ ((¬ (v2 ≤ r3)) → (v_X5_closest_58  Q K7 K17 (((5 : Int32) * v3) + v4) r3 v3 v4 I1))))))))))
def v_X5_closest_17  (Q : Int32 → wI → Prop) (K7 : Int32 → Int32 → Int32 → wI → Prop) : Nat → Int32 → Int32 → Int32 → Int32 → wI → Prop
  | 0 => fun _ _ _ _ _ => False
  | f + 1 => g_X5_closest_17 Q K7 (v_X5_closest_17 Q K7 f)
def g_X5_closest_7  (Q : Int32 → wI → Prop) (K7 : Int32 → Int32 → Int32 → wI → Prop) (v1 : Int32) (v2 : Int32) (v3 : Int32) (I : wI) : Prop :=
  (((5 : Int32) ≤ v3) → (Q v1 I)) ∧ ((¬ ((5 : Int32) ≤ v3)) → (∃ f : Nat, v_X5_closest_17  Q K7 f v1 v2 v3 (v3 + (1 : Int32)) I))
def v_X5_closest_7  (Q : Int32 → wI → Prop) : Nat → Int32 → Int32 → Int32 → wI → Prop
  | 0 => fun _ _ _ _ => False
  | f + 1 => g_X5_closest_7 Q (v_X5_closest_7 Q f)
def v_X5_closest  (I : wI) (Q : Int32 → wI → Prop) : Prop :=
  ∃ f : Nat, v_X5_closest_7  Q  f (-1 : Int32) (7 : Int32) (0 : Int32) I
theorem vc_X5_closest   (I : wI) (hp : pre_X5_closest  I) : v_X5_closest  I (post_X5_closest  I) := sorry
def v_X5_openShare  (I : wI) (Q : UInt64 → Prop) : Prop :=
  (pre_X3_asInSecret 1 2 I) ∧ (∀ r1 : Int32, (post_X3_asInSecret 1 2 I r1) → (vf_n64 (FP.ddiv (FP.i2d r1) (4618441417868443648 : UInt64)) ∧ (Q (FP.ddiv (FP.i2d r1) (4618441417868443648 : UInt64)))))
theorem vc_X5_openShare   (I : wI) (hp : pre_X5_openShare  I) : v_X5_openShare  I (post_X5_openShare  I) := sorry
def v_X5_meanNotch  (I : wI) (Q : UInt32 → Prop) : Prop :=
  (pre_X0_notchSum 2 I) ∧ (∀ r1 : Int32, (post_X0_notchSum 2 I r1) → (vf_n32 (FP.fdiv (FP.i2f r1) (1086324736 : UInt32)) ∧ (Q (FP.fdiv (FP.i2f r1) (1086324736 : UInt32)))))
theorem vc_X5_meanNotch   (I : wI) (hp : pre_X5_meanNotch  I) : v_X5_meanNotch  I (post_X5_meanNotch  I) := sorry
def v_X5_mix (x0 : Int64) (x2 : Int64) (I : wI) (Q : Int64 → Prop) : Prop :=
  Q (((31 : Int64) * x0) + x2)
theorem vc_X5_mix (x0 : Int64) (x2 : Int64)  (I : wI) (hp : pre_X5_mix x0 x2 I) : v_X5_mix x0 x2 I (post_X5_mix x0 x2 I) := sorry
def g_X5_mixPositions_15 (x1 : Int64) (I : wI) (Q : Int64 → Prop) (K5 : Int64 → Int32 → Prop) (K15 : Int64 → Int32 → Int32 → Prop) (v3 : Int64) (v5 : Int32) (v6 : Int32) : Prop :=
  (((4 : Int32) < v6) → (K5 v3 (v5 + (1 : Int32)))) ∧ ((¬ ((4 : Int32) < v6)) → ((pre_X5_at v5 v6 I) ∧ (∀ r1 : Int32, (post_X5_at v5 v6 I r1) → ((pre_X5_mix v3 (r1).toInt64 I) ∧ (∀ r2 : Int64, (post_X5_mix v3 (r1).toInt64 I r2) → (K15 r2 v5 (v6 + (1 : Int32))))))))
def v_X5_mixPositions_15 (x1 : Int64) (I : wI) (Q : Int64 → Prop) (K5 : Int64 → Int32 → Prop) : Nat → Int64 → Int32 → Int32 → Prop
  | 0 => fun _ _ _ => False
  | f + 1 => g_X5_mixPositions_15 x1 I Q K5 (v_X5_mixPositions_15 x1 I Q K5 f)
def g_X5_mixPositions_5 (x1 : Int64) (I : wI) (Q : Int64 → Prop) (K5 : Int64 → Int32 → Prop) (v3 : Int64) (v5 : Int32) : Prop :=
  (((6 : Int32) ≤ v5) → (Q v3)) ∧ ((¬ ((6 : Int32) ≤ v5)) → (∃ f : Nat, v_X5_mixPositions_15 x1 I Q K5 f v3 v5 (0 : Int32)))
def v_X5_mixPositions_5 (x1 : Int64) (I : wI) (Q : Int64 → Prop) : Nat → Int64 → Int32 → Prop
  | 0 => fun _ _ => False
  | f + 1 => g_X5_mixPositions_5 x1 I Q (v_X5_mixPositions_5 x1 I Q f)
def v_X5_mixPositions (x1 : Int64) (I : wI) (Q : Int64 → Prop) : Prop :=
  ∃ f : Nat, v_X5_mixPositions_5 x1 I Q  f x1 (0 : Int32)
theorem vc_X5_mixPositions (x1 : Int64)  (I : wI) (hp : pre_X5_mixPositions x1 I) : v_X5_mixPositions x1 I (post_X5_mixPositions x1 I) := sorry
def g_X5_mixPositionsx_15 (x1 : Int64) (I : wI) (X : String → Prop) (K5 : Int64 → Int32 → Prop) (K15 : Int64 → Int32 → Int32 → Prop) (v3 : Int64) (v5 : Int32) (v6 : Int32) : Prop :=
  (((4 : Int32) < v6) → (K5 v3 (v5 + (1 : Int32)))) ∧ ((¬ ((4 : Int32) < v6)) → (((ok_X5_at v5 v6 I) → ((pre_X5_at v5 v6 I) ∧ (∀ r2 : Int32, (post_X5_at v5 v6 I r2) → ((pre_X5_mix v3 (r2).toInt64 I) ∧ (∀ r3 : Int64, (post_X5_mix v3 (r2).toInt64 I r3) → (K15 r3 v5 (v6 + (1 : Int32)))))))) ∧ ((¬ (ok_X5_at v5 v6 I)) → ((pre_X5_atx v5 v6 I) ∧ (∀ E : String, (exc_X5_at v5 v6 I E) → X E)))))
def v_X5_mixPositionsx_15 (x1 : Int64) (I : wI) (X : String → Prop) (K5 : Int64 → Int32 → Prop) : Nat → Int64 → Int32 → Int32 → Prop
  | 0 => fun _ _ _ => False
  | f + 1 => g_X5_mixPositionsx_15 x1 I X K5 (v_X5_mixPositionsx_15 x1 I X K5 f)
def g_X5_mixPositionsx_5 (x1 : Int64) (I : wI) (X : String → Prop) (K5 : Int64 → Int32 → Prop) (v3 : Int64) (v5 : Int32) : Prop :=
  (((6 : Int32) ≤ v5) → (False)) ∧ ((¬ ((6 : Int32) ≤ v5)) → (∃ f : Nat, v_X5_mixPositionsx_15 x1 I X K5 f v3 v5 (0 : Int32)))
def v_X5_mixPositionsx_5 (x1 : Int64) (I : wI) (X : String → Prop) : Nat → Int64 → Int32 → Prop
  | 0 => fun _ _ => False
  | f + 1 => g_X5_mixPositionsx_5 x1 I X (v_X5_mixPositionsx_5 x1 I X f)
def v_X5_mixPositionsx (x1 : Int64) (I : wI) (X : String → Prop) : Prop :=
  ∃ f : Nat, v_X5_mixPositionsx_5 x1 I X  f x1 (0 : Int32)
theorem vc_X5_mixPositionsx (x1 : Int64)  (I : wI) (hp : pre_X5_mixPositionsx x1 I) : v_X5_mixPositionsx x1 I (exc_X5_mixPositions x1 I) := sorry
def g_X5_mixKeys_14 (x1 : Int64) (Q : Int64 → wI → Prop) (K5 : Int64 → Int32 → wI → Prop) (K14 : Int64 → Int32 → Int32 → wI → Prop) (v3 : Int64) (v5 : Int32) (v6 : Int32) (I : wI) : Prop :=
  (((5 : Int32) < v6) → ((pre_X5_ifTurned v5 (0 : Int32) I) ∧ (∀ r1 : Int32, ∀ I2 : wI, (post_X5_ifTurned v5 (0 : Int32) I r1 I2) → ((pre_X5_mix v3 (r1).toInt64 I2) ∧ (∀ r3 : Int64, (post_X5_mix v3 (r1).toInt64 I2 r3) → ((pre_X5_ifTurned v5 (1 : Int32) I2) ∧ (∀ r4 : Int32, ∀ I5 : wI, (post_X5_ifTurned v5 (1 : Int32) I2 r4 I5) → ((pre_X5_mix r3 (r4).toInt64 I5) ∧ (∀ r6 : Int64, (post_X5_mix r3 (r4).toInt64 I5 r6) → (K5 r6 (v5 + (1 : Int32)) I5)))))))))) ∧ ((¬ ((5 : Int32) < v6)) → ((pre_X5_key v5 v6 I) ∧ (∀ r7 : Int32, ∀ I8 : wI, (post_X5_key v5 v6 I r7 I8) → ((pre_X5_mix v3 (r7).toInt64 I8) ∧ (∀ r9 : Int64, (post_X5_mix v3 (r7).toInt64 I8 r9) → (K14 r9 v5 (v6 + (1 : Int32)) I8))))))
def v_X5_mixKeys_14 (x1 : Int64) (Q : Int64 → wI → Prop) (K5 : Int64 → Int32 → wI → Prop) : Nat → Int64 → Int32 → Int32 → wI → Prop
  | 0 => fun _ _ _ _ => False
  | f + 1 => g_X5_mixKeys_14 x1 Q K5 (v_X5_mixKeys_14 x1 Q K5 f)
def g_X5_mixKeys_5 (x1 : Int64) (Q : Int64 → wI → Prop) (K5 : Int64 → Int32 → wI → Prop) (v3 : Int64) (v5 : Int32) (I : wI) : Prop :=
  (((5 : Int32) ≤ v5) → (Q v3 I)) ∧ ((¬ ((5 : Int32) ≤ v5)) → (∃ f : Nat, v_X5_mixKeys_14 x1 Q K5 f v3 v5 (0 : Int32) I))
def v_X5_mixKeys_5 (x1 : Int64) (Q : Int64 → wI → Prop) : Nat → Int64 → Int32 → wI → Prop
  | 0 => fun _ _ _ => False
  | f + 1 => g_X5_mixKeys_5 x1 Q (v_X5_mixKeys_5 x1 Q f)
def v_X5_mixKeys (x1 : Int64) (I : wI) (Q : Int64 → wI → Prop) : Prop :=
  ∃ f : Nat, v_X5_mixKeys_5 x1 Q  f x1 (0 : Int32) I
theorem vc_X5_mixKeys (x1 : Int64)  (I : wI) (hp : pre_X5_mixKeys x1 I) : v_X5_mixKeys x1 I (post_X5_mixKeys x1 I) := sorry
def g_X5_mixKeysx_14 (x1 : Int64) (X : String → wI → Prop) (K5 : Int64 → Int32 → wI → Prop) (K14 : Int64 → Int32 → Int32 → wI → Prop) (v3 : Int64) (v5 : Int32) (v6 : Int32) (I : wI) : Prop :=
  (((5 : Int32) < v6) → (((ok_X5_ifTurned v5 (0 : Int32) I) → ((pre_X5_ifTurned v5 (0 : Int32) I) ∧ (∀ r3 : Int32, ∀ I4 : wI, (post_X5_ifTurned v5 (0 : Int32) I r3 I4) → ((pre_X5_mix v3 (r3).toInt64 I4) ∧ (∀ r5 : Int64, (post_X5_mix v3 (r3).toInt64 I4 r5) → (((ok_X5_ifTurned v5 (1 : Int32) I4) → ((pre_X5_ifTurned v5 (1 : Int32) I4) ∧ (∀ r8 : Int32, ∀ I9 : wI, (post_X5_ifTurned v5 (1 : Int32) I4 r8 I9) → ((pre_X5_mix r5 (r8).toInt64 I9) ∧ (∀ r10 : Int64, (post_X5_mix r5 (r8).toInt64 I9 r10) → (K5 r10 (v5 + (1 : Int32)) I9)))))) ∧ ((¬ (ok_X5_ifTurned v5 (1 : Int32) I4)) → ((pre_X5_ifTurnedx v5 (1 : Int32) I4) ∧ (∀ (E : String) (u : wI), (exc_X5_ifTurned v5 (1 : Int32) I4 E u) → X E u))))))))) ∧ ((¬ (ok_X5_ifTurned v5 (0 : Int32) I)) → ((pre_X5_ifTurnedx v5 (0 : Int32) I) ∧ (∀ (E : String) (u : wI), (exc_X5_ifTurned v5 (0 : Int32) I E u) → X E u))))) ∧ ((¬ ((5 : Int32) < v6)) → (((ok_X5_key v5 v6 I) → ((pre_X5_key v5 v6 I) ∧ (∀ r13 : Int32, ∀ I14 : wI, (post_X5_key v5 v6 I r13 I14) → ((pre_X5_mix v3 (r13).toInt64 I14) ∧ (∀ r15 : Int64, (post_X5_mix v3 (r13).toInt64 I14 r15) → (K14 r15 v5 (v6 + (1 : Int32)) I14)))))) ∧ ((¬ (ok_X5_key v5 v6 I)) → ((pre_X5_keyx v5 v6 I) ∧ (∀ (E : String) (u : wI), (exc_X5_key v5 v6 I E u) → X E u)))))
def v_X5_mixKeysx_14 (x1 : Int64) (X : String → wI → Prop) (K5 : Int64 → Int32 → wI → Prop) : Nat → Int64 → Int32 → Int32 → wI → Prop
  | 0 => fun _ _ _ _ => False
  | f + 1 => g_X5_mixKeysx_14 x1 X K5 (v_X5_mixKeysx_14 x1 X K5 f)
def g_X5_mixKeysx_5 (x1 : Int64) (X : String → wI → Prop) (K5 : Int64 → Int32 → wI → Prop) (v3 : Int64) (v5 : Int32) (I : wI) : Prop :=
  (((5 : Int32) ≤ v5) → (False)) ∧ ((¬ ((5 : Int32) ≤ v5)) → (∃ f : Nat, v_X5_mixKeysx_14 x1 X K5 f v3 v5 (0 : Int32) I))
def v_X5_mixKeysx_5 (x1 : Int64) (X : String → wI → Prop) : Nat → Int64 → Int32 → wI → Prop
  | 0 => fun _ _ _ => False
  | f + 1 => g_X5_mixKeysx_5 x1 X (v_X5_mixKeysx_5 x1 X f)
def v_X5_mixKeysx (x1 : Int64) (I : wI) (X : String → wI → Prop) : Prop :=
  ∃ f : Nat, v_X5_mixKeysx_5 x1 X  f x1 (0 : Int32) I
theorem vc_X5_mixKeysx (x1 : Int64)  (I : wI) (hp : pre_X5_mixKeysx x1 I) : v_X5_mixKeysx x1 I (exc_X5_mixKeys x1 I) := sorry
def g_X5_mixPairs_23 (x1 : Int64) (Q : Int64 → wI → Prop) (K5 : Int64 → Int32 → wI → Prop) (K14 : Int64 → Int32 → Int32 → wI → Prop) (K23 : Int64 → Int32 → Int32 → Int32 → wI → Prop) (v3 : Int64) (v5 : Int32) (v6 : Int32) (v7 : Int32) (I : wI) : Prop :=
  (((4 : Int32) < v7) → (K14 v3 v5 (v6 + (1 : Int32)) I)) ∧ ((¬ ((4 : Int32) < v7)) → ((pre_X5_pair v5 v6 v7 I) ∧ (∀ r1 : Int32, ∀ I2 : wI, (post_X5_pair v5 v6 v7 I r1 I2) → ((pre_X5_mix v3 (r1).toInt64 I2) ∧ (∀ r3 : Int64, (post_X5_mix v3 (r1).toInt64 I2 r3) → (K23 r3 v5 v6 (v7 + (1 : Int32)) I2))))))
def v_X5_mixPairs_23 (x1 : Int64) (Q : Int64 → wI → Prop) (K5 : Int64 → Int32 → wI → Prop) (K14 : Int64 → Int32 → Int32 → wI → Prop) : Nat → Int64 → Int32 → Int32 → Int32 → wI → Prop
  | 0 => fun _ _ _ _ _ => False
  | f + 1 => g_X5_mixPairs_23 x1 Q K5 K14 (v_X5_mixPairs_23 x1 Q K5 K14 f)
def g_X5_mixPairs_14 (x1 : Int64) (Q : Int64 → wI → Prop) (K5 : Int64 → Int32 → wI → Prop) (K14 : Int64 → Int32 → Int32 → wI → Prop) (v3 : Int64) (v5 : Int32) (v6 : Int32) (I : wI) : Prop :=
  (((5 : Int32) ≤ v6) → (K5 v3 (v5 + (1 : Int32)) I)) ∧ ((¬ ((5 : Int32) ≤ v6)) → (∃ f : Nat, v_X5_mixPairs_23 x1 Q K5 K14 f v3 v5 v6 (0 : Int32) I))
def v_X5_mixPairs_14 (x1 : Int64) (Q : Int64 → wI → Prop) (K5 : Int64 → Int32 → wI → Prop) : Nat → Int64 → Int32 → Int32 → wI → Prop
  | 0 => fun _ _ _ _ => False
  | f + 1 => g_X5_mixPairs_14 x1 Q K5 (v_X5_mixPairs_14 x1 Q K5 f)
def g_X5_mixPairs_5 (x1 : Int64) (Q : Int64 → wI → Prop) (K5 : Int64 → Int32 → wI → Prop) (v3 : Int64) (v5 : Int32) (I : wI) : Prop :=
  (((5 : Int32) ≤ v5) → (Q v3 I)) ∧ ((¬ ((5 : Int32) ≤ v5)) → (∃ f : Nat, v_X5_mixPairs_14 x1 Q K5 f v3 v5 (0 : Int32) I))
def v_X5_mixPairs_5 (x1 : Int64) (Q : Int64 → wI → Prop) : Nat → Int64 → Int32 → wI → Prop
  | 0 => fun _ _ _ => False
  | f + 1 => g_X5_mixPairs_5 x1 Q (v_X5_mixPairs_5 x1 Q f)
def v_X5_mixPairs (x1 : Int64) (I : wI) (Q : Int64 → wI → Prop) : Prop :=
  ∃ f : Nat, v_X5_mixPairs_5 x1 Q  f x1 (0 : Int32) I
theorem vc_X5_mixPairs (x1 : Int64)  (I : wI) (hp : pre_X5_mixPairs x1 I) : v_X5_mixPairs x1 I (post_X5_mixPairs x1 I) := sorry
def g_X5_mixPairsx_23 (x1 : Int64) (X : String → wI → Prop) (K5 : Int64 → Int32 → wI → Prop) (K14 : Int64 → Int32 → Int32 → wI → Prop) (K23 : Int64 → Int32 → Int32 → Int32 → wI → Prop) (v3 : Int64) (v5 : Int32) (v6 : Int32) (v7 : Int32) (I : wI) : Prop :=
  (((4 : Int32) < v7) → (K14 v3 v5 (v6 + (1 : Int32)) I)) ∧ ((¬ ((4 : Int32) < v7)) → (((ok_X5_pair v5 v6 v7 I) → ((pre_X5_pair v5 v6 v7 I) ∧ (∀ r3 : Int32, ∀ I4 : wI, (post_X5_pair v5 v6 v7 I r3 I4) → ((pre_X5_mix v3 (r3).toInt64 I4) ∧ (∀ r5 : Int64, (post_X5_mix v3 (r3).toInt64 I4 r5) → (K23 r5 v5 v6 (v7 + (1 : Int32)) I4)))))) ∧ ((¬ (ok_X5_pair v5 v6 v7 I)) → ((pre_X5_pairx v5 v6 v7 I) ∧ (∀ (E : String) (u : wI), (exc_X5_pair v5 v6 v7 I E u) → X E u)))))
def v_X5_mixPairsx_23 (x1 : Int64) (X : String → wI → Prop) (K5 : Int64 → Int32 → wI → Prop) (K14 : Int64 → Int32 → Int32 → wI → Prop) : Nat → Int64 → Int32 → Int32 → Int32 → wI → Prop
  | 0 => fun _ _ _ _ _ => False
  | f + 1 => g_X5_mixPairsx_23 x1 X K5 K14 (v_X5_mixPairsx_23 x1 X K5 K14 f)
def g_X5_mixPairsx_14 (x1 : Int64) (X : String → wI → Prop) (K5 : Int64 → Int32 → wI → Prop) (K14 : Int64 → Int32 → Int32 → wI → Prop) (v3 : Int64) (v5 : Int32) (v6 : Int32) (I : wI) : Prop :=
  (((5 : Int32) ≤ v6) → (K5 v3 (v5 + (1 : Int32)) I)) ∧ ((¬ ((5 : Int32) ≤ v6)) → (∃ f : Nat, v_X5_mixPairsx_23 x1 X K5 K14 f v3 v5 v6 (0 : Int32) I))
def v_X5_mixPairsx_14 (x1 : Int64) (X : String → wI → Prop) (K5 : Int64 → Int32 → wI → Prop) : Nat → Int64 → Int32 → Int32 → wI → Prop
  | 0 => fun _ _ _ _ => False
  | f + 1 => g_X5_mixPairsx_14 x1 X K5 (v_X5_mixPairsx_14 x1 X K5 f)
def g_X5_mixPairsx_5 (x1 : Int64) (X : String → wI → Prop) (K5 : Int64 → Int32 → wI → Prop) (v3 : Int64) (v5 : Int32) (I : wI) : Prop :=
  (((5 : Int32) ≤ v5) → (False)) ∧ ((¬ ((5 : Int32) ≤ v5)) → (∃ f : Nat, v_X5_mixPairsx_14 x1 X K5 f v3 v5 (0 : Int32) I))
def v_X5_mixPairsx_5 (x1 : Int64) (X : String → wI → Prop) : Nat → Int64 → Int32 → wI → Prop
  | 0 => fun _ _ _ => False
  | f + 1 => g_X5_mixPairsx_5 x1 X (v_X5_mixPairsx_5 x1 X f)
def v_X5_mixPairsx (x1 : Int64) (I : wI) (X : String → wI → Prop) : Prop :=
  ∃ f : Nat, v_X5_mixPairsx_5 x1 X  f x1 (0 : Int32) I
theorem vc_X5_mixPairsx (x1 : Int64)  (I : wI) (hp : pre_X5_mixPairsx x1 I) : v_X5_mixPairsx x1 I (exc_X5_mixPairs x1 I) := sorry
def v_X5_doubleBits_50 (x0 : UInt64) (I : wI) (Q : Int64 → Prop) (v2 : UInt64) (v4 : Int64) : Prop :=
  vf_n64 (FP.dsub v2 FP.dconst1) ∧ (vf_n64 (FP.dmul (FP.dsub v2 FP.dconst1) (4841369599423283200 : UInt64)) ∧ (Q ((v4 <<< (((52 : Int32)).toInt64 &&& 63)) ||| (FP.d2l (FP.dmul (FP.dsub v2 FP.dconst1) (4841369599423283200 : UInt64))))))
def g_X5_doubleBits_18 (x0 : UInt64) (I : wI) (Q : Int64 → Prop) (K18 : UInt64 → Int64 → Int32 → Prop) (v2 : UInt64) (v4 : Int64) (v6 : Int32) : Prop :=
  (((2000 : Int32) ≤ v6) → (v_X5_doubleBits_50 x0 I Q  v2 v4)) ∧ ((¬ ((2000 : Int32) ≤ v6)) → (((0 ≤ (Op.cmpValue (FP.dcmp v2 FP.dconst1) CmpOp.g)) → (v_X5_doubleBits_50 x0 I Q  v2 v4)) ∧ ((¬ (0 ≤ (Op.cmpValue (FP.dcmp v2 FP.dconst1) CmpOp.g))) → (vf_n64 (FP.dmul v2 (4611686018427387904 : UInt64)) ∧ (K18 (FP.dmul v2 (4611686018427387904 : UInt64)) (v4 - (1 : Int64)) (v6 + (1 : Int32)))))))
def v_X5_doubleBits_18 (x0 : UInt64) (I : wI) (Q : Int64 → Prop) : Nat → UInt64 → Int64 → Int32 → Prop
  | 0 => fun _ _ _ => False
  | f + 1 => g_X5_doubleBits_18 x0 I Q (v_X5_doubleBits_18 x0 I Q f)
def v_X5_doubleBits (x0 : UInt64) (I : wI) (Q : Int64 → Prop) : Prop :=
  ((0 < (Op.cmpValue (FP.dcmp x0 FP.dconst0) CmpOp.l)) → (∃ f : Nat, v_X5_doubleBits_18 x0 I Q  f x0 (1023 : Int64) (0 : Int32))) ∧ ((¬ (0 < (Op.cmpValue (FP.dcmp x0 FP.dconst0) CmpOp.l))) → (Q (0 : Int64)))
theorem vc_X5_doubleBits (x0 : UInt64)  (I : wI) (hp : pre_X5_doubleBits x0 I) : v_X5_doubleBits x0 I (post_X5_doubleBits x0 I) := sorry
def v_X5_floatBits_69 (x0 : UInt32) (I : wI) (Q : Int32 → Prop) (v1 : UInt32) (v2 : Int32) : Prop :=
  vf_n32 (FP.fsub v1 FP.fconst1) ∧ (vf_n32 (FP.fmul (FP.fsub v1 FP.fconst1) (1258291200 : UInt32)) ∧ (Q ((v2 <<< ((23 : Int32) &&& 31)) ||| (FP.f2i (FP.fmul (FP.fsub v1 FP.fconst1) (1258291200 : UInt32))))))
def g_X5_floatBits_43 (x0 : UInt32) (I : wI) (Q : Int32 → Prop) (K43 : UInt32 → Int32 → Int32 → Prop) (v1 : UInt32) (v2 : Int32) (v3 : Int32) : Prop :=
  (((2000 : Int32) ≤ v3) → (v_X5_floatBits_69 x0 I Q  v1 v2)) ∧ ((¬ ((2000 : Int32) ≤ v3)) → ((((Op.cmpValue (FP.fcmp v1 FP.fconst2) CmpOp.l) < 0) → (v_X5_floatBits_69 x0 I Q  v1 v2)) ∧ ((¬ ((Op.cmpValue (FP.fcmp v1 FP.fconst2) CmpOp.l) < 0)) → (vf_n32 (FP.fdiv v1 FP.fconst2) ∧ (K43 (FP.fdiv v1 FP.fconst2) (v2 + (1 : Int32)) (v3 + (1 : Int32)))))))
def v_X5_floatBits_43 (x0 : UInt32) (I : wI) (Q : Int32 → Prop) : Nat → UInt32 → Int32 → Int32 → Prop
  | 0 => fun _ _ _ => False
  | f + 1 => g_X5_floatBits_43 x0 I Q (v_X5_floatBits_43 x0 I Q f)
def v_X5_floatBits_41 (x0 : UInt32) (I : wI) (Q : Int32 → Prop) (v1 : UInt32) (v2 : Int32) : Prop :=
  ∃ f : Nat, v_X5_floatBits_43 x0 I Q  f v1 v2 (0 : Int32)
def g_X5_floatBits_15 (x0 : UInt32) (I : wI) (Q : Int32 → Prop) (K15 : UInt32 → Int32 → Int32 → Prop) (v1 : UInt32) (v2 : Int32) (v3 : Int32) : Prop :=
  (((2000 : Int32) ≤ v3) → (v_X5_floatBits_41 x0 I Q  v1 v2)) ∧ ((¬ ((2000 : Int32) ≤ v3)) → (((0 ≤ (Op.cmpValue (FP.fcmp v1 FP.fconst1) CmpOp.g)) → (v_X5_floatBits_41 x0 I Q  v1 v2)) ∧ ((¬ (0 ≤ (Op.cmpValue (FP.fcmp v1 FP.fconst1) CmpOp.g))) → (vf_n32 (FP.fmul v1 FP.fconst2) ∧ (K15 (FP.fmul v1 FP.fconst2) (v2 + (-1 : Int32)) (v3 + (1 : Int32)))))))
def v_X5_floatBits_15 (x0 : UInt32) (I : wI) (Q : Int32 → Prop) : Nat → UInt32 → Int32 → Int32 → Prop
  | 0 => fun _ _ _ => False
  | f + 1 => g_X5_floatBits_15 x0 I Q (v_X5_floatBits_15 x0 I Q f)
def v_X5_floatBits (x0 : UInt32) (I : wI) (Q : Int32 → Prop) : Prop :=
  ((0 < (Op.cmpValue (FP.fcmp x0 FP.fconst0) CmpOp.l)) → (∃ f : Nat, v_X5_floatBits_15 x0 I Q  f x0 (127 : Int32) (0 : Int32))) ∧ ((¬ (0 < (Op.cmpValue (FP.fcmp x0 FP.fconst0) CmpOp.l))) → (Q (0 : Int32)))
theorem vc_X5_floatBits (x0 : UInt32)  (I : wI) (hp : pre_X5_floatBits x0 I) : v_X5_floatBits x0 I (post_X5_floatBits x0 I) := sorry
def v_X5_mixBuffer_56 (x1 : Int64) (I : wI) (Q : Int64 → Prop) (v3 : Int64) : Prop :=
  Q v3
def g_X5_mixBuffer_16 (x1 : Int64) (I : wI) (Q : Int64 → Prop) (K16 : Int64 → Int32 → Prop) (v3 : Int64) (v5 : Int32) : Prop :=
  (((I 24 1) ≤ v5) → (v_X5_mixBuffer_56 x1 I Q  v3)) ∧ ((¬ ((I 24 1) ≤ v5)) → ((((60 : Int32) ≤ v5) → (v_X5_mixBuffer_56 x1 I Q  v3)) ∧ ((¬ ((60 : Int32) ≤ v5)) → ((pre_X4_signAt 24 v5 I) ∧ (∀ r1 : Int32, (post_X4_signAt 24 v5 I r1) → ((pre_X5_mix v3 (r1).toInt64 I) ∧ (∀ r2 : Int64, (post_X5_mix v3 (r1).toInt64 I r2) → (K16 r2 (v5 + (1 : Int32))))))))))
def v_X5_mixBuffer_16 (x1 : Int64) (I : wI) (Q : Int64 → Prop) : Nat → Int64 → Int32 → Prop
  | 0 => fun _ _ => False
  | f + 1 => g_X5_mixBuffer_16 x1 I Q (v_X5_mixBuffer_16 x1 I Q f)
def v_X5_mixBuffer (x1 : Int64) (I : wI) (Q : Int64 → Prop) : Prop :=
  (pre_X5_mix x1 ((I 24 1)).toInt64 I) ∧ (∀ r1 : Int64, (post_X5_mix x1 ((I 24 1)).toInt64 I r1) → (∃ f : Nat, v_X5_mixBuffer_16 x1 I Q  f r1 (0 : Int32)))
theorem vc_X5_mixBuffer (x1 : Int64)  (I : wI) (hp : pre_X5_mixBuffer x1 I) : v_X5_mixBuffer x1 I (post_X5_mixBuffer x1 I) := sorry
def v_X5_digest_117  (Q : Int64 → wI → Prop) (t0 : Int64) (t1 : Int64) (I : wI) : Prop :=
  (pre_X5_mix t1 t0 I) ∧ (∀ r1 : Int64, (post_X5_mix t1 t0 I r1) → ((pre_X5_mixBuffer r1 I) ∧ (∀ r2 : Int64, (post_X5_mixBuffer r1 I r2) → (Q r2 I))))
def g_X5_digest_6  (Q : Int64 → wI → Prop) (K6 : Int64 → Int32 → wI → Prop) (v1 : Int64) (v3 : Int32) (I : wI) : Prop :=
  (((9 : Int32) < v3) → ((pre_X5_mixPositions v1 I) ∧ (∀ r1 : Int64, (post_X5_mixPositions v1 I r1) → ((pre_X5_mixKeys r1 I) ∧ (∀ r2 : Int64, ∀ I3 : wI, (post_X5_mixKeys r1 I r2 I3) → ((pre_X5_mixPairs r2 I3) ∧ (∀ r4 : Int64, ∀ I5 : wI, (post_X5_mixPairs r2 I3 r4 I5) → ((pre_X5_openIn (0 : Int32) I5) ∧ (∀ r6 : Int32, ∀ I7 : wI, (post_X5_openIn (0 : Int32) I5 r6 I7) → ((pre_X5_mix r4 (r6).toInt64 I7) ∧ (∀ r8 : Int64, (post_X5_mix r4 (r6).toInt64 I7 r8) → ((pre_X5_openIn (1 : Int32) I7) ∧ (∀ r9 : Int32, ∀ I10 : wI, (post_X5_openIn (1 : Int32) I7 r9 I10) → ((pre_X5_mix r8 (r9).toInt64 I10) ∧ (∀ r11 : Int64, (post_X5_mix r8 (r9).toInt64 I10 r11) → ((pre_X5_closest  I10) ∧ (∀ r12 : Int32, ∀ I13 : wI, (post_X5_closest  I10 r12 I13) → ((pre_X5_mix r11 (r12).toInt64 I13) ∧ (∀ r14 : Int64, (post_X5_mix r11 (r12).toInt64 I13 r14) → ((pre_X5_openShare  I13) ∧ (∀ r15 : UInt64, (post_X5_openShare  I13 r15) → ((pre_X5_doubleBits r15 I13) ∧ (∀ r16 : Int64, (post_X5_doubleBits r15 I13 r16) → ((pre_X5_mix r14 r16 I13) ∧ (∀ r17 : Int64, (post_X5_mix r14 r16 I13 r17) → ((pre_X5_meanNotch  I13) ∧ (∀ r18 : UInt32, (post_X5_meanNotch  I13 r18) → ((pre_X5_floatBits r18 I13) ∧ (∀ r19 : Int32, (post_X5_floatBits r18 I13 r19) → ((pre_X5_mix r17 (r19).toInt64 I13) ∧ (∀ r20 : Int64, (post_X5_mix r17 (r19).toInt64 I13 r20) → ((((I13 0 2) = 0) → (v_X5_digest_117  Q  (0 : Int64) r20 I13)) ∧ ((¬ ((I13 0 2) = 0)) → (v_X5_digest_117  Q  (1 : Int64) r20 I13)))))))))))))))))))))))))))))))))) ∧ ((¬ ((9 : Int32) < v3)) → ((pre_X5_count v3 I) ∧ (∀ r21 : Int32, (post_X5_count v3 I r21) → ((pre_X5_mix v1 (r21).toInt64 I) ∧ (∀ r22 : Int64, (post_X5_mix v1 (r21).toInt64 I r22) → (K6 r22 (v3 + (1 : Int32)) I))))))
def v_X5_digest_6  (Q : Int64 → wI → Prop) : Nat → Int64 → Int32 → wI → Prop
  | 0 => fun _ _ _ => False
  | f + 1 => g_X5_digest_6 Q (v_X5_digest_6 Q f)
def v_X5_digest  (I : wI) (Q : Int64 → wI → Prop) : Prop :=
  ∃ f : Nat, v_X5_digest_6  Q  f (3769 : Int64) (0 : Int32) I
theorem vc_X5_digest   (I : wI) (hp : pre_X5_digest  I) : v_X5_digest  I (post_X5_digest  I) := sorry
def v_X5_digestx_117  (X : String → wI → Prop) (t0 : Int64) (t1 : Int64) (I : wI) : Prop :=
  (pre_X5_mix t1 t0 I) ∧ (∀ r1 : Int64, (post_X5_mix t1 t0 I r1) → ((pre_X5_mixBuffer r1 I) ∧ (∀ r2 : Int64, (post_X5_mixBuffer r1 I r2) → (False))))
def g_X5_digestx_6  (X : String → wI → Prop) (K6 : Int64 → Int32 → wI → Prop) (v1 : Int64) (v3 : Int32) (I : wI) : Prop :=
  (((9 : Int32) < v3) → (((ok_X5_mixPositions v1 I) → ((pre_X5_mixPositions v1 I) ∧ (∀ r2 : Int64, (post_X5_mixPositions v1 I r2) → (((ok_X5_mixKeys r2 I) → ((pre_X5_mixKeys r2 I) ∧ (∀ r5 : Int64, ∀ I6 : wI, (post_X5_mixKeys r2 I r5 I6) → (((ok_X5_mixPairs r5 I6) → ((pre_X5_mixPairs r5 I6) ∧ (∀ r9 : Int64, ∀ I10 : wI, (post_X5_mixPairs r5 I6 r9 I10) → (((ok_X5_openIn (0 : Int32) I10) → ((pre_X5_openIn (0 : Int32) I10) ∧ (∀ r13 : Int32, ∀ I14 : wI, (post_X5_openIn (0 : Int32) I10 r13 I14) → ((pre_X5_mix r9 (r13).toInt64 I14) ∧ (∀ r15 : Int64, (post_X5_mix r9 (r13).toInt64 I14 r15) → (((ok_X5_openIn (1 : Int32) I14) → ((pre_X5_openIn (1 : Int32) I14) ∧ (∀ r18 : Int32, ∀ I19 : wI, (post_X5_openIn (1 : Int32) I14 r18 I19) → ((pre_X5_mix r15 (r18).toInt64 I19) ∧ (∀ r20 : Int64, (post_X5_mix r15 (r18).toInt64 I19 r20) → ((pre_X5_closest  I19) ∧ (∀ r21 : Int32, ∀ I22 : wI, (post_X5_closest  I19 r21 I22) → ((pre_X5_mix r20 (r21).toInt64 I22) ∧ (∀ r23 : Int64, (post_X5_mix r20 (r21).toInt64 I22 r23) → ((pre_X5_openShare  I22) ∧ (∀ r24 : UInt64, (post_X5_openShare  I22 r24) → ((pre_X5_doubleBits r24 I22) ∧ (∀ r25 : Int64, (post_X5_doubleBits r24 I22 r25) → ((pre_X5_mix r23 r25 I22) ∧ (∀ r26 : Int64, (post_X5_mix r23 r25 I22 r26) → ((pre_X5_meanNotch  I22) ∧ (∀ r27 : UInt32, (post_X5_meanNotch  I22 r27) → ((pre_X5_floatBits r27 I22) ∧ (∀ r28 : Int32, (post_X5_floatBits r27 I22 r28) → ((pre_X5_mix r26 (r28).toInt64 I22) ∧ (∀ r29 : Int64, (post_X5_mix r26 (r28).toInt64 I22 r29) → ((((I22 0 2) = 0) → (v_X5_digestx_117  X  (0 : Int64) r29 I22)) ∧ ((¬ ((I22 0 2) = 0)) → (v_X5_digestx_117  X  (1 : Int64) r29 I22)))))))))))))))))))))))) ∧ ((¬ (ok_X5_openIn (1 : Int32) I14)) → ((pre_X5_openInx (1 : Int32) I14) ∧ (∀ (E : String) (u : wI), (exc_X5_openIn (1 : Int32) I14 E u) → X E u))))))))) ∧ ((¬ (ok_X5_openIn (0 : Int32) I10)) → ((pre_X5_openInx (0 : Int32) I10) ∧ (∀ (E : String) (u : wI), (exc_X5_openIn (0 : Int32) I10 E u) → X E u))))))) ∧ ((¬ (ok_X5_mixPairs r5 I6)) → ((pre_X5_mixPairsx r5 I6) ∧ (∀ (E : String) (u : wI), (exc_X5_mixPairs r5 I6 E u) → X E u))))))) ∧ ((¬ (ok_X5_mixKeys r2 I)) → ((pre_X5_mixKeysx r2 I) ∧ (∀ (E : String) (u : wI), (exc_X5_mixKeys r2 I E u) → X E u))))))) ∧ ((¬ (ok_X5_mixPositions v1 I)) → ((pre_X5_mixPositionsx v1 I) ∧ (∀ E : String, (exc_X5_mixPositions v1 I E) → X E I))))) ∧ ((¬ ((9 : Int32) < v3)) → (((ok_X5_count v3 I) → ((pre_X5_count v3 I) ∧ (∀ r31 : Int32, (post_X5_count v3 I r31) → ((pre_X5_mix v1 (r31).toInt64 I) ∧ (∀ r32 : Int64, (post_X5_mix v1 (r31).toInt64 I r32) → (K6 r32 (v3 + (1 : Int32)) I)))))) ∧ ((¬ (ok_X5_count v3 I)) → ((pre_X5_countx v3 I) ∧ (∀ E : String, (exc_X5_count v3 I E) → X E I)))))
def v_X5_digestx_6  (X : String → wI → Prop) : Nat → Int64 → Int32 → wI → Prop
  | 0 => fun _ _ _ => False
  | f + 1 => g_X5_digestx_6 X (v_X5_digestx_6 X f)
def v_X5_digestx  (I : wI) (X : String → wI → Prop) : Prop :=
  ∃ f : Nat, v_X5_digestx_6  X  f (3769 : Int64) (0 : Int32) I
theorem vc_X5_digestx   (I : wI) (hp : pre_X5_digestx  I) : v_X5_digestx  I (exc_X5_digest  I) := sorry
def v_X6_thrown  (I : wI) (Q : Int32 → Prop) : Prop :=
  Q (I 111 0)
theorem vc_X6_thrown   (I : wI) (hp : pre_X6_thrown  I) : v_X6_thrown  I (post_X6_thrown  I) := sorry
def v_X6_in_15 (x0 : Int32) (x1 : Int32) (x2 : Int32) (I : wI) (Q : Int32 → Prop) (t0 : Int32) : Prop :=
  (t0 = 0 ∨ t0 = 1) ∧ Q t0
def v_X6_in_14 (x0 : Int32) (x1 : Int32) (x2 : Int32) (I : wI) (Q : Int32 → Prop)  : Prop :=
  v_X6_in_15 x0 x1 x2 I Q  (0 : Int32)
def v_X6_in (x0 : Int32) (x1 : Int32) (x2 : Int32) (I : wI) (Q : Int32 → Prop) : Prop :=
  ((x0 < x1) → (v_X6_in_14 x0 x1 x2 I Q  )) ∧ ((¬ (x0 < x1)) → (((x2 < x0) → (v_X6_in_14 x0 x1 x2 I Q  )) ∧ ((¬ (x2 < x0)) → (v_X6_in_15 x0 x1 x2 I Q  (1 : Int32)))))
theorem vc_X6_in (x0 : Int32) (x1 : Int32) (x2 : Int32)  (I : wI) (hp : pre_X6_in x0 x1 x2 I) : v_X6_in x0 x1 x2 I (post_X6_in x0 x1 x2 I) := sorry
def v_X6_isKey (x0 : Int32) (I : wI) (Q : Int32 → Prop) : Prop :=
  (pre_X6_in x0 (0 : Int32) (4 : Int32) I) ∧ (∀ r1 : Int32, (post_X6_in x0 (0 : Int32) (4 : Int32) I r1) → ((r1 = 0 ∨ r1 = 1) ∧ Q r1))
theorem vc_X6_isKey (x0 : Int32)  (I : wI) (hp : pre_X6_isKey x0 I) : v_X6_isKey x0 I (post_X6_isKey x0 I) := sorry
def v_X6_isPlace (x0 : Int32) (I : wI) (Q : Int32 → Prop) : Prop :=
  (pre_X6_in x0 (0 : Int32) (5 : Int32) I) ∧ (∀ r1 : Int32, (post_X6_in x0 (0 : Int32) (5 : Int32) I r1) → ((r1 = 0 ∨ r1 = 1) ∧ Q r1))
theorem vc_X6_isPlace (x0 : Int32)  (I : wI) (hp : pre_X6_isPlace x0 I) : v_X6_isPlace x0 I (post_X6_isPlace x0 I) := sorry
def v_X6_has_22 (x1 : Int32) (x2 : Int32) (I : wI) (Q : Int32 → Prop) (t0 : Int32) : Prop :=
  (t0 = 0 ∨ t0 = 1) ∧ Q t0
def v_X6_has (x1 : Int32) (x2 : Int32) (I : wI) (Q : Int32 → Prop) : Prop :=
  vp_in ((18 : Int32) + x1) 49 ∧ (((¬ (((I 112 (((18 : Int32) + x1)).toNatClampNeg) >>> (x2 &&& 31)) &&& (1 : Int32)) = (1 : Int32)) → (v_X6_has_22 x1 x2 I Q  (0 : Int32))) ∧ (((((I 112 (((18 : Int32) + x1)).toNatClampNeg) >>> (x2 &&& 31)) &&& (1 : Int32)) = (1 : Int32)) → (v_X6_has_22 x1 x2 I Q  (1 : Int32))))
theorem vc_X6_has (x1 : Int32) (x2 : Int32)  (I : wI) (hp : pre_X6_has x1 x2 I) : v_X6_has x1 x2 I (post_X6_has x1 x2 I) := sorry
def g_X6_ones_4 (x0 : Int32) (I : wI) (Q : Int32 → Prop) (K4 : Int32 → Int32 → Prop) (v1 : Int32) (v2 : Int32) : Prop :=
  (((6 : Int32) ≤ v2) → (Q v1)) ∧ ((¬ ((6 : Int32) ≤ v2)) → (K4 (v1 + ((x0 >>> (v2 &&& 31)) &&& (1 : Int32))) (v2 + (1 : Int32))))
def v_X6_ones_4 (x0 : Int32) (I : wI) (Q : Int32 → Prop) : Nat → Int32 → Int32 → Prop
  | 0 => fun _ _ => False
  | f + 1 => g_X6_ones_4 x0 I Q (v_X6_ones_4 x0 I Q f)
def v_X6_ones (x0 : Int32) (I : wI) (Q : Int32 → Prop) : Prop :=
  ∃ f : Nat, v_X6_ones_4 x0 I Q  f (0 : Int32) (0 : Int32)
theorem vc_X6_ones (x0 : Int32)  (I : wI) (hp : pre_X6_ones x0 I) : v_X6_ones x0 I (post_X6_ones x0 I) := sorry
def g_X6_record_51  (Q : wI → Prop) (K51 : Int32 → wI → Prop) (v1 : Int32) (I : wI) : Prop :=
  (((49 : Int32) ≤ v1) → (∀ I1 : wI, I1 = wU I 111 4 ((I 111 4) + (1 : Int32)) → (Q I1))) ∧ ((¬ ((49 : Int32) ≤ v1)) → (vp_in v1 49 ∧ (vp_in (((49 : Int32) * (I 111 4)) + v1) 294 ∧ ∀ I2 : wI, I2 = wU I 114 ((((49 : Int32) * (I 111 4)) + v1)).toNatClampNeg (I 112 (v1).toNatClampNeg) → (K51 (v1 + (1 : Int32)) I2))))
def v_X6_record_51  (Q : wI → Prop) : Nat → Int32 → wI → Prop
  | 0 => fun _ _ => False
  | f + 1 => g_X6_record_51 Q (v_X6_record_51 Q f)
def v_X6_record_49  (Q : wI → Prop)  (I : wI) : Prop :=
  ∃ f : Nat, v_X6_record_51  Q  f (0 : Int32) I
def g_X6_record_11  (Q : wI → Prop) (K11 : Int32 → wI → Prop) (v1 : Int32) (I : wI) : Prop :=
  (((245 : Int32) ≤ v1) → (∀ I1 : wI, I1 = wU I 111 4 ((I 111 4) - (1 : Int32)) → (v_X6_record_49  Q   I1))) ∧ ((¬ ((245 : Int32) ≤ v1)) → (vp_in ((49 : Int32) + v1) 294 ∧ (vp_in v1 294 ∧ ∀ I2 : wI, I2 = wU I 114 (v1).toNatClampNeg (I 114 (((49 : Int32) + v1)).toNatClampNeg) → (K11 (v1 + (1 : Int32)) I2))))
def v_X6_record_11  (Q : wI → Prop) : Nat → Int32 → wI → Prop
  | 0 => fun _ _ => False
  | f + 1 => g_X6_record_11 Q (v_X6_record_11 Q f)
def v_X6_record  (I : wI) (Q : wI → Prop) : Prop :=
  ((¬ (I 111 4) = (6 : Int32)) → (v_X6_record_49  Q   I)) ∧ (((I 111 4) = (6 : Int32)) → (∃ f : Nat, v_X6_record_11  Q  f (0 : Int32) I))
theorem vc_X6_record   (I : wI) (hp : pre_X6_record  I) : v_X6_record  I (post_X6_record  I) := sorry
def g_X6_undo_37  (Q : Int32 → wI → Prop) (K37 : Int32 → wI → Prop) (v1 : Int32) (I : wI) : Prop :=
  (((49 : Int32) ≤ v1) → (Q (I 111 4) I)) ∧ ((¬ ((49 : Int32) ≤ v1)) → (vp_in (((49 : Int32) * (I 111 4)) + v1) 294 ∧ (vp_in v1 49 ∧ ∀ I1 : wI, I1 = wU I 112 (v1).toNatClampNeg (I 114 ((((49 : Int32) * (I 111 4)) + v1)).toNatClampNeg) → (K37 (v1 + (1 : Int32)) I1))))
def v_X6_undo_37  (Q : Int32 → wI → Prop) : Nat → Int32 → wI → Prop
  | 0 => fun _ _ => False
  | f + 1 => g_X6_undo_37 Q (v_X6_undo_37 Q f)
def v_X6_undo_13  (Q : Int32 → wI → Prop) (t0 : Int32) (I : wI) : Prop :=
  ∀ I1 : wI, I1 = wU I 111 0 t0 → ((((I1 111 0) ≤ 0) → (∀ I2 : wI, I2 = wU I1 111 4 ((I1 111 4) - (1 : Int32)) → (∃ f : Nat, v_X6_undo_37  Q  f (0 : Int32) I2))) ∧ ((¬ ((I1 111 0) ≤ 0)) → (Q (0 : Int32) I1)))
def v_X6_undo  (I : wI) (Q : Int32 → wI → Prop) : Prop :=
  ((¬ (I 111 4) = 0) → (v_X6_undo_13  Q  (0 : Int32) I)) ∧ (((I 111 4) = 0) → (v_X6_undo_13  Q  (1 : Int32) I))
theorem vc_X6_undo   (I : wI) (hp : pre_X6_undo  I) : v_X6_undo  I (post_X6_undo  I) := sorry
def g_X6_keep_7  (Q : Int32 → wI → Prop) (K7 : Int32 → wI → Prop) (v1 : Int32) (I : wI) : Prop :=
  (((49 : Int32) ≤ v1) → (∀ I1 : wI, I1 = wU I 111 6 (1 : Int32) → (vp_in (33 : Int32) 49 ∧ (Q (I1 112 ((33 : Int32)).toNatClampNeg) I1)))) ∧ ((¬ ((49 : Int32) ≤ v1)) → (vp_in v1 49 ∧ (vp_in v1 49 ∧ ∀ I2 : wI, I2 = wU I 115 (v1).toNatClampNeg (I 112 (v1).toNatClampNeg) → (K7 (v1 + (1 : Int32)) I2))))
def v_X6_keep_7  (Q : Int32 → wI → Prop) : Nat → Int32 → wI → Prop
  | 0 => fun _ _ => False
  | f + 1 => g_X6_keep_7 Q (v_X6_keep_7 Q f)
def v_X6_keep  (I : wI) (Q : Int32 → wI → Prop) : Prop :=
  ∀ I1 : wI, I1 = wU I 111 0 (0 : Int32) → (∃ f : Nat, v_X6_keep_7  Q  f (0 : Int32) I1)
theorem vc_X6_keep   (I : wI) (hp : pre_X6_keep  I) : v_X6_keep  I (post_X6_keep  I) := sorry
def g_X6_goBack_31  (Q : Int32 → wI → Prop) (K31 : Int32 → wI → Prop) (v1 : Int32) (I : wI) : Prop :=
  (((49 : Int32) ≤ v1) → (vp_in (33 : Int32) 49 ∧ (Q (I 112 ((33 : Int32)).toNatClampNeg) I))) ∧ ((¬ ((49 : Int32) ≤ v1)) → (vp_in v1 49 ∧ (vp_in v1 49 ∧ ∀ I1 : wI, I1 = wU I 112 (v1).toNatClampNeg (I 115 (v1).toNatClampNeg) → (K31 (v1 + (1 : Int32)) I1))))
def v_X6_goBack_31  (Q : Int32 → wI → Prop) : Nat → Int32 → wI → Prop
  | 0 => fun _ _ => False
  | f + 1 => g_X6_goBack_31 Q (v_X6_goBack_31 Q f)
def v_X6_goBack_13  (Q : Int32 → wI → Prop) (t0 : Int32) (I : wI) : Prop :=
  ∀ I1 : wI, I1 = wU I 111 0 t0 → ((((I1 111 0) ≤ 0) → ((pre_X6_record  I1) ∧ (∀ I2 : wI, (post_X6_record  I1 I2) → (∃ f : Nat, v_X6_goBack_31  Q  f (0 : Int32) I2)))) ∧ ((¬ ((I1 111 0) ≤ 0)) → (Q (0 : Int32) I1)))
def v_X6_goBack  (I : wI) (Q : Int32 → wI → Prop) : Prop :=
  (((I 111 6) = 0) → (v_X6_goBack_13  Q  (1 : Int32) I)) ∧ ((¬ ((I 111 6) = 0)) → (v_X6_goBack_13  Q  (0 : Int32) I))
theorem vc_X6_goBack   (I : wI) (hp : pre_X6_goBack  I) : v_X6_goBack  I (post_X6_goBack  I) := sorry
def g_X6_putAside_2  (Q : wI → Prop) (K2 : Int32 → wI → Prop) (v1 : Int32) (I : wI) : Prop :=
  (((49 : Int32) ≤ v1) → (Q I)) ∧ ((¬ ((49 : Int32) ≤ v1)) → (vp_in v1 49 ∧ (vp_in v1 49 ∧ ∀ I1 : wI, I1 = wU I 113 (v1).toNatClampNeg (I 112 (v1).toNatClampNeg) → (K2 (v1 + (1 : Int32)) I1))))
def v_X6_putAside_2  (Q : wI → Prop) : Nat → Int32 → wI → Prop
  | 0 => fun _ _ => False
  | f + 1 => g_X6_putAside_2 Q (v_X6_putAside_2 Q f)
def v_X6_putAside  (I : wI) (Q : wI → Prop) : Prop :=
  ∃ f : Nat, v_X6_putAside_2  Q  f (0 : Int32) I
theorem vc_X6_putAside   (I : wI) (hp : pre_X6_putAside  I) : v_X6_putAside  I (post_X6_putAside  I) := sorry
def g_X6_putBack_2  (Q : wI → Prop) (K2 : Int32 → wI → Prop) (v1 : Int32) (I : wI) : Prop :=
  (((49 : Int32) ≤ v1) → (Q I)) ∧ ((¬ ((49 : Int32) ≤ v1)) → (vp_in v1 49 ∧ (vp_in v1 49 ∧ ∀ I1 : wI, I1 = wU I 112 (v1).toNatClampNeg (I 113 (v1).toNatClampNeg) → (K2 (v1 + (1 : Int32)) I1))))
def v_X6_putBack_2  (Q : wI → Prop) : Nat → Int32 → wI → Prop
  | 0 => fun _ _ => False
  | f + 1 => g_X6_putBack_2 Q (v_X6_putBack_2 Q f)
def v_X6_putBack  (I : wI) (Q : wI → Prop) : Prop :=
  ∃ f : Nat, v_X6_putBack_2  Q  f (0 : Int32) I
theorem vc_X6_putBack   (I : wI) (hp : pre_X6_putBack  I) : v_X6_putBack  I (post_X6_putBack  I) := sorry
def g_X6_toFirst_2  (Q : wI → Prop) (K2 : Int32 → wI → Prop) (v1 : Int32) (I : wI) : Prop :=
  (((6 : Int32) ≤ v1) → (Q I)) ∧ ((¬ ((6 : Int32) ≤ v1)) → (vp_in ((0 : Int32) + v1) 49 ∧ ∀ I1 : wI, I1 = wU I 112 (((0 : Int32) + v1)).toNatClampNeg v1 → (vp_in ((6 : Int32) + v1) 49 ∧ ∀ I2 : wI, I2 = wU I1 112 (((6 : Int32) + v1)).toNatClampNeg (0 : Int32) → (K2 (v1 + (1 : Int32)) I2))))
def v_X6_toFirst_2  (Q : wI → Prop) : Nat → Int32 → wI → Prop
  | 0 => fun _ _ => False
  | f + 1 => g_X6_toFirst_2 Q (v_X6_toFirst_2 Q f)
def v_X6_toFirst  (I : wI) (Q : wI → Prop) : Prop :=
  ∃ f : Nat, v_X6_toFirst_2  Q  f (0 : Int32) I
theorem vc_X6_toFirst   (I : wI) (hp : pre_X6_toFirst  I) : v_X6_toFirst  I (post_X6_toFirst  I) := sorry
def g_X6_next_7 (x1 : Int32) (x2 : Int32) (I : wI) (Q : Int32 → Prop) (K7 : Int32 → Prop) (v3 : Int32) : Prop :=
  (pre_X6_has x1 v3 I) ∧ (∀ r1 : Int32, (post_X6_has x1 v3 I r1) → (((¬ r1 = 0) → (Q v3)) ∧ ((r1 = 0) → (K7 ((v3 + (1 : Int32)) - (v3 + (1 : Int32)) / (6 : Int32) * (6 : Int32))))))
def v_X6_next_7 (x1 : Int32) (x2 : Int32) (I : wI) (Q : Int32 → Prop) : Nat → Int32 → Prop
  | 0 => fun _ => False
  | f + 1 => g_X6_next_7 x1 x2 I Q (v_X6_next_7 x1 x2 I Q f)
def v_X6_next (x1 : Int32) (x2 : Int32) (I : wI) (Q : Int32 → Prop) : Prop :=
  ∃ f : Nat, v_X6_next_7 x1 x2 I Q  f ((x2 + (1 : Int32)) - (x2 + (1 : Int32)) / (6 : Int32) * (6 : Int32))
theorem vc_X6_next (x1 : Int32) (x2 : Int32)  (I : wI) (hp : pre_X6_next x1 x2 I) : v_X6_next x1 x2 I (post_X6_next x1 x2 I) := sorry
def v_X6_doTurn_154 (x1 : Int32) (Q : wI → Prop) (K32 : Int32 → Int32 → wI → Prop) (v2 : Int32) (v3 : Int32) (I : wI) : Prop :=
  K32 v2 (v3 + (1 : Int32)) I
def v_X6_doTurn_109 (x1 : Int32) (Q : wI → Prop) (K32 : Int32 → Int32 → wI → Prop) (v2 : Int32) (v3 : Int32) (v5 : Int32) (v6 : Int32) (t0 : Int32) (I : wI) : Prop :=
  vp_in ((0 : Int32) + v5) 12 ∧ (vp_in ((0 : Int32) + v6) 49 ∧ ∀ I1 : wI, I1 = wU I 112 (((0 : Int32) + v6)).toNatClampNeg (I 117 (((0 : Int32) + v5)).toNatClampNeg) → (vp_in ((6 : Int32) + v5) 12 ∧ (vp_in ((6 : Int32) + v6) 49 ∧ ∀ I2 : wI, I2 = wU I1 112 (((6 : Int32) + v6)).toNatClampNeg (((I1 117 (((6 : Int32) + v5)).toNatClampNeg) + t0) - ((I1 117 (((6 : Int32) + v5)).toNatClampNeg) + t0) / (5 : Int32) * (5 : Int32)) → (v_X6_doTurn_154 x1 Q K32 v2 v3 I2))))
def v_X6_doTurn_79 (x1 : Int32) (Q : wI → Prop) (K32 : Int32 → Int32 → wI → Prop) (v2 : Int32) (v3 : Int32) (v5 : Int32) (t0 : Int32) (I : wI) : Prop :=
  (((5 : Int32) ≤ x1) → (vp_in ((23 : Int32) + v2) 49 ∧ (v_X6_doTurn_109 x1 Q K32 v2 v3 v5 t0 ((5 : Int32) - (I 112 (((23 : Int32) + v2)).toNatClampNeg)) I))) ∧ ((¬ ((5 : Int32) ≤ x1)) → (vp_in ((23 : Int32) + v2) 49 ∧ (v_X6_doTurn_109 x1 Q K32 v2 v3 v5 t0 (I 112 (((23 : Int32) + v2)).toNatClampNeg) I)))
def v_X6_doTurn_66 (x1 : Int32) (Q : wI → Prop) (K32 : Int32 → Int32 → wI → Prop) (v2 : Int32) (v3 : Int32) (v4 : Int32) (t0 : Int32) (I : wI) : Prop :=
  (((5 : Int32) ≤ x1) → (v_X6_doTurn_79 x1 Q K32 v2 v3 t0 v3 I)) ∧ ((¬ ((5 : Int32) ≤ x1)) → (v_X6_doTurn_79 x1 Q K32 v2 v3 t0 v4 I))
def g_X6_doTurn_32 (x1 : Int32) (Q : wI → Prop) (K32 : Int32 → Int32 → wI → Prop) (v2 : Int32) (v3 : Int32) (I : wI) : Prop :=
  (((6 : Int32) ≤ v3) → (Q I)) ∧ ((¬ ((6 : Int32) ≤ v3)) → ((pre_X6_has v2 v3 I) ∧ (∀ r1 : Int32, (post_X6_has v2 v3 I r1) → (((r1 = 0) → (v_X6_doTurn_154 x1 Q K32 v2 v3 I)) ∧ ((¬ (r1 = 0)) → ((pre_X6_next v2 v3 I) ∧ (∀ r2 : Int32, (post_X6_next v2 v3 I r2) → ((((5 : Int32) ≤ x1) → (v_X6_doTurn_66 x1 Q K32 v2 v3 r2 r2 I)) ∧ ((¬ ((5 : Int32) ≤ x1)) → (v_X6_doTurn_66 x1 Q K32 v2 v3 r2 v3 I))))))))))
def v_X6_doTurn_32 (x1 : Int32) (Q : wI → Prop) : Nat → Int32 → Int32 → wI → Prop
  | 0 => fun _ _ _ => False
  | f + 1 => g_X6_doTurn_32 x1 Q (v_X6_doTurn_32 x1 Q f)
def g_X6_doTurn_6 (x1 : Int32) (Q : wI → Prop) (K6 : Int32 → Int32 → wI → Prop) (v2 : Int32) (v3 : Int32) (I : wI) : Prop :=
  (((12 : Int32) ≤ v3) → (∃ f : Nat, v_X6_doTurn_32 x1 Q  f v2 (0 : Int32) I)) ∧ ((¬ ((12 : Int32) ≤ v3)) → (vp_in v3 49 ∧ (vp_in v3 12 ∧ ∀ I1 : wI, I1 = wU I 117 (v3).toNatClampNeg (I 112 (v3).toNatClampNeg) → (K6 v2 (v3 + (1 : Int32)) I1))))
def v_X6_doTurn_6 (x1 : Int32) (Q : wI → Prop) : Nat → Int32 → Int32 → wI → Prop
  | 0 => fun _ _ _ => False
  | f + 1 => g_X6_doTurn_6 x1 Q (v_X6_doTurn_6 x1 Q f)
def v_X6_doTurn (x1 : Int32) (I : wI) (Q : wI → Prop) : Prop :=
  ∃ f : Nat, v_X6_doTurn_6 x1 Q  f (x1 - x1 / (5 : Int32) * (5 : Int32)) (0 : Int32) I
theorem vc_X6_doTurn (x1 : Int32)  (I : wI) (hp : pre_X6_doTurn x1 I) : v_X6_doTurn x1 I (post_X6_doTurn x1 I) := sorry
def v_X6_isStuck_41 (x1 : Int32) (I : wI) (Q : Int32 → Prop) (K4 : Int32 → Int32 → Prop) (v3 : Int32) (t0 : Int32) : Prop :=
  K4 t0 (v3 + (1 : Int32))
def v_X6_isStuck_40 (x1 : Int32) (I : wI) (Q : Int32 → Prop) (K4 : Int32 → Int32 → Prop) (v3 : Int32) : Prop :=
  v_X6_isStuck_41 x1 I Q K4 v3 (0 : Int32)
def v_X6_isStuck_36 (x1 : Int32) (I : wI) (Q : Int32 → Prop) (K4 : Int32 → Int32 → Prop) (v3 : Int32) : Prop :=
  v_X6_isStuck_41 x1 I Q K4 v3 (1 : Int32)
def g_X6_isStuck_4 (x1 : Int32) (I : wI) (Q : Int32 → Prop) (K4 : Int32 → Int32 → Prop) (v2 : Int32) (v3 : Int32) : Prop :=
  (((6 : Int32) ≤ v3) → ((v2 = 0 ∨ v2 = 1) ∧ Q v2)) ∧ ((¬ ((6 : Int32) ≤ v3)) → (((¬ v2 = 0) → (v_X6_isStuck_36 x1 I Q K4 v3)) ∧ ((v2 = 0) → ((pre_X6_has x1 v3 I) ∧ (∀ r1 : Int32, (post_X6_has x1 v3 I r1) → (((r1 = 0) → (v_X6_isStuck_40 x1 I Q K4 v3)) ∧ ((¬ (r1 = 0)) → (vp_in ((12 : Int32) + v3) 49 ∧ (((¬ (I 112 (((12 : Int32) + v3)).toNatClampNeg) = (1 : Int32)) → (v_X6_isStuck_40 x1 I Q K4 v3)) ∧ (((I 112 (((12 : Int32) + v3)).toNatClampNeg) = (1 : Int32)) → (v_X6_isStuck_36 x1 I Q K4 v3)))))))))))
def v_X6_isStuck_4 (x1 : Int32) (I : wI) (Q : Int32 → Prop) : Nat → Int32 → Int32 → Prop
  | 0 => fun _ _ => False
  | f + 1 => g_X6_isStuck_4 x1 I Q (v_X6_isStuck_4 x1 I Q f)
def v_X6_isStuck (x1 : Int32) (I : wI) (Q : Int32 → Prop) : Prop :=
  ∃ f : Nat, v_X6_isStuck_4 x1 I Q  f (0 : Int32) (0 : Int32)
theorem vc_X6_isStuck (x1 : Int32)  (I : wI) (hp : pre_X6_isStuck x1 I) : v_X6_isStuck x1 I (post_X6_isStuck x1 I) := sorry
def v_X6_isRight_57 (x1 : Int32) (I : wI) (Q : Int32 → Prop) (t0 : Int32) : Prop :=
  (t0 = 0 ∨ t0 = 1) ∧ Q t0
def v_X6_isRight_56 (x1 : Int32) (I : wI) (Q : Int32 → Prop)  : Prop :=
  v_X6_isRight_57 x1 I Q  (0 : Int32)
def v_X6_isRight (x1 : Int32) (I : wI) (Q : Int32 → Prop) : Prop :=
  vp_in (36 : Int32) 49 ∧ (((¬ (I 112 ((36 : Int32)).toNatClampNeg) = (1 : Int32)) → (v_X6_isRight_56 x1 I Q  )) ∧ (((I 112 ((36 : Int32)).toNatClampNeg) = (1 : Int32)) → (vp_in ((0 : Int32) + x1) 49 ∧ (vp_in ((37 : Int32) + x1) 49 ∧ (((¬ (I 112 (((0 : Int32) + x1)).toNatClampNeg) = (I 112 (((37 : Int32) + x1)).toNatClampNeg)) → (v_X6_isRight_56 x1 I Q  )) ∧ (((I 112 (((0 : Int32) + x1)).toNatClampNeg) = (I 112 (((37 : Int32) + x1)).toNatClampNeg)) → (vp_in ((6 : Int32) + x1) 49 ∧ (vp_in ((43 : Int32) + x1) 49 ∧ (((¬ (I 112 (((6 : Int32) + x1)).toNatClampNeg) = (I 112 (((43 : Int32) + x1)).toNatClampNeg)) → (v_X6_isRight_56 x1 I Q  )) ∧ (((I 112 (((6 : Int32) + x1)).toNatClampNeg) = (I 112 (((43 : Int32) + x1)).toNatClampNeg)) → (v_X6_isRight_57 x1 I Q  (1 : Int32))))))))))))
theorem vc_X6_isRight (x1 : Int32)  (I : wI) (hp : pre_X6_isRight x1 I) : v_X6_isRight x1 I (post_X6_isRight x1 I) := sorry
def v_X6_right_24  (I : wI) (Q : Int32 → Prop) (K4 : Int32 → Int32 → Prop) (v2 : Int32) (t0 : Int32) (t1 : Int32) : Prop :=
  K4 (t1 + t0) (v2 + (1 : Int32))
def g_X6_right_4  (I : wI) (Q : Int32 → Prop) (K4 : Int32 → Int32 → Prop) (v1 : Int32) (v2 : Int32) : Prop :=
  (((6 : Int32) ≤ v2) → (Q v1)) ∧ ((¬ ((6 : Int32) ≤ v2)) → ((pre_X6_isRight v2 I) ∧ (∀ r1 : Int32, (post_X6_isRight v2 I r1) → (((r1 = 0) → (v_X6_right_24  I Q K4 v2 (0 : Int32) v1)) ∧ ((¬ (r1 = 0)) → (v_X6_right_24  I Q K4 v2 (1 : Int32) v1))))))
def v_X6_right_4  (I : wI) (Q : Int32 → Prop) : Nat → Int32 → Int32 → Prop
  | 0 => fun _ _ => False
  | f + 1 => g_X6_right_4 I Q (v_X6_right_4 I Q f)
def v_X6_right  (I : wI) (Q : Int32 → Prop) : Prop :=
  ∃ f : Nat, v_X6_right_4  I Q  f (0 : Int32) (0 : Int32)
theorem vc_X6_right   (I : wI) (hp : pre_X6_right  I) : v_X6_right  I (post_X6_right  I) := sorry
def v_X6_opens_14  (I : wI) (Q : Int32 → Prop) (t0 : Int32) : Prop :=
  (t0 = 0 ∨ t0 = 1) ∧ Q t0
def v_X6_opens  (I : wI) (Q : Int32 → Prop) : Prop :=
  (pre_X6_right  I) ∧ (∀ r1 : Int32, (post_X6_right  I r1) → (((¬ r1 = (6 : Int32)) → (v_X6_opens_14  I Q  (0 : Int32))) ∧ ((r1 = (6 : Int32)) → (v_X6_opens_14  I Q  (1 : Int32)))))
theorem vc_X6_opens   (I : wI) (hp : pre_X6_opens  I) : v_X6_opens  I (post_X6_opens  I) := sorry
def v_X6_countTurn_117 (x1 : Int32) (Q : wI → Prop) (t0 : Int32) (t1 : Int32) (t2 : Int32) (I : wI) : Prop :=
  vp_in t2 49 ∧ ∀ I1 : wI, I1 = wU I 112 (t2).toNatClampNeg (t1 + t0) → (Q I1)
def v_X6_countTurn_116 (x1 : Int32) (Q : wI → Prop) (t0 : Int32) (t1 : Int32) (I : wI) : Prop :=
  v_X6_countTurn_117 x1 Q  (0 : Int32) t0 t1 I
def v_X6_countTurn_89 (x1 : Int32) (Q : wI → Prop) (v3 : Int32) (t0 : Int32) (t1 : Int32) (t2 : Int32) (I : wI) : Prop :=
  vp_in t2 49 ∧ ∀ I1 : wI, I1 = wU I 112 (t2).toNatClampNeg ((t1 + t0) - (t1 + t0) / (5 : Int32) * (5 : Int32)) → (vp_in (35 : Int32) 49 ∧ (((¬ v3 = 0) → (v_X6_countTurn_116 x1 Q  (I1 112 ((35 : Int32)).toNatClampNeg) (35 : Int32) I1)) ∧ ((v3 = 0) → ((pre_X6_opens  I1) ∧ (∀ r2 : Int32, (post_X6_opens  I1 r2) → (((r2 = 0) → (v_X6_countTurn_116 x1 Q  (I1 112 ((35 : Int32)).toNatClampNeg) (35 : Int32) I1)) ∧ ((¬ (r2 = 0)) → (v_X6_countTurn_117 x1 Q  (1 : Int32) (I1 112 ((35 : Int32)).toNatClampNeg) (35 : Int32) I1))))))))
def v_X6_countTurn (x1 : Int32) (I : wI) (Q : wI → Prop) : Prop :=
  (pre_X6_opens  I) ∧ (∀ r1 : Int32, (post_X6_opens  I r1) → ((pre_X6_doTurn x1 I) ∧ (∀ I2 : wI, (post_X6_doTurn x1 I I2) → (vp_in (33 : Int32) 49 ∧ (vp_in (33 : Int32) 49 ∧ ∀ I3 : wI, I3 = wU I2 112 ((33 : Int32)).toNatClampNeg ((I2 112 ((33 : Int32)).toNatClampNeg) + (1 : Int32)) → (vp_in ((28 : Int32) + (x1 - x1 / (5 : Int32) * (5 : Int32))) 49 ∧ (vp_in ((28 : Int32) + (x1 - x1 / (5 : Int32) * (5 : Int32))) 49 ∧ ∀ I4 : wI, I4 = wU I3 112 (((28 : Int32) + (x1 - x1 / (5 : Int32) * (5 : Int32)))).toNatClampNeg ((I3 112 (((28 : Int32) + (x1 - x1 / (5 : Int32) * (5 : Int32)))).toNatClampNeg) + (1 : Int32)) → (vp_in ((23 : Int32) + (x1 - x1 / (5 : Int32) * (5 : Int32))) 49 ∧ (vp_in ((18 : Int32) + (x1 - x1 / (5 : Int32) * (5 : Int32))) 49 ∧ ((pre_X6_ones (I4 112 (((18 : Int32) + (x1 - x1 / (5 : Int32) * (5 : Int32)))).toNatClampNeg) I4) ∧ (∀ r5 : Int32, (post_X6_ones (I4 112 (((18 : Int32) + (x1 - x1 / (5 : Int32) * (5 : Int32)))).toNatClampNeg) I4 r5) → (vp_in (34 : Int32) 49 ∧ ((((5 : Int32) ≤ x1) → (v_X6_countTurn_89 x1 Q  r1 ((4 : Int32) * ((I4 112 (((23 : Int32) + (x1 - x1 / (5 : Int32) * (5 : Int32)))).toNatClampNeg) * r5)) (I4 112 ((34 : Int32)).toNatClampNeg) (34 : Int32) I4)) ∧ ((¬ ((5 : Int32) ≤ x1)) → (v_X6_countTurn_89 x1 Q  r1 ((I4 112 (((23 : Int32) + (x1 - x1 / (5 : Int32) * (5 : Int32)))).toNatClampNeg) * r5) (I4 112 ((34 : Int32)).toNatClampNeg) (34 : Int32) I4)))))))))))))))
theorem vc_X6_countTurn (x1 : Int32)  (I : wI) (hp : pre_X6_countTurn x1 I) : v_X6_countTurn x1 I (post_X6_countTurn x1 I) := sorry
def v_X6_turnNow_25 (x1 : Int32) (x2 : Int32) (Q : Int32 → wI → Prop) (t0 : Int32) (I : wI) : Prop :=
  ∀ I1 : wI, I1 = wU I 111 0 t0 → ((((I1 111 0) ≤ 0) → ((pre_X6_record  I1) ∧ (∀ I2 : wI, (post_X6_record  I1 I2) → ((pre_X6_countTurn x2 I2) ∧ (∀ I3 : wI, (post_X6_countTurn x2 I2 I3) → ((pre_X6_right  I3) ∧ (∀ r4 : Int32, (post_X6_right  I3 r4) → (Q r4 I3)))))))) ∧ ((¬ ((I1 111 0) ≤ 0)) → (Q (0 : Int32) I1)))
def v_X6_turnNow (x1 : Int32) (x2 : Int32) (I : wI) (Q : Int32 → wI → Prop) : Prop :=
  (pre_X6_isKey x1 I) ∧ (∀ r1 : Int32, (post_X6_isKey x1 I r1) → (((¬ r1 = 0) → ((pre_X6_isStuck x1 I) ∧ (∀ r2 : Int32, (post_X6_isStuck x1 I r2) → (((r2 = 0) → (v_X6_turnNow_25 x1 x2 Q  (0 : Int32) I)) ∧ ((¬ (r2 = 0)) → (v_X6_turnNow_25 x1 x2 Q  (2 : Int32) I)))))) ∧ ((r1 = 0) → (v_X6_turnNow_25 x1 x2 Q  (1 : Int32) I))))
theorem vc_X6_turnNow (x1 : Int32) (x2 : Int32)  (I : wI) (hp : pre_X6_turnNow x1 x2 I) : v_X6_turnNow x1 x2 I (post_X6_turnNow x1 x2 I) := sorry
def v_X6_turn (x1 : Int32) (I : wI) (Q : Int32 → wI → Prop) : Prop :=
  (pre_X6_turnNow x1 x1 I) ∧ (∀ r1 : Int32, ∀ I2 : wI, (post_X6_turnNow x1 x1 I r1 I2) → (Q r1 I2))
theorem vc_X6_turn (x1 : Int32)  (I : wI) (hp : pre_X6_turn x1 I) : v_X6_turn x1 I (post_X6_turn x1 I) := sorry
def v_X6_back (x1 : Int32) (I : wI) (Q : Int32 → wI → Prop) : Prop :=
  (pre_X6_turnNow x1 ((5 : Int32) + x1) I) ∧ (∀ r1 : Int32, ∀ I2 : wI, (post_X6_turnNow x1 ((5 : Int32) + x1) I r1 I2) → (Q r1 I2))
theorem vc_X6_back (x1 : Int32)  (I : wI) (hp : pre_X6_back x1 I) : v_X6_back x1 I (post_X6_back x1 I) := sorry
def v_X6_takeSign_247 (x1 : Int32) (Q : Int32 → wI → Prop) (v2 : Int32) (t0 : Int32) (t1 : Int32) (I : wI) : Prop :=
  ∀ I1 : wI, I1 = wU I 111 18 (t1 - t0) → ((v2 = 0 ∨ v2 = 1) ∧ Q v2 I1)
def v_X6_takeSign_232 (x1 : Int32) (Q : Int32 → wI → Prop) (t0 : Int32) (I : wI) : Prop :=
  ((t0 = 0) → (v_X6_takeSign_247 x1 Q  t0 (0 : Int32) (I 111 18) I)) ∧ ((¬ (t0 = 0)) → (v_X6_takeSign_247 x1 Q  t0 (1 : Int32) (I 111 18) I))
def v_X6_takeSign_231 (x1 : Int32) (Q : Int32 → wI → Prop)  (I : wI) : Prop :=
  v_X6_takeSign_232 x1 Q  (0 : Int32) I
def v_X6_takeSign_227 (x1 : Int32) (Q : Int32 → wI → Prop)  (I : wI) : Prop :=
  v_X6_takeSign_232 x1 Q  (1 : Int32) I
def v_X6_takeSign_196 (x1 : Int32) (Q : Int32 → wI → Prop) (t0 : Int32) (I : wI) : Prop :=
  (t0 = 0 ∨ t0 = 1) ∧ (∀ I1 : wI, I1 = wU I 111 20 t0 → (((¬ (I1 111 20) = 0) → (v_X6_takeSign_227 x1 Q   I1)) ∧ (((I1 111 20) = 0) → (((¬ x1 = (93 : Int32)) → (v_X6_takeSign_231 x1 Q   I1)) ∧ ((x1 = (93 : Int32)) → (vp_in ((I1 111 18) - (1 : Int32)) 4 ∧ (((¬ (I1 119 (((I1 111 18) - (1 : Int32))).toNatClampNeg) = (3 : Int32)) → (v_X6_takeSign_231 x1 Q   I1)) ∧ (((I1 119 (((I1 111 18) - (1 : Int32))).toNatClampNeg) = (3 : Int32)) → (v_X6_takeSign_227 x1 Q   I1)))))))))
def v_X6_takeSign_195 (x1 : Int32) (Q : Int32 → wI → Prop)  (I : wI) : Prop :=
  v_X6_takeSign_196 x1 Q  (0 : Int32) I
def v_X6_takeSign_169 (x1 : Int32) (Q : Int32 → wI → Prop)  (I : wI) : Prop :=
  ((¬ x1 = (41 : Int32)) → (v_X6_takeSign_195 x1 Q   I)) ∧ ((x1 = (41 : Int32)) → (vp_in ((I 111 18) - (1 : Int32)) 4 ∧ (((¬ (I 119 (((I 111 18) - (1 : Int32))).toNatClampNeg) = (1 : Int32)) → (v_X6_takeSign_195 x1 Q   I)) ∧ (((I 119 (((I 111 18) - (1 : Int32))).toNatClampNeg) = (1 : Int32)) → (v_X6_takeSign_196 x1 Q  (1 : Int32) I)))))
def v_X6_takeSign_127 (x1 : Int32) (Q : Int32 → wI → Prop)  (I : wI) : Prop :=
  Q (0 : Int32) I
def v_X6_takeSign_95 (x1 : Int32) (Q : Int32 → wI → Prop) (t0 : Int32) (t1 : Int32) (I : wI) : Prop :=
  vp_in t1 4 ∧ ∀ I1 : wI, I1 = wU I 119 (t1).toNatClampNeg t0 → (∀ I2 : wI, I2 = wU I1 111 18 ((I1 111 18) + (1 : Int32)) → (∀ I3 : wI, I3 = wU I2 111 19 (0 : Int32) → (Q (1 : Int32) I3)))
def v_X6_takeSign_62 (x1 : Int32) (Q : Int32 → wI → Prop)  (I : wI) : Prop :=
  ((¬ (I 111 18) = (4 : Int32)) → (((¬ x1 = (40 : Int32)) → (v_X6_takeSign_95 x1 Q  (2 : Int32) (I 111 18) I)) ∧ ((x1 = (40 : Int32)) → (v_X6_takeSign_95 x1 Q  (1 : Int32) (I 111 18) I)))) ∧ (((I 111 18) = (4 : Int32)) → (Q (0 : Int32) I))
def v_X6_takeSign_43 (x1 : Int32) (Q : Int32 → wI → Prop)  (I : wI) : Prop :=
  ∀ I1 : wI, I1 = wU I 111 19 (1 : Int32) → (Q (1 : Int32) I1)
def v_X6_takeSign (x1 : Int32) (I : wI) (Q : Int32 → wI → Prop) : Prop :=
  (((I 111 20) = 0) → ((pre_X6_in x1 (97 : Int32) (101 : Int32) I) ∧ (∀ r1 : Int32, (post_X6_in x1 (97 : Int32) (101 : Int32) I r1) → (((¬ r1 = 0) → (v_X6_takeSign_43 x1 Q   I)) ∧ ((r1 = 0) → ((pre_X6_in x1 (65 : Int32) (69 : Int32) I) ∧ (∀ r2 : Int32, (post_X6_in x1 (65 : Int32) (69 : Int32) I r2) → (((r2 = 0) → (((x1 = (40 : Int32)) → (v_X6_takeSign_62 x1 Q   I)) ∧ ((¬ (x1 = (40 : Int32))) → (((¬ x1 = (91 : Int32)) → ((((I 111 18) = 0) → (v_X6_takeSign_127 x1 Q   I)) ∧ ((¬ ((I 111 18) = 0)) → (((¬ (I 111 19) = 0) → (((¬ x1 = (44 : Int32)) → (v_X6_takeSign_169 x1 Q   I)) ∧ ((x1 = (44 : Int32)) → (vp_in ((I 111 18) - (1 : Int32)) 4 ∧ (((¬ (I 119 (((I 111 18) - (1 : Int32))).toNatClampNeg) = (2 : Int32)) → (v_X6_takeSign_169 x1 Q   I)) ∧ (((I 119 (((I 111 18) - (1 : Int32))).toNatClampNeg) = (2 : Int32)) → (vp_in ((I 111 18) - (1 : Int32)) 4 ∧ ∀ I3 : wI, I3 = wU I 119 (((I 111 18) - (1 : Int32))).toNatClampNeg (3 : Int32) → (∀ I4 : wI, I4 = wU I3 111 19 (0 : Int32) → (Q (1 : Int32) I4))))))))) ∧ (((I 111 19) = 0) → (v_X6_takeSign_127 x1 Q   I)))))) ∧ ((x1 = (91 : Int32)) → (v_X6_takeSign_62 x1 Q   I)))))) ∧ ((¬ (r2 = 0)) → (v_X6_takeSign_43 x1 Q   I)))))))))) ∧ ((¬ ((I 111 20) = 0)) → (∀ I5 : wI, I5 = wU I 111 20 (0 : Int32) → ((pre_X6_in x1 (50 : Int32) (57 : Int32) I5) ∧ (∀ r6 : Int32, (post_X6_in x1 (50 : Int32) (57 : Int32) I5 r6) → ((r6 = 0 ∨ r6 = 1) ∧ Q r6 I5)))))
theorem vc_X6_takeSign (x1 : Int32)  (I : wI) (hp : pre_X6_takeSign x1 I) : v_X6_takeSign x1 I (post_X6_takeSign x1 I) := sorry
def v_X6_findError_44  (Q : Int32 → wI → Prop) (v1 : Int32) (I : wI) : Prop :=
  Q v1 I
def g_X6_findError_17  (Q : Int32 → wI → Prop) (K17 : Int32 → wI → Prop) (v1 : Int32) (I : wI) : Prop :=
  (((I 111 8) ≤ v1) → (v_X6_findError_44  Q  v1 I)) ∧ ((¬ ((I 111 8) ≤ v1)) → (vp_in v1 60 ∧ ((pre_X6_takeSign (I 116 (v1).toNatClampNeg) I) ∧ (∀ r1 : Int32, ∀ I2 : wI, (post_X6_takeSign (I 116 (v1).toNatClampNeg) I r1 I2) → (((r1 = 0) → (v_X6_findError_44  Q  v1 I2)) ∧ ((¬ (r1 = 0)) → (K17 (v1 + (1 : Int32)) I2)))))))
def v_X6_findError_17  (Q : Int32 → wI → Prop) : Nat → Int32 → wI → Prop
  | 0 => fun _ _ => False
  | f + 1 => g_X6_findError_17 Q (v_X6_findError_17 Q f)
def v_X6_findError  (I : wI) (Q : Int32 → wI → Prop) : Prop :=
  ∀ I1 : wI, I1 = wU I 111 18 (0 : Int32) → (∀ I2 : wI, I2 = wU I1 111 19 (0 : Int32) → (∀ I3 : wI, I3 = wU I2 111 20 (0 : Int32) → (∃ f : Nat, v_X6_findError_17  Q  f (0 : Int32) I3)))
theorem vc_X6_findError   (I : wI) (hp : pre_X6_findError  I) : v_X6_findError  I (post_X6_findError  I) := sorry
def v_X6_isWhole_37  (Q : Int32 → wI → Prop) (t0 : Int32) (I : wI) : Prop :=
  (t0 = 0 ∨ t0 = 1) ∧ Q t0 I
def v_X6_isWhole_36  (Q : Int32 → wI → Prop)  (I : wI) : Prop :=
  v_X6_isWhole_37  Q  (0 : Int32) I
def v_X6_isWhole  (I : wI) (Q : Int32 → wI → Prop) : Prop :=
  (pre_X6_findError  I) ∧ (∀ r1 : Int32, ∀ I2 : wI, (post_X6_findError  I r1 I2) → (((¬ r1 = (I2 111 8)) → (v_X6_isWhole_36  Q   I2)) ∧ ((r1 = (I2 111 8)) → (((¬ (I2 111 18) = 0) → (v_X6_isWhole_36  Q   I2)) ∧ (((I2 111 18) = 0) → ((((I2 111 19) = 0) → (v_X6_isWhole_36  Q   I2)) ∧ ((¬ ((I2 111 19) = 0)) → (((¬ (I2 111 20) = 0) → (v_X6_isWhole_36  Q   I2)) ∧ (((I2 111 20) = 0) → (v_X6_isWhole_37  Q  (1 : Int32) I2))))))))))
theorem vc_X6_isWhole   (I : wI) (hp : pre_X6_isWhole  I) : v_X6_isWhole  I (post_X6_isWhole  I) := sorry
def v_X6_addTurn_45 (x1 : Int32) (Q : wI → Prop) (t0 : Int32) (t1 : Int32) (I : wI) : Prop :=
  ∀ I1 : wI, I1 = wU I 111 12 (t1 + t0) → (Q I1)
def v_X6_addTurn_20 (x1 : Int32) (Q : wI → Prop)  (I : wI) : Prop :=
  ∀ I1 : wI, I1 = wU I 111 11 ((I 111 11) + (1 : Int32)) → ((((5 : Int32) ≤ x1) → (v_X6_addTurn_45 x1 Q  (-1 : Int32) (I1 111 12) I1)) ∧ ((¬ ((5 : Int32) ≤ x1)) → (v_X6_addTurn_45 x1 Q  (1 : Int32) (I1 111 12) I1)))
def v_X6_addTurn (x1 : Int32) (I : wI) (Q : wI → Prop) : Prop :=
  (((500 : Int32) ≤ (I 111 11)) → (v_X6_addTurn_20 x1 Q   I)) ∧ ((¬ ((500 : Int32) ≤ (I 111 11))) → (vp_in (I 111 11) 500 ∧ ∀ I1 : wI, I1 = wU I 118 ((I 111 11)).toNatClampNeg x1 → (v_X6_addTurn_20 x1 Q   I1)))
theorem vc_X6_addTurn (x1 : Int32)  (I : wI) (hp : pre_X6_addTurn x1 I) : v_X6_addTurn x1 I (post_X6_addTurn x1 I) := sorry
def v_X6_addAgain_69 (x1 : Int32) (x2 : Int32) (x3 : Int32) (Q : wI → Prop)  (I : wI) : Prop :=
  Q I
def v_X6_addAgain_60 (x1 : Int32) (x2 : Int32) (x3 : Int32) (Q : wI → Prop) (K3 : Int32 → wI → Prop) (v4 : Int32) (t0 : Int32) (I : wI) : Prop :=
  (pre_X6_addTurn t0 I) ∧ (∀ I1 : wI, (post_X6_addTurn t0 I I1) → (K3 (v4 + (1 : Int32)) I1))
def v_X6_addAgain_40 (x1 : Int32) (x2 : Int32) (x3 : Int32) (Q : wI → Prop) (K3 : Int32 → wI → Prop) (v4 : Int32) (t0 : Int32) (I : wI) : Prop :=
  vp_in t0 500 ∧ (((x3 = 0) → (v_X6_addAgain_60 x1 x2 x3 Q K3 v4 (I 118 (t0).toNatClampNeg) I)) ∧ ((¬ (x3 = 0)) → (v_X6_addAgain_60 x1 x2 x3 Q K3 v4 (((I 118 (t0).toNatClampNeg) + (5 : Int32)) - ((I 118 (t0).toNatClampNeg) + (5 : Int32)) / (10 : Int32) * (10 : Int32)) I)))
def g_X6_addAgain_3 (x1 : Int32) (x2 : Int32) (x3 : Int32) (Q : wI → Prop) (K3 : Int32 → wI → Prop) (v4 : Int32) (I : wI) : Prop :=
  ((x2 ≤ v4) → (v_X6_addAgain_69 x1 x2 x3 Q   I)) ∧ ((¬ (x2 ≤ v4)) → ((((500 : Int32) < (I 111 11)) → (v_X6_addAgain_69 x1 x2 x3 Q   I)) ∧ ((¬ ((500 : Int32) < (I 111 11))) → (((x3 = 0) → (v_X6_addAgain_40 x1 x2 x3 Q K3 v4 v4 I)) ∧ ((¬ (x3 = 0)) → (v_X6_addAgain_40 x1 x2 x3 Q K3 v4 (((x1 + x2) - (1 : Int32)) - v4) I))))))
def v_X6_addAgain_3 (x1 : Int32) (x2 : Int32) (x3 : Int32) (Q : wI → Prop) : Nat → Int32 → wI → Prop
  | 0 => fun _ _ => False
  | f + 1 => g_X6_addAgain_3 x1 x2 x3 Q (v_X6_addAgain_3 x1 x2 x3 Q f)
def v_X6_addAgain (x1 : Int32) (x2 : Int32) (x3 : Int32) (I : wI) (Q : wI → Prop) : Prop :=
  ∃ f : Nat, v_X6_addAgain_3 x1 x2 x3 Q  f x1 I
theorem vc_X6_addAgain (x1 : Int32) (x2 : Int32) (x3 : Int32)  (I : wI) (hp : pre_X6_addAgain x1 x2 x3 I) : v_X6_addAgain x1 x2 x3 I (post_X6_addAgain x1 x2 x3 I) := sorry
def v_X6_readWord_261  (Q : Int32 → wI → Prop) (K17 : Int32 → wI → Prop) (v1 : Int32) (I : wI) : Prop :=
  (((I 111 11) ≤ (500 : Int32)) → (K17 (v1 + (1 : Int32)) I)) ∧ ((¬ ((I 111 11) ≤ (500 : Int32))) → (Q (501 : Int32) I))
def v_X6_readWord_258  (Q : Int32 → wI → Prop) (K17 : Int32 → wI → Prop) (v1 : Int32) (t0 : Int32) (I : wI) : Prop :=
  (pre_X6_addTurn t0 I) ∧ (∀ I1 : wI, (post_X6_addTurn t0 I I1) → (v_X6_readWord_261  Q K17 v1 I1))
def v_X6_readWord_165  (Q : Int32 → wI → Prop) (K17 : Int32 → wI → Prop) (v1 : Int32) (I : wI) : Prop :=
  v_X6_readWord_261  Q K17 (v1 + (1 : Int32)) I
def g_X6_readWord_128  (Q : Int32 → wI → Prop) (K17 : Int32 → wI → Prop) (K128 : Int32 → Int32 → Int32 → wI → Prop) (v1 : Int32) (v3 : Int32) (v4 : Int32) (I : wI) : Prop :=
  ((v4 ≤ (1 : Int32)) → (v_X6_readWord_165  Q K17 v1 I)) ∧ ((¬ (v4 ≤ (1 : Int32))) → ((((500 : Int32) < (I 111 11)) → (v_X6_readWord_165  Q K17 v1 I)) ∧ ((¬ ((500 : Int32) < (I 111 11))) → (vp_in (I 111 18) 4 ∧ ((pre_X6_addAgain (I 120 ((I 111 18)).toNatClampNeg) v3 (0 : Int32) I) ∧ (∀ I1 : wI, (post_X6_addAgain (I 120 ((I 111 18)).toNatClampNeg) v3 (0 : Int32) I I1) → (K128 v1 v3 (v4 + (-1 : Int32)) I1)))))))
def v_X6_readWord_128  (Q : Int32 → wI → Prop) (K17 : Int32 → wI → Prop) : Nat → Int32 → Int32 → Int32 → wI → Prop
  | 0 => fun _ _ _ _ => False
  | f + 1 => g_X6_readWord_128 Q K17 (v_X6_readWord_128 Q K17 f)
def v_X6_readWord_44  (Q : Int32 → wI → Prop) (K17 : Int32 → wI → Prop) (v1 : Int32) (I : wI) : Prop :=
  vp_in (I 111 18) 4 ∧ ∀ I1 : wI, I1 = wU I 120 ((I 111 18)).toNatClampNeg (I 111 11) → (∀ I2 : wI, I2 = wU I1 111 18 ((I1 111 18) + (1 : Int32)) → (v_X6_readWord_261  Q K17 v1 I2))
def g_X6_readWord_17  (Q : Int32 → wI → Prop) (K17 : Int32 → wI → Prop) (v1 : Int32) (I : wI) : Prop :=
  (((I 111 8) ≤ v1) → (Q (I 111 11) I)) ∧ ((¬ ((I 111 8) ≤ v1)) → (vp_in v1 60 ∧ ((((I 116 (v1).toNatClampNeg) = (40 : Int32)) → (v_X6_readWord_44  Q K17 v1 I)) ∧ ((¬ ((I 116 (v1).toNatClampNeg) = (40 : Int32))) → (((¬ (I 116 (v1).toNatClampNeg) = (91 : Int32)) → (((¬ (I 116 (v1).toNatClampNeg) = (44 : Int32)) → (((¬ (I 116 (v1).toNatClampNeg) = (41 : Int32)) → (((¬ (I 116 (v1).toNatClampNeg) = (93 : Int32)) → ((pre_X6_in (I 116 (v1).toNatClampNeg) (97 : Int32) (101 : Int32) I) ∧ (∀ r1 : Int32, (post_X6_in (I 116 (v1).toNatClampNeg) (97 : Int32) (101 : Int32) I r1) → (((r1 = 0) → (v_X6_readWord_258  Q K17 v1 (((5 : Int32) + (I 116 (v1).toNatClampNeg)) - (65 : Int32)) I)) ∧ ((¬ (r1 = 0)) → (v_X6_readWord_258  Q K17 v1 ((I 116 (v1).toNatClampNeg) - (97 : Int32)) I)))))) ∧ (((I 116 (v1).toNatClampNeg) = (93 : Int32)) → (∀ I2 : wI, I2 = wU I 111 18 ((I 111 18) - (1 : Int32)) → (vp_in (I2 111 18) 4 ∧ (vp_in (I2 111 18) 4 ∧ ((pre_X6_addAgain (I2 120 ((I2 111 18)).toNatClampNeg) (I2 121 ((I2 111 18)).toNatClampNeg) (1 : Int32) I2) ∧ (∀ I3 : wI, (post_X6_addAgain (I2 120 ((I2 111 18)).toNatClampNeg) (I2 121 ((I2 111 18)).toNatClampNeg) (1 : Int32) I2 I3) → (vp_in (I3 111 18) 4 ∧ ((pre_X6_addAgain (I3 121 ((I3 111 18)).toNatClampNeg) (I2 111 11) (1 : Int32) I3) ∧ (∀ I4 : wI, (post_X6_addAgain (I3 121 ((I3 111 18)).toNatClampNeg) (I2 111 11) (1 : Int32) I3 I4) → (v_X6_readWord_261  Q K17 v1 I4)))))))))))) ∧ (((I 116 (v1).toNatClampNeg) = (41 : Int32)) → (∀ I5 : wI, I5 = wU I 111 18 ((I 111 18) - (1 : Int32)) → (vp_in (v1 + (1 : Int32)) 60 ∧ (∃ f : Nat, v_X6_readWord_128  Q K17 f v1 (I5 111 11) ((I5 116 ((v1 + (1 : Int32))).toNatClampNeg) - (48 : Int32)) I5)))))) ∧ (((I 116 (v1).toNatClampNeg) = (44 : Int32)) → (vp_in ((I 111 18) - (1 : Int32)) 4 ∧ ∀ I6 : wI, I6 = wU I 121 (((I 111 18) - (1 : Int32))).toNatClampNeg (I 111 11) → (v_X6_readWord_261  Q K17 v1 I6))))) ∧ (((I 116 (v1).toNatClampNeg) = (91 : Int32)) → (v_X6_readWord_44  Q K17 v1 I)))))))
def v_X6_readWord_17  (Q : Int32 → wI → Prop) : Nat → Int32 → wI → Prop
  | 0 => fun _ _ => False
  | f + 1 => g_X6_readWord_17 Q (v_X6_readWord_17 Q f)
def v_X6_readWord  (I : wI) (Q : Int32 → wI → Prop) : Prop :=
  ∀ I1 : wI, I1 = wU I 111 11 (0 : Int32) → (∀ I2 : wI, I2 = wU I1 111 12 (0 : Int32) → (∀ I3 : wI, I3 = wU I2 111 18 (0 : Int32) → (∃ f : Nat, v_X6_readWord_17  Q  f (0 : Int32) I3)))
theorem vc_X6_readWord   (I : wI) (hp : pre_X6_readWord  I) : v_X6_readWord  I (post_X6_readWord  I) := sorry
def v_X6_word_84  (Q : Int32 → wI → Prop) (v1 : Int32) (I : wI) : Prop :=
  ∀ I1 : wI, I1 = wU I 111 8 (0 : Int32) → (Q v1 I1)
def g_X6_word_45  (Q : Int32 → wI → Prop) (K45 : Int32 → wI → Prop) (v1 : Int32) (I : wI) : Prop :=
  (((I 111 11) ≤ v1) → (v_X6_word_84  Q  v1 I)) ∧ ((¬ ((I 111 11) ≤ v1)) → (vp_in v1 500 ∧ ((pre_X6_isStuck ((I 118 (v1).toNatClampNeg) - (I 118 (v1).toNatClampNeg) / (5 : Int32) * (5 : Int32)) I) ∧ (∀ r1 : Int32, (post_X6_isStuck ((I 118 (v1).toNatClampNeg) - (I 118 (v1).toNatClampNeg) / (5 : Int32) * (5 : Int32)) I r1) → (((¬ r1 = 0) → (v_X6_word_84  Q  v1 I)) ∧ ((r1 = 0) → (vp_in v1 500 ∧ ((pre_X6_countTurn (I 118 (v1).toNatClampNeg) I) ∧ (∀ I2 : wI, (post_X6_countTurn (I 118 (v1).toNatClampNeg) I I2) → (K45 (v1 + (1 : Int32)) I2))))))))))
def v_X6_word_45  (Q : Int32 → wI → Prop) : Nat → Int32 → wI → Prop
  | 0 => fun _ _ => False
  | f + 1 => g_X6_word_45 Q (v_X6_word_45 Q f)
def v_X6_word_27  (Q : Int32 → wI → Prop) (t0 : Int32) (I : wI) : Prop :=
  ∀ I1 : wI, I1 = wU I 111 0 t0 → ((((I1 111 0) ≤ 0) → ((pre_X6_record  I1) ∧ (∀ I2 : wI, (post_X6_record  I1 I2) → (∃ f : Nat, v_X6_word_45  Q  f (0 : Int32) I2)))) ∧ ((¬ ((I1 111 0) ≤ 0)) → (Q (0 : Int32) I1)))
def v_X6_word  (I : wI) (Q : Int32 → wI → Prop) : Prop :=
  (pre_X6_isWhole  I) ∧ (∀ r1 : Int32, ∀ I2 : wI, (post_X6_isWhole  I r1 I2) → (((¬ r1 = 0) → ((pre_X6_readWord  I2) ∧ (∀ r3 : Int32, ∀ I4 : wI, (post_X6_readWord  I2 r3 I4) → (((r3 ≤ (500 : Int32)) → (v_X6_word_27  Q  (0 : Int32) I4)) ∧ ((¬ (r3 ≤ (500 : Int32))) → (v_X6_word_27  Q  (2 : Int32) I4)))))) ∧ ((r1 = 0) → (v_X6_word_27  Q  (1 : Int32) I2))))
theorem vc_X6_word   (I : wI) (hp : pre_X6_word  I) : v_X6_word  I (post_X6_word  I) := sorry
def v_X6_away_40  (I : wI) (Q : Int32 → Prop) (K4 : Int32 → Int32 → Prop) (v2 : Int32) (t0 : Int32) (t1 : Int32) : Prop :=
  K4 (t1 + t0) (v2 + (1 : Int32))
def v_X6_away_35  (I : wI) (Q : Int32 → Prop) (K4 : Int32 → Int32 → Prop) (v2 : Int32) (t0 : Int32) : Prop :=
  v_X6_away_40  I Q K4 v2 (1 : Int32) t0
def g_X6_away_4  (I : wI) (Q : Int32 → Prop) (K4 : Int32 → Int32 → Prop) (v1 : Int32) (v2 : Int32) : Prop :=
  (((6 : Int32) ≤ v2) → (Q v1)) ∧ ((¬ ((6 : Int32) ≤ v2)) → (vp_in ((0 : Int32) + v2) 49 ∧ (((¬ (I 112 (((0 : Int32) + v2)).toNatClampNeg) = v2) → (v_X6_away_35  I Q K4 v2 v1)) ∧ (((I 112 (((0 : Int32) + v2)).toNatClampNeg) = v2) → (vp_in ((6 : Int32) + v2) 49 ∧ ((((I 112 (((6 : Int32) + v2)).toNatClampNeg) = 0) → (v_X6_away_40  I Q K4 v2 (0 : Int32) v1)) ∧ ((¬ ((I 112 (((6 : Int32) + v2)).toNatClampNeg) = 0)) → (v_X6_away_35  I Q K4 v2 v1))))))))
def v_X6_away_4  (I : wI) (Q : Int32 → Prop) : Nat → Int32 → Int32 → Prop
  | 0 => fun _ _ => False
  | f + 1 => g_X6_away_4 I Q (v_X6_away_4 I Q f)
def v_X6_away  (I : wI) (Q : Int32 → Prop) : Prop :=
  ∃ f : Nat, v_X6_away_4  I Q  f (0 : Int32) (0 : Int32)
theorem vc_X6_away   (I : wI) (hp : pre_X6_away  I) : v_X6_away  I (post_X6_away  I) := sorry
def v_X6_home  (I : wI) (Q : Int32 → wI → Prop) : Prop :=
  ∀ I1 : wI, I1 = wU I 111 0 (0 : Int32) → ((pre_X6_record  I1) ∧ (∀ I2 : wI, (post_X6_record  I1 I2) → ((pre_X6_away  I2) ∧ (∀ r3 : Int32, (post_X6_away  I2 r3) → ((pre_X6_toFirst  I2) ∧ (∀ I4 : wI, (post_X6_toFirst  I2 I4) → (vp_in (34 : Int32) 49 ∧ ∀ I5 : wI, I5 = wU I4 112 ((34 : Int32)).toNatClampNeg (0 : Int32) → (Q r3 I5))))))))
theorem vc_X6_home   (I : wI) (hp : pre_X6_home  I) : v_X6_home  I (post_X6_home  I) := sorry
def v_X6_cut_56 (x1 : Int32) (x2 : Int32) (x3 : Int32) (Q : Int32 → wI → Prop) (t0 : Int32) (I : wI) : Prop :=
  ∀ I1 : wI, I1 = wU I 111 0 t0 → ((((I1 111 0) ≤ 0) → ((pre_X6_record  I1) ∧ (∀ I2 : wI, (post_X6_record  I1 I2) → (vp_in ((18 : Int32) + x1) 49 ∧ (vp_in ((18 : Int32) + x1) 49 ∧ ∀ I3 : wI, I3 = wU I2 112 (((18 : Int32) + x1)).toNatClampNeg x2 → (vp_in ((23 : Int32) + x1) 49 ∧ ∀ I4 : wI, I4 = wU I3 112 (((23 : Int32) + x1)).toNatClampNeg x3 → (Q (I2 112 (((18 : Int32) + x1)).toNatClampNeg) I4))))))) ∧ ((¬ ((I1 111 0) ≤ 0)) → (Q (0 : Int32) I1)))
def v_X6_cut_32 (x1 : Int32) (x2 : Int32) (x3 : Int32) (Q : Int32 → wI → Prop) (t0 : Int32) (I : wI) : Prop :=
  (pre_X6_isKey x1 I) ∧ (∀ r1 : Int32, (post_X6_isKey x1 I r1) → (((¬ r1 = 0) → (((t0 = 0) → (v_X6_cut_56 x1 x2 x3 Q  (2 : Int32) I)) ∧ ((¬ (t0 = 0)) → (v_X6_cut_56 x1 x2 x3 Q  (0 : Int32) I)))) ∧ ((r1 = 0) → (v_X6_cut_56 x1 x2 x3 Q  (1 : Int32) I))))
def v_X6_cut_31 (x1 : Int32) (x2 : Int32) (x3 : Int32) (Q : Int32 → wI → Prop)  (I : wI) : Prop :=
  v_X6_cut_32 x1 x2 x3 Q  (0 : Int32) I
def v_X6_cut (x1 : Int32) (x2 : Int32) (x3 : Int32) (I : wI) (Q : Int32 → wI → Prop) : Prop :=
  (pre_X6_in x2 (0 : Int32) (63 : Int32) I) ∧ (∀ r1 : Int32, (post_X6_in x2 (0 : Int32) (63 : Int32) I r1) → (((r1 = 0) → (v_X6_cut_31 x1 x2 x3 Q   I)) ∧ ((¬ (r1 = 0)) → ((pre_X6_ones x2 I) ∧ (∀ r2 : Int32, (post_X6_ones x2 I r2) → (((r2 ≤ (1 : Int32)) → (v_X6_cut_31 x1 x2 x3 Q   I)) ∧ ((¬ (r2 ≤ (1 : Int32))) → ((pre_X6_in x3 (0 : Int32) (4 : Int32) I) ∧ (∀ r3 : Int32, (post_X6_in x3 (0 : Int32) (4 : Int32) I r3) → (((r3 = 0) → (v_X6_cut_31 x1 x2 x3 Q   I)) ∧ ((¬ (r3 = 0)) → (v_X6_cut_32 x1 x2 x3 Q  (1 : Int32) I))))))))))))
theorem vc_X6_cut (x1 : Int32) (x2 : Int32) (x3 : Int32)  (I : wI) (hp : pre_X6_cut x1 x2 x3 I) : v_X6_cut x1 x2 x3 I (post_X6_cut x1 x2 x3 I) := sorry
def v_X6_stuckKeys_23  (I : wI) (Q : Int32 → Prop) (K4 : Int32 → Int32 → Prop) (v2 : Int32) (t0 : Int32) (t1 : Int32) : Prop :=
  K4 (t1 + t0) (v2 + (1 : Int32))
def g_X6_stuckKeys_4  (I : wI) (Q : Int32 → Prop) (K4 : Int32 → Int32 → Prop) (v1 : Int32) (v2 : Int32) : Prop :=
  (((5 : Int32) ≤ v2) → (Q v1)) ∧ ((¬ ((5 : Int32) ≤ v2)) → ((pre_X6_isStuck v2 I) ∧ (∀ r1 : Int32, (post_X6_isStuck v2 I r1) → (((r1 = 0) → (v_X6_stuckKeys_23  I Q K4 v2 (0 : Int32) v1)) ∧ ((¬ (r1 = 0)) → (v_X6_stuckKeys_23  I Q K4 v2 (1 : Int32) v1))))))
def v_X6_stuckKeys_4  (I : wI) (Q : Int32 → Prop) : Nat → Int32 → Int32 → Prop
  | 0 => fun _ _ => False
  | f + 1 => g_X6_stuckKeys_4 I Q (v_X6_stuckKeys_4 I Q f)
def v_X6_stuckKeys  (I : wI) (Q : Int32 → Prop) : Prop :=
  ∃ f : Nat, v_X6_stuckKeys_4  I Q  f (0 : Int32) (0 : Int32)
theorem vc_X6_stuckKeys   (I : wI) (hp : pre_X6_stuckKeys  I) : v_X6_stuckKeys  I (post_X6_stuckKeys  I) := sorry
def v_X6_stick_13 (x1 : Int32) (Q : Int32 → wI → Prop) (t0 : Int32) (I : wI) : Prop :=
  ∀ I1 : wI, I1 = wU I 111 0 t0 → ((((I1 111 0) ≤ 0) → ((pre_X6_record  I1) ∧ (∀ I2 : wI, (post_X6_record  I1 I2) → (vp_in ((12 : Int32) + x1) 49 ∧ (vp_in ((12 : Int32) + x1) 49 ∧ ∀ I3 : wI, I3 = wU I2 112 (((12 : Int32) + x1)).toNatClampNeg ((1 : Int32) - (I2 112 (((12 : Int32) + x1)).toNatClampNeg)) → ((pre_X6_stuckKeys  I3) ∧ (∀ r4 : Int32, (post_X6_stuckKeys  I3 r4) → (Q r4 I3)))))))) ∧ ((¬ ((I1 111 0) ≤ 0)) → (Q (0 : Int32) I1)))
def v_X6_stick (x1 : Int32) (I : wI) (Q : Int32 → wI → Prop) : Prop :=
  (pre_X6_isPlace x1 I) ∧ (∀ r1 : Int32, (post_X6_isPlace x1 I r1) → (((r1 = 0) → (v_X6_stick_13 x1 Q  (1 : Int32) I)) ∧ ((¬ (r1 = 0)) → (v_X6_stick_13 x1 Q  (0 : Int32) I))))
theorem vc_X6_stick (x1 : Int32)  (I : wI) (hp : pre_X6_stick x1 I) : v_X6_stick x1 I (post_X6_stick x1 I) := sorry
def g_X6_notches_4  (I : wI) (Q : Int32 → Prop) (K4 : Int32 → Int32 → Prop) (v1 : Int32) (v2 : Int32) : Prop :=
  (((6 : Int32) ≤ v2) → (Q v1)) ∧ ((¬ ((6 : Int32) ≤ v2)) → (vp_in ((6 : Int32) + v2) 49 ∧ (K4 (v1 + (I 112 (((6 : Int32) + v2)).toNatClampNeg)) (v2 + (1 : Int32)))))
def v_X6_notches_4  (I : wI) (Q : Int32 → Prop) : Nat → Int32 → Int32 → Prop
  | 0 => fun _ _ => False
  | f + 1 => g_X6_notches_4 I Q (v_X6_notches_4 I Q f)
def v_X6_notches  (I : wI) (Q : Int32 → Prop) : Prop :=
  ∃ f : Nat, v_X6_notches_4  I Q  f (0 : Int32) (0 : Int32)
theorem vc_X6_notches   (I : wI) (hp : pre_X6_notches  I) : v_X6_notches  I (post_X6_notches  I) := sorry
def g_X6_learn_19  (Q : Int32 → wI → Prop) (K19 : Int32 → wI → Prop) (v1 : Int32) (I : wI) : Prop :=
  (((6 : Int32) ≤ v1) → ((pre_X6_notches  I) ∧ (∀ r1 : Int32, (post_X6_notches  I r1) → (Q r1 I)))) ∧ ((¬ ((6 : Int32) ≤ v1)) → (vp_in ((0 : Int32) + v1) 49 ∧ (vp_in ((37 : Int32) + v1) 49 ∧ ∀ I2 : wI, I2 = wU I 112 (((37 : Int32) + v1)).toNatClampNeg (I 112 (((0 : Int32) + v1)).toNatClampNeg) → (vp_in ((6 : Int32) + v1) 49 ∧ (vp_in ((43 : Int32) + v1) 49 ∧ ∀ I3 : wI, I3 = wU I2 112 (((43 : Int32) + v1)).toNatClampNeg (I2 112 (((6 : Int32) + v1)).toNatClampNeg) → (K19 (v1 + (1 : Int32)) I3))))))
def v_X6_learn_19  (Q : Int32 → wI → Prop) : Nat → Int32 → wI → Prop
  | 0 => fun _ _ => False
  | f + 1 => g_X6_learn_19 Q (v_X6_learn_19 Q f)
def v_X6_learn  (I : wI) (Q : Int32 → wI → Prop) : Prop :=
  ∀ I1 : wI, I1 = wU I 111 0 (0 : Int32) → ((pre_X6_record  I1) ∧ (∀ I2 : wI, (post_X6_record  I1 I2) → (vp_in (36 : Int32) 49 ∧ ∀ I3 : wI, I3 = wU I2 112 ((36 : Int32)).toNatClampNeg (1 : Int32) → (∃ f : Nat, v_X6_learn_19  Q  f (0 : Int32) I3))))
theorem vc_X6_learn   (I : wI) (hp : pre_X6_learn  I) : v_X6_learn  I (post_X6_learn  I) := sorry
def v_X6_append_30 (x1 : Int32) (Q : Int32 → wI → Prop) (t0 : Int32) (I : wI) : Prop :=
  ∀ I1 : wI, I1 = wU I 111 0 t0 → ((((I1 111 0) ≤ 0) → (vp_in (I1 111 8) 60 ∧ ∀ I2 : wI, I2 = wU I1 116 ((I1 111 8)).toNatClampNeg x1 → (∀ I3 : wI, I3 = wU I2 111 8 ((I2 111 8) + (1 : Int32)) → (Q (I3 111 8) I3)))) ∧ ((¬ ((I1 111 0) ≤ 0)) → (Q (0 : Int32) I1)))
def v_X6_append (x1 : Int32) (I : wI) (Q : Int32 → wI → Prop) : Prop :=
  (pre_X6_in x1 (33 : Int32) (126 : Int32) I) ∧ (∀ r1 : Int32, (post_X6_in x1 (33 : Int32) (126 : Int32) I r1) → (((¬ r1 = 0) → (((¬ (I 111 8) = (60 : Int32)) → (v_X6_append_30 x1 Q  (0 : Int32) I)) ∧ (((I 111 8) = (60 : Int32)) → (v_X6_append_30 x1 Q  (2 : Int32) I)))) ∧ ((r1 = 0) → (v_X6_append_30 x1 Q  (1 : Int32) I))))
theorem vc_X6_append (x1 : Int32)  (I : wI) (hp : pre_X6_append x1 I) : v_X6_append x1 I (post_X6_append x1 I) := sorry
def v_X6_clearBuffer  (I : wI) (Q : Int32 → wI → Prop) : Prop :=
  ∀ I1 : wI, I1 = wU I 111 0 (0 : Int32) → (∀ I2 : wI, I2 = wU I1 111 8 (0 : Int32) → (Q (I1 111 8) I2))
theorem vc_X6_clearBuffer   (I : wI) (hp : pre_X6_clearBuffer  I) : v_X6_clearBuffer  I (post_X6_clearBuffer  I) := sorry
def v_X6_firstError  (I : wI) (Q : Int32 → wI → Prop) : Prop :=
  ∀ I1 : wI, I1 = wU I 111 0 (0 : Int32) → ((pre_X6_findError  I1) ∧ (∀ r2 : Int32, ∀ I3 : wI, (post_X6_findError  I1 r2 I3) → (Q r2 I3)))
theorem vc_X6_firstError   (I : wI) (hp : pre_X6_firstError  I) : v_X6_firstError  I (post_X6_firstError  I) := sorry
def v_X6_countTurns_206  (Q : Int32 → wI → Prop) (t0 : Int32) (I : wI) : Prop :=
  Q t0 I
def v_X6_countTurns_186  (Q : Int32 → wI → Prop) (K9 : Int32 → Int32 → wI → Prop) (v1 : Int32) (v2 : Int32) (I : wI) : Prop :=
  K9 v1 (v2 + (1 : Int32)) I
def v_X6_countTurns_36  (Q : Int32 → wI → Prop) (K9 : Int32 → Int32 → wI → Prop) (v1 : Int32) (v2 : Int32) (I : wI) : Prop :=
  vp_in (I 111 18) 4 ∧ ∀ I1 : wI, I1 = wU I 122 ((I 111 18)).toNatClampNeg v1 → (vp_in (I1 111 18) 4 ∧ ∀ I2 : wI, I2 = wU I1 123 ((I1 111 18)).toNatClampNeg (0 : Int32) → (∀ I3 : wI, I3 = wU I2 111 18 ((I2 111 18) + (1 : Int32)) → (v_X6_countTurns_186  Q K9 (0 : Int32) v2 I3)))
def g_X6_countTurns_9  (Q : Int32 → wI → Prop) (K9 : Int32 → Int32 → wI → Prop) (v1 : Int32) (v2 : Int32) (I : wI) : Prop :=
  (((I 111 8) ≤ v2) → (((v1 ≤ (9999 : Int32)) → (v_X6_countTurns_206  Q  v1 I)) ∧ ((¬ (v1 ≤ (9999 : Int32))) → (v_X6_countTurns_206  Q  (9999 : Int32) I)))) ∧ ((¬ ((I 111 8) ≤ v2)) → (vp_in v2 60 ∧ ((((I 116 (v2).toNatClampNeg) = (40 : Int32)) → (v_X6_countTurns_36  Q K9 v1 v2 I)) ∧ ((¬ ((I 116 (v2).toNatClampNeg) = (40 : Int32))) → (((¬ (I 116 (v2).toNatClampNeg) = (91 : Int32)) → (((¬ (I 116 (v2).toNatClampNeg) = (41 : Int32)) → (((¬ (I 116 (v2).toNatClampNeg) = (44 : Int32)) → (((¬ (I 116 (v2).toNatClampNeg) = (93 : Int32)) → (v_X6_countTurns_186  Q K9 (v1 + (1 : Int32)) v2 I)) ∧ (((I 116 (v2).toNatClampNeg) = (93 : Int32)) → (∀ I1 : wI, I1 = wU I 111 18 ((I 111 18) - (1 : Int32)) → (vp_in (I1 111 18) 4 ∧ (vp_in (I1 111 18) 4 ∧ (v_X6_countTurns_186  Q K9 ((I1 122 ((I1 111 18)).toNatClampNeg) + ((2 : Int32) * ((I1 123 ((I1 111 18)).toNatClampNeg) + v1))) v2 I1))))))) ∧ (((I 116 (v2).toNatClampNeg) = (44 : Int32)) → (vp_in ((I 111 18) - (1 : Int32)) 4 ∧ ∀ I2 : wI, I2 = wU I 123 (((I 111 18) - (1 : Int32))).toNatClampNeg v1 → (v_X6_countTurns_186  Q K9 (0 : Int32) v2 I2))))) ∧ (((I 116 (v2).toNatClampNeg) = (41 : Int32)) → (∀ I3 : wI, I3 = wU I 111 18 ((I 111 18) - (1 : Int32)) → (vp_in (I3 111 18) 4 ∧ (vp_in (v2 + (1 : Int32)) 60 ∧ (v_X6_countTurns_186  Q K9 ((I3 122 ((I3 111 18)).toNatClampNeg) + (v1 * ((I3 116 ((v2 + (1 : Int32))).toNatClampNeg) - (48 : Int32)))) (v2 + (1 : Int32)) I3))))))) ∧ (((I 116 (v2).toNatClampNeg) = (91 : Int32)) → (v_X6_countTurns_36  Q K9 v1 v2 I)))))))
def v_X6_countTurns_9  (Q : Int32 → wI → Prop) : Nat → Int32 → Int32 → wI → Prop
  | 0 => fun _ _ _ => False
  | f + 1 => g_X6_countTurns_9 Q (v_X6_countTurns_9 Q f)
def v_X6_countTurns  (I : wI) (Q : Int32 → wI → Prop) : Prop :=
  ∀ I1 : wI, I1 = wU I 111 18 (0 : Int32) → (∃ f : Nat, v_X6_countTurns_9  Q  f (0 : Int32) (0 : Int32) I1)
theorem vc_X6_countTurns   (I : wI) (hp : pre_X6_countTurns  I) : v_X6_countTurns  I (post_X6_countTurns  I) := sorry
def v_X6_keysAt_26 (x1 : Int32) (I : wI) (Q : Int32 → Prop) (K4 : Int32 → Int32 → Prop) (v3 : Int32) (t0 : Int32) (t1 : Int32) : Prop :=
  K4 (t1 ||| t0) (v3 + (1 : Int32))
def g_X6_keysAt_4 (x1 : Int32) (I : wI) (Q : Int32 → Prop) (K4 : Int32 → Int32 → Prop) (v2 : Int32) (v3 : Int32) : Prop :=
  (((5 : Int32) ≤ v3) → (Q v2)) ∧ ((¬ ((5 : Int32) ≤ v3)) → ((pre_X6_has v3 x1 I) ∧ (∀ r1 : Int32, (post_X6_has v3 x1 I r1) → (((r1 = 0) → (v_X6_keysAt_26 x1 I Q K4 v3 (0 : Int32) v2)) ∧ ((¬ (r1 = 0)) → (v_X6_keysAt_26 x1 I Q K4 v3 ((1 : Int32) <<< (v3 &&& 31)) v2))))))
def v_X6_keysAt_4 (x1 : Int32) (I : wI) (Q : Int32 → Prop) : Nat → Int32 → Int32 → Prop
  | 0 => fun _ _ => False
  | f + 1 => g_X6_keysAt_4 x1 I Q (v_X6_keysAt_4 x1 I Q f)
def v_X6_keysAt (x1 : Int32) (I : wI) (Q : Int32 → Prop) : Prop :=
  ∃ f : Nat, v_X6_keysAt_4 x1 I Q  f (0 : Int32) (0 : Int32)
theorem vc_X6_keysAt (x1 : Int32)  (I : wI) (hp : pre_X6_keysAt x1 I) : v_X6_keysAt x1 I (post_X6_keysAt x1 I) := sorry
def v_X6_atNow_74 (x1 : Int32) (x2 : Int32) (I : wI) (Q : Int32 → Prop) (t0 : Int32) : Prop :=
  Q t0
def v_X6_atNow (x1 : Int32) (x2 : Int32) (I : wI) (Q : Int32 → Prop) : Prop :=
  (x2 = (0 : Int32) → (vp_in ((0 : Int32) + x1) 49 ∧ (Q (I 112 (((0 : Int32) + x1)).toNatClampNeg)))) ∧ (x2 = (1 : Int32) → (vp_in ((6 : Int32) + x1) 49 ∧ (Q (I 112 (((6 : Int32) + x1)).toNatClampNeg)))) ∧ (x2 = (2 : Int32) → (vp_in ((12 : Int32) + x1) 49 ∧ (Q (I 112 (((12 : Int32) + x1)).toNatClampNeg)))) ∧ (x2 = (3 : Int32) → ((pre_X6_isRight x1 I) ∧ (∀ r1 : Int32, (post_X6_isRight x1 I r1) → (((r1 = 0) → (v_X6_atNow_74 x1 x2 I Q  (0 : Int32))) ∧ ((¬ (r1 = 0)) → (v_X6_atNow_74 x1 x2 I Q  (1 : Int32))))))) ∧ ((¬ x2 = (0 : Int32) ∧ ¬ x2 = (1 : Int32) ∧ ¬ x2 = (2 : Int32) ∧ ¬ x2 = (3 : Int32)) → ((pre_X6_keysAt x1 I) ∧ (∀ r2 : Int32, (post_X6_keysAt x1 I r2) → (Q r2))))
theorem vc_X6_atNow (x1 : Int32) (x2 : Int32)  (I : wI) (hp : pre_X6_atNow x1 x2 I) : v_X6_atNow x1 x2 I (post_X6_atNow x1 x2 I) := sorry
def v_X6_at_46 (x1 : Int32) (x2 : Int32) (Q : Int32 → wI → Prop) (t0 : Int32) (I : wI) : Prop :=
  Q t0 I
def v_X6_at_26 (x1 : Int32) (x2 : Int32) (Q : Int32 → wI → Prop) (t0 : Int32) (I : wI) : Prop :=
  ∀ I1 : wI, I1 = wU I 111 0 t0 → ((((I1 111 0) ≤ 0) → ((pre_X6_atNow x1 x2 I1) ∧ (∀ r2 : Int32, (post_X6_atNow x1 x2 I1 r2) → (v_X6_at_46 x1 x2 Q  r2 I1)))) ∧ ((¬ ((I1 111 0) ≤ 0)) → (v_X6_at_46 x1 x2 Q  (0 : Int32) I1)))
def v_X6_at (x1 : Int32) (x2 : Int32) (I : wI) (Q : Int32 → wI → Prop) : Prop :=
  (pre_X6_isPlace x1 I) ∧ (∀ r1 : Int32, (post_X6_isPlace x1 I r1) → (((¬ r1 = 0) → ((pre_X6_in x2 (0 : Int32) (4 : Int32) I) ∧ (∀ r2 : Int32, (post_X6_in x2 (0 : Int32) (4 : Int32) I r2) → (((r2 = 0) → (v_X6_at_26 x1 x2 Q  (2 : Int32) I)) ∧ ((¬ (r2 = 0)) → (v_X6_at_26 x1 x2 Q  (0 : Int32) I)))))) ∧ ((r1 = 0) → (v_X6_at_26 x1 x2 Q  (1 : Int32) I))))
theorem vc_X6_at (x1 : Int32) (x2 : Int32)  (I : wI) (hp : pre_X6_at x1 x2 I) : v_X6_at x1 x2 I (post_X6_at x1 x2 I) := sorry
def v_X6_reach_42  (I : wI) (Q : Int32 → Prop) (K4 : Int32 → Int32 → Prop) (v2 : Int32) (t0 : Int32) (t1 : Int32) : Prop :=
  K4 (t1 ||| t0) (v2 + (1 : Int32))
def v_X6_reach_35  (I : wI) (Q : Int32 → Prop) (K4 : Int32 → Int32 → Prop) (v2 : Int32) (t0 : Int32) : Prop :=
  v_X6_reach_42  I Q K4 v2 ((1 : Int32) <<< (v2 &&& 31)) t0
def g_X6_reach_4  (I : wI) (Q : Int32 → Prop) (K4 : Int32 → Int32 → Prop) (v1 : Int32) (v2 : Int32) : Prop :=
  (((6 : Int32) ≤ v2) → (Q v1)) ∧ ((¬ ((6 : Int32) ≤ v2)) → (vp_in ((0 : Int32) + v2) 49 ∧ (((¬ (I 112 (((0 : Int32) + v2)).toNatClampNeg) = v2) → (v_X6_reach_35  I Q K4 v2 v1)) ∧ (((I 112 (((0 : Int32) + v2)).toNatClampNeg) = v2) → (vp_in ((6 : Int32) + v2) 49 ∧ ((((I 112 (((6 : Int32) + v2)).toNatClampNeg) = 0) → (v_X6_reach_42  I Q K4 v2 (0 : Int32) v1)) ∧ ((¬ ((I 112 (((6 : Int32) + v2)).toNatClampNeg) = 0)) → (v_X6_reach_35  I Q K4 v2 v1))))))))
def v_X6_reach_4  (I : wI) (Q : Int32 → Prop) : Nat → Int32 → Int32 → Prop
  | 0 => fun _ _ => False
  | f + 1 => g_X6_reach_4 I Q (v_X6_reach_4 I Q f)
def v_X6_reach  (I : wI) (Q : Int32 → Prop) : Prop :=
  ∃ f : Nat, v_X6_reach_4  I Q  f (0 : Int32) (0 : Int32)
theorem vc_X6_reach   (I : wI) (hp : pre_X6_reach  I) : v_X6_reach  I (post_X6_reach  I) := sorry
def g_X6_common_4 (x0 : Int32) (x1 : Int32) (I : wI) (Q : Int32 → Prop) (K4 : Int32 → Int32 → Prop) (v2 : Int32) (v3 : Int32) : Prop :=
  ((v3 ≤ 0) → (Q v2)) ∧ ((¬ (v3 ≤ 0)) → ((¬ v3 = 0) ∧ (K4 v3 (v2 - v2 / v3 * v3))))
def v_X6_common_4 (x0 : Int32) (x1 : Int32) (I : wI) (Q : Int32 → Prop) : Nat → Int32 → Int32 → Prop
  | 0 => fun _ _ => False
  | f + 1 => g_X6_common_4 x0 x1 I Q (v_X6_common_4 x0 x1 I Q f)
def v_X6_common (x0 : Int32) (x1 : Int32) (I : wI) (Q : Int32 → Prop) : Prop :=
  ∃ f : Nat, v_X6_common_4 x0 x1 I Q  f x0 x1
theorem vc_X6_common (x0 : Int32) (x1 : Int32)  (I : wI) (hp : pre_X6_common x0 x1 I) : v_X6_common x0 x1 I (post_X6_common x0 x1 I) := sorry
def v_X6_period_101  (I : wI) (Q : Int32 → Prop) (K4 : Int32 → Int32 → Prop) (v1 : Int32) (v2 : Int32) (t0 : Int32) : Prop :=
  (pre_X6_common v1 t0 I) ∧ (∀ r1 : Int32, (post_X6_common v1 t0 I r1) → ((¬ r1 = 0) ∧ (K4 ((v1 / r1) * t0) (v2 + (1 : Int32)))))
def v_X6_period_82  (I : wI) (Q : Int32 → Prop) (K4 : Int32 → Int32 → Prop) (K21 : Int32 → Int32 → Int32 → Int32 → Int32 → Int32 → Prop) (v1 : Int32) (v2 : Int32) (v3 : Int32) (v4 : Int32) (v5 : Int32) (t0 : Int32) : Prop :=
  K21 v1 v2 v3 v4 v5 t0
def g_X6_period_29  (I : wI) (Q : Int32 → Prop) (K4 : Int32 → Int32 → Prop) (K21 : Int32 → Int32 → Int32 → Int32 → Int32 → Int32 → Prop) (K29 : Int32 → Int32 → Int32 → Int32 → Int32 → Int32 → Prop) (v1 : Int32) (v2 : Int32) (v3 : Int32) (v4 : Int32) (v5 : Int32) (v7 : Int32) : Prop :=
  vp_in ((0 : Int32) + v7) 49 ∧ ((((I 112 (((0 : Int32) + v7)).toNatClampNeg) = v5) → (vp_in ((6 : Int32) + v7) 49 ∧ (((v7 = v2) → (v_X6_period_82  I Q K4 K21 v1 v2 (v3 + (1 : Int32)) (v4 + (I 112 (((6 : Int32) + v7)).toNatClampNeg)) v7 (0 : Int32))) ∧ ((¬ (v7 = v2)) → (v_X6_period_82  I Q K4 K21 v1 v2 (v3 + (1 : Int32)) (v4 + (I 112 (((6 : Int32) + v7)).toNatClampNeg)) v7 (1 : Int32)))))) ∧ ((¬ ((I 112 (((0 : Int32) + v7)).toNatClampNeg) = v5)) → (K29 v1 v2 v3 v4 v5 (v7 + (1 : Int32)))))
def v_X6_period_29  (I : wI) (Q : Int32 → Prop) (K4 : Int32 → Int32 → Prop) (K21 : Int32 → Int32 → Int32 → Int32 → Int32 → Int32 → Prop) : Nat → Int32 → Int32 → Int32 → Int32 → Int32 → Int32 → Prop
  | 0 => fun _ _ _ _ _ _ => False
  | f + 1 => g_X6_period_29 I Q K4 K21 (v_X6_period_29 I Q K4 K21 f)
def g_X6_period_21  (I : wI) (Q : Int32 → Prop) (K4 : Int32 → Int32 → Prop) (K21 : Int32 → Int32 → Int32 → Int32 → Int32 → Int32 → Prop) (v1 : Int32) (v2 : Int32) (v3 : Int32) (v4 : Int32) (v5 : Int32) (v6 : Int32) : Prop :=
  ((v6 = 0) → (((¬ (v4 - v4 / (5 : Int32) * (5 : Int32)) = 0) → (v_X6_period_101  I Q K4 v1 v2 ((5 : Int32) * v3))) ∧ (((v4 - v4 / (5 : Int32) * (5 : Int32)) = 0) → (v_X6_period_101  I Q K4 v1 v2 v3)))) ∧ ((¬ (v6 = 0)) → (∃ f : Nat, v_X6_period_29  I Q K4 K21 f v1 v2 v3 v4 v5 (0 : Int32)))
def v_X6_period_21  (I : wI) (Q : Int32 → Prop) (K4 : Int32 → Int32 → Prop) : Nat → Int32 → Int32 → Int32 → Int32 → Int32 → Int32 → Prop
  | 0 => fun _ _ _ _ _ _ => False
  | f + 1 => g_X6_period_21 I Q K4 (v_X6_period_21 I Q K4 f)
def g_X6_period_4  (I : wI) (Q : Int32 → Prop) (K4 : Int32 → Int32 → Prop) (v1 : Int32) (v2 : Int32) : Prop :=
  (((6 : Int32) ≤ v2) → (Q v1)) ∧ ((¬ ((6 : Int32) ≤ v2)) → (∃ f : Nat, v_X6_period_21  I Q K4 f v1 v2 (0 : Int32) (0 : Int32) v2 (1 : Int32)))
def v_X6_period_4  (I : wI) (Q : Int32 → Prop) : Nat → Int32 → Int32 → Prop
  | 0 => fun _ _ => False
  | f + 1 => g_X6_period_4 I Q (v_X6_period_4 I Q f)
def v_X6_period  (I : wI) (Q : Int32 → Prop) : Prop :=
  ∃ f : Nat, v_X6_period_4  I Q  f (1 : Int32) (0 : Int32)
theorem vc_X6_period   (I : wI) (hp : pre_X6_period  I) : v_X6_period  I (post_X6_period  I) := sorry
def v_X6_keyPeriod (x1 : Int32) (I : wI) (Q : Int32 → wI → Prop) : Prop :=
  (pre_X6_putAside  I) ∧ (∀ I1 : wI, (post_X6_putAside  I I1) → ((pre_X6_toFirst  I1) ∧ (∀ I2 : wI, (post_X6_toFirst  I1 I2) → ((pre_X6_doTurn x1 I2) ∧ (∀ I3 : wI, (post_X6_doTurn x1 I2 I3) → ((pre_X6_period  I3) ∧ (∀ r4 : Int32, (post_X6_period  I3 r4) → ((pre_X6_putBack  I3) ∧ (∀ I5 : wI, (post_X6_putBack  I3 I5) → (Q r4 I5))))))))))
theorem vc_X6_keyPeriod (x1 : Int32)  (I : wI) (hp : pre_X6_keyPeriod x1 I) : v_X6_keyPeriod x1 I (post_X6_keyPeriod x1 I) := sorry
def v_X6_keyNow_75 (x1 : Int32) (x2 : Int32) (Q : Int32 → wI → Prop) (t0 : Int32) (I : wI) : Prop :=
  Q t0 I
def v_X6_keyNow_56 (x1 : Int32) (x2 : Int32) (Q : Int32 → wI → Prop)  (I : wI) : Prop :=
  (pre_X6_keyPeriod x1 I) ∧ (∀ r1 : Int32, ∀ I2 : wI, (post_X6_keyPeriod x1 I r1 I2) → (Q r1 I2))
def v_X6_keyNow (x1 : Int32) (x2 : Int32) (I : wI) (Q : Int32 → wI → Prop) : Prop :=
  (x2 = (0 : Int32) → (vp_in ((18 : Int32) + x1) 49 ∧ (Q (I 112 (((18 : Int32) + x1)).toNatClampNeg) I))) ∧ (x2 = (1 : Int32) → (vp_in ((23 : Int32) + x1) 49 ∧ (Q (I 112 (((23 : Int32) + x1)).toNatClampNeg) I))) ∧ (x2 = (2 : Int32) → (v_X6_keyNow_56 x1 x2 Q   I)) ∧ (x2 = (3 : Int32) → (v_X6_keyNow_56 x1 x2 Q   I)) ∧ (x2 = (4 : Int32) → ((pre_X6_isStuck x1 I) ∧ (∀ r1 : Int32, (post_X6_isStuck x1 I r1) → (((r1 = 0) → (v_X6_keyNow_75 x1 x2 Q  (0 : Int32) I)) ∧ ((¬ (r1 = 0)) → (v_X6_keyNow_75 x1 x2 Q  (1 : Int32) I)))))) ∧ ((¬ x2 = (0 : Int32) ∧ ¬ x2 = (1 : Int32) ∧ ¬ x2 = (2 : Int32) ∧ ¬ x2 = (3 : Int32) ∧ ¬ x2 = (4 : Int32)) → (vp_in ((28 : Int32) + x1) 49 ∧ (Q (I 112 (((28 : Int32) + x1)).toNatClampNeg) I)))
theorem vc_X6_keyNow (x1 : Int32) (x2 : Int32)  (I : wI) (hp : pre_X6_keyNow x1 x2 I) : v_X6_keyNow x1 x2 I (post_X6_keyNow x1 x2 I) := sorry
def v_X6_key_46 (x1 : Int32) (x2 : Int32) (Q : Int32 → wI → Prop) (t0 : Int32) (I : wI) : Prop :=
  Q t0 I
def v_X6_key_26 (x1 : Int32) (x2 : Int32) (Q : Int32 → wI → Prop) (t0 : Int32) (I : wI) : Prop :=
  ∀ I1 : wI, I1 = wU I 111 0 t0 → ((((I1 111 0) ≤ 0) → ((pre_X6_keyNow x1 x2 I1) ∧ (∀ r2 : Int32, ∀ I3 : wI, (post_X6_keyNow x1 x2 I1 r2 I3) → (v_X6_key_46 x1 x2 Q  r2 I3)))) ∧ ((¬ ((I1 111 0) ≤ 0)) → (v_X6_key_46 x1 x2 Q  (0 : Int32) I1)))
def v_X6_key (x1 : Int32) (x2 : Int32) (I : wI) (Q : Int32 → wI → Prop) : Prop :=
  (pre_X6_isKey x1 I) ∧ (∀ r1 : Int32, (post_X6_isKey x1 I r1) → (((¬ r1 = 0) → ((pre_X6_in x2 (0 : Int32) (5 : Int32) I) ∧ (∀ r2 : Int32, (post_X6_in x2 (0 : Int32) (5 : Int32) I r2) → (((r2 = 0) → (v_X6_key_26 x1 x2 Q  (2 : Int32) I)) ∧ ((¬ (r2 = 0)) → (v_X6_key_26 x1 x2 Q  (0 : Int32) I)))))) ∧ ((r1 = 0) → (v_X6_key_26 x1 x2 Q  (1 : Int32) I))))
theorem vc_X6_key (x1 : Int32) (x2 : Int32)  (I : wI) (hp : pre_X6_key x1 x2 I) : v_X6_key x1 x2 I (post_X6_key x1 x2 I) := sorry
def v_X6_pairNow_82 (x1 : Int32) (x2 : Int32) (x3 : Int32) (Q : Int32 → wI → Prop) (t0 : Int32) (I : wI) : Prop :=
  (pre_X6_putBack  I) ∧ (∀ I1 : wI, (post_X6_putBack  I I1) → (Q t0 I1))
def v_X6_pairNow (x1 : Int32) (x2 : Int32) (x3 : Int32) (I : wI) (Q : Int32 → wI → Prop) : Prop :=
  (pre_X6_putAside  I) ∧ (∀ I1 : wI, (post_X6_putAside  I I1) → ((pre_X6_toFirst  I1) ∧ (∀ I2 : wI, (post_X6_toFirst  I1 I2) → ((pre_X6_doTurn x1 I2) ∧ (∀ I3 : wI, (post_X6_doTurn x1 I2 I3) → ((pre_X6_doTurn x2 I3) ∧ (∀ I4 : wI, (post_X6_doTurn x2 I3 I4) → ((pre_X6_doTurn ((5 : Int32) + x1) I4) ∧ (∀ I5 : wI, (post_X6_doTurn ((5 : Int32) + x1) I4 I5) → ((pre_X6_doTurn ((5 : Int32) + x2) I5) ∧ (∀ I6 : wI, (post_X6_doTurn ((5 : Int32) + x2) I5 I6) → ((pre_X6_reach  I6) ∧ (∀ r7 : Int32, (post_X6_reach  I6 r7) → (((¬ x3 = 0) → (((¬ x3 = (1 : Int32)) → (((¬ x3 = (4 : Int32)) → ((pre_X6_period  I6) ∧ (∀ r8 : Int32, (post_X6_period  I6 r8) → (v_X6_pairNow_82 x1 x2 x3 Q  r8 I6)))) ∧ ((x3 = (4 : Int32)) → (((¬ r7 = 0) → (v_X6_pairNow_82 x1 x2 x3 Q  (0 : Int32) I6)) ∧ ((r7 = 0) → (v_X6_pairNow_82 x1 x2 x3 Q  (1 : Int32) I6)))))) ∧ ((x3 = (1 : Int32)) → ((pre_X6_ones r7 I6) ∧ (∀ r9 : Int32, (post_X6_ones r7 I6 r9) → (v_X6_pairNow_82 x1 x2 x3 Q  r9 I6)))))) ∧ ((x3 = 0) → (v_X6_pairNow_82 x1 x2 x3 Q  r7 I6))))))))))))))))
theorem vc_X6_pairNow (x1 : Int32) (x2 : Int32) (x3 : Int32)  (I : wI) (hp : pre_X6_pairNow x1 x2 x3 I) : v_X6_pairNow x1 x2 x3 I (post_X6_pairNow x1 x2 x3 I) := sorry
def v_X6_pair_54 (x1 : Int32) (x2 : Int32) (x3 : Int32) (Q : Int32 → wI → Prop) (t0 : Int32) (I : wI) : Prop :=
  Q t0 I
def v_X6_pair_33 (x1 : Int32) (x2 : Int32) (x3 : Int32) (Q : Int32 → wI → Prop) (t0 : Int32) (I : wI) : Prop :=
  ∀ I1 : wI, I1 = wU I 111 0 t0 → ((((I1 111 0) ≤ 0) → ((pre_X6_pairNow x1 x2 x3 I1) ∧ (∀ r2 : Int32, ∀ I3 : wI, (post_X6_pairNow x1 x2 x3 I1 r2 I3) → (v_X6_pair_54 x1 x2 x3 Q  r2 I3)))) ∧ ((¬ ((I1 111 0) ≤ 0)) → (v_X6_pair_54 x1 x2 x3 Q  (0 : Int32) I1)))
def v_X6_pair_15 (x1 : Int32) (x2 : Int32) (x3 : Int32) (Q : Int32 → wI → Prop)  (I : wI) : Prop :=
  v_X6_pair_33 x1 x2 x3 Q  (1 : Int32) I
def v_X6_pair (x1 : Int32) (x2 : Int32) (x3 : Int32) (I : wI) (Q : Int32 → wI → Prop) : Prop :=
  (pre_X6_isKey x1 I) ∧ (∀ r1 : Int32, (post_X6_isKey x1 I r1) → (((r1 = 0) → (v_X6_pair_15 x1 x2 x3 Q   I)) ∧ ((¬ (r1 = 0)) → ((pre_X6_isKey x2 I) ∧ (∀ r2 : Int32, (post_X6_isKey x2 I r2) → (((¬ r2 = 0) → ((pre_X6_in x3 (0 : Int32) (4 : Int32) I) ∧ (∀ r3 : Int32, (post_X6_in x3 (0 : Int32) (4 : Int32) I r3) → (((r3 = 0) → (v_X6_pair_33 x1 x2 x3 Q  (2 : Int32) I)) ∧ ((¬ (r3 = 0)) → (v_X6_pair_33 x1 x2 x3 Q  (0 : Int32) I)))))) ∧ ((r2 = 0) → (v_X6_pair_15 x1 x2 x3 Q   I))))))))
theorem vc_X6_pair (x1 : Int32) (x2 : Int32) (x3 : Int32)  (I : wI) (hp : pre_X6_pair x1 x2 x3 I) : v_X6_pair x1 x2 x3 I (post_X6_pair x1 x2 x3 I) := sorry
def v_X6_wordNow_81 (x1 : Int32) (Q : Int32 → wI → Prop) (t0 : Int32) (I : wI) : Prop :=
  (pre_X6_putBack  I) ∧ (∀ I1 : wI, (post_X6_putBack  I I1) → (Q t0 I1))
def g_X6_wordNow_41 (x1 : Int32) (Q : Int32 → wI → Prop) (K41 : Int32 → wI → Prop) (v2 : Int32) (I : wI) : Prop :=
  (((I 111 11) ≤ v2) → (((¬ x1 = (1 : Int32)) → ((pre_X6_period  I) ∧ (∀ r1 : Int32, (post_X6_period  I r1) → (v_X6_wordNow_81 x1 Q  r1 I)))) ∧ ((x1 = (1 : Int32)) → ((pre_X6_reach  I) ∧ (∀ r2 : Int32, (post_X6_reach  I r2) → (v_X6_wordNow_81 x1 Q  r2 I)))))) ∧ ((¬ ((I 111 11) ≤ v2)) → (vp_in v2 500 ∧ ((pre_X6_doTurn (I 118 (v2).toNatClampNeg) I) ∧ (∀ I3 : wI, (post_X6_doTurn (I 118 (v2).toNatClampNeg) I I3) → (K41 (v2 + (1 : Int32)) I3)))))
def v_X6_wordNow_41 (x1 : Int32) (Q : Int32 → wI → Prop) : Nat → Int32 → wI → Prop
  | 0 => fun _ _ => False
  | f + 1 => g_X6_wordNow_41 x1 Q (v_X6_wordNow_41 x1 Q f)
def v_X6_wordNow (x1 : Int32) (I : wI) (Q : Int32 → wI → Prop) : Prop :=
  ((¬ x1 = 0) → ((pre_X6_readWord  I) ∧ (∀ r1 : Int32, ∀ I2 : wI, (post_X6_readWord  I r1 I2) → (((r1 ≤ (500 : Int32)) → (((¬ x1 = (4 : Int32)) → ((pre_X6_putAside  I2) ∧ (∀ I3 : wI, (post_X6_putAside  I2 I3) → ((pre_X6_toFirst  I3) ∧ (∀ I4 : wI, (post_X6_toFirst  I3 I4) → (∃ f : Nat, v_X6_wordNow_41 x1 Q  f (0 : Int32) I4)))))) ∧ ((x1 = (4 : Int32)) → (Q (I2 111 12) I2)))) ∧ ((¬ (r1 ≤ (500 : Int32))) → (Q (-1 : Int32) I2)))))) ∧ ((x1 = 0) → ((pre_X6_countTurns  I) ∧ (∀ r5 : Int32, ∀ I6 : wI, (post_X6_countTurns  I r5 I6) → (Q r5 I6))))
theorem vc_X6_wordNow (x1 : Int32)  (I : wI) (hp : pre_X6_wordNow x1 I) : v_X6_wordNow x1 I (post_X6_wordNow x1 I) := sorry
def v_X6_ofWord_41 (x1 : Int32) (Q : Int32 → wI → Prop) (t0 : Int32) (I : wI) : Prop :=
  Q t0 I
def v_X6_ofWord_22 (x1 : Int32) (Q : Int32 → wI → Prop) (t0 : Int32) (I : wI) : Prop :=
  ∀ I1 : wI, I1 = wU I 111 0 t0 → ((((I1 111 0) ≤ 0) → ((pre_X6_wordNow x1 I1) ∧ (∀ r2 : Int32, ∀ I3 : wI, (post_X6_wordNow x1 I1 r2 I3) → (v_X6_ofWord_41 x1 Q  r2 I3)))) ∧ ((¬ ((I1 111 0) ≤ 0)) → (v_X6_ofWord_41 x1 Q  (0 : Int32) I1)))
def v_X6_ofWord_21 (x1 : Int32) (Q : Int32 → wI → Prop)  (I : wI) : Prop :=
  v_X6_ofWord_22 x1 Q  (1 : Int32) I
def v_X6_ofWord (x1 : Int32) (I : wI) (Q : Int32 → wI → Prop) : Prop :=
  (pre_X6_in x1 (0 : Int32) (4 : Int32) I) ∧ (∀ r1 : Int32, (post_X6_in x1 (0 : Int32) (4 : Int32) I r1) → (((r1 = 0) → (v_X6_ofWord_21 x1 Q   I)) ∧ ((¬ (r1 = 0)) → ((pre_X6_isWhole  I) ∧ (∀ r2 : Int32, ∀ I3 : wI, (post_X6_isWhole  I r2 I3) → (((r2 = 0) → (v_X6_ofWord_21 x1 Q   I3)) ∧ ((¬ (r2 = 0)) → (v_X6_ofWord_22 x1 Q  (0 : Int32) I3))))))))
theorem vc_X6_ofWord (x1 : Int32)  (I : wI) (hp : pre_X6_ofWord x1 I) : v_X6_ofWord x1 I (post_X6_ofWord x1 I) := sorry
def g_X6_stuckPlaces_4  (I : wI) (Q : Int32 → Prop) (K4 : Int32 → Int32 → Prop) (v1 : Int32) (v2 : Int32) : Prop :=
  (((6 : Int32) ≤ v2) → (Q v1)) ∧ ((¬ ((6 : Int32) ≤ v2)) → (vp_in ((12 : Int32) + v2) 49 ∧ (K4 (v1 + (I 112 (((12 : Int32) + v2)).toNatClampNeg)) (v2 + (1 : Int32)))))
def v_X6_stuckPlaces_4  (I : wI) (Q : Int32 → Prop) : Nat → Int32 → Int32 → Prop
  | 0 => fun _ _ => False
  | f + 1 => g_X6_stuckPlaces_4 I Q (v_X6_stuckPlaces_4 I Q f)
def v_X6_stuckPlaces  (I : wI) (Q : Int32 → Prop) : Prop :=
  ∃ f : Nat, v_X6_stuckPlaces_4  I Q  f (0 : Int32) (0 : Int32)
theorem vc_X6_stuckPlaces   (I : wI) (hp : pre_X6_stuckPlaces  I) : v_X6_stuckPlaces  I (post_X6_stuckPlaces  I) := sorry
def v_X6_countNow_95 (x1 : Int32) (I : wI) (Q : Int32 → Prop) (t0 : Int32) : Prop :=
  Q t0
def v_X6_countNow (x1 : Int32) (I : wI) (Q : Int32 → Prop) : Prop :=
  (x1 = (0 : Int32) → (vp_in (33 : Int32) 49 ∧ (Q (I 112 ((33 : Int32)).toNatClampNeg)))) ∧ (x1 = (1 : Int32) → ((pre_X6_notches  I) ∧ (∀ r1 : Int32, (post_X6_notches  I r1) → (Q (r1 - r1 / (5 : Int32) * (5 : Int32)))))) ∧ (x1 = (2 : Int32) → (vp_in (34 : Int32) 49 ∧ (Q (I 112 ((34 : Int32)).toNatClampNeg)))) ∧ (x1 = (3 : Int32) → ((pre_X6_away  I) ∧ (∀ r2 : Int32, (post_X6_away  I r2) → (Q ((6 : Int32) - r2))))) ∧ (x1 = (4 : Int32) → ((pre_X6_opens  I) ∧ (∀ r3 : Int32, (post_X6_opens  I r3) → (((r3 = 0) → (v_X6_countNow_95 x1 I Q  (0 : Int32))) ∧ ((¬ (r3 = 0)) → (v_X6_countNow_95 x1 I Q  (1 : Int32))))))) ∧ (x1 = (5 : Int32) → ((pre_X6_right  I) ∧ (∀ r4 : Int32, (post_X6_right  I r4) → (Q r4)))) ∧ (x1 = (6 : Int32) → ((pre_X6_stuckPlaces  I) ∧ (∀ r5 : Int32, (post_X6_stuckPlaces  I r5) → (Q r5)))) ∧ (x1 = (7 : Int32) → ((pre_X6_stuckKeys  I) ∧ (∀ r6 : Int32, (post_X6_stuckKeys  I r6) → (Q r6)))) ∧ (x1 = (8 : Int32) → (vp_in (35 : Int32) 49 ∧ (Q (I 112 ((35 : Int32)).toNatClampNeg)))) ∧ ((¬ x1 = (0 : Int32) ∧ ¬ x1 = (1 : Int32) ∧ ¬ x1 = (2 : Int32) ∧ ¬ x1 = (3 : Int32) ∧ ¬ x1 = (4 : Int32) ∧ ¬ x1 = (5 : Int32) ∧ ¬ x1 = (6 : Int32) ∧ ¬ x1 = (7 : Int32) ∧ ¬ x1 = (8 : Int32)) → (Q (I 111 4)))
theorem vc_X6_countNow (x1 : Int32)  (I : wI) (hp : pre_X6_countNow x1 I) : v_X6_countNow x1 I (post_X6_countNow x1 I) := sorry
def v_X6_count_35 (x1 : Int32) (Q : Int32 → wI → Prop) (t0 : Int32) (I : wI) : Prop :=
  Q t0 I
def v_X6_count_16 (x1 : Int32) (Q : Int32 → wI → Prop) (t0 : Int32) (I : wI) : Prop :=
  ∀ I1 : wI, I1 = wU I 111 0 t0 → ((((I1 111 0) ≤ 0) → ((pre_X6_countNow x1 I1) ∧ (∀ r2 : Int32, (post_X6_countNow x1 I1 r2) → (v_X6_count_35 x1 Q  r2 I1)))) ∧ ((¬ ((I1 111 0) ≤ 0)) → (v_X6_count_35 x1 Q  (0 : Int32) I1)))
def v_X6_count (x1 : Int32) (I : wI) (Q : Int32 → wI → Prop) : Prop :=
  (pre_X6_in x1 (0 : Int32) (9 : Int32) I) ∧ (∀ r1 : Int32, (post_X6_in x1 (0 : Int32) (9 : Int32) I r1) → (((r1 = 0) → (v_X6_count_16 x1 Q  (1 : Int32) I)) ∧ ((¬ (r1 = 0)) → (v_X6_count_16 x1 Q  (0 : Int32) I))))
theorem vc_X6_count (x1 : Int32)  (I : wI) (hp : pre_X6_count x1 I) : v_X6_count x1 I (post_X6_count x1 I) := sorry
def g_X6_power_4 (x0 : Int32) (I : wI) (Q : Int32 → Prop) (K4 : Int32 → Int32 → Prop) (v1 : Int32) (v2 : Int32) : Prop :=
  ((x0 ≤ v2) → (Q v1)) ∧ ((¬ (x0 ≤ v2)) → (K4 (v1 * (10 : Int32)) (v2 + (1 : Int32))))
def v_X6_power_4 (x0 : Int32) (I : wI) (Q : Int32 → Prop) : Nat → Int32 → Int32 → Prop
  | 0 => fun _ _ => False
  | f + 1 => g_X6_power_4 x0 I Q (v_X6_power_4 x0 I Q f)
def v_X6_power (x0 : Int32) (I : wI) (Q : Int32 → Prop) : Prop :=
  ∃ f : Nat, v_X6_power_4 x0 I Q  f (1 : Int32) (0 : Int32)
theorem vc_X6_power (x0 : Int32)  (I : wI) (hp : pre_X6_power x0 I) : v_X6_power x0 I (post_X6_power x0 I) := sorry
def v_X6_opensBy_86 (x1 : Int32) (x2 : Int32) (Q : Int32 → wI → Prop) (t0 : Int32) (I : wI) : Prop :=
  (pre_X6_putBack  I) ∧ (∀ I1 : wI, (post_X6_putBack  I I1) → ((t0 = 0 ∨ t0 = 1) ∧ Q t0 I1))
def v_X6_opensBy_85 (x1 : Int32) (x2 : Int32) (Q : Int32 → wI → Prop)  (I : wI) : Prop :=
  v_X6_opensBy_86 x1 x2 Q  (0 : Int32) I
def v_X6_opensBy_55 (x1 : Int32) (x2 : Int32) (Q : Int32 → wI → Prop) (K12 : Int32 → Int32 → Int32 → wI → Prop) (v3 : Int32) (v5 : Int32) (v6 : Int32) (t0 : Int32) (I : wI) : Prop :=
  (pre_X6_doTurn v6 I) ∧ (∀ I1 : wI, (post_X6_doTurn v6 I I1) → (K12 v3 t0 (v5 + (1 : Int32)) I1))
def v_X6_opensBy_54 (x1 : Int32) (x2 : Int32) (Q : Int32 → wI → Prop) (K12 : Int32 → Int32 → Int32 → wI → Prop) (v3 : Int32) (v5 : Int32) (v6 : Int32) (I : wI) : Prop :=
  v_X6_opensBy_55 x1 x2 Q K12 v3 v5 v6 (0 : Int32) I
def g_X6_opensBy_12 (x1 : Int32) (x2 : Int32) (Q : Int32 → wI → Prop) (K12 : Int32 → Int32 → Int32 → wI → Prop) (v3 : Int32) (v4 : Int32) (v5 : Int32) (I : wI) : Prop :=
  ((x2 ≤ v5) → (((v4 = 0) → (v_X6_opensBy_85 x1 x2 Q   I)) ∧ ((¬ (v4 = 0)) → ((pre_X6_opens  I) ∧ (∀ r1 : Int32, (post_X6_opens  I r1) → (((r1 = 0) → (v_X6_opensBy_85 x1 x2 Q   I)) ∧ ((¬ (r1 = 0)) → (v_X6_opensBy_86 x1 x2 Q  (1 : Int32) I)))))))) ∧ ((¬ (x2 ≤ v5)) → ((pre_X6_power ((x2 - (1 : Int32)) - v5) I) ∧ (∀ r2 : Int32, (post_X6_power ((x2 - (1 : Int32)) - v5) I r2) → ((¬ r2 = 0) ∧ (((v4 = 0) → (v_X6_opensBy_54 x1 x2 Q K12 v3 v5 ((v3 / r2) - (v3 / r2) / (10 : Int32) * (10 : Int32)) I)) ∧ ((¬ (v4 = 0)) → ((pre_X6_isStuck (((v3 / r2) - (v3 / r2) / (10 : Int32) * (10 : Int32)) - ((v3 / r2) - (v3 / r2) / (10 : Int32) * (10 : Int32)) / (5 : Int32) * (5 : Int32)) I) ∧ (∀ r3 : Int32, (post_X6_isStuck (((v3 / r2) - (v3 / r2) / (10 : Int32) * (10 : Int32)) - ((v3 / r2) - (v3 / r2) / (10 : Int32) * (10 : Int32)) / (5 : Int32) * (5 : Int32)) I r3) → (((¬ r3 = 0) → (v_X6_opensBy_54 x1 x2 Q K12 v3 v5 ((v3 / r2) - (v3 / r2) / (10 : Int32) * (10 : Int32)) I)) ∧ ((r3 = 0) → (v_X6_opensBy_55 x1 x2 Q K12 v3 v5 ((v3 / r2) - (v3 / r2) / (10 : Int32) * (10 : Int32)) (1 : Int32) I)))))))))))
def v_X6_opensBy_12 (x1 : Int32) (x2 : Int32) (Q : Int32 → wI → Prop) : Nat → Int32 → Int32 → Int32 → wI → Prop
  | 0 => fun _ _ _ _ => False
  | f + 1 => g_X6_opensBy_12 x1 x2 Q (v_X6_opensBy_12 x1 x2 Q f)
def v_X6_opensBy (x1 : Int32) (x2 : Int32) (I : wI) (Q : Int32 → wI → Prop) : Prop :=
  (pre_X6_putAside  I) ∧ (∀ I1 : wI, (post_X6_putAside  I I1) → (∃ f : Nat, v_X6_opensBy_12 x1 x2 Q  f x1 (1 : Int32) (0 : Int32) I1))
theorem vc_X6_opensBy (x1 : Int32) (x2 : Int32)  (I : wI) (hp : pre_X6_opensBy x1 x2 I) : v_X6_opensBy x1 x2 I (post_X6_opensBy x1 x2 I) := sorry
def v_X6_findOpen_71 (x1 : Int32) (Q : Int32 → wI → Prop) (t0 : Int32) (I : wI) : Prop :=
  Q t0 I
def g_X6_findOpen_38 (x1 : Int32) (Q : Int32 → wI → Prop) (K31 : Int32 → wI → Prop) (K38 : Int32 → Int32 → wI → Prop) (v2 : Int32) (v3 : Int32) (I : wI) : Prop :=
  (pre_X6_power v2 I) ∧ (∀ r1 : Int32, (post_X6_power v2 I r1) → (((r1 ≤ v3) → (K31 (v2 + (1 : Int32)) I)) ∧ ((¬ (r1 ≤ v3)) → ((pre_X6_opensBy v3 v2 I) ∧ (∀ r2 : Int32, ∀ I3 : wI, (post_X6_opensBy v3 v2 I r2 I3) → (((r2 = 0) → (K38 v2 (v3 + (1 : Int32)) I3)) ∧ ((¬ (r2 = 0)) → (((¬ x1 = 0) → ((pre_X6_power (v2 - (1 : Int32)) I3) ∧ (∀ r4 : Int32, (post_X6_power (v2 - (1 : Int32)) I3 r4) → ((¬ r4 = 0) ∧ (v_X6_findOpen_71 x1 Q  (v3 / r4) I3))))) ∧ ((x1 = 0) → (v_X6_findOpen_71 x1 Q  v2 I3))))))))))
def v_X6_findOpen_38 (x1 : Int32) (Q : Int32 → wI → Prop) (K31 : Int32 → wI → Prop) : Nat → Int32 → Int32 → wI → Prop
  | 0 => fun _ _ _ => False
  | f + 1 => g_X6_findOpen_38 x1 Q K31 (v_X6_findOpen_38 x1 Q K31 f)
def g_X6_findOpen_31 (x1 : Int32) (Q : Int32 → wI → Prop) (K31 : Int32 → wI → Prop) (v2 : Int32) (I : wI) : Prop :=
  (((4 : Int32) < v2) → (Q (-1 : Int32) I)) ∧ ((¬ ((4 : Int32) < v2)) → (∃ f : Nat, v_X6_findOpen_38 x1 Q K31 f v2 (0 : Int32) I))
def v_X6_findOpen_31 (x1 : Int32) (Q : Int32 → wI → Prop) : Nat → Int32 → wI → Prop
  | 0 => fun _ _ => False
  | f + 1 => g_X6_findOpen_31 x1 Q (v_X6_findOpen_31 x1 Q f)
def v_X6_findOpen_28 (x1 : Int32) (Q : Int32 → wI → Prop) (t0 : Int32) (I : wI) : Prop :=
  Q t0 I
def v_X6_findOpen (x1 : Int32) (I : wI) (Q : Int32 → wI → Prop) : Prop :=
  vp_in (36 : Int32) 49 ∧ (((¬ (I 112 ((36 : Int32)).toNatClampNeg) = 0) → ((pre_X6_opens  I) ∧ (∀ r1 : Int32, (post_X6_opens  I r1) → (((r1 = 0) → (∃ f : Nat, v_X6_findOpen_31 x1 Q  f (1 : Int32) I)) ∧ ((¬ (r1 = 0)) → (((¬ x1 = 0) → (v_X6_findOpen_28 x1 Q  (-1 : Int32) I)) ∧ ((x1 = 0) → (v_X6_findOpen_28 x1 Q  (0 : Int32) I)))))))) ∧ (((I 112 ((36 : Int32)).toNatClampNeg) = 0) → (Q (-1 : Int32) I)))
theorem vc_X6_findOpen (x1 : Int32)  (I : wI) (hp : pre_X6_findOpen x1 I) : v_X6_findOpen x1 I (post_X6_findOpen x1 I) := sorry
def v_X6_openIn_34 (x1 : Int32) (Q : Int32 → wI → Prop) (t0 : Int32) (I : wI) : Prop :=
  Q t0 I
def v_X6_openIn_15 (x1 : Int32) (Q : Int32 → wI → Prop) (t0 : Int32) (I : wI) : Prop :=
  ∀ I1 : wI, I1 = wU I 111 0 t0 → ((((I1 111 0) ≤ 0) → ((pre_X6_findOpen x1 I1) ∧ (∀ r2 : Int32, ∀ I3 : wI, (post_X6_findOpen x1 I1 r2 I3) → (v_X6_openIn_34 x1 Q  r2 I3)))) ∧ ((¬ ((I1 111 0) ≤ 0)) → (v_X6_openIn_34 x1 Q  (0 : Int32) I1)))
def v_X6_openIn (x1 : Int32) (I : wI) (Q : Int32 → wI → Prop) : Prop :=
  (pre_X6_in x1 (0 : Int32) (1 : Int32) I) ∧ (∀ r1 : Int32, (post_X6_in x1 (0 : Int32) (1 : Int32) I r1) → (((r1 = 0) → (v_X6_openIn_15 x1 Q  (1 : Int32) I)) ∧ ((¬ (r1 = 0)) → (v_X6_openIn_15 x1 Q  (0 : Int32) I))))
theorem vc_X6_openIn (x1 : Int32)  (I : wI) (hp : pre_X6_openIn x1 I) : v_X6_openIn x1 I (post_X6_openIn x1 I) := sorry
def v_X6_rightIf (x1 : Int32) (x2 : Int32) (I : wI) (Q : Int32 → wI → Prop) : Prop :=
  (pre_X6_putAside  I) ∧ (∀ I1 : wI, (post_X6_putAside  I I1) → ((pre_X6_doTurn (((5 : Int32) * x2) + x1) I1) ∧ (∀ I2 : wI, (post_X6_doTurn (((5 : Int32) * x2) + x1) I1 I2) → ((pre_X6_right  I2) ∧ (∀ r3 : Int32, (post_X6_right  I2 r3) → ((pre_X6_putBack  I2) ∧ (∀ I4 : wI, (post_X6_putBack  I2 I4) → (Q r3 I4))))))))
theorem vc_X6_rightIf (x1 : Int32) (x2 : Int32)  (I : wI) (hp : pre_X6_rightIf x1 x2 I) : v_X6_rightIf x1 x2 I (post_X6_rightIf x1 x2 I) := sorry
def v_X6_ifTurned_46 (x1 : Int32) (x2 : Int32) (Q : Int32 → wI → Prop) (t0 : Int32) (I : wI) : Prop :=
  Q t0 I
def v_X6_ifTurned_26 (x1 : Int32) (x2 : Int32) (Q : Int32 → wI → Prop) (t0 : Int32) (I : wI) : Prop :=
  ∀ I1 : wI, I1 = wU I 111 0 t0 → ((((I1 111 0) ≤ 0) → ((pre_X6_rightIf x1 x2 I1) ∧ (∀ r2 : Int32, ∀ I3 : wI, (post_X6_rightIf x1 x2 I1 r2 I3) → (v_X6_ifTurned_46 x1 x2 Q  r2 I3)))) ∧ ((¬ ((I1 111 0) ≤ 0)) → (v_X6_ifTurned_46 x1 x2 Q  (0 : Int32) I1)))
def v_X6_ifTurned (x1 : Int32) (x2 : Int32) (I : wI) (Q : Int32 → wI → Prop) : Prop :=
  (pre_X6_isKey x1 I) ∧ (∀ r1 : Int32, (post_X6_isKey x1 I r1) → (((¬ r1 = 0) → ((pre_X6_in x2 (0 : Int32) (1 : Int32) I) ∧ (∀ r2 : Int32, (post_X6_in x2 (0 : Int32) (1 : Int32) I r2) → (((r2 = 0) → (v_X6_ifTurned_26 x1 x2 Q  (2 : Int32) I)) ∧ ((¬ (r2 = 0)) → (v_X6_ifTurned_26 x1 x2 Q  (0 : Int32) I)))))) ∧ ((r1 = 0) → (v_X6_ifTurned_26 x1 x2 Q  (1 : Int32) I))))
theorem vc_X6_ifTurned (x1 : Int32) (x2 : Int32)  (I : wI) (hp : pre_X6_ifTurned x1 x2 I) : v_X6_ifTurned x1 x2 I (post_X6_ifTurned x1 x2 I) := sorry
def v_X6_findClosest_49  (Q : Int32 → wI → Prop) (K7 : Int32 → Int32 → Int32 → wI → Prop) (K17 : Int32 → Int32 → Int32 → Int32 → wI → Prop) (v1 : Int32) (v2 : Int32) (v3 : Int32) (v4 : Int32) (I : wI) : Prop :=
  K17 v1 v2 v3 (v4 + (1 : Int32)) I
def g_X6_findClosest_17  (Q : Int32 → wI → Prop) (K7 : Int32 → Int32 → Int32 → wI → Prop) (K17 : Int32 → Int32 → Int32 → Int32 → wI → Prop) (v1 : Int32) (v2 : Int32) (v3 : Int32) (v4 : Int32) (I : wI) : Prop :=
  (((5 : Int32) ≤ v4) → (K7 v1 v2 (v3 + (1 : Int32)) I)) ∧ ((¬ ((5 : Int32) ≤ v4)) → ((pre_X6_pairNow v3 v4 (1 : Int32) I) ∧ (∀ r1 : Int32, ∀ I2 : wI, (post_X6_pairNow v3 v4 (1 : Int32) I r1 I2) → (((v2 ≤ r1) → (v_X6_findClosest_49  Q K7 K17 v1 v2 v3 v4 I2)) ∧ ((¬ (v2 ≤ r1)) → (v_X6_findClosest_49  Q K7 K17 (((5 : Int32) * v3) + v4) r1 v3 v4 I2))))))
def v_X6_findClosest_17  (Q : Int32 → wI → Prop) (K7 : Int32 → Int32 → Int32 → wI → Prop) : Nat → Int32 → Int32 → Int32 → Int32 → wI → Prop
  | 0 => fun _ _ _ _ _ => False
  | f + 1 => g_X6_findClosest_17 Q K7 (v_X6_findClosest_17 Q K7 f)
def g_X6_findClosest_7  (Q : Int32 → wI → Prop) (K7 : Int32 → Int32 → Int32 → wI → Prop) (v1 : Int32) (v2 : Int32) (v3 : Int32) (I : wI) : Prop :=
  (((5 : Int32) ≤ v3) → (Q v1 I)) ∧ ((¬ ((5 : Int32) ≤ v3)) → (∃ f : Nat, v_X6_findClosest_17  Q K7 f v1 v2 v3 (v3 + (1 : Int32)) I))
def v_X6_findClosest_7  (Q : Int32 → wI → Prop) : Nat → Int32 → Int32 → Int32 → wI → Prop
  | 0 => fun _ _ _ _ => False
  | f + 1 => g_X6_findClosest_7 Q (v_X6_findClosest_7 Q f)
def v_X6_findClosest  (I : wI) (Q : Int32 → wI → Prop) : Prop :=
  ∃ f : Nat, v_X6_findClosest_7  Q  f (-1 : Int32) (7 : Int32) (0 : Int32) I
theorem vc_X6_findClosest   (I : wI) (hp : pre_X6_findClosest  I) : v_X6_findClosest  I (post_X6_findClosest  I) := sorry
def v_X6_closest  (I : wI) (Q : Int32 → wI → Prop) : Prop :=
  ∀ I1 : wI, I1 = wU I 111 0 (0 : Int32) → ((pre_X6_findClosest  I1) ∧ (∀ r2 : Int32, ∀ I3 : wI, (post_X6_findClosest  I1 r2 I3) → (Q r2 I3)))
theorem vc_X6_closest   (I : wI) (hp : pre_X6_closest  I) : v_X6_closest  I (post_X6_closest  I) := sorry
def v_X6_openShare  (I : wI) (Q : UInt64 → wI → Prop) : Prop :=
  ∀ I1 : wI, I1 = wU I 111 0 (0 : Int32) → ((pre_X6_right  I1) ∧ (∀ r2 : Int32, (post_X6_right  I1 r2) → (vf_n64 (FP.ddiv (FP.i2d r2) (4618441417868443648 : UInt64)) ∧ (Q (FP.ddiv (FP.i2d r2) (4618441417868443648 : UInt64)) I1))))
theorem vc_X6_openShare   (I : wI) (hp : pre_X6_openShare  I) : v_X6_openShare  I (post_X6_openShare  I) := sorry
def v_X6_meanNotch  (I : wI) (Q : UInt32 → wI → Prop) : Prop :=
  ∀ I1 : wI, I1 = wU I 111 0 (0 : Int32) → ((pre_X6_notches  I1) ∧ (∀ r2 : Int32, (post_X6_notches  I1 r2) → (vf_n32 (FP.fdiv (FP.i2f r2) (1086324736 : UInt32)) ∧ (Q (FP.fdiv (FP.i2f r2) (1086324736 : UInt32)) I1))))
theorem vc_X6_meanNotch   (I : wI) (hp : pre_X6_meanNotch  I) : v_X6_meanNotch  I (post_X6_meanNotch  I) := sorry
def v_J_isNaN_11 (x0 : UInt64) (I : wI) (Q : Int32 → Prop) (t0 : Int32) : Prop :=
  (t0 = 0 ∨ t0 = 1) ∧ Q t0
def v_J_isNaN (x0 : UInt64) (I : wI) (Q : Int32 → Prop) : Prop :=
  (((Op.cmpValue (FP.dcmp x0 x0) CmpOp.l) = 0) → (v_J_isNaN_11 x0 I Q  (0 : Int32))) ∧ ((¬ ((Op.cmpValue (FP.dcmp x0 x0) CmpOp.l) = 0)) → (v_J_isNaN_11 x0 I Q  (1 : Int32)))
theorem vc_J_isNaN (x0 : UInt64)  (I : wI) (hp : pre_J_isNaN x0 I) : v_J_isNaN x0 I (post_J_isNaN x0 I) := sorry
def v_J_doubleToLongBits (x0 : UInt64) (I : wI) (Q : Int64 → Prop) : Prop :=
  (pre_J_isNaN x0 I) ∧ (∀ r1 : Int32, (post_J_isNaN x0 I r1) → (((¬ r1 = 0) → (Q (9221120237041090560 : Int64))) ∧ ((r1 = 0) → (Q (x0).toInt64))))
theorem vc_J_doubleToLongBits (x0 : UInt64)  (I : wI) (hp : pre_J_doubleToLongBits x0 I) : v_J_doubleToLongBits x0 I (post_J_doubleToLongBits x0 I) := sorry
def v_J_isNaNf_11 (x0 : UInt32) (I : wI) (Q : Int32 → Prop) (t0 : Int32) : Prop :=
  (t0 = 0 ∨ t0 = 1) ∧ Q t0
def v_J_isNaNf (x0 : UInt32) (I : wI) (Q : Int32 → Prop) : Prop :=
  (((Op.cmpValue (FP.fcmp x0 x0) CmpOp.l) = 0) → (v_J_isNaNf_11 x0 I Q  (0 : Int32))) ∧ ((¬ ((Op.cmpValue (FP.fcmp x0 x0) CmpOp.l) = 0)) → (v_J_isNaNf_11 x0 I Q  (1 : Int32)))
theorem vc_J_isNaNf (x0 : UInt32)  (I : wI) (hp : pre_J_isNaNf x0 I) : v_J_isNaNf x0 I (post_J_isNaNf x0 I) := sorry
def v_J_floatToIntBits (x0 : UInt32) (I : wI) (Q : Int32 → Prop) : Prop :=
  (pre_J_isNaNf x0 I) ∧ (∀ r1 : Int32, (post_J_isNaNf x0 I r1) → (((¬ r1 = 0) → (Q (2143289344 : Int32))) ∧ ((r1 = 0) → (Q (x0).toInt32))))
theorem vc_J_floatToIntBits (x0 : UInt32)  (I : wI) (hp : pre_J_floatToIntBits x0 I) : v_J_floatToIntBits x0 I (post_J_floatToIntBits x0 I) := sorry
def g_X6_digest_294  (Q : Int64 → wI → Prop) (K294 : Int64 → Int32 → wI → Prop) (v1 : Int64) (v3 : Int32) (I : wI) : Prop :=
  (((I 111 8) ≤ v3) → (Q v1 I)) ∧ ((¬ ((I 111 8) ≤ v3)) → (vp_in v3 60 ∧ (K294 (((31 : Int64) * v1) + ((I 116 (v3).toNatClampNeg)).toInt64) (v3 + (1 : Int32)) I)))
def v_X6_digest_294  (Q : Int64 → wI → Prop) : Nat → Int64 → Int32 → wI → Prop
  | 0 => fun _ _ _ => False
  | f + 1 => g_X6_digest_294 Q (v_X6_digest_294 Q f)
def v_X6_digest_277  (Q : Int64 → wI → Prop) (t0 : Int32) (t1 : Int64) (I : wI) : Prop :=
  ∃ f : Nat, v_X6_digest_294  Q  f (((31 : Int64) * (t1 + (t0).toInt64)) + ((I 111 8)).toInt64) (0 : Int32) I
def g_X6_digest_152  (Q : Int64 → wI → Prop) (K152 : Int64 → Int32 → wI → Prop) (v1 : Int64) (v3 : Int32) (I : wI) : Prop :=
  (((125 : Int32) ≤ v3) → ((pre_X6_findOpen (0 : Int32) I) ∧ (∀ r1 : Int32, ∀ I2 : wI, (post_X6_findOpen (0 : Int32) I r1 I2) → ((pre_X6_findOpen (1 : Int32) I2) ∧ (∀ r3 : Int32, ∀ I4 : wI, (post_X6_findOpen (1 : Int32) I2 r3 I4) → ((pre_X6_findClosest  I4) ∧ (∀ r5 : Int32, ∀ I6 : wI, (post_X6_findClosest  I4 r5 I6) → ((pre_X6_right  I6) ∧ (∀ r7 : Int32, (post_X6_right  I6 r7) → (vf_n64 (FP.ddiv (FP.i2d r7) (4618441417868443648 : UInt64)) ∧ ((pre_J_doubleToLongBits (FP.ddiv (FP.i2d r7) (4618441417868443648 : UInt64)) I6) ∧ (∀ r8 : Int64, (post_J_doubleToLongBits (FP.ddiv (FP.i2d r7) (4618441417868443648 : UInt64)) I6 r8) → ((pre_X6_notches  I6) ∧ (∀ r9 : Int32, (post_X6_notches  I6 r9) → (vf_n32 (FP.fdiv (FP.i2f r9) (1086324736 : UInt32)) ∧ ((pre_J_floatToIntBits (FP.fdiv (FP.i2f r9) (1086324736 : UInt32)) I6) ∧ (∀ r10 : Int32, (post_J_floatToIntBits (FP.fdiv (FP.i2f r9) (1086324736 : UInt32)) I6 r10) → ((((I6 111 6) = 0) → (v_X6_digest_277  Q  (0 : Int32) ((31 : Int64) * (((31 : Int64) * (((31 : Int64) * (((31 : Int64) * (((31 : Int64) * (((31 : Int64) * v1) + (r1).toInt64)) + (r3).toInt64)) + (r5).toInt64)) + r8)) + (r10).toInt64)) I6)) ∧ ((¬ ((I6 111 6) = 0)) → (v_X6_digest_277  Q  (1 : Int32) ((31 : Int64) * (((31 : Int64) * (((31 : Int64) * (((31 : Int64) * (((31 : Int64) * (((31 : Int64) * v1) + (r1).toInt64)) + (r3).toInt64)) + (r5).toInt64)) + r8)) + (r10).toInt64)) I6)))))))))))))))))))) ∧ ((¬ ((125 : Int32) ≤ v3)) → ((pre_X6_pairNow (v3 / (25 : Int32)) ((v3 / (5 : Int32)) - (v3 / (5 : Int32)) / (5 : Int32) * (5 : Int32)) (v3 - v3 / (5 : Int32) * (5 : Int32)) I) ∧ (∀ r11 : Int32, ∀ I12 : wI, (post_X6_pairNow (v3 / (25 : Int32)) ((v3 / (5 : Int32)) - (v3 / (5 : Int32)) / (5 : Int32) * (5 : Int32)) (v3 - v3 / (5 : Int32) * (5 : Int32)) I r11 I12) → (K152 (((31 : Int64) * v1) + (r11).toInt64) (v3 + (1 : Int32)) I12))))
def v_X6_digest_152  (Q : Int64 → wI → Prop) : Nat → Int64 → Int32 → wI → Prop
  | 0 => fun _ _ _ => False
  | f + 1 => g_X6_digest_152 Q (v_X6_digest_152 Q f)
def g_X6_digest_90  (Q : Int64 → wI → Prop) (K82 : Int64 → Int32 → wI → Prop) (K90 : Int64 → Int32 → Int32 → wI → Prop) (v1 : Int64) (v3 : Int32) (v4 : Int32) (I : wI) : Prop :=
  (((6 : Int32) ≤ v4) → ((pre_X6_rightIf v3 (0 : Int32) I) ∧ (∀ r1 : Int32, ∀ I2 : wI, (post_X6_rightIf v3 (0 : Int32) I r1 I2) → ((pre_X6_rightIf v3 (1 : Int32) I2) ∧ (∀ r3 : Int32, ∀ I4 : wI, (post_X6_rightIf v3 (1 : Int32) I2 r3 I4) → (K82 (((31 : Int64) * (((31 : Int64) * v1) + (r1).toInt64)) + (r3).toInt64) (v3 + (1 : Int32)) I4)))))) ∧ ((¬ ((6 : Int32) ≤ v4)) → ((pre_X6_keyNow v3 v4 I) ∧ (∀ r5 : Int32, ∀ I6 : wI, (post_X6_keyNow v3 v4 I r5 I6) → (K90 (((31 : Int64) * v1) + (r5).toInt64) v3 (v4 + (1 : Int32)) I6))))
def v_X6_digest_90  (Q : Int64 → wI → Prop) (K82 : Int64 → Int32 → wI → Prop) : Nat → Int64 → Int32 → Int32 → wI → Prop
  | 0 => fun _ _ _ _ => False
  | f + 1 => g_X6_digest_90 Q K82 (v_X6_digest_90 Q K82 f)
def g_X6_digest_82  (Q : Int64 → wI → Prop) (K82 : Int64 → Int32 → wI → Prop) (v1 : Int64) (v3 : Int32) (I : wI) : Prop :=
  (((5 : Int32) ≤ v3) → (∃ f : Nat, v_X6_digest_152  Q  f v1 (0 : Int32) I)) ∧ ((¬ ((5 : Int32) ≤ v3)) → (∃ f : Nat, v_X6_digest_90  Q K82 f v1 v3 (0 : Int32) I))
def v_X6_digest_82  (Q : Int64 → wI → Prop) : Nat → Int64 → Int32 → wI → Prop
  | 0 => fun _ _ _ => False
  | f + 1 => g_X6_digest_82 Q (v_X6_digest_82 Q f)
def g_X6_digest_47  (Q : Int64 → wI → Prop) (K38 : Int64 → Int32 → wI → Prop) (K47 : Int64 → Int32 → Int32 → wI → Prop) (v1 : Int64) (v3 : Int32) (v4 : Int32) (I : wI) : Prop :=
  (((5 : Int32) ≤ v4) → (K38 v1 (v3 + (1 : Int32)) I)) ∧ ((¬ ((5 : Int32) ≤ v4)) → ((pre_X6_atNow v3 v4 I) ∧ (∀ r1 : Int32, (post_X6_atNow v3 v4 I r1) → (K47 (((31 : Int64) * v1) + (r1).toInt64) v3 (v4 + (1 : Int32)) I))))
def v_X6_digest_47  (Q : Int64 → wI → Prop) (K38 : Int64 → Int32 → wI → Prop) : Nat → Int64 → Int32 → Int32 → wI → Prop
  | 0 => fun _ _ _ _ => False
  | f + 1 => g_X6_digest_47 Q K38 (v_X6_digest_47 Q K38 f)
def g_X6_digest_38  (Q : Int64 → wI → Prop) (K38 : Int64 → Int32 → wI → Prop) (v1 : Int64) (v3 : Int32) (I : wI) : Prop :=
  (((6 : Int32) ≤ v3) → (∃ f : Nat, v_X6_digest_82  Q  f v1 (0 : Int32) I)) ∧ ((¬ ((6 : Int32) ≤ v3)) → (∃ f : Nat, v_X6_digest_47  Q K38 f v1 v3 (0 : Int32) I))
def v_X6_digest_38  (Q : Int64 → wI → Prop) : Nat → Int64 → Int32 → wI → Prop
  | 0 => fun _ _ _ => False
  | f + 1 => g_X6_digest_38 Q (v_X6_digest_38 Q f)
def g_X6_digest_11  (Q : Int64 → wI → Prop) (K11 : Int64 → Int32 → wI → Prop) (v1 : Int64) (v3 : Int32) (I : wI) : Prop :=
  (((10 : Int32) ≤ v3) → (∃ f : Nat, v_X6_digest_38  Q  f v1 (0 : Int32) I)) ∧ ((¬ ((10 : Int32) ≤ v3)) → ((pre_X6_countNow v3 I) ∧ (∀ r1 : Int32, (post_X6_countNow v3 I r1) → (K11 (((31 : Int64) * v1) + (r1).toInt64) (v3 + (1 : Int32)) I))))
def v_X6_digest_11  (Q : Int64 → wI → Prop) : Nat → Int64 → Int32 → wI → Prop
  | 0 => fun _ _ _ => False
  | f + 1 => g_X6_digest_11 Q (v_X6_digest_11 Q f)
def v_X6_digest  (I : wI) (Q : Int64 → wI → Prop) : Prop :=
  ∀ I1 : wI, I1 = wU I 111 0 (0 : Int32) → (∃ f : Nat, v_X6_digest_11  Q  f (3769 : Int64) (0 : Int32) I1)
theorem vc_X6_digest   (I : wI) (hp : pre_X6_digest  I) : v_X6_digest  I (post_X6_digest  I) := sorry
