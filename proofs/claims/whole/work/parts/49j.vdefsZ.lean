def v_X6_addTurn_45 (x1 : Int32) (Q : wI → Prop) (t0 : Int32) (t1 : Int32) (I : wI) : Prop :=
  ∀ I1 : wI, I1 = wU I 111 12 (t1 + t0) → (Q I1)
def v_X6_addTurn_20 (x1 : Int32) (Q : wI → Prop)  (I : wI) : Prop :=
  ∀ I1 : wI, I1 = wU I 111 11 ((I 111 11) + (1 : Int32)) → ((((5 : Int32) ≤ x1) → (v_X6_addTurn_45 x1 Q  (-1 : Int32) (I1 111 12) I1)) ∧ ((¬ ((5 : Int32) ≤ x1)) → (v_X6_addTurn_45 x1 Q  (1 : Int32) (I1 111 12) I1)))
def v_X6_addTurn (x1 : Int32) (I : wI) (Q : wI → Prop) : Prop :=
  (((500 : Int32) ≤ (I 111 11)) → (v_X6_addTurn_20 x1 Q   I)) ∧ ((¬ ((500 : Int32) ≤ (I 111 11))) → (vp_in (I 111 11) 500 ∧ ∀ I1 : wI, I1 = wU I 118 ((I 111 11)).toNatClampNeg x1 → (v_X6_addTurn_20 x1 Q   I1)))
def v_X6_addAgain_69 (x1 : Int32) (x2 : Int32) (x3 : Int32) (Q : wI → Prop)  (I : wI) : Prop :=
  Q I
def v_X6_addAgain_60 (x1 : Int32) (x2 : Int32) (x3 : Int32) (Q : wI → Prop) (K3 : Int32 → wI → Prop) (v4 : Int32) (t0 : Int32) (I : wI) : Prop :=
  (pre_X6_addTurn t0 I) ∧ (∀ I1 : wI, (post_X6_addTurn t0 I I1) → (K3 (v4 + (1 : Int32)) I1))
def v_X6_addAgain_40 (x1 : Int32) (x2 : Int32) (x3 : Int32) (Q : wI → Prop) (K3 : Int32 → wI → Prop) (v4 : Int32) (t0 : Int32) (I : wI) : Prop :=
  vp_in t0 500 ∧ (((x3 = 0) → (v_X6_addAgain_60 x1 x2 x3 Q K3 v4 (I 118 (t0).toNatClampNeg) I)) ∧ ((¬ (x3 = 0)) → (v_X6_addAgain_60 x1 x2 x3 Q K3 v4 (((I 118 (t0).toNatClampNeg) + (5 : Int32)) - ((I 118 (t0).toNatClampNeg) + (5 : Int32)) / (10 : Int32) * (10 : Int32)) I)))
def g_X6_addAgain_3 (x1 : Int32) (x2 : Int32) (x3 : Int32) (Q : wI → Prop) (K3 : Int32 → wI → Prop) (v4 : Int32) (I : wI) : Prop :=
  ((x2 ≤ v4) → (v_X6_addAgain_69 x1 x2 x3 Q   I)) ∧ ((¬ (x2 ≤ v4)) → ((((500 : Int32) < (I 111 11)) → (v_X6_addAgain_69 x1 x2 x3 Q   I)) ∧ ((¬ ((500 : Int32) < (I 111 11))) → (((x3 = 0) → (v_X6_addAgain_40 x1 x2 x3 Q K3 v4 v4 I)) ∧ ((¬ (x3 = 0)) → (v_X6_addAgain_40 x1 x2 x3 Q K3 v4 (((x1 + x2) - (1 : Int32)) - v4) I))))))
def v_X6_addAgain_3 (x1 : Int32) (x2 : Int32) (x3 : Int32) (Q : wI → Prop) : Nat → Int32 → wI → Prop
  | 0 => fun _ _ => False
  | f + 1 => g_X6_addAgain_3 x1 x2 x3 Q (v_X6_addAgain_3 x1 x2 x3 Q f)
def v_X6_addAgain (x1 : Int32) (x2 : Int32) (x3 : Int32) (I : wI) (Q : wI → Prop) : Prop :=
  ∃ f : Nat, v_X6_addAgain_3 x1 x2 x3 Q  f x1 I
def v_X6_readWord_261  (Q : Int32 → wI → Prop) (K17 : Int32 → wI → Prop) (v1 : Int32) (I : wI) : Prop :=
  (((I 111 11) ≤ (500 : Int32)) → (K17 (v1 + (1 : Int32)) I)) ∧ ((¬ ((I 111 11) ≤ (500 : Int32))) → (Q (501 : Int32) I))
def v_X6_readWord_258  (Q : Int32 → wI → Prop) (K17 : Int32 → wI → Prop) (v1 : Int32) (t0 : Int32) (I : wI) : Prop :=
  (pre_X6_addTurn t0 I) ∧ (∀ I1 : wI, (post_X6_addTurn t0 I I1) → (v_X6_readWord_261  Q K17 v1 I1))
def v_X6_readWord_165  (Q : Int32 → wI → Prop) (K17 : Int32 → wI → Prop) (v1 : Int32) (I : wI) : Prop :=
  v_X6_readWord_261  Q K17 (v1 + (1 : Int32)) I
def g_X6_readWord_128  (Q : Int32 → wI → Prop) (K17 : Int32 → wI → Prop) (K128 : Int32 → Int32 → Int32 → wI → Prop) (v1 : Int32) (v3 : Int32) (v4 : Int32) (I : wI) : Prop :=
  ((v4 ≤ (1 : Int32)) → (v_X6_readWord_165  Q K17 v1 I)) ∧ ((¬ (v4 ≤ (1 : Int32))) → ((((500 : Int32) < (I 111 11)) → (v_X6_readWord_165  Q K17 v1 I)) ∧ ((¬ ((500 : Int32) < (I 111 11))) → (vp_in (I 111 18) 4 ∧ ((pre_X6_addAgain (I 120 ((I 111 18)).toNatClampNeg) v3 (0 : Int32) I) ∧ (∀ I1 : wI, (post_X6_addAgain (I 120 ((I 111 18)).toNatClampNeg) v3 (0 : Int32) I I1) → (K128 v1 v3 (v4 + (-1 : Int32)) I1)))))))
def v_X6_readWord_128  (Q : Int32 → wI → Prop) (K17 : Int32 → wI → Prop) : Nat → Int32 → Int32 → Int32 → wI → Prop
  | 0 => fun _ _ _ _ => False
  | f + 1 => g_X6_readWord_128 Q K17 (v_X6_readWord_128 Q K17 f)
def v_X6_readWord_44  (Q : Int32 → wI → Prop) (K17 : Int32 → wI → Prop) (v1 : Int32) (I : wI) : Prop :=
  vp_in (I 111 18) 4 ∧ ∀ I1 : wI, I1 = wU I 120 ((I 111 18)).toNatClampNeg (I 111 11) → (∀ I2 : wI, I2 = wU I1 111 18 ((I1 111 18) + (1 : Int32)) → (v_X6_readWord_261  Q K17 v1 I2))
def g_X6_readWord_17  (Q : Int32 → wI → Prop) (K17 : Int32 → wI → Prop) (v1 : Int32) (I : wI) : Prop :=
  (((I 111 8) ≤ v1) → (Q (I 111 11) I)) ∧ ((¬ ((I 111 8) ≤ v1)) → (vp_in v1 60 ∧ ((((I 116 (v1).toNatClampNeg) = (40 : Int32)) → (v_X6_readWord_44  Q K17 v1 I)) ∧ ((¬ ((I 116 (v1).toNatClampNeg) = (40 : Int32))) → (((¬ (I 116 (v1).toNatClampNeg) = (91 : Int32)) → (((¬ (I 116 (v1).toNatClampNeg) = (44 : Int32)) → (((¬ (I 116 (v1).toNatClampNeg) = (41 : Int32)) → (((¬ (I 116 (v1).toNatClampNeg) = (93 : Int32)) → ((pre_X6_in (I 116 (v1).toNatClampNeg) (97 : Int32) (101 : Int32) I) ∧ (∀ r1 : Int32, (post_X6_in (I 116 (v1).toNatClampNeg) (97 : Int32) (101 : Int32) I r1) → (((r1 = 0) → (v_X6_readWord_258  Q K17 v1 (((5 : Int32) + (I 116 (v1).toNatClampNeg)) - (65 : Int32)) I)) ∧ ((¬ (r1 = 0)) → (v_X6_readWord_258  Q K17 v1 ((I 116 (v1).toNatClampNeg) - (97 : Int32)) I)))))) ∧ (((I 116 (v1).toNatClampNeg) = (93 : Int32)) → (∀ I2 : wI, I2 = wU I 111 18 ((I 111 18) - (1 : Int32)) → (vp_in (I2 111 18) 4 ∧ (vp_in (I2 111 18) 4 ∧ ((pre_X6_addAgain (I2 120 ((I2 111 18)).toNatClampNeg) (I2 121 ((I2 111 18)).toNatClampNeg) (1 : Int32) I2) ∧ (∀ I3 : wI, (post_X6_addAgain (I2 120 ((I2 111 18)).toNatClampNeg) (I2 121 ((I2 111 18)).toNatClampNeg) (1 : Int32) I2 I3) → (vp_in (I3 111 18) 4 ∧ ((pre_X6_addAgain (I3 121 ((I3 111 18)).toNatClampNeg) (I2 111 11) (1 : Int32) I3) ∧ (∀ I4 : wI, (post_X6_addAgain (I3 121 ((I3 111 18)).toNatClampNeg) (I2 111 11) (1 : Int32) I3 I4) → (v_X6_readWord_261  Q K17 v1 I4)))))))))))) ∧ (((I 116 (v1).toNatClampNeg) = (41 : Int32)) → (∀ I5 : wI, I5 = wU I 111 18 ((I 111 18) - (1 : Int32)) → (vp_in (v1 + (1 : Int32)) 60 ∧ (∃ f : Nat, v_X6_readWord_128  Q K17 f v1 (I5 111 11) ((I5 116 ((v1 + (1 : Int32))).toNatClampNeg) - (48 : Int32)) I5)))))) ∧ (((I 116 (v1).toNatClampNeg) = (44 : Int32)) → (vp_in ((I 111 18) - (1 : Int32)) 4 ∧ ∀ I6 : wI, I6 = wU I 121 (((I 111 18) - (1 : Int32))).toNatClampNeg (I 111 11) → (v_X6_readWord_261  Q K17 v1 I6))))) ∧ (((I 116 (v1).toNatClampNeg) = (91 : Int32)) → (v_X6_readWord_44  Q K17 v1 I)))))))
def v_X6_readWord_17  (Q : Int32 → wI → Prop) : Nat → Int32 → wI → Prop
  | 0 => fun _ _ => False
  | f + 1 => g_X6_readWord_17 Q (v_X6_readWord_17 Q f)
def v_X6_readWord  (I : wI) (Q : Int32 → wI → Prop) : Prop :=
  ∀ I1 : wI, I1 = wU I 111 11 (0 : Int32) → (∀ I2 : wI, I2 = wU I1 111 12 (0 : Int32) → (∀ I3 : wI, I3 = wU I2 111 18 (0 : Int32) → (∃ f : Nat, v_X6_readWord_17  Q  f (0 : Int32) I3)))
def v_X6_word_84  (Q : Int32 → wI → Prop) (v1 : Int32) (I : wI) : Prop :=
  ∀ I1 : wI, I1 = wU I 111 8 (0 : Int32) → (Q v1 I1)
def g_X6_word_45  (Q : Int32 → wI → Prop) (K45 : Int32 → wI → Prop) (v1 : Int32) (I : wI) : Prop :=
  (((I 111 11) ≤ v1) → (v_X6_word_84  Q  v1 I)) ∧ ((¬ ((I 111 11) ≤ v1)) → (vp_in v1 500 ∧ ((pre_X6_isStuck ((I 118 (v1).toNatClampNeg) - (I 118 (v1).toNatClampNeg) / (5 : Int32) * (5 : Int32)) I) ∧ (∀ r1 : Int32, (post_X6_isStuck ((I 118 (v1).toNatClampNeg) - (I 118 (v1).toNatClampNeg) / (5 : Int32) * (5 : Int32)) I r1) → (((¬ r1 = 0) → (v_X6_word_84  Q  v1 I)) ∧ ((r1 = 0) → (vp_in v1 500 ∧ ((pre_X6_countTurn (I 118 (v1).toNatClampNeg) I) ∧ (∀ I2 : wI, (post_X6_countTurn (I 118 (v1).toNatClampNeg) I I2) → (K45 (v1 + (1 : Int32)) I2))))))))))
def v_X6_word_45  (Q : Int32 → wI → Prop) : Nat → Int32 → wI → Prop
  | 0 => fun _ _ => False
  | f + 1 => g_X6_word_45 Q (v_X6_word_45 Q f)
def v_X6_word_27  (Q : Int32 → wI → Prop) (t0 : Int32) (I : wI) : Prop :=
  ∀ I1 : wI, I1 = wU I 111 0 t0 → ((((I1 111 0) ≤ 0) → ((pre_X6_record  I1) ∧ (∀ I2 : wI, (post_X6_record  I1 I2) → (∃ f : Nat, v_X6_word_45  Q  f (0 : Int32) I2)))) ∧ ((¬ ((I1 111 0) ≤ 0)) → (Q (0 : Int32) I1)))
def v_X6_word  (I : wI) (Q : Int32 → wI → Prop) : Prop :=
  (pre_X6_isWhole  I) ∧ (∀ r1 : Int32, ∀ I2 : wI, (post_X6_isWhole  I r1 I2) → (((¬ r1 = 0) → ((pre_X6_readWord  I2) ∧ (∀ r3 : Int32, ∀ I4 : wI, (post_X6_readWord  I2 r3 I4) → (((r3 ≤ (500 : Int32)) → (v_X6_word_27  Q  (0 : Int32) I4)) ∧ ((¬ (r3 ≤ (500 : Int32))) → (v_X6_word_27  Q  (2 : Int32) I4)))))) ∧ ((r1 = 0) → (v_X6_word_27  Q  (1 : Int32) I2))))
def v_X6_countTurns_206  (Q : Int32 → wI → Prop) (t0 : Int32) (I : wI) : Prop :=
  Q t0 I
def v_X6_countTurns_186  (Q : Int32 → wI → Prop) (K9 : Int32 → Int32 → wI → Prop) (v1 : Int32) (v2 : Int32) (I : wI) : Prop :=
  K9 v1 (v2 + (1 : Int32)) I
def v_X6_countTurns_36  (Q : Int32 → wI → Prop) (K9 : Int32 → Int32 → wI → Prop) (v1 : Int32) (v2 : Int32) (I : wI) : Prop :=
  vp_in (I 111 18) 4 ∧ ∀ I1 : wI, I1 = wU I 122 ((I 111 18)).toNatClampNeg v1 → (vp_in (I1 111 18) 4 ∧ ∀ I2 : wI, I2 = wU I1 123 ((I1 111 18)).toNatClampNeg (0 : Int32) → (∀ I3 : wI, I3 = wU I2 111 18 ((I2 111 18) + (1 : Int32)) → (v_X6_countTurns_186  Q K9 (0 : Int32) v2 I3)))
def g_X6_countTurns_9  (Q : Int32 → wI → Prop) (K9 : Int32 → Int32 → wI → Prop) (v1 : Int32) (v2 : Int32) (I : wI) : Prop :=
  (((I 111 8) ≤ v2) → (((v1 ≤ (9999 : Int32)) → (v_X6_countTurns_206  Q  v1 I)) ∧ ((¬ (v1 ≤ (9999 : Int32))) → (v_X6_countTurns_206  Q  (9999 : Int32) I)))) ∧ ((¬ ((I 111 8) ≤ v2)) → (vp_in v2 60 ∧ ((((I 116 (v2).toNatClampNeg) = (40 : Int32)) → (v_X6_countTurns_36  Q K9 v1 v2 I)) ∧ ((¬ ((I 116 (v2).toNatClampNeg) = (40 : Int32))) → (((¬ (I 116 (v2).toNatClampNeg) = (91 : Int32)) → (((¬ (I 116 (v2).toNatClampNeg) = (41 : Int32)) → (((¬ (I 116 (v2).toNatClampNeg) = (44 : Int32)) → (((¬ (I 116 (v2).toNatClampNeg) = (93 : Int32)) → (v_X6_countTurns_186  Q K9 (v1 + (1 : Int32)) v2 I)) ∧ (((I 116 (v2).toNatClampNeg) = (93 : Int32)) → (∀ I1 : wI, I1 = wU I 111 18 ((I 111 18) - (1 : Int32)) → (vp_in (I1 111 18) 4 ∧ (vp_in (I1 111 18) 4 ∧ (v_X6_countTurns_186  Q K9 ((I1 122 ((I1 111 18)).toNatClampNeg) + ((2 : Int32) * ((I1 123 ((I1 111 18)).toNatClampNeg) + v1))) v2 I1))))))) ∧ (((I 116 (v2).toNatClampNeg) = (44 : Int32)) → (vp_in ((I 111 18) - (1 : Int32)) 4 ∧ ∀ I2 : wI, I2 = wU I 123 (((I 111 18) - (1 : Int32))).toNatClampNeg v1 → (v_X6_countTurns_186  Q K9 (0 : Int32) v2 I2))))) ∧ (((I 116 (v2).toNatClampNeg) = (41 : Int32)) → (∀ I3 : wI, I3 = wU I 111 18 ((I 111 18) - (1 : Int32)) → (vp_in (I3 111 18) 4 ∧ (vp_in (v2 + (1 : Int32)) 60 ∧ (v_X6_countTurns_186  Q K9 ((I3 122 ((I3 111 18)).toNatClampNeg) + (v1 * ((I3 116 ((v2 + (1 : Int32))).toNatClampNeg) - (48 : Int32)))) (v2 + (1 : Int32)) I3))))))) ∧ (((I 116 (v2).toNatClampNeg) = (91 : Int32)) → (v_X6_countTurns_36  Q K9 v1 v2 I)))))))
def v_X6_countTurns_9  (Q : Int32 → wI → Prop) : Nat → Int32 → Int32 → wI → Prop
  | 0 => fun _ _ _ => False
  | f + 1 => g_X6_countTurns_9 Q (v_X6_countTurns_9 Q f)
def v_X6_countTurns  (I : wI) (Q : Int32 → wI → Prop) : Prop :=
  ∀ I1 : wI, I1 = wU I 111 18 (0 : Int32) → (∃ f : Nat, v_X6_countTurns_9  Q  f (0 : Int32) (0 : Int32) I1)
def v_X6_wordNow_81 (x1 : Int32) (Q : Int32 → wI → Prop) (t0 : Int32) (I : wI) : Prop :=
  (pre_X6_putBack  I) ∧ (∀ I1 : wI, (post_X6_putBack  I I1) → (Q t0 I1))
def g_X6_wordNow_41 (x1 : Int32) (Q : Int32 → wI → Prop) (K41 : Int32 → wI → Prop) (v2 : Int32) (I : wI) : Prop :=
  (((I 111 11) ≤ v2) → (((¬ x1 = (1 : Int32)) → ((pre_X6_period  I) ∧ (∀ r1 : Int32, (post_X6_period  I r1) → (v_X6_wordNow_81 x1 Q  r1 I)))) ∧ ((x1 = (1 : Int32)) → ((pre_X6_reach  I) ∧ (∀ r2 : Int32, (post_X6_reach  I r2) → (v_X6_wordNow_81 x1 Q  r2 I)))))) ∧ ((¬ ((I 111 11) ≤ v2)) → (vp_in v2 500 ∧ ((pre_X6_doTurn (I 118 (v2).toNatClampNeg) I) ∧ (∀ I3 : wI, (post_X6_doTurn (I 118 (v2).toNatClampNeg) I I3) → (K41 (v2 + (1 : Int32)) I3)))))
def v_X6_wordNow_41 (x1 : Int32) (Q : Int32 → wI → Prop) : Nat → Int32 → wI → Prop
  | 0 => fun _ _ => False
  | f + 1 => g_X6_wordNow_41 x1 Q (v_X6_wordNow_41 x1 Q f)
def v_X6_wordNow (x1 : Int32) (I : wI) (Q : Int32 → wI → Prop) : Prop :=
  ((¬ x1 = 0) → ((pre_X6_readWord  I) ∧ (∀ r1 : Int32, ∀ I2 : wI, (post_X6_readWord  I r1 I2) → (((r1 ≤ (500 : Int32)) → (((¬ x1 = (4 : Int32)) → ((pre_X6_putAside  I2) ∧ (∀ I3 : wI, (post_X6_putAside  I2 I3) → ((pre_X6_toFirst  I3) ∧ (∀ I4 : wI, (post_X6_toFirst  I3 I4) → (∃ f : Nat, v_X6_wordNow_41 x1 Q  f (0 : Int32) I4)))))) ∧ ((x1 = (4 : Int32)) → (Q (I2 111 12) I2)))) ∧ ((¬ (r1 ≤ (500 : Int32))) → (Q (-1 : Int32) I2)))))) ∧ ((x1 = 0) → ((pre_X6_countTurns  I) ∧ (∀ r5 : Int32, ∀ I6 : wI, (post_X6_countTurns  I r5 I6) → (Q r5 I6))))
def v_X6_ofWord_41 (x1 : Int32) (Q : Int32 → wI → Prop) (t0 : Int32) (I : wI) : Prop :=
  Q t0 I
def v_X6_ofWord_22 (x1 : Int32) (Q : Int32 → wI → Prop) (t0 : Int32) (I : wI) : Prop :=
  ∀ I1 : wI, I1 = wU I 111 0 t0 → ((((I1 111 0) ≤ 0) → ((pre_X6_wordNow x1 I1) ∧ (∀ r2 : Int32, ∀ I3 : wI, (post_X6_wordNow x1 I1 r2 I3) → (v_X6_ofWord_41 x1 Q  r2 I3)))) ∧ ((¬ ((I1 111 0) ≤ 0)) → (v_X6_ofWord_41 x1 Q  (0 : Int32) I1)))
def v_X6_ofWord_21 (x1 : Int32) (Q : Int32 → wI → Prop)  (I : wI) : Prop :=
  v_X6_ofWord_22 x1 Q  (1 : Int32) I
def v_X6_ofWord (x1 : Int32) (I : wI) (Q : Int32 → wI → Prop) : Prop :=
  (pre_X6_in x1 (0 : Int32) (4 : Int32) I) ∧ (∀ r1 : Int32, (post_X6_in x1 (0 : Int32) (4 : Int32) I r1) → (((r1 = 0) → (v_X6_ofWord_21 x1 Q   I)) ∧ ((¬ (r1 = 0)) → ((pre_X6_isWhole  I) ∧ (∀ r2 : Int32, ∀ I3 : wI, (post_X6_isWhole  I r2 I3) → (((r2 = 0) → (v_X6_ofWord_21 x1 Q   I3)) ∧ ((¬ (r2 = 0)) → (v_X6_ofWord_22 x1 Q  (0 : Int32) I3))))))))
