def v_X2_list_49 (k : Nat) (k1 : Nat) (x2 : Int32) (Q : wI → Prop)  (I : wI) : Prop :=
  Q I
def v_X2_list (k : Nat) (k1 : Nat) (x2 : Int32) (I : wI) (Q : wI → Prop) : Prop :=
  (((I k 2) < 0) → (v_X2_list_49 k k1 x2 Q   I)) ∧ ((¬ ((I k 2) < 0)) → ((((111 : Int32) ≤ (I k 2)) → (v_X2_list_49 k k1 x2 Q   I)) ∧ ((¬ ((111 : Int32) ≤ (I k 2))) → ((pre_X0_fingerprint k1 I) ∧ (∀ r1 : Int32, (post_X0_fingerprint k1 I r1) → (vp_in (I k 2) 111 ∧ ∀ I2 : wI, I2 = wU I (k + 1) ((I k 2)).toNatClampNeg r1 → (vp_in (I2 k 2) 111 ∧ ∀ I3 : wI, I3 = wU I2 (k + 2) ((I2 k 2)).toNatClampNeg x2 → (∀ I4 : wI, I4 = wU I3 k 2 ((I3 k 2) + (1 : Int32)) → (v_X2_list_49 k k1 x2 Q   I4)))))))))
def v_X2_listBehindOne_48 (k : Nat) (k1 : Nat) (Q : wI → Prop) (K2 : Int32 → wI → Prop) (v2 : Int32) (I : wI) : Prop :=
  K2 (v2 + (1 : Int32)) I
def g_X2_listBehindOne_2 (k : Nat) (k1 : Nat) (Q : wI → Prop) (K2 : Int32 → wI → Prop) (v2 : Int32) (I : wI) : Prop :=
  (((10 : Int32) ≤ v2) → (Q I)) ∧ ((¬ ((10 : Int32) ≤ v2)) → ((pre_X3_allows k1 v2 I) ∧ (∀ r1 : Int32, (post_X3_allows k1 v2 I r1) → (((r1 = 0) → (v_X2_listBehindOne_48 k k1 Q K2 v2 I)) ∧ ((¬ (r1 = 0)) → ((pre_X0_copyFrom (k + 6) (k + 3) I) ∧ (∀ I2 : wI, (post_X0_copyFrom (k + 6) (k + 3) I I2) → ((pre_X1_move (k1 + 4) (k + 6) v2 I2) ∧ (∀ I3 : wI, (post_X1_move (k1 + 4) (k + 6) v2 I2 I3) → ((pre_X2_list k (k + 6) (2 : Int32) I3) ∧ (∀ I4 : wI, (post_X2_list k (k + 6) (2 : Int32) I3 I4) → (v_X2_listBehindOne_48 k k1 Q K2 v2 I4))))))))))))
def v_X2_listBehindOne_2 (k : Nat) (k1 : Nat) (Q : wI → Prop) : Nat → Int32 → wI → Prop
  | 0 => fun _ _ => False
  | f + 1 => g_X2_listBehindOne_2 k k1 Q (v_X2_listBehindOne_2 k k1 Q f)
def v_X2_listBehindOne (k : Nat) (k1 : Nat) (I : wI) (Q : wI → Prop) : Prop :=
  ∃ f : Nat, v_X2_listBehindOne_2 k k1 Q  f (0 : Int32) I
def v_X2_listNear_112 (k : Nat) (k1 : Nat) (Q : wI → Prop) (K70 : Int32 → wI → Prop) (v2 : Int32) (I : wI) : Prop :=
  K70 (v2 + (1 : Int32)) I
def g_X2_listNear_70 (k : Nat) (k1 : Nat) (Q : wI → Prop) (K70 : Int32 → wI → Prop) (v2 : Int32) (I : wI) : Prop :=
  (((10 : Int32) ≤ v2) → (Q I)) ∧ ((¬ ((10 : Int32) ≤ v2)) → ((pre_X3_allows k1 v2 I) ∧ (∀ r1 : Int32, (post_X3_allows k1 v2 I r1) → (((r1 = 0) → (v_X2_listNear_112 k k1 Q K70 v2 I)) ∧ ((¬ (r1 = 0)) → ((pre_X0_copyFrom (k + 3) (k1 + 7) I) ∧ (∀ I2 : wI, (post_X0_copyFrom (k + 3) (k1 + 7) I I2) → ((pre_X1_move (k1 + 4) (k + 3) v2 I2) ∧ (∀ I3 : wI, (post_X1_move (k1 + 4) (k + 3) v2 I2 I3) → ((pre_X2_listBehindOne k k1 I3) ∧ (∀ I4 : wI, (post_X2_listBehindOne k k1 I3 I4) → (v_X2_listNear_112 k k1 Q K70 v2 I4))))))))))))
def v_X2_listNear_70 (k : Nat) (k1 : Nat) (Q : wI → Prop) : Nat → Int32 → wI → Prop
  | 0 => fun _ _ => False
  | f + 1 => g_X2_listNear_70 k k1 Q (v_X2_listNear_70 k k1 Q f)
def v_X2_listNear_62 (k : Nat) (k1 : Nat) (Q : wI → Prop) (K16 : Int32 → wI → Prop) (v2 : Int32) (I : wI) : Prop :=
  K16 (v2 + (1 : Int32)) I
def g_X2_listNear_16 (k : Nat) (k1 : Nat) (Q : wI → Prop) (K16 : Int32 → wI → Prop) (v2 : Int32) (I : wI) : Prop :=
  (((10 : Int32) ≤ v2) → (∃ f : Nat, v_X2_listNear_70 k k1 Q  f (0 : Int32) I)) ∧ ((¬ ((10 : Int32) ≤ v2)) → ((pre_X3_allows k1 v2 I) ∧ (∀ r1 : Int32, (post_X3_allows k1 v2 I r1) → (((r1 = 0) → (v_X2_listNear_62 k k1 Q K16 v2 I)) ∧ ((¬ (r1 = 0)) → ((pre_X0_copyFrom (k + 3) (k1 + 7) I) ∧ (∀ I2 : wI, (post_X0_copyFrom (k + 3) (k1 + 7) I I2) → ((pre_X1_move (k1 + 4) (k + 3) v2 I2) ∧ (∀ I3 : wI, (post_X1_move (k1 + 4) (k + 3) v2 I2 I3) → ((pre_X2_list k (k + 3) (1 : Int32) I3) ∧ (∀ I4 : wI, (post_X2_list k (k + 3) (1 : Int32) I3 I4) → (v_X2_listNear_62 k k1 Q K16 v2 I4))))))))))))
def v_X2_listNear_16 (k : Nat) (k1 : Nat) (Q : wI → Prop) : Nat → Int32 → wI → Prop
  | 0 => fun _ _ => False
  | f + 1 => g_X2_listNear_16 k k1 Q (v_X2_listNear_16 k k1 Q f)
def v_X2_listNear (k : Nat) (k1 : Nat) (I : wI) (Q : wI → Prop) : Prop :=
  ∀ I1 : wI, I1 = wU I k 2 (0 : Int32) → ((pre_X2_list k (k1 + 7) (0 : Int32) I1) ∧ (∀ I2 : wI, (post_X2_list k (k1 + 7) (0 : Int32) I1 I2) → (∃ f : Nat, v_X2_listNear_16 k k1 Q  f (0 : Int32) I2)))
def v_X2_listedTurns_44 (k : Nat) (k1 : Nat) (I : wI) (Q : Int32 → Prop)  : Prop :=
  Q (-1 : Int32)
def g_X2_listedTurns_7 (k : Nat) (k1 : Nat) (I : wI) (Q : Int32 → Prop) (K7 : Int32 → Int32 → Prop) (v2 : Int32) (v3 : Int32) : Prop :=
  (((I k 2) ≤ v3) → (v_X2_listedTurns_44 k k1 I Q  )) ∧ ((¬ ((I k 2) ≤ v3)) → ((((111 : Int32) ≤ v3) → (v_X2_listedTurns_44 k k1 I Q  )) ∧ ((¬ ((111 : Int32) ≤ v3)) → (vp_in v3 111 ∧ (((¬ (I (k + 1) (v3).toNatClampNeg) = v2) → (K7 v2 (v3 + (1 : Int32)))) ∧ (((I (k + 1) (v3).toNatClampNeg) = v2) → (vp_in v3 111 ∧ (Q (I (k + 2) (v3).toNatClampNeg)))))))))
def v_X2_listedTurns_7 (k : Nat) (k1 : Nat) (I : wI) (Q : Int32 → Prop) : Nat → Int32 → Int32 → Prop
  | 0 => fun _ _ => False
  | f + 1 => g_X2_listedTurns_7 k k1 I Q (v_X2_listedTurns_7 k k1 I Q f)
def v_X2_listedTurns (k : Nat) (k1 : Nat) (I : wI) (Q : Int32 → Prop) : Prop :=
  (pre_X0_fingerprint k1 I) ∧ (∀ r1 : Int32, (post_X0_fingerprint k1 I r1) → (∃ f : Nat, v_X2_listedTurns_7 k k1 I Q  f r1 (0 : Int32)))
def v_X2_meetsList_53 (k : Nat) (k1 : Nat) (Q : Int32 → wI → Prop) (K2 : Int32 → wI → Prop) (v2 : Int32) (I : wI) : Prop :=
  K2 (v2 + (1 : Int32)) I
def g_X2_meetsList_2 (k : Nat) (k1 : Nat) (Q : Int32 → wI → Prop) (K2 : Int32 → wI → Prop) (v2 : Int32) (I : wI) : Prop :=
  (((10 : Int32) ≤ v2) → (Q (0 : Int32) I)) ∧ ((¬ ((10 : Int32) ≤ v2)) → ((pre_X3_allows k1 v2 I) ∧ (∀ r1 : Int32, (post_X3_allows k1 v2 I r1) → (((r1 = 0) → (v_X2_meetsList_53 k k1 Q K2 v2 I)) ∧ ((¬ (r1 = 0)) → ((pre_X0_copyFrom (k + 6) (k + 3) I) ∧ (∀ I2 : wI, (post_X0_copyFrom (k + 6) (k + 3) I I2) → ((pre_X1_move (k1 + 4) (k + 6) v2 I2) ∧ (∀ I3 : wI, (post_X1_move (k1 + 4) (k + 6) v2 I2 I3) → ((pre_X2_listedTurns k (k + 6) I3) ∧ (∀ r4 : Int32, (post_X2_listedTurns k (k + 6) I3 r4) → (((r4 = (-1 : Int32)) → (v_X2_meetsList_53 k k1 Q K2 v2 I3)) ∧ ((¬ (r4 = (-1 : Int32))) → (Q (1 : Int32) I3))))))))))))))
def v_X2_meetsList_2 (k : Nat) (k1 : Nat) (Q : Int32 → wI → Prop) : Nat → Int32 → wI → Prop
  | 0 => fun _ _ => False
  | f + 1 => g_X2_meetsList_2 k k1 Q (v_X2_meetsList_2 k k1 Q f)
def v_X2_meetsList (k : Nat) (k1 : Nat) (I : wI) (Q : Int32 → wI → Prop) : Prop :=
  ∃ f : Nat, v_X2_meetsList_2 k k1 Q  f (0 : Int32) I
def v_X2_tryFirst_90 (k : Nat) (k1 : Nat) (x2 : Int32) (Q : wI → Prop)  (I : wI) : Prop :=
  Q I
def v_X2_tryFirst_78 (k : Nat) (k1 : Nat) (x2 : Int32) (Q : wI → Prop) (v3 : Int32) (I : wI) : Prop :=
  ∀ I1 : wI, I1 = wU I k 5 (v3 + (1 : Int32)) → (∀ I2 : wI, I2 = wU I1 k 6 x2 → (v_X2_tryFirst_90 k k1 x2 Q   I2))
def v_X2_tryFirst_55 (k : Nat) (k1 : Nat) (x2 : Int32) (Q : wI → Prop) (v3 : Int32) (I : wI) : Prop :=
  ((v3 = (-1 : Int32)) → (v_X2_tryFirst_90 k k1 x2 Q   I)) ∧ ((¬ (v3 = (-1 : Int32))) → ((((I k 5) = (-1 : Int32)) → (v_X2_tryFirst_78 k k1 x2 Q  v3 I)) ∧ ((¬ ((I k 5) = (-1 : Int32))) → ((((I k 5) ≤ (v3 + (1 : Int32))) → (v_X2_tryFirst_90 k k1 x2 Q   I)) ∧ ((¬ ((I k 5) ≤ (v3 + (1 : Int32)))) → (v_X2_tryFirst_78 k k1 x2 Q  v3 I))))))
def v_X2_tryFirst (k : Nat) (k1 : Nat) (x2 : Int32) (I : wI) (Q : wI → Prop) : Prop :=
  (pre_X0_copyFrom (k + 3) (k1 + 1) I) ∧ (∀ I1 : wI, (post_X0_copyFrom (k + 3) (k1 + 1) I I1) → ((pre_X1_move (k1 + 4) (k + 3) x2 I1) ∧ (∀ I2 : wI, (post_X1_move (k1 + 4) (k + 3) x2 I1 I2) → ((pre_X2_listedTurns k (k + 3) I2) ∧ (∀ r3 : Int32, (post_X2_listedTurns k (k + 3) I2 r3) → (((¬ r3 = (-1 : Int32)) → (v_X2_tryFirst_55 k k1 x2 Q  r3 I2)) ∧ ((r3 = (-1 : Int32)) → (((¬ (I2 k 5) = (-1 : Int32)) → (v_X2_tryFirst_55 k k1 x2 Q  r3 I2)) ∧ (((I2 k 5) = (-1 : Int32)) → ((pre_X2_meetsList k k1 I2) ∧ (∀ r4 : Int32, ∀ I5 : wI, (post_X2_meetsList k k1 I2 r4 I5) → (((r4 = 0) → (v_X2_tryFirst_55 k k1 x2 Q  r3 I5)) ∧ ((¬ (r4 = 0)) → (v_X2_tryFirst_55 k k1 x2 Q  (3 : Int32) I5))))))))))))))
def v_X2_search_58 (k : Nat) (k1 : Nat) (Q : wI → Prop) (K38 : Int32 → wI → Prop) (v2 : Int32) (I : wI) : Prop :=
  K38 (v2 + (1 : Int32)) I
def g_X2_search_38 (k : Nat) (k1 : Nat) (Q : wI → Prop) (K38 : Int32 → wI → Prop) (v2 : Int32) (I : wI) : Prop :=
  (((10 : Int32) ≤ v2) → (Q I)) ∧ ((¬ ((10 : Int32) ≤ v2)) → ((pre_X3_allows k1 v2 I) ∧ (∀ r1 : Int32, (post_X3_allows k1 v2 I r1) → (((r1 = 0) → (v_X2_search_58 k k1 Q K38 v2 I)) ∧ ((¬ (r1 = 0)) → ((pre_X2_tryFirst k k1 v2 I) ∧ (∀ I2 : wI, (post_X2_tryFirst k k1 v2 I I2) → (v_X2_search_58 k k1 Q K38 v2 I2))))))))
def v_X2_search_38 (k : Nat) (k1 : Nat) (Q : wI → Prop) : Nat → Int32 → wI → Prop
  | 0 => fun _ _ => False
  | f + 1 => g_X2_search_38 k k1 Q (v_X2_search_38 k k1 Q f)
def v_X2_search (k : Nat) (k1 : Nat) (I : wI) (Q : wI → Prop) : Prop :=
  ∀ I1 : wI, I1 = wU I k 5 (-1 : Int32) → (∀ I2 : wI, I2 = wU I1 k 6 (-1 : Int32) → (((¬ (I2 k1 3) = 0) → ((pre_X3_opens k1 I2) ∧ (∀ r3 : Int32, (post_X3_opens k1 I2 r3) → (((r3 = 0) → ((pre_X2_listNear k k1 I2) ∧ (∀ I4 : wI, (post_X2_listNear k k1 I2 I4) → (∃ f : Nat, v_X2_search_38 k k1 Q  f (0 : Int32) I4)))) ∧ ((¬ (r3 = 0)) → (∀ I5 : wI, I5 = wU I2 k 5 (0 : Int32) → (Q I5))))))) ∧ (((I2 k1 3) = 0) → (Q I2))))
def v_X5_openIn_51 (x1 : Int32) (Q : Int32 → wI → Prop) (t0 : Int32) (I : wI) : Prop :=
  Q t0 I
def v_X5_openIn_9 (x1 : Int32) (Q : Int32 → wI → Prop)  (I : wI) : Prop :=
  False
def v_X5_openIn (x1 : Int32) (I : wI) (Q : Int32 → wI → Prop) : Prop :=
  ((x1 < 0) → (v_X5_openIn_9 x1 Q   I)) ∧ ((¬ (x1 < 0)) → (((x1 ≤ (1 : Int32)) → ((pre_X2_search 36 1 I) ∧ (∀ I1 : wI, (post_X2_search 36 1 I I1) → (((¬ x1 = 0) → (v_X5_openIn_51 x1 Q  (I1 36 6) I1)) ∧ ((x1 = 0) → (v_X5_openIn_51 x1 Q  (I1 36 5) I1)))))) ∧ ((¬ (x1 ≤ (1 : Int32))) → (v_X5_openIn_9 x1 Q   I))))
def v_X5_openInx_51 (x1 : Int32) (X : String → wI → Prop) (t0 : Int32) (I : wI) : Prop :=
  False
def v_X5_openInx_9 (x1 : Int32) (X : String → wI → Prop)  (I : wI) : Prop :=
  X "java/lang/IllegalArgumentException" I
def v_X5_openInx (x1 : Int32) (I : wI) (X : String → wI → Prop) : Prop :=
  ((x1 < 0) → (v_X5_openInx_9 x1 X   I)) ∧ ((¬ (x1 < 0)) → (((x1 ≤ (1 : Int32)) → ((pre_X2_search 36 1 I) ∧ (∀ I1 : wI, (post_X2_search 36 1 I I1) → (((¬ x1 = 0) → (v_X5_openInx_51 x1 X  (I1 36 6) I1)) ∧ ((x1 = 0) → (v_X5_openInx_51 x1 X  (I1 36 5) I1)))))) ∧ ((¬ (x1 ≤ (1 : Int32))) → (v_X5_openInx_9 x1 X   I))))
def g_X6_power_4 (x0 : Int32) (I : wI) (Q : Int32 → Prop) (K4 : Int32 → Int32 → Prop) (v1 : Int32) (v2 : Int32) : Prop :=
  ((x0 ≤ v2) → (Q v1)) ∧ ((¬ (x0 ≤ v2)) → (K4 (v1 * (10 : Int32)) (v2 + (1 : Int32))))
def v_X6_power_4 (x0 : Int32) (I : wI) (Q : Int32 → Prop) : Nat → Int32 → Int32 → Prop
  | 0 => fun _ _ => False
  | f + 1 => g_X6_power_4 x0 I Q (v_X6_power_4 x0 I Q f)
def v_X6_power (x0 : Int32) (I : wI) (Q : Int32 → Prop) : Prop :=
  ∃ f : Nat, v_X6_power_4 x0 I Q  f (1 : Int32) (0 : Int32)
def v_X6_opensBy_86 (x1 : Int32) (x2 : Int32) (Q : Int32 → wI → Prop) (t0 : Int32) (I : wI) : Prop :=
  (pre_X6_putBack  I) ∧ (∀ I1 : wI, (post_X6_putBack  I I1) → ((t0 = 0 ∨ t0 = 1) ∧ Q t0 I1))
def v_X6_opensBy_85 (x1 : Int32) (x2 : Int32) (Q : Int32 → wI → Prop)  (I : wI) : Prop :=
  v_X6_opensBy_86 x1 x2 Q  (0 : Int32) I
def v_X6_opensBy_55 (x1 : Int32) (x2 : Int32) (Q : Int32 → wI → Prop) (K12 : Int32 → Int32 → Int32 → wI → Prop) (v3 : Int32) (v5 : Int32) (v6 : Int32) (t0 : Int32) (I : wI) : Prop :=
  (pre_X6_doTurn v6 I) ∧ (∀ I1 : wI, (post_X6_doTurn v6 I I1) → (K12 v3 t0 (v5 + (1 : Int32)) I1))
def v_X6_opensBy_54 (x1 : Int32) (x2 : Int32) (Q : Int32 → wI → Prop) (K12 : Int32 → Int32 → Int32 → wI → Prop) (v3 : Int32) (v5 : Int32) (v6 : Int32) (I : wI) : Prop :=
  v_X6_opensBy_55 x1 x2 Q K12 v3 v5 v6 (0 : Int32) I
def g_X6_opensBy_12 (x1 : Int32) (x2 : Int32) (Q : Int32 → wI → Prop) (K12 : Int32 → Int32 → Int32 → wI → Prop) (v3 : Int32) (v4 : Int32) (v5 : Int32) (I : wI) : Prop :=
  ((x2 ≤ v5) → (((v4 = 0) → (v_X6_opensBy_85 x1 x2 Q   I)) ∧ ((¬ (v4 = 0)) → ((pre_X6_opens  I) ∧ (∀ r1 : Int32, (post_X6_opens  I r1) → (((r1 = 0) → (v_X6_opensBy_85 x1 x2 Q   I)) ∧ ((¬ (r1 = 0)) → (v_X6_opensBy_86 x1 x2 Q  (1 : Int32) I)))))))) ∧ ((¬ (x2 ≤ v5)) → ((pre_X6_power ((x2 - (1 : Int32)) - v5) I) ∧ (∀ r2 : Int32, (post_X6_power ((x2 - (1 : Int32)) - v5) I r2) → ((¬ r2 = 0) ∧ (((v4 = 0) → (v_X6_opensBy_54 x1 x2 Q K12 v3 v5 ((v3 / r2) - (v3 / r2) / (10 : Int32) * (10 : Int32)) I)) ∧ ((¬ (v4 = 0)) → ((pre_X6_isStuck (((v3 / r2) - (v3 / r2) / (10 : Int32) * (10 : Int32)) - ((v3 / r2) - (v3 / r2) / (10 : Int32) * (10 : Int32)) / (5 : Int32) * (5 : Int32)) I) ∧ (∀ r3 : Int32, (post_X6_isStuck (((v3 / r2) - (v3 / r2) / (10 : Int32) * (10 : Int32)) - ((v3 / r2) - (v3 / r2) / (10 : Int32) * (10 : Int32)) / (5 : Int32) * (5 : Int32)) I r3) → (((¬ r3 = 0) → (v_X6_opensBy_54 x1 x2 Q K12 v3 v5 ((v3 / r2) - (v3 / r2) / (10 : Int32) * (10 : Int32)) I)) ∧ ((r3 = 0) → (v_X6_opensBy_55 x1 x2 Q K12 v3 v5 ((v3 / r2) - (v3 / r2) / (10 : Int32) * (10 : Int32)) (1 : Int32) I)))))))))))
def v_X6_opensBy_12 (x1 : Int32) (x2 : Int32) (Q : Int32 → wI → Prop) : Nat → Int32 → Int32 → Int32 → wI → Prop
  | 0 => fun _ _ _ _ => False
  | f + 1 => g_X6_opensBy_12 x1 x2 Q (v_X6_opensBy_12 x1 x2 Q f)
def v_X6_opensBy (x1 : Int32) (x2 : Int32) (I : wI) (Q : Int32 → wI → Prop) : Prop :=
  (pre_X6_putAside  I) ∧ (∀ I1 : wI, (post_X6_putAside  I I1) → (∃ f : Nat, v_X6_opensBy_12 x1 x2 Q  f x1 (1 : Int32) (0 : Int32) I1))
def v_X6_findOpen_71 (x1 : Int32) (Q : Int32 → wI → Prop) (t0 : Int32) (I : wI) : Prop :=
  Q t0 I
def g_X6_findOpen_38 (x1 : Int32) (Q : Int32 → wI → Prop) (K31 : Int32 → wI → Prop) (K38 : Int32 → Int32 → wI → Prop) (v2 : Int32) (v3 : Int32) (I : wI) : Prop :=
  (pre_X6_power v2 I) ∧ (∀ r1 : Int32, (post_X6_power v2 I r1) → (((r1 ≤ v3) → (K31 (v2 + (1 : Int32)) I)) ∧ ((¬ (r1 ≤ v3)) → ((pre_X6_opensBy v3 v2 I) ∧ (∀ r2 : Int32, ∀ I3 : wI, (post_X6_opensBy v3 v2 I r2 I3) → (((r2 = 0) → (K38 v2 (v3 + (1 : Int32)) I3)) ∧ ((¬ (r2 = 0)) → (((¬ x1 = 0) → ((pre_X6_power (v2 - (1 : Int32)) I3) ∧ (∀ r4 : Int32, (post_X6_power (v2 - (1 : Int32)) I3 r4) → ((¬ r4 = 0) ∧ (v_X6_findOpen_71 x1 Q  (v3 / r4) I3))))) ∧ ((x1 = 0) → (v_X6_findOpen_71 x1 Q  v2 I3))))))))))
def v_X6_findOpen_38 (x1 : Int32) (Q : Int32 → wI → Prop) (K31 : Int32 → wI → Prop) : Nat → Int32 → Int32 → wI → Prop
  | 0 => fun _ _ _ => False
  | f + 1 => g_X6_findOpen_38 x1 Q K31 (v_X6_findOpen_38 x1 Q K31 f)
def g_X6_findOpen_31 (x1 : Int32) (Q : Int32 → wI → Prop) (K31 : Int32 → wI → Prop) (v2 : Int32) (I : wI) : Prop :=
  (((4 : Int32) < v2) → (Q (-1 : Int32) I)) ∧ ((¬ ((4 : Int32) < v2)) → (∃ f : Nat, v_X6_findOpen_38 x1 Q K31 f v2 (0 : Int32) I))
def v_X6_findOpen_31 (x1 : Int32) (Q : Int32 → wI → Prop) : Nat → Int32 → wI → Prop
  | 0 => fun _ _ => False
  | f + 1 => g_X6_findOpen_31 x1 Q (v_X6_findOpen_31 x1 Q f)
def v_X6_findOpen_28 (x1 : Int32) (Q : Int32 → wI → Prop) (t0 : Int32) (I : wI) : Prop :=
  Q t0 I
def v_X6_findOpen (x1 : Int32) (I : wI) (Q : Int32 → wI → Prop) : Prop :=
  vp_in (36 : Int32) 49 ∧ (((¬ (I 112 ((36 : Int32)).toNatClampNeg) = 0) → ((pre_X6_opens  I) ∧ (∀ r1 : Int32, (post_X6_opens  I r1) → (((r1 = 0) → (∃ f : Nat, v_X6_findOpen_31 x1 Q  f (1 : Int32) I)) ∧ ((¬ (r1 = 0)) → (((¬ x1 = 0) → (v_X6_findOpen_28 x1 Q  (-1 : Int32) I)) ∧ ((x1 = 0) → (v_X6_findOpen_28 x1 Q  (0 : Int32) I)))))))) ∧ (((I 112 ((36 : Int32)).toNatClampNeg) = 0) → (Q (-1 : Int32) I)))
def v_X6_openIn_34 (x1 : Int32) (Q : Int32 → wI → Prop) (t0 : Int32) (I : wI) : Prop :=
  Q t0 I
def v_X6_openIn_15 (x1 : Int32) (Q : Int32 → wI → Prop) (t0 : Int32) (I : wI) : Prop :=
  ∀ I1 : wI, I1 = wU I 111 0 t0 → ((((I1 111 0) ≤ 0) → ((pre_X6_findOpen x1 I1) ∧ (∀ r2 : Int32, ∀ I3 : wI, (post_X6_findOpen x1 I1 r2 I3) → (v_X6_openIn_34 x1 Q  r2 I3)))) ∧ ((¬ ((I1 111 0) ≤ 0)) → (v_X6_openIn_34 x1 Q  (0 : Int32) I1)))
def v_X6_openIn (x1 : Int32) (I : wI) (Q : Int32 → wI → Prop) : Prop :=
  (pre_X6_in x1 (0 : Int32) (1 : Int32) I) ∧ (∀ r1 : Int32, (post_X6_in x1 (0 : Int32) (1 : Int32) I r1) → (((r1 = 0) → (v_X6_openIn_15 x1 Q  (1 : Int32) I)) ∧ ((¬ (r1 = 0)) → (v_X6_openIn_15 x1 Q  (0 : Int32) I))))
