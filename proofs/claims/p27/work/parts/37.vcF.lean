/-! ===== what turns do to discs elsewhere ===== -/
def nrm (f : Nat → Nat) : Prop := ∀ p, 6 ≤ p → f p = 0
theorem nrm_mvD (M bk : Nat) (d : Nat → Nat) : nrm (mvD M bk d) := fun p hp => by unfold mvD; rw [if_neg (by omega)]
theorem nrm_mvN (M s bk : Nat) (d : Nat → Nat) : nrm (mvN M s bk d) := fun p hp => by unfold mvN; rw [if_neg (by omega)]
theorem nrm_id : nrm idF := fun p hp => by unfold idF; rw [if_neg (by omega)]
theorem nrm_z : nrm zF := fun _ _ => rfl
theorem okE_id : okE idF zF := ⟨fun _ h => idF_lt h, fun _ _ => by show 0 < 5; decide, idF_pm⟩
theorem okE_mv {a : Nat → Int32} {v : Nat} {d n : Nat → Nat} (hR : okR a) (hv : v < 10) (h : okE d n) : okE (mvD (aM a (v % 5)) (v / 5) d) (mvN (aM a (v % 5)) (aS a (v % 5)) (v / 5) n) :=
  ⟨fun _ hp => mvD_lt (okR_M hR (m5 v)) (bk_or hv) h.1 hp, fun _ hp => mvN_lt h.2.1 hp, pmF_mv (okR_M hR (m5 v)) (bk_or hv) h.2.2⟩
theorem okE_w {a : Nat → Int32} (hR : okR a) : ∀ (l : List Nat) (d n : Nat → Nat), (∀ v, v ∈ l → v < 10) → okE d n → nrm d → nrm n → okE (wD a l d) (wN a l n) ∧ nrm (wD a l d) ∧ nrm (wN a l n)
  | [], _, _, _, h, h1, h2 => ⟨h, h1, h2⟩
  | v :: l, d, n, hl, h, h1, h2 => okE_w hR l _ _ (fun u hu => hl u (List.mem_cons_of_mem _ hu)) (okE_mv hR (hl v List.mem_cons_self) h) (nrm_mvD _ _ _) (nrm_mvN _ _ _ _)
theorem okE_aR {a : Nat → Int32} (hR : okR a) : okE (aD a) (aN a) := ⟨okR_d hR, okR_n hR, hR.2.1⟩
theorem nrm_aD (a : Nat → Int32) : nrm (aD a) := fun p hp => by unfold aD; rw [if_neg (by omega)]
theorem nrm_aN (a : Nat → Int32) : nrm (aN a) := fun p hp => by unfold aN; rw [if_neg (by omega)]
theorem ef_d {I : wI} {k : Nat} {d n : Nat → Nat} (h : ef I k d n) (hE : okE d n) (hn : nrm d) : dsc I k = d := by
  funext p
  unfold dsc
  split
  · rename_i hp; have := hE.1 p hp; rw [(h p hp).1, i_nt (by omega)]
  · rename_i hp; rw [hn p (by omega)]
theorem ef_n {I : wI} {k : Nat} {d n : Nat → Nat} (h : ef I k d n) (hE : okE d n) (hn : nrm n) : ntc I k = n := by
  funext p
  unfold ntc
  split
  · rename_i hp; have := hE.2.1 p hp; rw [(h p hp).2, i_nt (by omega)]
  · rename_i hp; rw [hn p (by omega)]
theorem ef_D {I : wI} {k : Nat} {d n : Nat → Nat} (h : ef I k d n) (hE : okE d n) (h1 : nrm d) (h2 : nrm n) : okD I k := by
  intro p hp
  rw [ef_d h hE h1, ef_n h hE h2]
  exact ⟨⟨(h p hp).1, hE.1 p hp⟩, (h p hp).2, hE.2.1 p hp⟩
theorem okK_fr {I I1 : wI} (hS : okS 1 I) (h6 : I1 6 = I 6) (h7 : I1 7 = I 7) : okK I1 5 := by
  intro c hc
  show (I1 6 c = nI (nt (I1 6 c)) ∧ nt (I1 6 c) < 64) ∧ (I1 7 c = nI (nt (I1 7 c)) ∧ nt (I1 7 c) < 5)
  rw [h6, h7]
  exact okS_K hS c hc
theorem mv_step {I I1 I2 : wI} {k v : Nat} {d n : Nat → Nat} (h6 : I1 6 = I 6) (h7 : I1 7 = I 7) (he : ef I1 k d n) (hE : okE d n) (hd : nrm d) (hn : nrm n) (hv : v < 10) (h : post_X1_move 5 k (nI v) I1 I2) :
    ef I2 k (mvD (aM (rowC 1 I) (v % 5)) (v / 5) d) (mvN (aM (rowC 1 I) (v % 5)) (aS (rowC 1 I) (v % 5)) (v / 5) n) ∧ fr2 I1 I2 (k + 1) (k + 2) := by
  obtain ⟨g1, g2⟩ := h
  refine ⟨fun p hp => ?_, g2⟩
  have := g1 p hp
  rw [i_nt (by omega), ef_d he hE hd, ef_n he hE hn] at this
  unfold aM aS
  rw [rc_M (m5 v), rc_S (m5 v)]
  rw [show (5 + 1 : Nat) = 6 from rfl, show (5 + 2 : Nat) = 7 from rfl, h6, h7] at this
  exact this
theorem ef_home {I I1 : wI} {k : Nat} (h : post_X0_bringHome k I I1) : ef I1 k idF zF := by
  intro p hp
  rw [(h.1 p hp).1, (h.1 p hp).2]
  unfold idF zF
  rw [if_pos hp]; exact ⟨rfl, rfl⟩
theorem fr2_67 {I I1 : wI} {k : Nat} (h : fr2 I I1 (k + 1) (k + 2)) (hk : 7 ≤ k) : I1 6 = I 6 ∧ I1 7 = I 7 := ⟨h 6 (by omega) (by omega), h 7 (by omega) (by omega)⟩
theorem fr2_trans {I I1 I2 : wI} {a b : Nat} (h : fr2 I I1 a b) (h2 : fr2 I1 I2 a b) : fr2 I I2 a b := fun c c1 c2 => by rw [h2 c c1 c2, h c c1 c2]
theorem vc_X5_showKey (x1 : Int32) (I : wI) (hp : pre_X5_showKey x1 I) : v_X5_showKey x1 I (post_X5_showKey x1 I) := by
  obtain ⟨h0, c, hc, rfl⟩ := hp
  refine ⟨trivial, fun I1 h1 => ⟨⟨⟨c, hc, rfl⟩, Or.inl rfl⟩, fun r2 h2 => ?_⟩⟩
  unfold post_X5_moveOf at h2
  rw [i_nt (by omega), show 5 * nt 0 + c = c by rw [show nt 0 = 0 from rfl]; omega] at h2
  subst h2
  have e1 := ef_home h1
  obtain ⟨q6, q7⟩ := fr2_67 h1.2 (by decide)
  refine ⟨⟨ef_D e1 okE_id nrm_id nrm_z, okK_fr h0.1 q6 q7, c, by omega, rfl⟩, fun I3 h3 => ?_⟩
  obtain ⟨g1, g2⟩ := mv_step q6 q7 e1 okE_id nrm_id nrm_z (by omega) h3
  unfold post_X5_showKey
  rw [i_nt (by omega)]
  exact ⟨g1, fr2_trans h1.2 g2⟩
theorem vc_X5_showPair (x1 x2 : Int32) (I : wI) (hp : pre_X5_showPair x1 x2 I) : v_X5_showPair x1 x2 I (post_X5_showPair x1 x2 I) := by
  obtain ⟨h0, ⟨c, hc, rfl⟩, c2, hc2, rfl⟩ := hp
  have hR := h0.1.1
  refine ⟨trivial, fun I1 h1 => ⟨⟨⟨c, hc, rfl⟩, Or.inl rfl⟩, fun r2 h2 => ?_⟩⟩
  unfold post_X5_moveOf at h2
  rw [i_nt (by omega), show 5 * nt 0 + c = c by rw [show nt 0 = 0 from rfl]; omega] at h2
  subst h2
  have e1 := ef_home h1
  obtain ⟨q6, q7⟩ := fr2_67 h1.2 (by decide)
  refine ⟨⟨ef_D e1 okE_id nrm_id nrm_z, okK_fr h0.1 q6 q7, c, by omega, rfl⟩, fun I3 h3 => ?_⟩
  obtain ⟨g1, g2⟩ := mv_step q6 q7 e1 okE_id nrm_id nrm_z (by omega) h3
  have k1 := okE_mv hR (show c < 10 by omega) okE_id
  have f3 := fr2_trans h1.2 g2
  obtain ⟨q6, q7⟩ := fr2_67 f3 (by decide)
  refine ⟨⟨⟨c2, hc2, rfl⟩, Or.inl rfl⟩, fun r4 h4 => ?_⟩
  unfold post_X5_moveOf at h4
  rw [i_nt (by omega), show 5 * nt 0 + c2 = c2 by rw [show nt 0 = 0 from rfl]; omega] at h4
  subst h4
  refine ⟨⟨ef_D g1 k1 (nrm_mvD _ _ _) (nrm_mvN _ _ _ _), okK_fr h0.1 q6 q7, c2, by omega, rfl⟩, fun I5 h5 => ?_⟩
  obtain ⟨g3, g4⟩ := mv_step q6 q7 g1 k1 (nrm_mvD _ _ _) (nrm_mvN _ _ _ _) (by omega) h5
  have k2 := okE_mv hR (show c2 < 10 by omega) k1
  have f5 := fr2_trans f3 g4
  obtain ⟨q6, q7⟩ := fr2_67 f5 (by decide)
  refine ⟨⟨⟨c, hc, rfl⟩, Or.inr rfl⟩, fun r6 h6 => ?_⟩
  unfold post_X5_moveOf at h6
  rw [i_nt (by omega), show 5 * nt 1 + c = 5 + c by rw [show nt 1 = 1 from rfl]] at h6
  subst h6
  refine ⟨⟨ef_D g3 k2 (nrm_mvD _ _ _) (nrm_mvN _ _ _ _), okK_fr h0.1 q6 q7, 5 + c, by omega, rfl⟩, fun I7 h7 => ?_⟩
  obtain ⟨g5, g6⟩ := mv_step q6 q7 g3 k2 (nrm_mvD _ _ _) (nrm_mvN _ _ _ _) (by omega) h7
  have k3 := okE_mv hR (show 5 + c < 10 by omega) k2
  have f7 := fr2_trans f5 g6
  obtain ⟨q6, q7⟩ := fr2_67 f7 (by decide)
  refine ⟨⟨⟨c2, hc2, rfl⟩, Or.inr rfl⟩, fun r8 h8 => ?_⟩
  unfold post_X5_moveOf at h8
  rw [i_nt (by omega), show 5 * nt 1 + c2 = 5 + c2 by rw [show nt 1 = 1 from rfl]] at h8
  subst h8
  refine ⟨⟨ef_D g5 k3 (nrm_mvD _ _ _) (nrm_mvN _ _ _ _), okK_fr h0.1 q6 q7, 5 + c2, by omega, rfl⟩, fun I9 h9 => ?_⟩
  obtain ⟨g7, g8⟩ := mv_step q6 q7 g5 k3 (nrm_mvD _ _ _) (nrm_mvN _ _ _ _) (by omega) h9
  unfold post_X5_showPair
  rw [i_nt (by omega), i_nt (by omega)]
  exact ⟨g7, fr2_trans f7 g8⟩
/-! ===== looks ===== -/
theorem frX_2 {I I1 : wI} {k : Nat} (h : fr2 I I1 (k + 1) (k + 2)) (hk : 25 ≤ k ∧ k < 43) : frX I I1 := ⟨fun c hc => h c (by omega) (by omega), by rw [h 24 (by omega) (by omega)]⟩
theorem isN_le {n : Nat} {x : Int32} (hn : n < 2147483647) (h0 : ¬ x < 0) (h1 : x ≤ nI n) : isN (n + 1) x := by
  rcases i_cases x with h | ⟨j, hj, rfl⟩
  · exact absurd h h0
  · rw [i_le hj (by omega)] at h1; exact ⟨j, by omega, rfl⟩
theorem no_of {n : Nat} {x : Int32} {P : Prop} (h : isN n x) (hc : ∀ c, c < n → nI c = x → P) : P := by
  obtain ⟨c, hc', rfl⟩ := h
  exact hc c hc' rfl
theorem vc_X5_at (x1 x2 : Int32) (I : wI) (hp : pre_X5_at x1 x2 I) : v_X5_at x1 x2 I (post_X5_at x1 x2 I) := by
  obtain ⟨h0, hk, w, hw, rfl⟩ := hp
  refine ⟨hk, fun _ => ?_⟩
  obtain ⟨p, hp, rfl⟩ := hk
  obtain ⟨m, hm, em⟩ := h0.1.2
  unfold v_X5_at_111 v_X5_at_112 post_X5_at aAt
  rw [i_nt (by omega), i_nt (by omega)]
  refine ⟨fun h => ?_, fun h => ?_, fun h => ?_, fun h => ?_, fun h => ?_, fun h => ?_⟩
  · obtain rfl : w = 0 := nI_inj (by omega) (by decide) h
    refine ⟨⟨p, hp, rfl⟩, fun r h => ?_⟩
    unfold post_X0_discAt at h
    rw [i_nt (by omega)] at h
    rw [if_pos rfl, rc_d hp]; exact h
  · obtain rfl : w = 1 := nI_inj (by omega) (by decide) h
    refine ⟨⟨p, hp, rfl⟩, fun r h => ?_⟩
    unfold post_X0_notchAt at h
    rw [i_nt (by omega)] at h
    rw [if_neg (by decide), if_pos rfl, rc_n hp]; exact h
  · obtain rfl : w = 2 := nI_inj (by omega) (by decide) h
    have : m / 2 ^ p < 2147483648 := Nat.lt_of_le_of_lt (Nat.div_le_self _ _) (by omega)
    rw [if_neg (by decide), if_neg (by decide), if_pos rfl, rc_s hp, em, show (31 : Int32) = nI 31 from rfl, i_and31 (by omega), i_shr (by omega) (by omega), l_1, i_and1 this, i_nt (by omega)]
    rfl
  · obtain rfl : w = 3 := nI_inj (by omega) (by decide) h
    rw [if_neg (by decide), if_neg (by decide), if_neg (by decide), if_pos rfl]
    refine ⟨fun h => ?_, fun h => ⟨⟨p, hp, rfl⟩, fun r h3 => ?_⟩⟩
    · rw [if_neg]
      rw [rc_36, h]; exact fun h => absurd h.1 (by decide)
    · have h36 : I 1 3 = 1 := by
        rcases h0.1.1.2.2.2.2.2.1 with e | e
        · exact absurd e h
        · exact e
      unfold post_X0_agreesAt at h3
      rw [i_nt (by omega)] at h3
      have e3 : (rowC 1 I 36 = 1 ∧ rowC 1 I p = rowC 1 I (37 + p) ∧ rowC 1 I (6 + p) = rowC 1 I (43 + p)) ↔ (I (2 + 1) p = I (8 + 1) p ∧ I (2 + 2) p = I (8 + 2) p) := by
        rw [rc_36, rc_d hp, rc_n hp, rc_sd hp, rc_sn hp, if_neg h, if_neg h]
        exact ⟨fun q => q.2, fun q => ⟨h36, q⟩⟩
      refine ⟨fun z => ?_, fun z => ?_⟩
      · rw [if_neg]
        intro q; rw [if_pos (e3.1 q)] at h3; rw [h3] at z; exact absurd z (by decide)
      · rw [if_pos]
        refine e3.2 (Decidable.byContradiction (fun q => ?_))
        rw [if_neg q] at h3; exact z h3
  · obtain rfl : w = 4 := nI_inj (by omega) (by decide) h
    refine ⟨⟨okS_K h0.1, p, hp, rfl⟩, fun r h => ?_⟩
    unfold post_X1_keysAt at h
    rw [i_nt (by omega)] at h
    rw [if_neg (by decide), if_neg (by decide), if_neg (by decide), if_neg (by decide), h]
    refine congrArg nI (sm_cong (fun c hc => ?_))
    unfold kaB aM
    simp only [rc_M hc]
  · have : w = 0 ∨ w = 1 ∨ w = 2 ∨ w = 3 ∨ w = 4 := by omega
    rcases this with rfl | rfl | rfl | rfl | rfl
    · exact h.1 rfl
    · exact h.2.1 rfl
    · exact h.2.2.1 rfl
    · exact h.2.2.2.1 rfl
    · exact h.2.2.2.2 rfl
theorem vc_X5_atx (x1 x2 : Int32) (I : wI) (hp : pre_X5_atx x1 x2 I) : v_X5_atx x1 x2 I (exc_X5_at x1 x2 I) := by
  obtain ⟨h0, hn⟩ := hp
  refine ⟨fun ok => ⟨ok, fun _ => ⟨?_, ?_, ?_, ?_, ?_, fun _ => Or.inr ⟨ok, rfl⟩⟩⟩, fun no => ⟨no, fun E hE => Or.inl ⟨no, hE⟩⟩⟩ <;> rintro rfl
  · exact absurd ⟨ok, 0, by decide, rfl⟩ hn
  · exact absurd ⟨ok, 1, by decide, rfl⟩ hn
  · exact absurd ⟨ok, 2, by decide, rfl⟩ hn
  · exact absurd ⟨ok, 3, by decide, rfl⟩ hn
  · exact absurd ⟨ok, 4, by decide, rfl⟩ hn
theorem vc_X5_key (x1 x2 : Int32) (I : wI) (hp : pre_X5_key x1 x2 I) : v_X5_key x1 x2 I (post_X5_key x1 x2 I) := by
  obtain ⟨h0, hk, w, hw, rfl⟩ := hp
  refine ⟨hk, fun _ => ?_⟩
  have hk' := hk
  obtain ⟨c, hc, rfl⟩ := hk
  have kE := okE_w h0.1.1 [c] idF zF (fun v hv => by rw [List.mem_singleton] at hv; omega) okE_id nrm_id nrm_z
  unfold v_X5_key_107 post_X5_key aKey
  rw [i_nt (by omega), i_nt (by omega)]
  refine ⟨fun h => ?_, fun h => ?_, fun h => ?_, fun h => ?_, fun h => ?_, fun h => ?_, fun h => ?_⟩
  · obtain rfl : w = 0 := nI_inj (by omega) (by decide) h
    refine ⟨⟨c, hc, rfl⟩, fun r h => ⟨?_, frX_refl I⟩⟩
    unfold post_X1_maskOf at h
    rw [i_nt (by omega)] at h
    rw [if_pos rfl, rc_M hc]; exact h
  · obtain rfl : w = 1 := nI_inj (by omega) (by decide) h
    refine ⟨⟨c, hc, rfl⟩, fun r h => ⟨?_, frX_refl I⟩⟩
    unfold post_X1_strengthOf at h
    rw [i_nt (by omega)] at h
    rw [if_neg (by decide), if_pos rfl, rc_S hc]; exact h
  · obtain rfl : w = 2 := nI_inj (by omega) (by decide) h
    refine ⟨⟨h0, hk'⟩, fun I3 h3 => ?_⟩
    unfold post_X5_showKey at h3
    rw [i_nt (by omega)] at h3
    obtain ⟨g1, g2⟩ := h3
    have gD := ef_D g1 kE.1 kE.2.1 kE.2.2
    have gd := ef_d g1 kE.1 kE.2.1
    have gn := ef_n g1 kE.1 kE.2.2
    refine ⟨⟨gD, by rw [gd]; exact kE.1.2.2⟩, fun r4 I5 h5 => ⟨?_, frX_trans (frX_2 (k := 30) g2 (by decide)) (frX_2 (k := 33) h5.2 (by decide))⟩⟩
    rw [h5.1, gd, gn]; rfl
  · obtain rfl : w = 3 := nI_inj (by omega) (by decide) h
    refine ⟨⟨h0, hk'⟩, fun I3 h3 => ?_⟩
    unfold post_X5_showKey at h3
    rw [i_nt (by omega)] at h3
    obtain ⟨g1, g2⟩ := h3
    have gD := ef_D g1 kE.1 kE.2.1 kE.2.2
    have gd := ef_d g1 kE.1 kE.2.1
    have gn := ef_n g1 kE.1 kE.2.2
    refine ⟨⟨gD, by rw [gd]; exact kE.1.2.2⟩, fun r4 h5 => ⟨?_, frX_2 (k := 30) g2 (by decide)⟩⟩
    rw [h5, gd, gn]; rfl
  · obtain rfl : w = 4 := nI_inj (by omega) (by decide) h
    refine ⟨⟨h0.1, c, by omega, rfl⟩, fun r h => ?_⟩
    unfold post_X3_allows at h
    rw [i_nt (by omega), Nat.mod_eq_of_lt hc] at h
    rw [if_neg (by decide), if_neg (by decide), if_neg (by decide), if_pos rfl]
    cases e : aStk (rowC 1 I) c
    · rw [e] at h
      exact ⟨fun z => by rw [h] at z; exact absurd z (by decide), fun _ => ⟨rfl, frX_refl I⟩⟩
    · rw [e] at h
      exact ⟨fun _ => ⟨rfl, frX_refl I⟩, fun z => absurd h z⟩
  · obtain rfl : w = 5 := nI_inj (by omega) (by decide) h
    refine ⟨⟨c, hc, rfl⟩, fun r h => ⟨?_, frX_refl I⟩⟩
    unfold post_X3_usesOf at h
    rw [i_nt (by omega)] at h
    rw [h]; rfl
  · have : w = 0 ∨ w = 1 ∨ w = 2 ∨ w = 3 ∨ w = 4 ∨ w = 5 := by omega
    rcases this with rfl | rfl | rfl | rfl | rfl | rfl
    · exact h.1 rfl
    · exact h.2.1 rfl
    · exact h.2.2.1 rfl
    · exact h.2.2.2.1 rfl
    · exact h.2.2.2.2.1 rfl
    · exact h.2.2.2.2.2 rfl
theorem vc_X5_keyx (x1 x2 : Int32) (I : wI) (hp : pre_X5_keyx x1 x2 I) : v_X5_keyx x1 x2 I (exc_X5_key x1 x2 I) := by
  obtain ⟨h0, hn⟩ := hp
  refine ⟨fun ok => ⟨ok, fun _ => ⟨?_, ?_, ?_, ?_, ?_, ?_, fun _ => ⟨frX_refl I, Or.inr ⟨ok, rfl⟩⟩⟩⟩, fun no => ⟨no, fun E hE => ⟨frX_refl I, Or.inl ⟨no, hE⟩⟩⟩⟩ <;> rintro rfl
  · exact absurd ⟨ok, 0, by decide, rfl⟩ hn
  · exact absurd ⟨ok, 1, by decide, rfl⟩ hn
  · exact absurd ⟨ok, 2, by decide, rfl⟩ hn
  · exact absurd ⟨ok, 3, by decide, rfl⟩ hn
  · exact absurd ⟨ok, 4, by decide, rfl⟩ hn
  · exact absurd ⟨ok, 5, by decide, rfl⟩ hn
theorem prL_lt {c c2 : Nat} (h : c < 5) (h2 : c2 < 5) : ∀ v, v ∈ prL c c2 → v < 10 := by
  intro v hv
  unfold prL at hv
  simp only [List.mem_cons, List.not_mem_nil, or_false] at hv
  omega
theorem vc_X5_pair (x1 x2 x3 : Int32) (I : wI) (hp : pre_X5_pair x1 x2 x3 I) : v_X5_pair x1 x2 x3 I (post_X5_pair x1 x2 x3 I) := by
  obtain ⟨h0, ⟨hk, hk2⟩, hw⟩ := hp
  refine ⟨hk, fun _ => ⟨hk2, fun _ => ⟨fun h => absurd h (isN_0 (by decide) hw), fun _ => ⟨fun _ => ⟨⟨h0, hk, hk2⟩, fun I1 h1 => ?_⟩, fun h => by obtain ⟨w, hw, rfl⟩ := hw; exact absurd (show nI w ≤ 4 by rw [l_4, i_le (by omega) (by decide)]; omega) h⟩⟩⟩⟩
  obtain ⟨c, hc, rfl⟩ := hk
  obtain ⟨c2, hc2, rfl⟩ := hk2
  obtain ⟨w, hw, rfl⟩ := hw
  have kE := okE_w h0.1.1 (prL c c2) idF zF (prL_lt hc hc2) okE_id nrm_id nrm_z
  unfold post_X5_showPair at h1
  rw [i_nt (by omega), i_nt (by omega)] at h1
  obtain ⟨g1, g2⟩ := h1
  have gD := ef_D g1 kE.1 kE.2.1 kE.2.2
  have gd := ef_d g1 kE.1 kE.2.1
  have gn := ef_n g1 kE.1 kE.2.2
  have gX := frX_2 (k := 30) g2 (by decide)
  have hl := rcF_lt (dsc I1 30) (ntc I1 30)
  unfold v_X5_pair_111 post_X5_pair aOf
  rw [i_nt (by omega), i_nt (by omega), i_nt (by omega), ← gd, ← gn]
  refine ⟨fun h => ?_, fun h => ?_, fun h => ?_, fun h => ?_, fun h => ?_⟩
  · obtain rfl : w = 0 := nI_inj (by omega) (by decide) h
    exact ⟨gD, fun r h => ⟨h, gX⟩⟩
  · obtain rfl : w = 1 := nI_inj (by omega) (by decide) h
    refine ⟨gD, fun r h => ⟨⟨_, hl, h⟩, fun r4 h4 => ⟨?_, gX⟩⟩⟩
    unfold post_X0_reach at h; unfold post_J_bitCount at h4
    rw [h, i_nt (by omega)] at h4; exact h4
  · obtain rfl : w = 2 := nI_inj (by omega) (by decide) h
    refine ⟨⟨gD, by rw [gd]; exact kE.1.2.2⟩, fun r5 I6 h6 => ⟨h6.1, frX_trans gX (frX_2 (k := 33) h6.2 (by decide))⟩⟩
  · obtain rfl : w = 3 := nI_inj (by omega) (by decide) h
    exact ⟨⟨gD, by rw [gd]; exact kE.1.2.2⟩, fun r5 h6 => ⟨h6, gX⟩⟩
  · have : w = 4 := by
      have : w = 0 ∨ w = 1 ∨ w = 2 ∨ w = 3 ∨ w = 4 := by omega
      rcases this with rfl | rfl | rfl | rfl | rfl
      · exact absurd rfl h.1
      · exact absurd rfl h.2.1
      · exact absurd rfl h.2.2.1
      · exact absurd rfl h.2.2.2
      · rfl
    subst this
    refine ⟨gD, fun r h => ?_⟩
    unfold post_X0_reach at h
    rw [h, l_0, i_eq (by omega) (by decide)]
    exact ⟨fun z => ⟨by rw [if_neg (by decide), if_neg (by decide), if_neg (by decide), if_neg z], gX⟩, fun z => ⟨by rw [if_neg (by decide), if_neg (by decide), if_neg (by decide), if_pos z], gX⟩⟩
theorem vc_X5_pairx (x1 x2 x3 : Int32) (I : wI) (hp : pre_X5_pairx x1 x2 x3 I) : v_X5_pairx x1 x2 x3 I (exc_X5_pair x1 x2 x3 I) := by
  obtain ⟨h0, hn⟩ := hp
  refine ⟨fun ok => ⟨ok, fun _ => ⟨fun ok2 => ⟨ok2, fun _ => ⟨fun _ => ⟨frX_refl I, Or.inr ⟨⟨ok, ok2⟩, rfl⟩⟩, fun e0 => ⟨fun e1 => absurd ⟨⟨ok, ok2⟩, isN_le (n := 4) (by decide) e0 e1⟩ hn, fun _ => ⟨frX_refl I, Or.inr ⟨⟨ok, ok2⟩, rfl⟩⟩⟩⟩⟩, fun no => ⟨no, fun E hE => ⟨frX_refl I, Or.inl ⟨fun q => no q.2, hE⟩⟩⟩⟩⟩, fun no => ⟨no, fun E hE => ⟨frX_refl I, Or.inl ⟨fun q => no q.1, hE⟩⟩⟩⟩
theorem vc_X5_count (x1 : Int32) (I : wI) (hp : pre_X5_count x1 I) : v_X5_count x1 I (post_X5_count x1 I) := by
  obtain ⟨h0, w, hw, rfl⟩ := hp
  have hD := okS_D h0.1
  have hl := rcF_lt (dsc I 2) (ntc I 2)
  have eN : ntc I 2 = aN (rowC 1 I) := (aN_rc 1 I).symm
  have eD : dsc I 2 = aD (rowC 1 I) := (aD_rc 1 I).symm
  obtain ⟨m, hm, em⟩ := h0.1.2
  unfold v_X5_count v_X5_count_117 post_X5_count aCnt
  rw [i_nt (by omega)]
  refine ⟨fun h => ?_, fun h => ?_, fun h => ?_, fun h => ?_, fun h => ?_, fun h => ?_, fun h => ?_, fun h => ?_, fun h => ?_, fun h => ?_, fun h => ?_⟩
  · obtain rfl : w = 0 := nI_inj (by omega) (by decide) h
    rfl
  · obtain rfl : w = 1 := nI_inj (by omega) (by decide) h
    refine ⟨hD, fun r h => ?_⟩
    have hs : sm (ntc I 2) 6 ≤ 6 * 4 := sm_le (fun p hp => Nat.le_of_lt_succ (hD p hp).2.2)
    unfold post_X0_notchSum at h
    rw [h, l_5, i_rem (by omega) (by decide) (by decide), eN]; rfl
  · obtain rfl : w = 2 := nI_inj (by omega) (by decide) h
    rfl
  · obtain rfl : w = 3 := nI_inj (by omega) (by decide) h
    refine ⟨hD, fun r h => ⟨⟨_, hl, h⟩, fun r4 h4 => ?_⟩⟩
    unfold post_X0_reach at h; unfold post_J_bitCount at h4
    have := pc6_le (rcF (dsc I 2) (ntc I 2))
    rw [h, i_nt (by omega)] at h4
    rw [h4, l_6, i_sub this, eN, eD]; rfl
  · obtain rfl : w = 4 := nI_inj (by omega) (by decide) h
    refine ⟨trivial, fun r h => ?_⟩
    unfold post_X3_opens at h
    rw [if_neg (by decide), if_neg (by decide), if_neg (by decide), if_neg (by decide), if_pos rfl]
    refine ⟨fun z => ?_, fun z => ?_⟩
    · rw [if_neg]; intro q
      have q : aRt (rowC 1 I) = 6 := q
      rw [if_pos q] at h; rw [h] at z; exact absurd z (by decide)
    · rw [if_pos]
      show aRt (rowC 1 I) = 6
      apply Decidable.byContradiction; intro q
      rw [if_neg q] at h; exact z h
  · obtain rfl : w = 5 := nI_inj (by omega) (by decide) h
    refine ⟨trivial, fun r h => ?_⟩
    rw [h]
    exact congrArg nI aRt_rc
  · obtain rfl : w = 6 := nI_inj (by omega) (by decide) h
    refine ⟨⟨m, hm, em⟩, fun r h => ?_⟩
    unfold post_J_bitCount at h
    rw [h]
    refine congrArg nI (sm_cong (fun p hp => ?_))
    have := tb_lt (nt (I 1 4)) p
    show _ = nt (rowC 1 I (12 + p))
    rw [rc_s hp, i_nt (by omega)]
  · obtain rfl : w = 7 := nI_inj (by omega) (by decide) h
    exact ⟨h0.1, fun r h => h⟩
  · obtain rfl : w = 8 := nI_inj (by omega) (by decide) h
    rfl
  · obtain rfl : w = 9 := nI_inj (by omega) (by decide) h
    rfl
  · have : w = 0 ∨ w = 1 ∨ w = 2 ∨ w = 3 ∨ w = 4 ∨ w = 5 ∨ w = 6 ∨ w = 7 ∨ w = 8 ∨ w = 9 := by omega
    rcases this with rfl | rfl | rfl | rfl | rfl | rfl | rfl | rfl | rfl | rfl
    · exact h.1 rfl
    · exact h.2.1 rfl
    · exact h.2.2.1 rfl
    · exact h.2.2.2.1 rfl
    · exact h.2.2.2.2.1 rfl
    · exact h.2.2.2.2.2.1 rfl
    · exact h.2.2.2.2.2.2.1 rfl
    · exact h.2.2.2.2.2.2.2.1 rfl
    · exact h.2.2.2.2.2.2.2.2.1 rfl
    · exact h.2.2.2.2.2.2.2.2.2 rfl
theorem vc_X5_countx (x1 : Int32) (I : wI) (hp : pre_X5_countx x1 I) : v_X5_countx x1 I (exc_X5_count x1 I) := by
  obtain ⟨h0, hn⟩ := hp
  refine ⟨?_, ?_, ?_, ?_, ?_, ?_, ?_, ?_, ?_, ?_, fun _ => rfl⟩ <;> rintro rfl
  · exact hn ⟨0, by decide, rfl⟩
  · exact absurd ⟨1, by decide, rfl⟩ hn
  · exact hn ⟨2, by decide, rfl⟩
  · exact absurd ⟨3, by decide, rfl⟩ hn
  · exact absurd ⟨4, by decide, rfl⟩ hn
  · exact absurd ⟨5, by decide, rfl⟩ hn
  · exact absurd ⟨6, by decide, rfl⟩ hn
  · exact absurd ⟨7, by decide, rfl⟩ hn
  · exact hn ⟨8, by decide, rfl⟩
  · exact hn ⟨9, by decide, rfl⟩
